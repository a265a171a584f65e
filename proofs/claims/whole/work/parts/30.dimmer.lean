/-! dimmer, phase, of -/
def cntD (A : SA) (d : Nat) : Nat → Nat
  | 0 => 0
  | k + 1 => cntD A d k + if A 2 k = d then 1 else 0
theorem vI_eqd {x d : Nat} (hx : x ≤ 12) (hd : d < 12) : (vI 2 x = nI d) = (x = d) := by
  refine propext ⟨fun e => ?_, fun e => by rw [e, vI_2 hd]⟩
  by_cases h : x = 12
  · rw [h, vI_none, li6] at e
    exact ((nI_negE' (by omega) (by omega) (by omega)).mp e).elim
  · rw [vI_2 (by omega)] at e
    exact (nI_eqE (by omega) (by omega)).mp e
theorem lonC_L {M : Mem} {q d told : Nat} {A : SA} (hq : q < 28) (hd : d < 12) (hC : CRel M q A) (hW : WA told A) : ∀ (e k F : Nat), k + e = A 0 2 → e < F → fX6_lampsOn_L4 F M (pq q 0) (nI d) (nI (cntD A d k)) (nI k) = some (nI (cntD A d (A 0 2))) := by
  have h12 := hW.1.2.2
  intro e
  induction e with
  | zero =>
    intro k F hk hF
    obtain ⟨F, rfl⟩ : ∃ F', F = F' + 1 := ⟨F - 1, by omega⟩
    have hk0 : k = A 0 2 := by omega
    rw [fX6_lampsOn_L4, li12]
    by_cases h : 12 ≤ k
    · rw [if_pos ((nI_leE (by omega) (by omega)).mpr h), hk0]
    · rw [if_neg (fun z => h ((nI_leE (by omega) (by omega)).mp z)), hasLamp_ok hq (cr0 hC (by omega)) h12, ob_some, b01, if_neg (fun z => by have := (nI_ltE (by omega) (by omega)).mp z.2; omega), hk0]
  | succ e ih =>
    intro k F hk hF
    obtain ⟨F, rfl⟩ : ∃ F', F = F' + 1 := ⟨F - 1, by omega⟩
    rw [fX6_lampsOn_L4, li12, if_neg (fun z => by have := (nI_leE (by omega) (by omega)).mp z; omega), hasLamp_ok hq (cr0 hC (by omega)) h12, ob_some, b01, if_pos (lamp_y (by omega) h12)]
    refine ob_in (gR_ok (x := pq q 2) (sp0 hq (by omega) rfl) (rf_pq0 (by omega))) ?_
    refine ob_in (aL_ok (n := 12) (sp0 hq (by omega) rfl) (lp0 hq (by omega) rfl) (by omega) (by omega)) ?_
    rw [cr2 hC (by omega)]
    have := ih (k + 1) F (by omega) (by omega)
    have e2 : cntD A d (k + 1) = cntD A d k + if A 2 k = d then 1 else 0 := rfl
    rw [e2] at this
    by_cases h : A 2 k = d
    · rw [if_pos ((vI_eqd (hW.2.2.1 k (by omega)) hd).mpr h), li1, nI_addE, nI_addE]
      rw [if_pos h] at this
      exact this
    · rw [if_neg (fun z => h ((vI_eqd (hW.2.2.1 k (by omega)) hd).mp z)), li1, nI_addE]
      rw [if_neg h] at this
      exact this
theorem lonC_ok {M : Mem} {q d told : Nat} {A : SA} (hq : q < 28) (hd : d < 12) (hC : CRel M q A) (hW : WA told A) : fX6_lampsOn M (pq q 0) (nI d) = some (nI (cntD A d (A 0 2))) := by
  have h12 := hW.1.2.2
  unfold fX6_lampsOn
  rw [ifsp (o := 0) (t := 6) hq (by omega) rfl]
  exact ob_in (lonC_L hq hd hC hW (A 0 2) 0 5000 (by omega) (by omega)) rfl
theorem lonR_L {N : Mem} {p d told : Nat} {A : SA} (hp : p < 3) (hd : d < 12) (hP : RP (N 1) p A) (hW : WA told A) : ∀ (e k F : Nat), k + e = A 0 2 → e < F → fX12_lampsOn_L5 F N (nI p) (nI d) (nI (cntD A d k)) (nI k) = some (nI (cntD A d (A 0 2))) := by
  have h12 := hW.1.2.2
  intro e
  induction e with
  | zero =>
    intro k F hk hF
    obtain ⟨F, rfl⟩ : ∃ F', F = F' + 1 := ⟨F - 1, by omega⟩
    rw [fX12_lampsOn_L5, at1_2, ob_some, s30 (AX_lt hp (by omega)), ob_some, ra0 hP (by omega), if_pos ((nI_leE (by omega) (by omega)).mpr (by omega)), show k = A 0 2 by omega]
  | succ e ih =>
    intro k F hk hF
    obtain ⟨F, rfl⟩ : ∃ F', F = F' + 1 := ⟨F - 1, by omega⟩
    rw [fX12_lampsOn_L5, at1_2, ob_some, s30 (AX_lt hp (by omega)), ob_some, ra0 hP (by omega), if_neg (fun z => by have := (nI_leE (by omega) (by omega)).mp z; omega), ol1, ob_some, s30 (LX_lt hp (by omega) (by omega)), ob_some, rl1 hP (by omega)]
    have := ih (k + 1) F (by omega) (by omega)
    have e2 : cntD A d (k + 1) = cntD A d k + if A 2 k = d then 1 else 0 := rfl
    rw [e2] at this
    by_cases h : A 2 k = d
    · rw [if_pos ((vI_eqd (hW.2.2.1 k (by omega)) hd).mpr h), lt1_eq, li1, nI_addE, nI_addE]
      rw [if_pos h] at this
      exact this
    · rw [if_neg (fun z => h ((vI_eqd (hW.2.2.1 k (by omega)) hd).mp z)), lt1_eq, Int32.add_zero, li1, nI_addE]
      rw [if_neg h] at this
      exact this
theorem lonR_ok {N : Mem} {p d told : Nat} {A : SA} (hp : p < 3) (hd : d < 12) (hP : RP (N 1) p A) (hW : WA told A) : fX12_lampsOn N (nI p) (nI d) = some (nI (cntD A d (A 0 2))) := by
  have h12 := hW.1.2.2
  unfold fX12_lampsOn
  exact ob_in (lonR_L hp hd hP hW (A 0 2) 0 5000 (by omega) (by omega)) rfl
def dOn (A : SA) (k : Nat) : Nat → Nat
  | 0 => 0
  | d + 1 => dOn A k d + if A 5 d = k then 2 ^ d else 0
theorem dOn_lt (A : SA) (k : Nat) : ∀ d, dOn A k d < 2 ^ d := by
  intro d
  induction d with
  | zero => exact Nat.one_pos
  | succ d ih =>
    show dOn A k d + (if A 5 d = k then 2 ^ d else 0) < 2 ^ (d + 1)
    rw [Nat.pow_succ]
    split <;> omega
theorem donC_L {M : Mem} {q k told : Nat} {A : SA} (hq : q < 28) (hk : k < 3) (hC : CRel M q A) (hW : WA told A) : ∀ (e d F : Nat), d + e = 12 → e < F → fX6_dimmersOn_L4 F M (pq q 0) (nI k) (nI (dOn A k d)) (nI d) = some (nI (dOn A k 12)) := by
  intro e
  induction e with
  | zero =>
    intro d F hd hF
    obtain ⟨F, rfl⟩ : ∃ F', F = F' + 1 := ⟨F - 1, by omega⟩
    rw [fX6_dimmersOn_L4, li12, if_pos ((nI_leE (by omega) (by omega)).mpr (by omega)), show d = 12 by omega]
  | succ e ih =>
    intro d F hd hF
    obtain ⟨F, rfl⟩ : ∃ F', F = F' + 1 := ⟨F - 1, by omega⟩
    rw [fX6_dimmersOn_L4, li12, if_neg (fun z => by have := (nI_leE (by omega) (by omega)).mp z; omega)]
    refine ob_in (gR_ok (x := pq q 5) (sp0 hq (by omega) rfl) (rf_pq0 (by omega))) ?_
    refine ob_in (aL_ok (n := 12) (sp0 hq (by omega) rfl) (lp0 hq (by omega) rfl) (by omega) (by omega)) ?_
    rw [cr5 hC (by omega)]
    have h5 := hW.2.2.2.2.2.1 d (by omega)
    have := ih (d + 1) F (by omega) (by omega)
    have e2 : dOn A k (d + 1) = dOn A k d + if A 5 d = k then 2 ^ d else 0 := rfl
    rw [e2] at this
    by_cases h : A 5 d = k
    · rw [if_pos ((nI_eqE (by omega) (by omega)).mpr h), lt1_eq, or_bit (by omega) (dOn_lt A k d), li1, nI_addE]
      rw [if_pos h] at this
      exact this
    · rw [if_neg (fun z => h ((nI_eqE (by omega) (by omega)).mp z)), li1, nI_addE]
      rw [if_neg h] at this
      exact this
theorem donR_L {N : Mem} {p k told : Nat} {A : SA} (hp : p < 3) (hk : k < 3) (hP : RP (N 1) p A) (hW : WA told A) : ∀ (e d F : Nat), d + e = 12 → e < F → fX12_dimmersOf_L5 F N (nI p) (nI k) (nI (dOn A k d)) (nI d) = some (nI (dOn A k 12)) := by
  intro e
  induction e with
  | zero =>
    intro d F hd hF
    obtain ⟨F, rfl⟩ : ∃ F', F = F' + 1 := ⟨F - 1, by omega⟩
    rw [fX12_dimmersOf_L5, li12, if_pos ((nI_leE (by omega) (by omega)).mpr (by omega)), show d = 12 by omega]
  | succ e ih =>
    intro d F hd hF
    obtain ⟨F, rfl⟩ : ∃ F', F = F' + 1 := ⟨F - 1, by omega⟩
    rw [fX12_dimmersOf_L5, li12, if_neg (fun z => by have := (nI_leE (by omega) (by omega)).mp z; omega), li75, nI_addE, at1_ok, ob_some, s30 (AX_lt hp (by omega)), ob_some, ra75 hP (by omega)]
    have h5 := hW.2.2.2.2.2.1 d (by omega)
    have := ih (d + 1) F (by omega) (by omega)
    have e2 : dOn A k (d + 1) = dOn A k d + if A 5 d = k then 2 ^ d else 0 := rfl
    rw [e2] at this
    by_cases h : A 5 d = k
    · rw [if_pos ((nI_eqE (by omega) (by omega)).mpr h), lt1_eq, or_bit (by omega) (dOn_lt A k d), li1, nI_addE]
      rw [if_pos h] at this
      exact this
    · rw [if_neg (fun z => h ((nI_eqE (by omega) (by omega)).mp z)), lt1_eq, Int32.or_zero, li1, nI_addE]
      rw [if_neg h] at this
      exact this
theorem donC_ok {M : Mem} {q k told : Nat} {A : SA} (hq : q < 28) (hk : k < 3) (hC : CRel M q A) (hW : WA told A) : fX6_dimmersOn M (pq q 0) (nI k) = some (nI (dOn A k 12)) := by
  unfold fX6_dimmersOn
  rw [ifsp (o := 0) (t := 6) hq (by omega) rfl]
  exact ob_in (donC_L hq hk hC hW 12 0 5000 (by omega) (by omega)) rfl
theorem donR_ok {N : Mem} {p k told : Nat} {A : SA} (hp : p < 3) (hk : k < 3) (hP : RP (N 1) p A) (hW : WA told A) : fX12_dimmersOf N (nI p) (nI k) = some (nI (dOn A k 12)) := by
  unfold fX12_dimmersOf
  exact ob_in (donR_L hp hk hP hW 12 0 5000 (by omega) (by omega)) rfl
theorem op_dimmer {M N : Mem} (h : Rel M N) (a1 a2 a3 : Int32) : OKm (fX11_dimmer M a1 a2 a3) (fX12_dimmer N a1 a2 a3) N := by
  obtain ⟨⟨T, A, hL⟩, n, hR⟩ := id h
  have hWT := hL.2.2.1
  rcases ic a1 2 2 rfl (by omega) with ⟨p, hp, rfl, hpy⟩ | h1
  · have hC := cr_live hL (p := p) (by omega)
    have hW := wa_live hL (p := p) (by omega)
    have hP := rp_live hL (p := p) (by omega)
    rcases ic a2 11 11 rfl (by omega) with ⟨d, hd, rfl, hdy⟩ | h2
    · obtain ⟨M1, e1, e2, e3⟩ := mNow_ok (L := 23) (d := 24) (g := 25) (Or.inl ⟨rfl, rfl, rfl⟩) (show p < 28 by omega) hWT hW hC (ct_live hL)
      obtain ⟨M2, f1, f2, f3, f4⟩ := worstC_ok (show p < 28 by omega) hWT hW hC (ct_live hL)
      have eC : fX11_dimmer M (nI p) (nI d) a3 = (if a3 = 0 then some (nI (A p 5 d), M) else if a3 = 1 then some (nI (sU (A p) (ldL T (A p)) (A p 0 2) d), M1) else if a3 = 2 then some (nI (A p 19 1 / 2 ^ d % 2), M) else if a3 = 3 then some (nI (A p 20 d), M) else if a3 = 4 then some (nI (cntD (A p) d (A p 0 2)), M) else if a3 = 5 then some (nI (wst T (A p) 8 d), M2) else some (-2, M)) := by
        unfold fX11_dimmer
        rw [find_ok (by omega), ob_some, caseO_some, isDimmer_ok, ob_some, b01, if_pos hdy, e1, ob_some, f1, ob_some, lonC_ok (by omega) (by omega) hC hW, ob_some]
        have g0 : ((gR 6 7 (pq p 0)).bind fun x => (aL 20 M x (nI d)).bind fun v => some (v, M)) = some (nI (A p 5 d), M) := by
          refine ob_in (gR_ok (x := pq p 5) (sp0 (by omega) (by omega) rfl) (rf_pq0 (by omega))) ?_
          refine ob_in (aL_ok (n := 12) (sp0 (by omega) (by omega) rfl) (lp0 (by omega) (by omega) rfl) (by omega) (by omega)) ?_
          rw [cr5 hC (by omega)]
        have g1 : ((aL 20 M1 24 (nI d)).bind fun v => some (v, M1)) = some (nI (sU (A p) (ldL T (A p)) (A p 0 2) d), M1) := by
          refine ob_in (aL_ok (n := 12) rfl rfl (by omega) (by omega)) ?_
          rw [e3.1 d (by omega)]
        have g2 : ((gR 6 11 (pq p 0)).bind fun x => (fX0_hasTripped M x (nI d)).bind fun v => if v = 0 then some (0, M) else some (1, M)) = some (nI (A p 19 1 / 2 ^ d % 2), M) := by
          refine ob_in (gR_ok (x := pq p 19) (sp0 (by omega) (by omega) rfl) (rf_pq0 (by omega))) ?_
          rw [trD_ok (by omega) hC hW.2.2.2.2.2.2.2.1 (by omega), ob_some]
          rcases (show A p 19 1 / 2 ^ d % 2 = 0 ∨ A p 19 1 / 2 ^ d % 2 = 1 by omega) with z | z
          · rw [if_pos (show nI (A p 19 1 / 2 ^ d % 2) = 0 by rw [z]; rfl), z]
            rfl
          · rw [if_neg (show ¬ nI (A p 19 1 / 2 ^ d % 2) = 0 by rw [z]; decide), z]
            rfl
        have g3 : ((gR 6 11 (pq p 0)).bind fun x => (gR 0 0 x).bind fun x2 => (aL 20 M x2 (nI d)).bind fun v => some (v, M)) = some (nI (A p 20 d), M) := by
          refine ob_in (gR_ok (x := pq p 19) (sp0 (by omega) (by omega) rfl) (rf_pq0 (by omega))) ?_
          refine ob_in (gR_ok (x := pq p 20) (sp0 (by omega) (by omega) rfl) rf_pq19) ?_
          refine ob_in (aL_ok (n := 12) (sp0 (by omega) (by omega) rfl) (lp0 (by omega) (by omega) rfl) (by omega) (by omega)) ?_
          rw [cr20 hC (by omega)]
        have g5 : ((aL 20 M2 28 (nI d)).bind fun v => some (v, M2)) = some (nI (wst T (A p) 8 d), M2) := by
          refine ob_in (aL_ok (n := 12) rfl rfl (by omega) (by omega)) ?_
          rw [f3 d (by omega)]
        rw [g0, g1, g2, g3, g5]
      have eR : fX12_dimmer N (nI p) (nI d) a3 = (if a3 = 0 then some (nI (A p 5 d)) else if a3 = 1 then some (nI (sU (A p) (ldL T (A p)) (A p 0 2) d)) else if a3 = 2 then some (nI (A p 19 1 / 2 ^ d % 2)) else if a3 = 3 then some (nI (A p 20 d)) else if a3 = 4 then some (nI (cntD (A p) d (A p 0 2))) else if a3 = 5 then some (nI (wst T (A p) 8 d)) else some (-2)) := by
        unfold fX12_dimmer
        rw [isPrem_ok, ob_some, b01, if_pos hpy, isDimR_ok, ob_some, b01, if_pos hdy, load_ok (by omega) (by omega) (rt_live hL) hP hWT hW, ob_some, worstR_ok (by omega) (by omega) (rt_live hL) hP hWT hW, ob_some, lonR_ok (by omega) (by omega) hP hW, ob_some, li75, li87, li102, nI_addE, nI_addE, nI_addE, at1_ok, at1_ok, at1_ok, ob_some, ob_some, ob_some, s30 (AX_lt (by omega) (by omega)), s30 (AX_lt (by omega) (by omega)), s30 (AX_lt (by omega) (by omega)), ob_some, ob_some, ob_some, ra75 hP (by omega), ra87 hP (by omega), ra102 hP (by omega)]
      rw [eC, eR]
      by_cases z0 : a3 = 0
      · rw [if_pos z0, if_pos z0]
        exact ⟨_, _, rfl, rfl, h⟩
      · rw [if_neg z0, if_neg z0]
        by_cases z1 : a3 = 1
        · rw [if_pos z1, if_pos z1]
          exact ⟨_, _, rfl, rfl, Rel_L h e2 (by omega) (by omega)⟩
        · rw [if_neg z1, if_neg z1]
          by_cases z2 : a3 = 2
          · rw [if_pos z2, if_pos z2]
            exact ⟨_, _, rfl, rfl, h⟩
          · rw [if_neg z2, if_neg z2]
            by_cases z3 : a3 = 3
            · rw [if_pos z3, if_pos z3]
              exact ⟨_, _, rfl, rfl, h⟩
            · rw [if_neg z3, if_neg z3]
              by_cases z4 : a3 = 4
              · rw [if_pos z4, if_pos z4]
                exact ⟨_, _, rfl, rfl, h⟩
              · rw [if_neg z4, if_neg z4]
                by_cases z5 : a3 = 5
                · rw [if_pos z5, if_pos z5]
                  exact ⟨_, _, rfl, rfl, Rel_W h f2⟩
                · rw [if_neg z5, if_neg z5]
                  exact ⟨_, _, rfl, rfl, h⟩
    · refine ⟨-1, M, ?_, ?_, h⟩
      · unfold fX11_dimmer
        rw [find_ok (by omega), ob_some, caseO_some, isDimmer_ok, ob_some, b01, if_neg h2]
      · unfold fX12_dimmer
        rw [isPrem_ok, ob_some, b01, if_pos hpy, isDimR_ok, ob_some, b01, if_neg h2]
  · refine ⟨-1, M, ?_, ?_, h⟩
    · unfold fX11_dimmer
      rw [find_bad h1, ob_some, caseO_none]
    · unfold fX12_dimmer
      rw [isPrem_ok, ob_some, b01, if_neg h1]
theorem op_phase {M N : Mem} (h : Rel M N) (a1 a2 a3 : Int32) : OKm (fX11_phase M a1 a2 a3) (fX12_phase N a1 a2 a3) N := by
  obtain ⟨⟨T, A, hL⟩, n, hR⟩ := id h
  have hWT := hL.2.2.1
  rcases ic a1 2 2 rfl (by omega) with ⟨p, hp, rfl, hpy⟩ | h1
  · have hC := cr_live hL (p := p) (by omega)
    have hW := wa_live hL (p := p) (by omega)
    have hP := rp_live hL (p := p) (by omega)
    rcases ic a2 2 2 rfl (by omega) with ⟨d, hd, rfl, hdy⟩ | h2
    · obtain ⟨M1, e1, e2, e3⟩ := mNow_ok (L := 23) (d := 24) (g := 25) (Or.inl ⟨rfl, rfl, rfl⟩) (show p < 28 by omega) hWT hW hC (ct_live hL)
      obtain ⟨M2, f1, f2, f3, f4⟩ := worstC_ok (show p < 28 by omega) hWT hW hC (ct_live hL)
      have eC : fX11_phase M (nI p) (nI d) a3 = (if a3 = 0 then some (nI (sU (A p) (ldL T (A p)) (A p 0 2) (12 + d)), M1) else if a3 = 1 then some (nI (A p 21 1 / 2 ^ d % 2), M) else if a3 = 2 then some (nI (A p 22 d), M) else if a3 = 3 then some (nI (dOn (A p) d 12), M) else if a3 = 4 then some (nI (wst T (A p) 8 (12 + d)), M2) else some (-2, M)) := by
        unfold fX11_phase
        rw [find_ok (by omega), ob_some, caseO_some, isPhase_ok, ob_some, b01, if_pos hdy, e1, ob_some, f1, ob_some, donC_ok (by omega) (by omega) hC hW, ob_some]
        have g1 : ((aL 20 M1 25 (nI d)).bind fun v => some (v, M1)) = some (nI (sU (A p) (ldL T (A p)) (A p 0 2) (12 + d)), M1) := by
          refine ob_in (aL_ok (n := 3) rfl rfl (by omega) (by omega)) ?_
          rw [e3.2 d (by omega)]
        have g2 : ((gR 6 12 (pq p 0)).bind fun x => (fX0_hasTripped M x (nI d)).bind fun v => if v = 0 then some (0, M) else some (1, M)) = some (nI (A p 21 1 / 2 ^ d % 2), M) := by
          refine ob_in (gR_ok (x := pq p 21) (sp0 (by omega) (by omega) rfl) (rf_pq0 (by omega))) ?_
          rw [trP_ok (by omega) hC hW.2.2.2.2.2.2.2.2.1 (by omega), ob_some]
          rcases (show A p 21 1 / 2 ^ d % 2 = 0 ∨ A p 21 1 / 2 ^ d % 2 = 1 by omega) with z | z
          · rw [if_pos (show nI (A p 21 1 / 2 ^ d % 2) = 0 by rw [z]; rfl), z]
            rfl
          · rw [if_neg (show ¬ nI (A p 21 1 / 2 ^ d % 2) = 0 by rw [z]; decide), z]
            rfl
        have g3 : ((gR 6 12 (pq p 0)).bind fun x => (gR 0 0 x).bind fun x2 => (aL 20 M x2 (nI d)).bind fun v => some (v, M)) = some (nI (A p 22 d), M) := by
          refine ob_in (gR_ok (x := pq p 21) (sp0 (by omega) (by omega) rfl) (rf_pq0 (by omega))) ?_
          refine ob_in (gR_ok (x := pq p 22) (sp0 (by omega) (by omega) rfl) rf_pq21) ?_
          refine ob_in (aL_ok (n := 3) (sp0 (by omega) (by omega) rfl) (lp0 (by omega) (by omega) rfl) (by omega) (by omega)) ?_
          rw [cr22 hC (by omega)]
        have g5 : ((aL 20 M2 29 (nI d)).bind fun v => some (v, M2)) = some (nI (wst T (A p) 8 (12 + d)), M2) := by
          refine ob_in (aL_ok (n := 3) rfl rfl (by omega) (by omega)) ?_
          rw [f4 d (by omega)]
        rw [g1, g2, g3, g5]
      have eR : fX12_phase N (nI p) (nI d) a3 = (if a3 = 0 then some (nI (sU (A p) (ldL T (A p)) (A p 0 2) (12 + d))) else if a3 = 1 then some (nI (A p 21 1 / 2 ^ d % 2)) else if a3 = 2 then some (nI (A p 22 d)) else if a3 = 3 then some (nI (dOn (A p) d 12)) else if a3 = 4 then some (nI (wst T (A p) 8 (12 + d))) else some (-2)) := by
        unfold fX12_phase
        rw [isPrem_ok, ob_some, b01, if_pos hpy, in_ok, ob_some, b01, if_pos hdy, donR_ok (by omega) (by omega) hP hW, ob_some, li12, li99, li114, nI_addE, nI_addE, nI_addE, load_ok (by omega) (by omega) (rt_live hL) hP hWT hW, ob_some, worstR_ok (by omega) (by omega) (rt_live hL) hP hWT hW, ob_some, at1_ok, at1_ok, ob_some, ob_some, s30 (AX_lt (by omega) (by omega)), s30 (AX_lt (by omega) (by omega)), ob_some, ob_some, ra99 hP (by omega), ra114 hP (by omega)]
      rw [eC, eR]
      by_cases z0 : a3 = 0
      · rw [if_pos z0, if_pos z0]
        exact ⟨_, _, rfl, rfl, Rel_L h e2 (by omega) (by omega)⟩
      · rw [if_neg z0, if_neg z0]
        by_cases z1 : a3 = 1
        · rw [if_pos z1, if_pos z1]
          exact ⟨_, _, rfl, rfl, h⟩
        · rw [if_neg z1, if_neg z1]
          by_cases z2 : a3 = 2
          · rw [if_pos z2, if_pos z2]
            exact ⟨_, _, rfl, rfl, h⟩
          · rw [if_neg z2, if_neg z2]
            by_cases z3 : a3 = 3
            · rw [if_pos z3, if_pos z3]
              exact ⟨_, _, rfl, rfl, h⟩
            · rw [if_neg z3, if_neg z3]
              by_cases z4 : a3 = 4
              · rw [if_pos z4, if_pos z4]
                exact ⟨_, _, rfl, rfl, Rel_W h f2⟩
              · rw [if_neg z4, if_neg z4]
                exact ⟨_, _, rfl, rfl, h⟩
    · refine ⟨-1, M, ?_, ?_, h⟩
      · unfold fX11_phase
        rw [find_ok (by omega), ob_some, caseO_some, isPhase_ok, ob_some, b01, if_neg h2]
      · unfold fX12_phase
        rw [isPrem_ok, ob_some, b01, if_pos hpy, in_ok, ob_some, b01, if_neg h2]
  · refine ⟨-1, M, ?_, ?_, h⟩
    · unfold fX11_phase
      rw [find_bad h1, ob_some, caseO_none]
    · unfold fX12_phase
      rw [isPrem_ok, ob_some, b01, if_neg h1]
theorem trp_st {m k : Nat} (hm : m < 4096) (hk : k < 12) : (nI (m % 2 ^ k) ||| (nI (m / 2 ^ k % 2) <<< (nI k &&& 31))) = nI (m % 2 ^ (k + 1)) := by
  rw [Nat.mod_pow_succ]
  have h2 := Nat.two_pow_pos k
  rcases (show m / 2 ^ k % 2 = 0 ∨ m / 2 ^ k % 2 = 1 by omega) with z | z
  · rw [z, Nat.mul_zero, Nat.add_zero]
    have e : (nI 0 <<< (nI k &&& 31)) = 0 := by
      show ((0 : Int32) <<< (nI k &&& 31)) = 0
      have : ∀ k, k < 12 → ((0 : Int32) <<< (nI k &&& 31)) = 0 := by decide +kernel
      exact this k hk
    rw [e, Int32.or_zero]
  · rw [z, Nat.mul_one]
    exact or_bit hk (Nat.mod_lt _ h2)
theorem trp_L {N : Mem} {p b c m : Nat} (hp : p < 3) (hm : m < 4096) (hc : c ≤ 12) (hb : 87 + b + c ≤ 102) (hN : ∀ j, j < c → N 1 (AX p (87 + b + j)) = nI (m / 2 ^ j % 2)) : ∀ (e k F : Nat), k + e = c → e < F → fX12_tripped_L6 F N (nI p) (nI b) (nI c) (nI (m % 2 ^ k)) (nI k) = some (nI (m % 2 ^ c)) := by
  intro e
  induction e with
  | zero =>
    intro k F hk hF
    obtain ⟨F, rfl⟩ : ∃ F', F = F' + 1 := ⟨F - 1, by omega⟩
    rw [fX12_tripped_L6, if_pos ((nI_leE (by omega) (by omega)).mpr (by omega)), show k = c by omega]
  | succ e ih =>
    intro k F hk hF
    obtain ⟨F, rfl⟩ : ∃ F', F = F' + 1 := ⟨F - 1, by omega⟩
    rw [fX12_tripped_L6, if_neg (fun z => by have := (nI_leE (by omega) (by omega)).mp z; omega), li87, nI_addE, nI_addE, at1_ok, ob_some, s30 (AX_lt hp (by omega)), ob_some, hN k (by omega), lt1_eq, trp_st hm (by omega), li1, nI_addE]
    exact ih (k + 1) F (by omega) (by omega)
theorem recR_L {N : Mem} {p told : Nat} {A : SA} (hp : p < 3) (hP : RP (N 1) p A) (hW : WA told A) : ∀ (e k F : Nat), k + e = 8 → e < F → fX12_recorded_L4 F N (nI p) (nI (rcm A k)) (nI k) = some (nI (rcm A 8)) := by
  intro e
  induction e with
  | zero =>
    intro k F hk hF
    obtain ⟨F, rfl⟩ : ∃ F', F = F' + 1 := ⟨F - 1, by omega⟩
    rw [fX12_recorded_L4, li8, if_pos ((nI_leE (by omega) (by omega)).mpr (by omega)), show k = 8 by omega]
  | succ e ih =>
    intro k F hk hF
    obtain ⟨F, rfl⟩ : ∃ F', F = F' + 1 := ⟨F - 1, by omega⟩
    have h50 := (hW.2.2.2.2.2.2.1 k (by omega)).1
    have := ih (k + 1) F (by omega) (by omega)
    have e2 : rcm A (k + 1) = rcm A k + if A 6 k = 0 then 0 else 2 ^ k := rfl
    rw [e2] at this
    rw [fX12_recorded_L4, li8, if_neg (fun z => by have := (nI_leE (by omega) (by omega)).mp z; omega), ofCue_ok, ob_some, s30 (by have := CX_lt (p := p) (c := k) (i := 0) (by omega) (by omega) (by omega); omega), ob_some, rcT hP (by omega)]
    by_cases h0 : A 6 k = 0
    · rw [h0, if_pos (show nI 0 ≤ (0 : Int32) by decide), lt1_eq, Int32.or_zero, li1, nI_addE]
      rw [if_pos h0] at this
      exact this
    · rw [if_neg (show ¬ nI (A 6 k) ≤ 0 from fun z => by rw [li0] at z; have := (nI_leE (by omega) (by omega)).mp z; omega), lt1_eq, or_bit (by omega) (rcm_lt A k), li1, nI_addE]
      rw [if_neg h0] at this
      exact this
theorem mnx_nI {a b : Nat} (ha : a < 2 ^ 31) (hb : b < 2 ^ 31) : mnx (nI a) (nI b) = nI (min a b) := by
  unfold mnx
  by_cases h : b < a
  · rw [if_pos (nI_lt h ha), Nat.min_eq_right (by omega)]
  · rw [if_neg (fun z => h ((nI_ltE hb ha).mp z)), Nat.min_eq_left (by omega)]
theorem apart_ok {N : Mem} {p : Nat} {T A : SA} (hp : p < 3) (hT : RT (N 1) T) (hP : RP (N 1) p A) (hWT : WT T) (hW : WA (T 2 0) A) : fX12_apart N (nI p) = some (nI (max (max (sU A (ldL T A) (A 0 2) 12) (sU A (ldL T A) (A 0 2) 13)) (sU A (ldL T A) (A 0 2) 14)) - nI (min (min (sU A (ldL T A) (A 0 2) 12) (sU A (ldL T A) (A 0 2) 13)) (sU A (ldL T A) (A 0 2) 14))) := by
  have b : ∀ u, sU A (ldL T A) (A 0 2) u < 2 ^ 31 := fun u => by have := sN_le (u := u) hWT hW; omega
  have st : ∀ (F x y k : Nat), k < 3 → x < 2 ^ 31 → y < 2 ^ 31 → fX12_apart_L13 (F + 1) N (nI p) (nI x) (nI y) (nI k) = fX12_apart_L13 F N (nI p) (nI (min x (sU A (ldL T A) (A 0 2) (12 + k)))) (nI (max y (sU A (ldL T A) (A 0 2) (12 + k)))) (nI (k + 1)) := fun F x y k hk hx hy => by
    have hb := b (12 + k)
    rw [fX12_apart_L13, li3, if_neg (fun z => by have := (nI_leE (by omega) (by omega)).mp z; omega), li12, nI_addE, load_ok hp (by omega) hT hP hWT hW, ob_some, li1, nI_addE]
    refine ob_in (v := nI (min x (sU A (ldL T A) (A 0 2) (12 + k)))) ?_ ?_
    · by_cases h : x ≤ sU A (ldL T A) (A 0 2) (12 + k)
      · rw [if_pos ((nI_leE hx hb).mpr h), Nat.min_eq_left h]
      · rw [if_neg (fun z => h ((nI_leE hx hb).mp z)), Nat.min_eq_right (by omega)]
    · by_cases h : sU A (ldL T A) (A 0 2) (12 + k) ≤ y
      · rw [if_pos ((nI_leE hb hy).mpr h), Nat.max_eq_left h]
      · rw [if_neg (fun z => h ((nI_leE hb hy).mp z)), Nat.max_eq_right (by omega)]
  have b12 := b 12
  have b13 := b 13
  have b14 := b 14
  unfold fX12_apart
  rw [show (12 : Int32) = nI 12 from rfl, load_ok hp (by omega) hT hP hWT hW, ob_some]
  refine ob2_in (a := nI (min (min (sU A (ldL T A) (A 0 2) 12) (sU A (ldL T A) (A 0 2) 13)) (sU A (ldL T A) (A 0 2) 14))) (b := nI (max (max (sU A (ldL T A) (A 0 2) 12) (sU A (ldL T A) (A 0 2) 13)) (sU A (ldL T A) (A 0 2) 14))) ?_ rfl
  rw [li1, st 4999 _ _ 1 (by omega) b12 b12, st 4998 _ _ 2 (by omega) (by have := b (12 + 1); omega) (by have := b (12 + 1); omega), fX12_apart_L13, li3, if_pos (Int32.le_refl _)]
