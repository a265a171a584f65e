/-! a cue's start -/
def staA (A : SA) (c t : Nat) : SA := upR (upR (upA (upA A 16 0 t) 16 1 0) 17 0 12 (A 4)) 18 0 12 (A (8 + c))
theorem staA_o {A : SA} {c t o j : Nat} (h : o ≠ 16) (h1 : ¬ (o = 17 ∧ j < 12)) (h2 : ¬ (o = 18 ∧ j < 12)) : staA A c t o j = A o j := by
  unfold staA upR upA
  rw [if_neg (by omega), if_neg (by omega), if_neg (by omega), if_neg (by omega)]
theorem staA_0 {A : SA} {c t : Nat} : staA A c t 16 0 = t := by
  unfold staA upR upA
  rw [if_neg (by omega), if_neg (by omega), if_neg (by omega), if_pos ⟨rfl, rfl⟩]
theorem staA_1 {A : SA} {c t : Nat} : staA A c t 16 1 = 0 := by
  unfold staA upR upA
  rw [if_neg (by omega), if_neg (by omega), if_pos ⟨rfl, rfl⟩]
theorem staA_17 {A : SA} {c t j : Nat} (hj : j < 12) : staA A c t 17 j = A 4 j := by
  unfold staA upR
  rw [if_neg (by omega), if_pos ⟨rfl, by omega, hj⟩]
theorem staA_18 {A : SA} {c t j : Nat} (hj : j < 12) : staA A c t 18 j = A (8 + c) j := by
  unfold staA upR
  rw [if_pos ⟨rfl, by omega, hj⟩]
theorem startCue_ok {M : Mem} {q c t : Nat} {A : SA} (hq : q < 28) (hC : CRel M q A) (hc : c < 8) : ∃ M', fX6_startCue M (pq q 0) (nI c) (nI t) = some M' ∧ CRel M' q (staA A c t) ∧ FrC M M' q := by
  obtain ⟨M1, hM1⟩ : ∃ M1, M1 = up2 (up2 M (pq q 16) 0 (nI t)) (pq q 16) 1 0 := ⟨_, rfl⟩
  have r1 : ∀ o, o ≠ 16 → o < 23 → M1 (pq q o) = M (pq q o) := fun o ho ho' => by
    rw [hM1, up2_ne, up2_ne] <;> (unfold pq; omega)
  have hC1 : CRel M1 q (upA (upA A 16 0 t) 16 1 0) := by rw [hM1]; exact CRel_up (CRel_up hC (by omega) (vI_n (by omega)).symm) (by omega) rfl
  have f1 : FrC M M1 q := by rw [hM1]; exact FrC.tr (FrC.up (by omega)) (FrC.up (by omega))
  refine ⟨setR (setR M1 (pq q 17) 0 12 (M (pq q 4))) (pq q 18) 0 12 (M (pq q (8 + c))), ?_, CRel_setR (CRel_setR hC1 (by omega) (fun j _ hj _ => by rw [cr4 hC hj, vI_n (by omega)])) (by omega) (fun j _ hj _ => by rw [cr8 hC hc hj, vI_n (by omega)]), FrC.tr f1 (FrC.tr (FrC.set (by omega)) (FrC.set (by omega)))⟩
  unfold fX6_startCue
  rw [ifsp (o := 0) (t := 6) hq (by omega) rfl, isCue_ok, ob_some, b01, if_pos (show (0 : Int32) ≤ nI c ∧ nI c ≤ 7 from isIn_y (k := 7) (by omega) (by omega))]
  refine ob_in (gR_ok (x := pq q 16) (sp0 hq (by omega) rfl) (rf_pq0 (by omega))) ?_
  refine ob_in (gR_ok (x := pq q 4) (sp0 hq (by omega) rfl) (rf_pq0 (by omega))) ?_
  refine ob_in (gR_ok (x := pq q 7) (sp0 hq (by omega) rfl) (rf_pq0 (by omega))) ?_
  refine ob_in (aR_ok (n := 8) (sp0 hq (by omega) rfl) (lp0 hq (by omega) rfl) hc (by omega) rf_pq7) ?_
  refine ob_in (v := setR (setR M1 (pq q 17) 0 12 (M (pq q 4))) (pq q 18) 0 12 (M (pq q (8 + c)))) ?_ rfl
  unfold fX1_start
  rw [ifsp (o := 16) (t := 1) hq (by omega) rfl]
  refine ob_in (pI_ok (sp0 hq (by omega) rfl)) ?_
  refine ob_in (pI_ok (sp0 hq (by omega) rfl)) ?_
  rw [← hM1]
  refine ob_in (gR_ok (x := pq q 17) (sp0 hq (by omega) rfl) rf_pq16a) ?_
  refine ob_in (copy_ok (n := 12) (sp0 hq (by omega) rfl) (lp0 hq (by omega) rfl) (sp0 hq (by omega) rfl) (lp0 hq (by omega) rfl) (by unfold pq; omega) (by omega)) ?_
  rw [r1 4 (by omega) (by omega)]
  refine ob_in (gR_ok (x := pq q 18) (sp0 hq (by omega) rfl) rf_pq16b) ?_
  refine ob_in (copy_ok (n := 12) (sp0 hq (by omega) (shP_c hc).1) (lp0 hq (by omega) (shP_c hc).2) (sp0 hq (by omega) rfl) (lp0 hq (by omega) rfl) (by unfold pq; omega) (by omega)) ?_
  rw [setR_other (by unfold pq; omega), r1 (8 + c) (by omega) (by omega)]
theorem WA_sta {told c t : Nat} {A : SA} (h : WA told A) (hc : c < 8) (ht : t ≤ 50) (ht0 : 0 < t) : WA told (staA A c t) := by
  obtain ⟨h1, h2, h3, h4, h5, h6, h7, h8, h9, h10, h11, h12, h13, h14⟩ := h
  have e : ∀ o j, o < 23 → o ≠ 16 → o ≠ 17 → o ≠ 18 → staA A c t o j = A o j := fun o j ho h1 h2 h3 => staA_o h1 (by omega) (by omega)
  refine ⟨by rw [e 0 0 (by omega) (by omega) (by omega) (by omega), e 0 1 (by omega) (by omega) (by omega) (by omega), e 0 2 (by omega) (by omega) (by omega) (by omega)]; exact h1, fun i hi => ?_, fun i hi => by rw [e 2 i (by omega) (by omega) (by omega) (by omega)]; exact h3 i hi, fun i hi => ?_, fun i hi1 hi2 => ?_, fun d hd => by rw [e 5 d (by omega) (by omega) (by omega) (by omega)]; exact h6 d hd, fun c' hc' => ⟨by rw [e 6 c' (by omega) (by omega) (by omega) (by omega)]; exact (h7 c' hc').1, fun i hi => by rw [e (8 + c') i (by omega) (by omega) (by omega) (by omega)]; exact (h7 c' hc').2 i hi⟩, by rw [e 19 1 (by omega) (by omega) (by omega) (by omega)]; exact h8, by rw [e 21 1 (by omega) (by omega) (by omega) (by omega)]; exact h9, fun d hd => by rw [e 20 d (by omega) (by omega) (by omega) (by omega)]; exact h10 d hd, fun d hd => by rw [e 22 d (by omega) (by omega) (by omega) (by omega)]; exact h11 d hd, by rw [staA_0]; exact ht, by rw [staA_0]; omega, by rw [staA_0, staA_1]; omega⟩
  · rw [e 0 2 (by omega) (by omega) (by omega) (by omega)] at hi
    rw [e 1 i (by omega) (by omega) (by omega) (by omega)]
    exact h2 i hi
  · rw [e 3 i (by omega) (by omega) (by omega) (by omega), e 4 i (by omega) (by omega) (by omega) (by omega), staA_17 hi, staA_18 hi]
    exact ⟨(h4 i hi).1, (h4 i hi).2.1, (h4 i hi).2.1, (h7 c hc).2 i hi⟩
  · rw [e 0 2 (by omega) (by omega) (by omega) (by omega)] at hi1
    have g := h5 i hi1 hi2
    refine ⟨by rw [e 3 i (by omega) (by omega) (by omega) (by omega)]; exact g.1, by rw [e 4 i (by omega) (by omega) (by omega) (by omega)]; exact g.2.1, by rw [staA_17 hi2]; exact g.2.1, by rw [staA_18 hi2]; exact g.2.2.2.2 c hc, fun c' hc' => ?_⟩
    rw [e (8 + c') i (by omega) (by omega) (by omega) (by omega)]
    exact g.2.2.2.2 c' hc'
/-- the reference's row while lamps k .. n - 1 are set out -/
def stf (σ : Nat → Int32) (A : SA) (p c k n : Nat) : Nat → Int32 := fun q => if LX p k 0 ≤ q ∧ q < LX p n 0 ∧ (q - LX p 0 0) % 6 = 4 then nI (A 4 ((q - LX p 0 0) / 6)) else if LX p k 0 ≤ q ∧ q < LX p n 0 ∧ (q - LX p 0 0) % 6 = 5 then nI (A (8 + c) ((q - LX p 0 0) / 6)) else σ q
theorem start_L {p c n : Nat} {A : SA} {a3 : Int32} (hp : p < 3) (hc : c < 8) (hn : n ≤ 12) : ∀ (d k F : Nat) (N : Mem), k + d = n → d < F → N 1 (AX p 2) = nI n → (∀ i, i < n → N 1 (LX p i 3) = nI (A 4 i)) → (∀ i, i < n → N 1 (CX p c + 1 + i) = nI (A (8 + c) i)) → fX12_start_L3 F N (nI p) (nI c) a3 (nI k) = some (row N 1 (stf (N 1) A p c k n)) := by
  intro d
  induction d with
  | zero =>
    intro k F N hk hF hN hL hQ
    obtain ⟨F, rfl⟩ : ∃ F', F = F' + 1 := ⟨F - 1, by omega⟩
    rw [fX12_start_L3, at1_2, ob_some, s30 (AX_lt hp (by omega)), ob_some, hN, if_pos ((nI_leE (by omega) (by omega)).mpr (by omega)), show k = n by omega]
    congr 1
    funext x
    by_cases hx : x = 1
    · subst hx
      rw [row_same]
      funext q
      unfold stf
      rw [if_neg (by omega), if_neg (by omega)]
    · rw [row_ne hx]
  | succ d ih =>
    intro k F N hk hF hN hL hQ
    obtain ⟨F, rfl⟩ : ∃ F', F = F' + 1 := ⟨F - 1, by omega⟩
    rw [fX12_start_L3, at1_2, ob_some, s30 (AX_lt hp (by omega)), ob_some, hN, if_neg (fun h => by have := (nI_leE (by omega) (by omega)).mp h; omega), ol4, ob_some, ol3, ob_some, s30 (LX_lt hp (by omega) (by omega)), ob_some, hL k (by omega), w30 (LX_lt hp (by omega) (by omega)), ob_some, ol5, ob_some, ofCue_ok, ob_some, li1, nI_addE, nI_addE, s30 (by have := CX_lt (i := 1 + k) hp hc (by omega); omega), ob_some, N1_ne (by unfold LX CX; omega), hQ k (by omega), w30 (LX_lt hp (by omega) (by omega)), ob_some, nI_addE]
    refine (ih (k + 1) F _ (by omega) (by omega) (by rw [N1_ne (by unfold AX LX; omega), N1_ne (by unfold AX LX; omega)]; exact hN) (fun i hi => by rw [N1_ne (by unfold LX; omega), N1_ne (by unfold LX; omega)]; exact hL i hi) (fun i hi => by rw [N1_ne (by unfold LX CX; omega), N1_ne (by unfold LX CX; omega)]; exact hQ i hi)).trans ?_
    congr 1
    funext x
    by_cases hx : x = 1
    · subst hx
      rw [row_same, row_same]
      funext q
      unfold stf
      rw [up2_row, up2_row]
      by_cases h1 : q = LX p k 5
      · subst h1
        have e1 : (LX p k 5 - LX p 0 0) % 6 = 5 := by unfold LX; omega
        have e2 : (LX p k 5 - LX p 0 0) / 6 = k := by unfold LX; omega
        rw [e1, e2, if_neg (by unfold LX; omega), if_neg (by unfold LX; omega), upd_eq, if_neg (by omega), if_pos ⟨by unfold LX; omega, by unfold LX; omega, rfl⟩]
      · rw [upd_ne h1]
        by_cases h2 : q = LX p k 4
        · subst h2
          have e1 : (LX p k 4 - LX p 0 0) % 6 = 4 := by unfold LX; omega
          have e2 : (LX p k 4 - LX p 0 0) / 6 = k := by unfold LX; omega
          rw [e1, e2, if_neg (by unfold LX; omega), if_neg (by unfold LX; omega), upd_eq, if_pos ⟨by unfold LX; omega, by unfold LX; omega, rfl⟩]
        · rw [upd_ne h2]
          by_cases h3 : LX p k 0 ≤ q ∧ q < LX p n 0 ∧ (q - LX p 0 0) % 6 = 4
          · rw [if_pos h3, if_pos (by unfold LX at h1 h2 h3 ⊢; omega)]
          · rw [if_neg h3, if_neg (by unfold LX at h1 h2 h3 ⊢; omega)]
            by_cases h4 : LX p k 0 ≤ q ∧ q < LX p n 0 ∧ (q - LX p 0 0) % 6 = 5
            · rw [if_pos h4, if_pos (by unfold LX at h1 h2 h4 ⊢; omega)]
            · rw [if_neg h4, if_neg (by unfold LX at h1 h2 h4 ⊢; omega)]
    · rw [row_ne hx, row_ne hx, up2_ne hx, up2_ne hx]
theorem RP_sta {σ : Nat → Int32} {p c t : Nat} {A : SA} (h : RP σ p A) (hc : c < 8) (hm : A 0 2 ≤ 12) : RP (upd (upd (stf σ A p c 0 (A 0 2)) (AX p 221) (nI t)) (AX p 222) 0) p (staA A c t) := by
  obtain ⟨a1, a2, a3, a4, a5, a6, a7, a8, a9, a10⟩ := h
  have e : ∀ o j, o < 23 → o ≠ 16 → o ≠ 17 → o ≠ 18 → staA A c t o j = A o j := fun o j ho h1 h2 h3 => staA_o h1 (by omega) (by omega)
  have hs : ∀ k, k ≠ AX p 221 → k ≠ AX p 222 → ¬ (LX p 0 0 ≤ k ∧ k < LX p (A 0 2) 0 ∧ 4 ≤ (k - LX p 0 0) % 6) → upd (upd (stf σ A p c 0 (A 0 2)) (AX p 221) (nI t)) (AX p 222) 0 k = σ k := fun k h1 h2 h3 => by
    rw [upd_ne h2, upd_ne h1]
    unfold stf
    rw [if_neg (by omega), if_neg (by omega)]
  refine ⟨fun j hj => ?_, fun i hi => ?_, fun d hd => ?_, fun d hd => ?_, fun d hd => ?_, fun d hd => ?_, fun d hd => ?_, fun c' hc' => ?_, ?_, fun h0 => ?_⟩
  · rw [hs _ (by unfold AX PB; omega) (by unfold AX PB; omega) (by unfold LX PB; omega), e _ _ (by omega) (by omega) (by omega) (by omega)]; exact a1 j hj
  · rw [e _ _ (by omega) (by omega) (by omega) (by omega)] at hi
    obtain ⟨b0, b1, b2, b3, b4, b5⟩ := a2 i hi
    refine ⟨?_, ?_, ?_, ?_, ?_, ?_⟩
    · rw [hs _ (by unfold AX PB; omega) (by unfold AX PB; omega) (by unfold LX PB; omega), e _ _ (by omega) (by omega) (by omega) (by omega)]; exact b0
    · rw [hs _ (by unfold AX PB; omega) (by unfold AX PB; omega) (by unfold LX PB; omega), e _ _ (by omega) (by omega) (by omega) (by omega)]; exact b1
    · rw [hs _ (by unfold AX PB; omega) (by unfold AX PB; omega) (by unfold LX PB; omega), e _ _ (by omega) (by omega) (by omega) (by omega)]; exact b2
    · rw [hs _ (by unfold AX PB; omega) (by unfold AX PB; omega) (by unfold LX PB; omega), e _ _ (by omega) (by omega) (by omega) (by omega)]; exact b3
    · rw [upd_ne (by unfold AX PB; omega), upd_ne (by unfold AX PB; omega), staA_17 (by omega)]
      have e1 : (PB p + 3 + 6 * i + 4 - LX p 0 0) % 6 = 4 := by unfold LX PB; omega
      have e2 : (PB p + 3 + 6 * i + 4 - LX p 0 0) / 6 = i := by unfold LX PB; omega
      unfold stf
      rw [e1, e2, if_pos ⟨by unfold LX PB; omega, by unfold LX PB; omega, rfl⟩]
    · rw [upd_ne (by unfold AX PB; omega), upd_ne (by unfold AX PB; omega), staA_18 (by omega)]
      have e1 : (PB p + 3 + 6 * i + 5 - LX p 0 0) % 6 = 5 := by unfold LX PB; omega
      have e2 : (PB p + 3 + 6 * i + 5 - LX p 0 0) / 6 = i := by unfold LX PB; omega
      unfold stf
      rw [e1, e2, if_neg (by omega), if_pos ⟨by unfold LX PB; omega, by unfold LX PB; omega, rfl⟩]
  · rw [hs _ (by unfold AX PB; omega) (by unfold AX PB; omega) (by unfold LX PB; omega), e _ _ (by omega) (by omega) (by omega) (by omega)]; exact a3 d hd
  · rw [hs _ (by unfold AX PB; omega) (by unfold AX PB; omega) (by unfold LX PB; omega), e _ _ (by omega) (by omega) (by omega) (by omega)]; exact a4 d hd
  · rw [hs _ (by unfold AX PB; omega) (by unfold AX PB; omega) (by unfold LX PB; omega), e _ _ (by omega) (by omega) (by omega) (by omega)]; exact a5 d hd
  · rw [hs _ (by unfold AX PB; omega) (by unfold AX PB; omega) (by unfold LX PB; omega), e _ _ (by omega) (by omega) (by omega) (by omega)]; exact a6 d hd
  · rw [hs _ (by unfold AX PB; omega) (by unfold AX PB; omega) (by unfold LX PB; omega), e _ _ (by omega) (by omega) (by omega) (by omega)]; exact a7 d hd
  · rw [e 0 2 (by omega) (by omega) (by omega) (by omega), e 6 c' (by omega) (by omega) (by omega) (by omega)]
    refine ⟨?_, fun i hi => ?_⟩
    · rw [hs _ (by unfold AX PB; omega) (by unfold AX PB; omega) (by unfold LX PB; omega)]; exact (a8 c' hc').1
    · rw [hs _ (by unfold AX PB; omega) (by unfold AX PB; omega) (by unfold LX PB; omega), e _ _ (by omega) (by omega) (by omega) (by omega)]; exact (a8 c' hc').2 i hi
  · rw [show PB p + 221 = AX p 221 by unfold AX PB; omega, upd_ne (by unfold AX; omega), upd_eq, staA_0]
  · rw [show PB p + 222 = AX p 222 by unfold AX PB; omega, upd_eq, staA_1]
    rfl
theorem start_ok {N : Mem} {p c t : Nat} {A : SA} (hp : p < 3) (hc : c < 8) (h : RP (N 1) p A) (hm : A 0 2 ≤ 12) : ∃ N', fX12_start N (nI p) (nI c) (nI t) = some N' ∧ RP (N' 1) p (staA A c t) ∧ FrN N N' p := by
  refine ⟨up2 (up2 (row N 1 (stf (N 1) A p c 0 (A 0 2))) 1 (AX p 221) (nI t)) 1 (AX p 222) 0, ?_, by rw [up2_row, up2_row, row_same]; exact RP_sta h hc hm, fun x hx => by rw [up2_ne hx, up2_ne hx, row_ne hx], fun k hk => ?_⟩
  · unfold fX12_start
    refine ob_in (start_L (A := A) hp hc hm (A 0 2) 0 5000 N (by omega) (by omega) (ra0 h (by omega)) (fun i hi => rl3 h hi) (fun i hi => rcL h hc hi)) ?_
    rw [at1_221, ob_some, w30 (AX_lt hp (by omega)), ob_some, at1_222, ob_some, w30 (AX_lt hp (by omega)), ob_some]
  · rw [N1_ne (by unfold AX; unfold PB at hk; omega), N1_ne (by unfold AX; unfold PB at hk; omega), row_same]
    unfold stf
    rw [if_neg (by unfold LX; unfold PB at hk; omega), if_neg (by unfold LX; unfold PB at hk; omega)]
theorem goFault_ok {N : Mem} {p c told : Nat} {A : SA} (hp : p < 3) (hc : c < 8) (h : RP (N 1) p A) (hW : WA told A) : fX12_goFault N (nI p) (nI c) = some (if A 6 c = 0 then -5 else 0) := by
  have h50 := (hW.2.2.2.2.2.2.1 c hc).1
  unfold fX12_goFault
  rw [isCueR_ok, ob_some, b01, if_pos ⟨isIn_y (k := 2) (by omega) (by omega), isIn_y (k := 7) (by omega) (by omega)⟩, ofCue_ok, ob_some, s30 (by have := CX_lt (i := 0) hp hc (by omega); omega), ob_some, rcT h hc]
  by_cases h0 : A 6 c = 0
  · rw [h0, if_pos (show nI 0 = (0 : Int32) from rfl), if_pos rfl]
  · rw [if_neg h0, if_neg (nI_ne0 (by omega) (by omega))]
theorem goFault_bad {N : Mem} {a b : Int32} (h : ¬ ((0 ≤ a ∧ a ≤ 2) ∧ (0 ≤ b ∧ b ≤ 7))) : fX12_goFault N a b = some (-1) := by
  unfold fX12_goFault
  rw [isCueR_ok, ob_some, b01, if_neg h]
theorem op_go {M N : Mem} (h : Rel M N) (a1 a2 : Int32) : OK (fX11_go M a1 a2) (fX12_go N a1 a2) := by
  obtain ⟨⟨T, A, hL⟩, n, hR⟩ := id h
  rcases ic a1 2 2 rfl (by omega) with ⟨p, hp, rfl, hpy⟩ | h1
  · have hW := wa_live hL (p := p) (by omega)
    have hC := cr_live hL (p := p) (by omega)
    have hP := rp_live hL (p := p) (by omega)
    rcases ic a2 7 7 rfl (by omega) with ⟨c, hc, rfl, hcy⟩ | h2
    · have h50 := (hW.2.2.2.2.2.2.1 c (by omega)).1
      by_cases h0 : A p 6 c = 0
      · refine OK_er (r := -5) h ?_ ?_
        · unfold fX11_go
          rw [find_ok (by omega), ob_some, caseO_some, isCue_ok, ob_some, b01, if_pos hcy, isRec_ok (by omega) hC (by omega) h50, ob_some, if_pos h0, if_pos rfl]
        · unfold fX12_go
          rw [goFault_ok (by omega) (by omega) hP hW, ob_some, if_pos h0, if_neg (by decide)]
      · obtain ⟨M1, e1, e2, hL1, hR1⟩ := push_know hL hR
        have hC1 := cr_live hL1 (p := p) (by omega)
        have hP1 := rp_live hL1 (p := p) (by omega)
        obtain ⟨M2, g1, g2, g3⟩ := startCue_ok (t := A p 6 c) (by omega) hC1 (c := c) (by omega)
        obtain ⟨N2, k1, k2, k3⟩ := start_ok (t := A p 6 c) (by omega) (c := c) (by omega) hP1 hW.1.2.2
        have hW2 := WA_sta hW (c := c) (by omega) h50 (by omega)
        have e6 : staA (A p) c (A p 6 c) 6 c = A p 6 c := staA_o (by omega) (by omega) (by omega)
        refine OK_in (r := nI (A p 6 c)) (M := M2) (N := N2) ?_ ?_ (fin_f hL1 hR1 (p := p) (by omega) g3 g2 k3 k2 hW2)
        · unfold fX11_go
          rw [find_ok (by omega), ob_some, caseO_some, isCue_ok, ob_some, b01, if_pos hcy, isRec_ok (by omega) hC (by omega) h50, ob_some, if_neg h0, if_neg (by decide), e1, ob_some]
          refine ob_in (gR_ok (x := pq p 6) (sp0 (by omega) (by omega) rfl) (rf_pq0 (by omega))) ?_
          refine ob_in (aL_ok (n := 8) (sp0 (by omega) (by omega) rfl) (lp0 (by omega) (by omega) rfl) (by omega) (by omega)) ?_
          rw [cr6 hC1 (by omega), g1, ob_some]
          refine ob_in (gR_ok (x := pq p 6) (sp0 (by omega) (by omega) rfl) (rf_pq0 (by omega))) ?_
          refine ob_in (aL_ok (n := 8) (sp0 (by omega) (by omega) rfl) (lp0 (by omega) (by omega) rfl) (by omega) (by omega)) ?_
          rw [cr6 g2 (by omega), e6]
        · unfold fX12_go
          rw [goFault_ok (by omega) (by omega) hP hW, ob_some, if_neg h0, if_pos (by decide), e2, ob_some, ofCue_ok, ob_some, s30 (by have := CX_lt (p := p) (c := c) (i := 0) (by omega) (by omega) (by omega); omega), ob_some, rcT hP1 (by omega), k1, ob_some, ob_some, s30 (by have := CX_lt (p := p) (c := c) (i := 0) (by omega) (by omega) (by omega); omega), ob_some, rcT k2 (by omega), e6]
    · refine OK_er (r := -1) h ?_ ?_
      · unfold fX11_go
        rw [find_ok (by omega), ob_some, caseO_some, isCue_ok, ob_some, b01, if_neg h2]
      · unfold fX12_go
        rw [goFault_bad (fun z => h2 z.2), ob_some, if_neg (by decide)]
  · refine OK_er (r := -1) h ?_ ?_
    · unfold fX11_go
      rw [find_bad h1, ob_some, caseO_none]
    · unfold fX12_go
      rw [goFault_bad (fun z => h1 z.1), ob_some, if_neg (by decide)]
