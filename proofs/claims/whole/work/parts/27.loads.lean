/-! loads: sums over lamps; the class's -/
theorem nI_divE {a b : Nat} (ha : a < 2 ^ 31) (hb0 : 0 < b) (hb : b < 2 ^ 31) : nI a / nI b = nI (a / b) := by
  refine Int32.toInt_inj.mp ?_
  have hq : a / b ≤ a := Nat.div_le_self _ _
  have e : (Int.tdiv (a : Int) (b : Int)) = ((a / b : Nat) : Int) := rfl
  rw [Int32.toInt_div, nI_toInt ha, nI_toInt hb, e]
  generalize a / b = c at hq
  rw [nI_toInt (by omega), Int.bmod_def]
  omega
theorem dv_ok {a b : Nat} (ha : a < 2 ^ 31) (hb0 : 0 < b) (hb : b < 2 ^ 31) : dv (nI a) (nI b) = some (nI (a / b)) := by
  unfold dv
  rw [if_neg (nI_ne0 hb0 hb), nI_divE ha hb0 hb]
def wtt (T : SA) (A : SA) (o i : Nat) : Nat := T 3 (A 1 i) * A o i / 100
abbrev fed (A : SA) (i : Nat) : Prop := A 2 i < 12 ∧ A 19 1 / 2 ^ A 2 i % 2 = 0 ∧ A 21 1 / 2 ^ A 5 (A 2 i) % 2 = 0
def ldL (T A : SA) (i : Nat) : Nat := if fed A i then wtt T A 4 i else 0
abbrev mt (A : SA) (u i : Nat) : Prop := A 2 i < 12 ∧ (u = A 2 i ∨ u = 15 ∨ u = 12 + A 5 (A 2 i))
def sU (A : SA) (w : Nat → Nat) : Nat → Nat → Nat
  | 0, _ => 0
  | n + 1, u => sU A w n u + if mt A u n then w n else 0
theorem dimOf_ok {M : Mem} {q i : Nat} {A : SA} (hq : q < 28) (hC : CRel M q A) (hi : i < 12) : fX6_dimmerOf M (pq q 0) (nI i) = some (vI 2 (A 2 i)) := by
  unfold fX6_dimmerOf
  rw [ifsp (o := 0) (t := 6) hq (by omega) rfl, if_neg (nI_pos (by omega))]
  refine ob_in (gR_ok (x := pq q 2) (sp0 hq (by omega) rfl) (rf_pq0 (by omega))) ?_
  refine ob_in (aN_ok (n := 12) (sp0 hq (by omega) rfl) (lp0 hq (by omega) rfl)) ?_
  rw [if_neg (fun h => by have := (nI_leE (by omega) (by omega)).mp h; omega)]
  refine ob_in (gR_ok (x := pq q 2) (sp0 hq (by omega) rfl) (rf_pq0 (by omega))) ?_
  refine ob_in (aL_ok (n := 12) (sp0 hq (by omega) rfl) (lp0 hq (by omega) rfl) hi (by omega)) ?_
  rw [cr2 hC hi]
theorem phOf_ok {M : Mem} {q d : Nat} {A : SA} (hq : q < 28) (hC : CRel M q A) (hd : d < 12) : fX6_phaseOf M (pq q 0) (nI d) = some (nI (A 5 d)) := by
  unfold fX6_phaseOf
  rw [ifsp (o := 0) (t := 6) hq (by omega) rfl, if_neg (nI_pos (by omega))]
  refine ob_in (gR_ok (x := pq q 5) (sp0 hq (by omega) rfl) (rf_pq0 (by omega))) ?_
  refine ob_in (aN_ok (n := 12) (sp0 hq (by omega) rfl) (lp0 hq (by omega) rfl)) ?_
  rw [if_neg (fun h => by have := (nI_leE (by omega) (by omega)).mp h; omega)]
  refine ob_in (gR_ok (x := pq q 5) (sp0 hq (by omega) rfl) (rf_pq0 (by omega))) ?_
  refine ob_in (aL_ok (n := 12) (sp0 hq (by omega) rfl) (lp0 hq (by omega) rfl) hd (by omega)) ?_
  rw [cr5 hC hd]
theorem phOf_no {M : Mem} {q : Nat} (hq : q < 28) : fX6_phaseOf M (pq q 0) (-6) = some (-6) := by
  unfold fX6_phaseOf
  rw [ifsp (o := 0) (t := 6) hq (by omega) rfl]
  exact if_pos (by decide)
theorem trD_ok {M : Mem} {q d : Nat} {A : SA} (hq : q < 28) (hC : CRel M q A) (hm : A 19 1 < 4096) (hd : d < 12) : fX0_hasTripped M (pq q 19) (nI d) = some (nI (A 19 1 / 2 ^ d % 2)) := by
  unfold fX0_hasTripped
  rw [ifsp (o := 19) (t := 0) hq (by omega) rfl]
  refine ob_in (gI_ok (sp0 hq (by omega) rfl)) ?_
  rw [cr19 hC, bit_all hm hd]
  rcases (show A 19 1 / 2 ^ d % 2 = 0 ∨ A 19 1 / 2 ^ d % 2 = 1 by omega) with h | h <;> rw [h] <;> rfl
theorem trP_ok {M : Mem} {q d : Nat} {A : SA} (hq : q < 28) (hC : CRel M q A) (hm : A 21 1 < 8) (hd : d < 12) : fX0_hasTripped M (pq q 21) (nI d) = some (nI (A 21 1 / 2 ^ d % 2)) := by
  unfold fX0_hasTripped
  rw [ifsp (o := 21) (t := 0) hq (by omega) rfl]
  refine ob_in (gI_ok (sp0 hq (by omega) rfl)) ?_
  rw [cr21 hC, bit_all (by omega) hd]
  rcases (show A 21 1 / 2 ^ d % 2 = 0 ∨ A 21 1 / 2 ^ d % 2 = 1 by omega) with h | h <;> rw [h] <;> rfl
theorem vI_6 {x : Nat} (h : x ≤ 12) : (vI 2 x = -6) = (x = 12) := by
  refine propext ⟨fun e => ?_, fun e => by rw [e]; rfl⟩
  by_cases hx : x = 12
  · exact hx
  · rw [vI_2 (by omega), li6] at e
    exact ((nI_negE (by omega) (by omega) (by omega)).mp e).elim
theorem fed_ok {K : Nat} {M : Mem} {q i told : Nat} {A : SA} (hq : q < 28) (hC : CRel M q A) (hW : WG K told A) (hi : i < 12) : fX6_isFed M (pq q 0) (nI i) = some (if fed A i then 1 else 0) := by
  have h2 := hW.2.2.1 i hi
  unfold fX6_isFed
  rw [ifsp (o := 0) (t := 6) hq (by omega) rfl, dimOf_ok hq hC hi, ob_some]
  by_cases hd : A 2 i = 12
  · rw [if_pos ((vI_6 h2).mpr hd), if_neg (fun z => by have := z.1; omega)]
  · rw [if_neg (fun z => hd ((vI_6 h2).mp z)), vI_2 (by omega)]
    have h5 := hW.2.2.2.2.2.1 (A 2 i) (by omega)
    refine ob_in (gR_ok (x := pq q 19) (sp0 hq (by omega) rfl) (rf_pq0 (by omega))) ?_
    rw [trD_ok hq hC hW.2.2.2.2.2.2.2.1 (by omega), ob_some]
    rcases (show A 19 1 / 2 ^ A 2 i % 2 = 0 ∨ A 19 1 / 2 ^ A 2 i % 2 = 1 by omega) with h | h
    · rw [if_pos (show nI (A 19 1 / 2 ^ A 2 i % 2) = 0 by rw [h]; rfl)]
      refine ob_in (gR_ok (x := pq q 21) (sp0 hq (by omega) rfl) (rf_pq0 (by omega))) ?_
      rw [phOf_ok hq hC (by omega), ob_some, trP_ok hq hC hW.2.2.2.2.2.2.2.2.1 (by omega), ob_some]
      rcases (show A 21 1 / 2 ^ A 5 (A 2 i) % 2 = 0 ∨ A 21 1 / 2 ^ A 5 (A 2 i) % 2 = 1 by omega) with h' | h'
      · rw [if_pos (show nI (A 21 1 / 2 ^ A 5 (A 2 i) % 2) = 0 by rw [h']; rfl), if_pos ⟨by omega, h, h'⟩]
      · rw [if_neg (show ¬ nI (A 21 1 / 2 ^ A 5 (A 2 i) % 2) = 0 by rw [h']; decide), if_neg (fun z => by have := z.2.2; omega)]
    · rw [if_neg (show ¬ nI (A 19 1 / 2 ^ A 2 i % 2) = 0 by rw [h]; decide), if_neg (fun z => by have := z.2.1; omega)]
theorem wtsOf_ok {M : Mem} {t : Nat} {T : SA} (hC : CT M 0 T) (ht : t < 6) : fX9_wattsOf M 36 (nI t) = some (nI (T 3 t)) := by
  unfold fX9_wattsOf
  rw [if_pos (show shp 36 = 9 from rfl), if_neg (nI_pos (by omega))]
  refine ob_in (gR_ok (x := 37) rfl rfl) ?_
  refine ob_in (aN_ok (n := 6) rfl rfl) ?_
  rw [if_neg (fun h => by have := (nI_leE (by omega) (by omega)).mp h; omega)]
  refine ob_in (gR_ok (x := 37) rfl rfl) ?_
  refine ob_in (aL_ok (n := 6) rfl rfl ht (by omega)) ?_
  rw [show M 37 t = nI (T 3 t) from ct3 hC ht]
theorem draw_ok {K : Nat} {M : Mem} {q i o : Nat} {T A : SA} (hq : q < 28) (hC : CRel M q A) (hT : CT M 0 T) (hWT : WT T) (hW : WG K (T 2 0) A) (hi : i < A 0 2) (ho : o < 23) (hs : shP o = 20) (hl : lnP o = 12) (hx : M (pq q o) i = nI (A o i)) (hv : A o i ≤ 100) : fX6_draw M (pq q 0) (nI i) (pq q o) 36 = some (nI (wtt T A o i)) := by
  have h12 := hW.1.2.2
  have ht := hW.2.1 i hi
  have ht6 := hWT.2.2.2.1
  have hw := (hWT.2.2.2.2 (A 1 i) (by omega)).1
  have hm : T 3 (A 1 i) * A o i ≤ 2000 * 100 := Nat.mul_le_mul hw hv
  unfold fX6_draw
  rw [ifsp (o := 0) (t := 6) hq (by omega) rfl, hasLamp_ok hq (cr0 hC (by omega)) h12, ob_some, b01, if_pos (lamp_y hi h12)]
  refine ob_in (aN_ok (n := 12) (sp0 hq ho hs) (lp0 hq ho hl)) ?_
  rw [if_pos (nI_lt (by omega) (by omega))]
  refine ob_in (gR_ok (x := pq q 1) (sp0 hq (by omega) rfl) (rf_pq0 (by omega))) ?_
  refine ob_in (aL_ok (n := 12) (sp0 hq (by omega) rfl) (lp0 hq (by omega) rfl) (by omega) (by omega)) ?_
  rw [cr1 hC (by omega), wtsOf_ok hT (by omega), ob_some]
  refine ob_in (aL_ok (n := 12) (sp0 hq ho hs) (lp0 hq ho hl) (by omega) (by omega)) ?_
  rw [hx, nI_mulE, li100, dv_ok (by omega) (by omega) (by omega), ob_some]
  rfl
theorem ldL_ok {K : Nat} {M : Mem} {q i : Nat} {T A : SA} (hq : q < 28) (hC : CRel M q A) (hT : CT M 0 T) (hWT : WT T) (hW : WG K (T 2 0) A) (hi : i < A 0 2) : fX6_loadOfLamp M (pq q 0) (nI i) 36 = some (nI (ldL T A i)) := by
  have h12 := hW.1.2.2
  unfold fX6_loadOfLamp ldL
  rw [ifsp (o := 0) (t := 6) hq (by omega) rfl, fed_ok hq hC hW (by omega), ob_some, b01]
  by_cases h : fed A i
  · rw [if_pos h, if_pos h]
    refine ob_in (gR_ok (x := pq q 4) (sp0 hq (by omega) rfl) (rf_pq0 (by omega))) ?_
    exact ob_in (draw_ok hq hC hT hWT hW hi (by omega) rfl rfl (cr4 hC (by omega)) ((hW.2.2.2.1 i (by omega)).2.1)) rfl
  · rw [if_neg h, if_neg h]
    rfl
/-- one of the class's three Loads, with its rows -/
abbrev LO (L d g : Nat) : Prop := (L = 23 ∧ d = 24 ∧ g = 25) ∨ (L = 27 ∧ d = 28 ∧ g = 29) ∨ (L = 30 ∧ d = 31 ∧ g = 32)
theorem LO_f {L d g : Nat} (h : LO L d g) : shp L = 3 ∧ rf L 0 = d ∧ rf L 1 = g ∧ shp d = 20 ∧ shp g = 20 ∧ ln d = 12 ∧ ln g = 3 ∧ d ≠ g ∧ 24 ≤ d ∧ d ≤ 32 ∧ 24 ≤ g ∧ g ≤ 32 := by
  rcases h with ⟨rfl, rfl, rfl⟩ | ⟨rfl, rfl, rfl⟩ | ⟨rfl, rfl, rfl⟩ <;> exact ⟨rfl, rfl, rfl, rfl, rfl, rfl, rfl, by omega, by omega, by omega, by omega, by omega⟩
def SU (M : Mem) (d g : Nat) (A : SA) (w : Nat → Nat) (n : Nat) : Prop := (∀ x, x < 12 → M d x = nI (sU A w n x)) ∧ ∀ x, x < 3 → M g x = nI (sU A w n (12 + x))
def KeepL (M M' : Mem) (d g : Nat) : Prop := ∀ x, x ≠ d → x ≠ g → M' x = M x
theorem empty_ok {M : Mem} {L d g : Nat} {A : SA} {w : Nat → Nat} (h : LO L d g) : ∃ M', fX3_empty M L = some M' ∧ KeepL M M' d g ∧ SU M' d g A w 0 := by
  obtain ⟨f1, f2, f3, f4, f5, f6, f7, f8, -⟩ := LO_f h
  refine ⟨setR (setR M d 0 12 (fun _ => 0)) g 0 3 (fun _ => 0), ?_, fun x h1 h2 => by rw [setR_other h2, setR_other h1], fun x hx => ?_, fun x hx => ?_⟩
  · unfold fX3_empty
    rw [if_pos f1]
    refine ob_in (gR_ok f1 f2) ?_
    refine ob_in (clear_ok f4 f6 (by omega)) ?_
    refine ob_in (gR_ok f1 f3) ?_
    exact ob_in (clear_ok f5 f7 (by omega)) rfl
  · rw [setR_other f8, setR_same, if_pos ⟨Nat.zero_le _, hx⟩]
    rfl
  · rw [setR_same, if_pos ⟨Nat.zero_le _, hx⟩]
    rfl
theorem add_ok {K : Nat} {M : Mem} {L d g q i told : Nat} {A : SA} {w : Nat → Nat} (h : LO L d g) (hq : q < 28) (hC : CRel M q A) (hW : WG K told A) (hi : i < 12) (hS : SU M d g A w i) : ∃ M', fX3_add M L (pq q 0) (nI i) (nI (w i)) = some M' ∧ KeepL M M' d g ∧ SU M' d g A w (i + 1) := by
  obtain ⟨f1, f2, f3, f4, f5, f6, f7, f8, -⟩ := LO_f h
  have h2 := hW.2.2.1 i hi
  unfold fX3_add
  rw [if_pos f1, dimOf_ok hq hC hi, ob_some]
  by_cases hd : A 2 i = 12
  · refine ⟨M, ?_, fun _ _ _ => rfl, fun x hx => ?_, fun x hx => ?_⟩
    · rw [hd, vI_none, phOf_no hq, ob_some, isDimmer_ok, ob_some, b01, if_neg (by decide)]
    · rw [hS.1 x hx, sU, if_neg (fun z => by have := z.1; omega)]
      rfl
    · rw [hS.2 x hx, sU, if_neg (fun z => by have := z.1; omega)]
      rfl
  · have h5 := hW.2.2.2.2.2.1 (A 2 i) (by omega)
    refine ⟨up2 (up2 M d (A 2 i) (nI (sU A w i (A 2 i) + w i))) g (A 5 (A 2 i)) (nI (sU A w i (12 + A 5 (A 2 i)) + w i)), ?_, fun x h1 h2 => by rw [up2_ne h2, up2_ne h1], fun x hx => ?_, fun x hx => ?_⟩
    · rw [vI_2 (by omega), phOf_ok hq hC (by omega), ob_some, isDimmer_ok, ob_some, b01, if_pos (show (0 : Int32) ≤ nI (A 2 i) ∧ nI (A 2 i) ≤ 11 from isIn_y (k := 11) (by omega) (by omega)), isPhase_ok, ob_some, b01, if_pos (show (0 : Int32) ≤ nI (A 5 (A 2 i)) ∧ nI (A 5 (A 2 i)) ≤ 2 from isIn_y (k := 2) (by omega) (by omega))]
      refine ob_in (gR_ok f1 f2) ?_
      refine ob_in (aL_ok f4 f6 (by omega) (by omega)) ?_
      refine ob_in (aS_ok f4 f6 (by omega) (by omega)) ?_
      refine ob_in (gR_ok f1 f3) ?_
      refine ob_in (aL_ok f5 f7 (by omega) (by omega)) ?_
      refine ob_in (aS_ok f5 f7 (by omega) (by omega)) ?_
      rw [up2_ne (Ne.symm f8), hS.1 _ (by omega), hS.2 _ h5, nI_addE, nI_addE]
    · rw [up2_ne f8, up2_same, sU]
      by_cases hx2 : x = A 2 i
      · rw [if_pos hx2, if_pos ⟨by omega, Or.inl hx2⟩, hx2]
      · rw [if_neg hx2, if_neg (fun z => by have := z.2; omega), hS.1 x hx]
        rfl
    · rw [up2_same, sU]
      by_cases hx2 : x = A 5 (A 2 i)
      · rw [if_pos hx2, if_pos ⟨by omega, Or.inr (Or.inr (by omega))⟩, hx2]
      · rw [if_neg hx2, if_neg (fun z => by have := z.2; omega), up2_ne (Ne.symm f8), hS.2 x hx]
        rfl
theorem KeepL.tr {M1 M2 M3 : Mem} {d g : Nat} (h1 : KeepL M1 M2 d g) (h2 : KeepL M2 M3 d g) : KeepL M1 M3 d g := fun x a b => (h2 x a b).trans (h1 x a b)
theorem CRel_L {M M' : Mem} {d g q : Nat} {A : SA} (hk : KeepL M M' d g) (hd : d ≤ 32) (hg : g ≤ 32) (h : CRel M q A) : CRel M' q A := CRel_congr h (fun o ho => hk _ (by unfold pq; omega) (by unfold pq; omega))
theorem CT_L {M M' : Mem} {d g b : Nat} {T : SA} (hk : KeepL M M' d g) (hd : d ≤ 32) (hg : g ≤ 32) (h : CT M b T) : CT M' b T := CT_congr h (fun o ho => hk _ (by unfold st; omega) (by unfold st; omega))
theorem mNow_L {K : Nat} {L d g q : Nat} {T A : SA} (h : LO L d g) (hq : q < 28) (hWT : WT T) (hW : WG K (T 2 0) A) : ∀ (dd k F : Nat) (M : Mem), k + dd = A 0 2 → dd < F → CRel M q A → CT M 0 T → SU M d g A (ldL T A) k → ∃ M', fX3_measureNow_L6 F M L (pq q 0) 36 (nI k) = some M' ∧ KeepL M M' d g ∧ SU M' d g A (ldL T A) (A 0 2) := by
  have h12 := hW.1.2.2
  obtain ⟨f1, f2, f3, f4, f5, f6, f7, f8, f9, f10, f11, f12⟩ := LO_f h
  intro dd
  induction dd with
  | zero =>
    intro k F M hk hF hC hT hS
    obtain ⟨F, rfl⟩ : ∃ F', F = F' + 1 := ⟨F - 1, by omega⟩
    refine ⟨M, ?_, fun _ _ _ => rfl, by rw [show A 0 2 = k by omega]; exact hS⟩
    rw [fX3_measureNow_L6]
    refine ob_in (gI_ok (sp0 hq (by omega) rfl)) ?_
    rw [cr0 hC (by omega), if_pos ((nI_leE (by omega) (by omega)).mpr (by omega))]
  | succ dd ih =>
    intro k F M hk hF hC hT hS
    obtain ⟨F, rfl⟩ : ∃ F', F = F' + 1 := ⟨F - 1, by omega⟩
    obtain ⟨M1, e1, e2, e3⟩ := add_ok h hq hC hW (i := k) (by omega) hS
    obtain ⟨M', g1, g2, g3⟩ := ih (k + 1) F M1 (by omega) (by omega) (CRel_L e2 (by omega) (by omega) hC) (CT_L e2 (by omega) (by omega) hT) e3
    refine ⟨M', ?_, e2.tr g2, g3⟩
    rw [fX3_measureNow_L6]
    refine ob_in (gI_ok (sp0 hq (by omega) rfl)) ?_
    rw [cr0 hC (by omega), if_neg (fun h => by have := (nI_leE (by omega) (by omega)).mp h; omega), ldL_ok hq hC hT hWT hW (by omega), ob_some]
    refine ob_in e1 ?_
    rw [li1, nI_addE]
    exact g1
theorem mNow_ok {K : Nat} {M : Mem} {L d g q : Nat} {T A : SA} (h : LO L d g) (hq : q < 28) (hWT : WT T) (hW : WG K (T 2 0) A) (hC : CRel M q A) (hT : CT M 0 T) : ∃ M', fX3_measureNow M L (pq q 0) 36 = some M' ∧ KeepL M M' d g ∧ SU M' d g A (ldL T A) (A 0 2) := by
  have h12 := hW.1.2.2
  obtain ⟨f1, f2, f3, f4, f5, f6, f7, f8, f9, f10, f11, f12⟩ := LO_f h
  obtain ⟨M1, e1, e2, e3⟩ := empty_ok (M := M) (A := A) (w := ldL T A) h
  obtain ⟨M2, g1, g2, g3⟩ := mNow_L h hq hWT hW (A 0 2) 0 5000 M1 (by omega) (by omega) (CRel_L e2 (by omega) (by omega) hC) (CT_L e2 (by omega) (by omega) hT) e3
  refine ⟨M2, ?_, e2.tr g2, g3⟩
  unfold fX3_measureNow
  rw [if_pos f1]
  refine ob_in e1 ?_
  exact ob_in g1 rfl
theorem mCue_L {K : Nat} {L d g q c : Nat} {T A : SA} (h : LO L d g) (hq : q < 28) (hc : c < 8) (hWT : WT T) (hW : WG K (T 2 0) A) : ∀ (dd k F : Nat) (M : Mem), k + dd = A 0 2 → dd < F → CRel M q A → CT M 0 T → SU M d g A (wtt T A (8 + c)) k → ∃ M', fX3_measureCue_L16 F M L (pq q 0) (nI c) 36 (nI k) = some M' ∧ KeepL M M' d g ∧ SU M' d g A (wtt T A (8 + c)) (A 0 2) := by
  have h12 := hW.1.2.2
  obtain ⟨f1, f2, f3, f4, f5, f6, f7, f8, f9, f10, f11, f12⟩ := LO_f h
  intro dd
  induction dd with
  | zero =>
    intro k F M hk hF hC hT hS
    obtain ⟨F, rfl⟩ : ∃ F', F = F' + 1 := ⟨F - 1, by omega⟩
    refine ⟨M, ?_, fun _ _ _ => rfl, by rw [show A 0 2 = k by omega]; exact hS⟩
    rw [fX3_measureCue_L16]
    refine ob_in (gI_ok (sp0 hq (by omega) rfl)) ?_
    rw [cr0 hC (by omega), if_pos ((nI_leE (by omega) (by omega)).mpr (by omega))]
  | succ dd ih =>
    intro k F M hk hF hC hT hS
    obtain ⟨F, rfl⟩ : ∃ F', F = F' + 1 := ⟨F - 1, by omega⟩
    obtain ⟨M1, e1, e2, e3⟩ := add_ok h hq hC hW (i := k) (by omega) hS
    obtain ⟨M', g1, g2, g3⟩ := ih (k + 1) F M1 (by omega) (by omega) (CRel_L e2 (by omega) (by omega) hC) (CT_L e2 (by omega) (by omega) hT) e3
    refine ⟨M', ?_, e2.tr g2, g3⟩
    rw [fX3_measureCue_L16]
    refine ob_in (gI_ok (sp0 hq (by omega) rfl)) ?_
    rw [cr0 hC (by omega), if_neg (fun h => by have := (nI_leE (by omega) (by omega)).mp h; omega)]
    refine ob_in (gR_ok (x := pq q 7) (sp0 hq (by omega) rfl) (rf_pq0 (by omega))) ?_
    refine ob_in (aR_ok (n := 8) (sp0 hq (by omega) rfl) (lp0 hq (by omega) rfl) hc (by omega) rf_pq7) ?_
    rw [draw_ok hq hC hT hWT hW (by omega) (by omega) (shP_c hc).1 (shP_c hc).2 (cr8 hC hc (by omega)) ((hW.2.2.2.2.2.2.1 c hc).2 k (by omega)), ob_some]
    refine ob_in e1 ?_
    rw [li1, nI_addE]
    exact g1
theorem mCue_ok {K : Nat} {M : Mem} {L d g q c : Nat} {T A : SA} (h : LO L d g) (hq : q < 28) (hc : c < 8) (hWT : WT T) (hW : WG K (T 2 0) A) (hC : CRel M q A) (hT : CT M 0 T) (h0 : A 6 c ≠ 0) : ∃ M', fX3_measureCue M L (pq q 0) (nI c) 36 = some M' ∧ KeepL M M' d g ∧ SU M' d g A (wtt T A (8 + c)) (A 0 2) := by
  have h12 := hW.1.2.2
  obtain ⟨f1, f2, f3, f4, f5, f6, f7, f8, f9, f10, f11, f12⟩ := LO_f h
  obtain ⟨M1, e1, e2, e3⟩ := empty_ok (M := M) (A := A) (w := wtt T A (8 + c)) h
  obtain ⟨M2, g1, g2, g3⟩ := mCue_L h hq hc hWT hW (A 0 2) 0 5000 M1 (by omega) (by omega) (CRel_L e2 (by omega) (by omega) hC) (CT_L e2 (by omega) (by omega) hT) e3
  refine ⟨M2, ?_, e2.tr g2, g3⟩
  unfold fX3_measureCue
  rw [if_pos f1]
  refine ob_in e1 ?_
  rw [isRec_ok hq (CRel_L e2 (by omega) (by omega) hC) hc (hW.2.2.2.2.2.2.1 c hc).1, ob_some, if_neg h0, if_neg (by decide)]
  exact ob_in g1 rfl
/-- the worst of the cues -/
def cuL (T A : SA) (c u : Nat) : Nat := if A 6 c = 0 then 0 else sU A (wtt T A (8 + c)) (A 0 2) u
def wst (T A : SA) : Nat → Nat → Nat
  | 0, _ => 0
  | k + 1, u => max (wst T A k u) (cuL T A k u)
theorem mCueZ_ok {K : Nat} {M : Mem} {L d g q c : Nat} {T A : SA} {w : Nat → Nat} (h : LO L d g) (hq : q < 28) (hc : c < 8) (hW : WG K (T 2 0) A) (hC : CRel M q A) (h0 : A 6 c = 0) : ∃ M', fX3_measureCue M L (pq q 0) (nI c) 36 = some M' ∧ KeepL M M' d g ∧ SU M' d g A w 0 := by
  obtain ⟨f1, f2, f3, f4, f5, f6, f7, f8, f9, f10, f11, f12⟩ := LO_f h
  obtain ⟨M1, e1, e2, e3⟩ := empty_ok (M := M) (A := A) (w := w) h
  refine ⟨M1, ?_, e2, e3⟩
  unfold fX3_measureCue
  rw [if_pos f1]
  refine ob_in e1 ?_
  rw [isRec_ok hq (CRel_L e2 (by omega) (by omega) hC) hc (hW.2.2.2.2.2.2.1 c hc).1, ob_some, if_pos h0, if_pos rfl]
theorem mCueU_ok {K : Nat} {M : Mem} {L d g q c : Nat} {T A : SA} (h : LO L d g) (hq : q < 28) (hc : c < 8) (hWT : WT T) (hW : WG K (T 2 0) A) (hC : CRel M q A) (hT : CT M 0 T) : ∃ M' n, fX3_measureCue M L (pq q 0) (nI c) 36 = some M' ∧ KeepL M M' d g ∧ SU M' d g A (wtt T A (8 + c)) n ∧ ∀ u, sU A (wtt T A (8 + c)) n u = cuL T A c u := by
  by_cases h0 : A 6 c = 0
  · obtain ⟨M1, e1, e2, e3⟩ := mCueZ_ok (w := wtt T A (8 + c)) h hq hc hW hC h0
    exact ⟨M1, 0, e1, e2, e3, fun u => by unfold cuL; rw [if_pos h0]; rfl⟩
  · obtain ⟨M1, e1, e2, e3⟩ := mCue_ok h hq hc hWT hW hC hT h0
    exact ⟨M1, A 0 2, e1, e2, e3, fun u => by unfold cuL; rw [if_neg h0]⟩
theorem sU_le {A : SA} {w : Nat → Nat} {u K : Nat} : ∀ n, (∀ i, i < n → w i ≤ K) → sU A w n u ≤ K * n := by
  intro n
  induction n with
  | zero => intro _; exact Nat.zero_le _
  | succ n ih =>
    intro h
    have := ih (fun i hi => h i (by omega))
    have h2 := h n (by omega)
    show sU A w n u + (if mt A u n then w n else 0) ≤ K * (n + 1)
    rw [Nat.mul_succ]
    split <;> omega
theorem wtt_le {K : Nat} {T A : SA} {o i : Nat} (hWT : WT T) (hW : WG K (T 2 0) A) (hi : i < A 0 2) (hv : A o i ≤ 100) : wtt T A o i ≤ 2000 := by
  have ht := hW.2.1 i hi
  have ht6 := hWT.2.2.2.1
  have hw := (hWT.2.2.2.2 (A 1 i) (by omega)).1
  have hm : T 3 (A 1 i) * A o i ≤ 2000 * 100 := Nat.mul_le_mul hw hv
  unfold wtt
  omega
theorem cuL_le {K : Nat} {T A : SA} {c u : Nat} (hWT : WT T) (hW : WG K (T 2 0) A) (hc : c < 8) : cuL T A c u ≤ 24000 := by
  have h12 := hW.1.2.2
  unfold cuL
  split
  · omega
  · have := sU_le (A := A) (w := wtt T A (8 + c)) (u := u) (A 0 2) (fun i hi => wtt_le (o := 8 + c) hWT hW hi ((hW.2.2.2.2.2.2.1 c hc).2 i (by omega)))
    omega
theorem ldL_le {K : Nat} {T A : SA} {i : Nat} (hWT : WT T) (hW : WG K (T 2 0) A) (hi : i < A 0 2) : ldL T A i ≤ 2000 := by
  have h12 := hW.1.2.2
  unfold ldL
  split
  · exact wtt_le hWT hW hi ((hW.2.2.2.1 i (by omega)).2.1)
  · omega
theorem sN_le {K : Nat} {T A : SA} {u : Nat} (hWT : WT T) (hW : WG K (T 2 0) A) : sU A (ldL T A) (A 0 2) u ≤ 24000 := by
  have h12 := hW.1.2.2
  have := sU_le (A := A) (w := ldL T A) (u := u) (A 0 2) (fun i hi => ldL_le hWT hW hi)
  omega
theorem wst_le {K : Nat} {T A : SA} {u : Nat} (hWT : WT T) (hW : WG K (T 2 0) A) : ∀ k, k ≤ 8 → wst T A k u ≤ 24000 := by
  intro k
  induction k with
  | zero => intro _; exact Nat.zero_le _
  | succ k ih =>
    intro h
    have h1 := ih (by omega)
    have h2 := cuL_le (u := u) hWT hW (show k < 8 by omega)
    show max _ _ ≤ _
    omega
theorem mx_nI {a b : Nat} (ha : a < 2 ^ 31) (hb : b < 2 ^ 31) : mx (nI a) (nI b) = nI (max a b) := by
  unfold mx
  by_cases h : a < b
  · rw [if_pos (nI_lt h hb), Nat.max_eq_right (by omega)]
  · rw [if_neg (fun z => h ((nI_ltE ha hb).mp z)), Nat.max_eq_left (by omega)]
/-- what the measuring of the worst leaves as it was -/
def KeepW (M M' : Mem) : Prop := ∀ x, (x < 28 ∨ 32 < x ∨ x = 30) → M' x = M x
theorem worst_L {K : Nat} {q : Nat} {T A : SA} (hq : q < 28) (hWT : WT T) (hW : WG K (T 2 0) A) : ∀ (dd k F : Nat) (M : Mem), k + dd = 8 → dd < F → CRel M q A → CT M 0 T → (∀ x, x < 12 → M 28 x = nI (wst T A k x)) → (∀ x, x < 3 → M 29 x = nI (wst T A k (12 + x))) → ∃ M', fX10_measure_L9 F M (pq q 0) 36 (nI k) = some M' ∧ KeepW M M' ∧ (∀ x, x < 12 → M' 28 x = nI (wst T A 8 x)) ∧ ∀ x, x < 3 → M' 29 x = nI (wst T A 8 (12 + x)) := by
  intro dd
  induction dd with
  | zero =>
    intro k F M hk hF hC hT h1 h2
    obtain ⟨F, rfl⟩ : ∃ F', F = F' + 1 := ⟨F - 1, by omega⟩
    have hk8 : k = 8 := by omega
    subst hk8
    exact ⟨M, by rw [fX10_measure_L9, li8, if_pos (Int32.le_refl _)], fun _ _ => rfl, h1, h2⟩
  | succ dd ih =>
    intro k F M hk hF hC hT h1 h2
    obtain ⟨F, rfl⟩ : ∃ F', F = F' + 1 := ⟨F - 1, by omega⟩
    obtain ⟨M1, n, g1, g2, g3, g4⟩ := mCueU_ok (L := 30) (d := 31) (g := 32) (Or.inr (Or.inr ⟨rfl, rfl, rfl⟩)) hq (show k < 8 by omega) hWT hW hC hT
    have r1 := raise_ok (M := M1) (a := 28) (b := 31) (n := 12) rfl rfl rfl rfl (by omega) (by omega)
    have r2 := raise_ok (M := setR M1 28 0 12 (fun j => mx (M1 28 j) (M1 31 j))) (a := 29) (b := 32) (n := 3) rfl rfl rfl rfl (by omega) (by omega)
    have e : ∀ u, wst T A (k + 1) u = max (wst T A k u) (cuL T A k u) := fun _ => rfl
    have bd : ∀ u, cuL T A k u < 2 ^ 31 := fun u => by
      have := cuL_le (u := u) hWT hW (show k < 8 by omega)
      omega
    have bw : ∀ u, wst T A k u < 2 ^ 31 := fun u => by have := wst_le (u := u) hWT hW k (by omega); omega
    have q1 : ∀ x, x < 12 → (setR (setR M1 28 0 12 (fun j => mx (M1 28 j) (M1 31 j))) 29 0 3 (fun j => mx (setR M1 28 0 12 (fun j => mx (M1 28 j) (M1 31 j)) 29 j) (setR M1 28 0 12 (fun j => mx (M1 28 j) (M1 31 j)) 32 j))) 28 x = nI (wst T A (k + 1) x) := fun x hx => by
      rw [setR_other (by omega), setR_same, if_pos ⟨Nat.zero_le _, hx⟩, g2 28 (by omega) (by omega), h1 x hx, g3.1 x hx, g4, mx_nI (bw _) (bd _), e]
    have q2 : ∀ x, x < 3 → (setR (setR M1 28 0 12 (fun j => mx (M1 28 j) (M1 31 j))) 29 0 3 (fun j => mx (setR M1 28 0 12 (fun j => mx (M1 28 j) (M1 31 j)) 29 j) (setR M1 28 0 12 (fun j => mx (M1 28 j) (M1 31 j)) 32 j))) 29 x = nI (wst T A (k + 1) (12 + x)) := fun x hx => by
      rw [setR_same, if_pos ⟨Nat.zero_le _, hx⟩, setR_other (by omega), setR_other (by omega), g2 29 (by omega) (by omega), h2 x hx, g3.2 x hx, g4, mx_nI (bw _) (bd _), e]
    obtain ⟨M', z1, z2, z3, z4⟩ := ih (k + 1) F (setR (setR M1 28 0 12 (fun j => mx (M1 28 j) (M1 31 j))) 29 0 3 (fun j => mx (setR M1 28 0 12 (fun j => mx (M1 28 j) (M1 31 j)) 29 j) (setR M1 28 0 12 (fun j => mx (M1 28 j) (M1 31 j)) 32 j))) (by omega) (by omega) (CRel_setRNe (CRel_setRNe (CRel_L g2 (by omega) (by omega) hC) (fun o ho => by unfold pq; omega)) (fun o ho => by unfold pq; omega)) (CT_congr (CT_L g2 (by omega) (by omega) hT) (fun o ho => by rw [setR_other (by unfold st; omega), setR_other (by unfold st; omega)])) q1 q2
    refine ⟨M', ?_, fun x hx => by rw [z2 x hx, setR_other (by omega), setR_other (by omega), g2 x (by omega) (by omega)], z3, z4⟩
    rw [fX10_measure_L9, li8, if_neg (fun h => by have := (nI_leE (by omega) (by omega)).mp h; omega), li1, nI_addE]
    refine ob_in g1 ?_
    refine ob_in r1 ?_
    exact ob_in r2 z1
theorem worstC_ok {K : Nat} {M : Mem} {q : Nat} {T A : SA} (hq : q < 28) (hWT : WT T) (hW : WG K (T 2 0) A) (hC : CRel M q A) (hT : CT M 0 T) : ∃ M', fX10_measure M (pq q 0) 36 = some M' ∧ KeepW M M' ∧ (∀ x, x < 12 → M' 28 x = nI (wst T A 8 x)) ∧ ∀ x, x < 3 → M' 29 x = nI (wst T A 8 (12 + x)) := by
  obtain ⟨M1, e1, e2, e3⟩ := empty_ok (M := M) (L := 27) (d := 28) (g := 29) (A := A) (w := fun _ => 0) (Or.inr (Or.inl ⟨rfl, rfl, rfl⟩))
  obtain ⟨M2, g1, g2, g3, g4⟩ := worst_L hq hWT hW 8 0 5000 M1 (by omega) (by omega) (CRel_L e2 (by omega) (by omega) hC) (CT_L e2 (by omega) (by omega) hT) (fun x hx => e3.1 x hx) (fun x hx => e3.2 x hx)
  refine ⟨M2, ?_, fun x hx => by rw [g2 x hx, e2 x (by omega) (by omega)], g3, g4⟩
  unfold fX10_measure
  refine ob_in e1 ?_
  exact ob_in g1 rfl
theorem sum15 {A : SA} {w : Nat → Nat} (h5 : ∀ d, d < 12 → A 5 d < 3) : ∀ n, sU A w n 12 + sU A w n 13 + sU A w n 14 = sU A w n 15 := by
  intro n
  induction n with
  | zero => rfl
  | succ n ih =>
    show (sU A w n 12 + if mt A 12 n then w n else 0) + (sU A w n 13 + if mt A 13 n then w n else 0) + (sU A w n 14 + if mt A 14 n then w n else 0) = sU A w n 15 + if mt A 15 n then w n else 0
    by_cases h : A 2 n < 12
    · have h5' := h5 (A 2 n) h
      rw [if_pos (show mt A 15 n from ⟨h, Or.inr (Or.inl rfl)⟩)]
      rcases (show A 5 (A 2 n) = 0 ∨ A 5 (A 2 n) = 1 ∨ A 5 (A 2 n) = 2 by omega) with e | e | e
      · rw [if_pos (show mt A 12 n from ⟨h, by omega⟩), if_neg (show ¬ mt A 13 n from fun z => by have := z.2; omega), if_neg (show ¬ mt A 14 n from fun z => by have := z.2; omega)]
        omega
      · rw [if_neg (show ¬ mt A 12 n from fun z => by have := z.2; omega), if_pos (show mt A 13 n from ⟨h, by omega⟩), if_neg (show ¬ mt A 14 n from fun z => by have := z.2; omega)]
        omega
      · rw [if_neg (show ¬ mt A 12 n from fun z => by have := z.2; omega), if_neg (show ¬ mt A 13 n from fun z => by have := z.2; omega), if_pos (show mt A 14 n from ⟨h, by omega⟩)]
        omega
    · rw [if_neg (fun z => h z.1), if_neg (fun z => h z.1), if_neg (fun z => h z.1), if_neg (fun z => h z.1)]
      omega
theorem sumPh_ok {M : Mem} {L d g : Nat} {A : SA} {w : Nat → Nat} {n : Nat} (h : LO L d g) (hS : SU M d g A w n) (h5 : ∀ d, d < 12 → A 5 d < 3) : fX3_sumOfPhases M L = some (nI (sU A w n 15)) := by
  obtain ⟨f1, f2, f3, f4, f5, f6, f7, f8, -⟩ := LO_f h
  unfold fX3_sumOfPhases
  rw [if_pos f1]
  refine ob_in (gR_ok f1 f3) ?_
  refine ob_in (aN_ok f5 f7) ?_
  refine ob_in (v := nI (sU A w n 15)) ?_ rfl
  rw [li0, fX3_sumOfPhases_L13, if_neg (fun h => by have := (nI_leE (by omega) (by omega)).mp h; omega)]
  refine ob_in (aL_ok f5 f7 (by omega) (by omega)) ?_
  rw [hS.2 0 (by omega), lt1_eq, li1, nI_addE, nI_addE, fX3_sumOfPhases_L13, if_neg (fun h => by have := (nI_leE (by omega) (by omega)).mp h; omega)]
  refine ob_in (aL_ok f5 f7 (by omega) (by omega)) ?_
  rw [hS.2 (0 + 1) (by omega), lt1_eq, li1, nI_addE, nI_addE, fX3_sumOfPhases_L13, if_neg (fun h => by have := (nI_leE (by omega) (by omega)).mp h; omega)]
  refine ob_in (aL_ok f5 f7 (by omega) (by omega)) ?_
  rw [hS.2 (0 + 1 + 1) (by omega), lt1_eq, li1, nI_addE, nI_addE, fX3_sumOfPhases_L13, if_pos ((nI_leE (by omega) (by omega)).mpr (by omega)), ← sum15 h5 n]
  show some (nI (0 + sU A w n 12 + sU A w n 13 + sU A w n 14)) = _
  rw [Nat.zero_add]
