/-! a premiere's copy, a state's copy -/
theorem premCopy_ok {q q' : Nat} {M : Mem} (hq : q < 28) (hq' : q' < 28) (h : q' ≠ q) : fX6_copyFrom M (pq q 0) (pq q' 0) = some (cpP M q q') := by
  obtain ⟨M1, hM1⟩ : ∃ M1, M1 = up2 (up2 (up2 M (pq q 0) 0 (M (pq q' 0) 0)) (pq q 0) 1 (M (pq q' 0) 1)) (pq q 0) 2 (M (pq q' 0) 2) := ⟨_, rfl⟩
  obtain ⟨M2, hM2⟩ : ∃ M2, M2 = setR (setR (setR (setR (setR (setR M1 (pq q 1) 0 12 (M (pq q' 1))) (pq q 2) 0 12 (M (pq q' 2))) (pq q 3) 0 12 (M (pq q' 3))) (pq q 4) 0 12 (M (pq q' 4))) (pq q 5) 0 12 (M (pq q' 5))) (pq q 6) 0 8 (M (pq q' 6)) := ⟨_, rfl⟩
  have r1 : ∀ o, 0 < o → o < 23 → M1 (pq q' o) = M (pq q' o) := fun o ho ho' => by
    rw [hM1, up2_ne, up2_ne, up2_ne] <;> (unfold pq; omega)
  have r2 : ∀ o, 0 < o → o < 23 → M2 (pq q' o) = M (pq q' o) := fun o ho ho' => by
    rw [hM2, setR_other, setR_other, setR_other, setR_other, setR_other, setR_other, r1 o ho ho'] <;> (unfold pq; omega)
  obtain ⟨M3, e3, f3⟩ := copyL_ok hq hq' h 8 0 5000 M2 (by omega) (by omega)
  have r3 : ∀ o, 0 < o → o < 23 → M3 (pq q' o) = M (pq q' o) := fun o ho ho' => by
    funext j
    rw [f3, if_neg, r2 o ho ho']
    unfold pq
    omega
  unfold fX6_copyFrom
  rw [if_pos (by rw [shp_pq hq (by omega)]; rfl)]
  simp (disch := first | omega | assumption | decide | (simp only [pq, st, ne_eq]; omega)) only [gI, pI, shp_pq, shP, if_true, ob_some, up2_ne]
  rw [← hM1]
  refine ob_in (gR_ok (x := pq q' 1) (by rw [shp_pq hq' (by omega)]; rfl) (rf_pq0 (by omega))) ?_
  refine ob_in (gR_ok (x := pq q 1) (by rw [shp_pq hq (by omega)]; rfl) (rf_pq0 (by omega))) ?_
  refine ob_in (copyP_ok (o := 1) (n := 12) hq hq' h (by omega) rfl rfl (by omega)) ?_
  refine ob_in (gR_ok (x := pq q' 2) (by rw [shp_pq hq' (by omega)]; rfl) (rf_pq0 (by omega))) ?_
  refine ob_in (gR_ok (x := pq q 2) (by rw [shp_pq hq (by omega)]; rfl) (rf_pq0 (by omega))) ?_
  refine ob_in (copyP_ok (o := 2) (n := 12) hq hq' h (by omega) rfl rfl (by omega)) ?_
  refine ob_in (gR_ok (x := pq q' 3) (by rw [shp_pq hq' (by omega)]; rfl) (rf_pq0 (by omega))) ?_
  refine ob_in (gR_ok (x := pq q 3) (by rw [shp_pq hq (by omega)]; rfl) (rf_pq0 (by omega))) ?_
  refine ob_in (copyP_ok (o := 3) (n := 12) hq hq' h (by omega) rfl rfl (by omega)) ?_
  refine ob_in (gR_ok (x := pq q' 4) (by rw [shp_pq hq' (by omega)]; rfl) (rf_pq0 (by omega))) ?_
  refine ob_in (gR_ok (x := pq q 4) (by rw [shp_pq hq (by omega)]; rfl) (rf_pq0 (by omega))) ?_
  refine ob_in (copyP_ok (o := 4) (n := 12) hq hq' h (by omega) rfl rfl (by omega)) ?_
  refine ob_in (gR_ok (x := pq q' 5) (by rw [shp_pq hq' (by omega)]; rfl) (rf_pq0 (by omega))) ?_
  refine ob_in (gR_ok (x := pq q 5) (by rw [shp_pq hq (by omega)]; rfl) (rf_pq0 (by omega))) ?_
  refine ob_in (copyP_ok (o := 5) (n := 12) hq hq' h (by omega) rfl rfl (by omega)) ?_
  refine ob_in (gR_ok (x := pq q' 6) (by rw [shp_pq hq' (by omega)]; rfl) (rf_pq0 (by omega))) ?_
  refine ob_in (gR_ok (x := pq q 6) (by rw [shp_pq hq (by omega)]; rfl) (rf_pq0 (by omega))) ?_
  refine ob_in (copyP_ok (o := 6) (n := 8) hq hq' h (by omega) rfl rfl (by omega)) ?_
  simp (disch := first | omega | assumption | decide | (simp only [pq, st, ne_eq]; omega)) only [setR_other, r1]
  rw [← hM2]
  refine ob_in e3 ?_
  refine ob_in (gR_ok (x := pq q 16) (by rw [shp_pq hq (by omega)]; rfl) (rf_pq0 (by omega))) ?_
  refine ob_in (gR_ok (x := pq q' 16) (by rw [shp_pq hq' (by omega)]; rfl) (rf_pq0 (by omega))) ?_
  refine ob_in (fadeCopy_ok hq hq' h) ?_
  refine ob_in (gR_ok (x := pq q 19) (by rw [shp_pq hq (by omega)]; rfl) (rf_pq0 (by omega))) ?_
  refine ob_in (gR_ok (x := pq q' 19) (by rw [shp_pq hq' (by omega)]; rfl) (rf_pq0 (by omega))) ?_
  refine ob_in (brkD_ok hq hq' h) ?_
  refine ob_in (gR_ok (x := pq q 21) (by rw [shp_pq hq (by omega)]; rfl) (rf_pq0 (by omega))) ?_
  refine ob_in (gR_ok (x := pq q' 21) (by rw [shp_pq hq' (by omega)]; rfl) (rf_pq0 (by omega))) ?_
  refine ob_in (brkP_ok hq hq' h) ?_
  congr 1
  simp (disch := first | omega | assumption | decide | (simp only [pq, st, ne_eq]; omega)) only [setR_other, up2_ne, r3]
  funext x j
  rcases pq_cases q x with ⟨o, ho, rfl⟩ | hne
  · rw [cpP_at ho]
    have e16 : pq q o - 23 * q + 23 * q' = pq q' o := by unfold pq; omega
    have g3 : M3 (pq q o) j = if 8 ≤ o ∧ o < 16 ∧ j < 12 then M (pq q' o) j else M2 (pq q o) j := by
      rw [f3]
      by_cases hc : 8 ≤ o ∧ o < 16 ∧ j < 12
      · rw [if_pos hc, if_pos (by unfold pq; omega), e16, r2 o (by omega) (by omega)]
      · rw [if_neg hc, if_neg (by unfold pq; omega)]
    rcases (show o = 0 ∨ o = 1 ∨ o = 2 ∨ o = 3 ∨ o = 4 ∨ o = 5 ∨ o = 6 ∨ o = 7 ∨ (8 ≤ o ∧ o < 16) ∨ o = 16 ∨ o = 17 ∨ o = 18 ∨ o = 19 ∨ o = 20 ∨ o = 21 ∨ o = 22 by omega) with rfl | rfl | rfl | rfl | rfl | rfl | rfl | rfl | h8 | rfl | rfl | rfl | rfl | rfl | rfl | rfl
    case inr.inr.inr.inr.inr.inr.inr.inr.inl =>
      have hv : valP o j = decide (j < 12) := by
        rcases (show o = 8 ∨ o = 9 ∨ o = 10 ∨ o = 11 ∨ o = 12 ∨ o = 13 ∨ o = 14 ∨ o = 15 by omega) with rfl | rfl | rfl | rfl | rfl | rfl | rfl | rfl <;> rfl
      rw [setR_other, up2_ne, setR_other, up2_ne, setR_other, setR_other, up2_ne, up2_ne, g3, hv] <;> try (unfold pq; omega)
      by_cases hj : j < 12
      · simp [hj, h8]
      · simp only [hj, and_false, if_false, decide_false, Bool.false_eq_true]
        rw [hM2, setR_other, setR_other, setR_other, setR_other, setR_other, setR_other, hM1, up2_ne, up2_ne, up2_ne] <;> (unfold pq; omega)
    all_goals
      simp (disch := first | omega | assumption | decide | (simp only [pq, st, ne_eq]; omega)) only [up2_same, setR_same, up2_ne, setR_other, g3, hM2, hM1]
    all_goals simp only [valP, Nat.zero_le, true_and, decide_eq_true_eq, Bool.false_eq_true, if_false, Nat.reduceLeDiff, false_and, Nat.reduceLT]
    all_goals try (rcases j with _ | _ | _ | j <;> simp <;> done)
    all_goals try (by_cases hj : j = 1 <;> simp [hj] <;> done)
    all_goals (rcases (show j = 0 ∨ j = 1 ∨ j = 2 ∨ 3 ≤ j by omega) with rfl | rfl | rfl | hj <;> first | (simp; done) | (simp [show ¬ j = 0 by omega, show ¬ j = 1 by omega, show ¬ j = 2 by omega, show ¬ j < 3 by omega, show ¬ j < 2 by omega]; done))
  · rw [cpP_ne hne, setR_other, up2_ne, setR_other, up2_ne, setR_other, setR_other, up2_ne, up2_ne] <;> try exact hne _ (by omega)
    rw [f3, if_neg]
    · rw [hM2, setR_other, setR_other, setR_other, setR_other, setR_other, setR_other, hM1, up2_ne, up2_ne, up2_ne] <;> exact hne _ (by omega)
    · rintro ⟨z1, z2, z3⟩
      exact hne (x - (97 + 23 * q)) (by unfold pq at z1 z2; omega) (by unfold pq at z1 z2 ⊢; omega)
/-- which entries of a state's own cells are numbers -/
def valT (o j : Nat) : Bool := match o with
  | 1 => decide (j < 3)
  | 2 => decide (j = 0)
  | 3 => decide (j < 6)
  | 4 => decide (j < 6)
  | 5 => decide (j < 6)
  | _ => false
/-- the premieres from p = k on of the state b' to those of the state b -/
def cpQ (M : Mem) (b b' k : Nat) : Mem := fun x j => if 97 + 69 * b + 23 * k ≤ x ∧ x < 97 + 69 * b + 69 ∧ valP ((x - (97 + 69 * b)) % 23) j = true then M (x - (97 + 69 * b) + (97 + 69 * b')) j else M x j
def cpS (M : Mem) (b b' : Nat) : Mem := fun x j => if 34 + 7 * b ≤ x ∧ x < 34 + 7 * b + 7 ∧ valT (x - (34 + 7 * b)) j = true then M (x - (34 + 7 * b) + (34 + 7 * b')) j else cpQ M b b' 0 x j
theorem cpQ_at {M : Mem} {b b' k p o j : Nat} (hp : p < 3) (ho : o < 23) : cpQ M b b' k (pq (3 * b + p) o) j = if k ≤ p ∧ valP o j = true then M (pq (3 * b' + p) o) j else M (pq (3 * b + p) o) j := by
  unfold cpQ
  have e1 : (pq (3 * b + p) o - (97 + 69 * b)) % 23 = o := by unfold pq; omega
  have e2 : pq (3 * b + p) o - (97 + 69 * b) + (97 + 69 * b') = pq (3 * b' + p) o := by unfold pq; omega
  rw [e1, e2]
  by_cases h : k ≤ p ∧ valP o j = true
  · rw [if_pos h, if_pos ⟨by unfold pq; omega, by unfold pq; omega, h.2⟩]
  · rw [if_neg h, if_neg (fun z => h ⟨by have := z.1; unfold pq at this; omega, z.2.2⟩)]
theorem cpQ_ne {M : Mem} {b b' k x : Nat} (h : ∀ p o, p < 3 → o < 23 → x ≠ pq (3 * b + p) o) : cpQ M b b' k x = M x := by
  funext j
  unfold cpQ
  rw [if_neg]
  rintro ⟨h1, h2, -⟩
  exact h ((x - (97 + 69 * b)) / 23) ((x - (97 + 69 * b)) % 23) (by omega) (by omega) (by unfold pq; omega)
theorem pqs_cases (b x : Nat) : (∃ p o, p < 3 ∧ o < 23 ∧ x = pq (3 * b + p) o) ∨ ∀ p o, p < 3 → o < 23 → x ≠ pq (3 * b + p) o := by
  by_cases h : 97 + 69 * b ≤ x ∧ x < 97 + 69 * b + 69
  · exact Or.inl ⟨(x - (97 + 69 * b)) / 23, (x - (97 + 69 * b)) % 23, by omega, by omega, by unfold pq; omega⟩
  · exact Or.inr (fun p o hp ho => by unfold pq; omega)
theorem cpS_st {M : Mem} {b b' o j : Nat} (hb : b < 9) (ho : o < 7) : cpS M b b' (st b o) j = if valT o j = true then M (st b' o) j else M (st b o) j := by
  unfold cpS
  have e1 : st b o - (34 + 7 * b) = o := by unfold st; omega
  have e2 : o + (34 + 7 * b') = st b' o := by unfold st; omega
  rw [e1, e2]
  by_cases h : valT o j = true
  · rw [if_pos h, if_pos ⟨by unfold st; omega, by unfold st; omega, h⟩]
  · rw [if_neg h, if_neg (fun z => h z.2.2), cpQ_ne (fun p o' _ _ => by unfold st pq; omega)]
theorem cpS_pq {M : Mem} {b b' p o j : Nat} (hb : b < 9) (hp : p < 3) (ho : o < 23) : cpS M b b' (pq (3 * b + p) o) j = if valP o j = true then M (pq (3 * b' + p) o) j else M (pq (3 * b + p) o) j := by
  unfold cpS
  rw [if_neg (by unfold pq; omega), cpQ_at hp ho]
  by_cases h : valP o j = true
  · rw [if_pos ⟨Nat.zero_le _, h⟩, if_pos h]
  · rw [if_neg (fun z => h z.2), if_neg h]
theorem cpS_ne {M : Mem} {b b' x : Nat} (h1 : ∀ o, o < 7 → x ≠ st b o) (h2 : ∀ p o, p < 3 → o < 23 → x ≠ pq (3 * b + p) o) : cpS M b b' x = M x := by
  funext j
  unfold cpS
  rw [if_neg, cpQ_ne h2]
  rintro ⟨z1, z2, -⟩
  exact h1 (x - (34 + 7 * b)) (by omega) (by unfold st; omega)
theorem sL_ok {b b' : Nat} (hb : b < 9) (hb' : b' < 9) (h : b' ≠ b) : ∀ (d k F : Nat) (M : Mem), k + d = 3 → d < F → fX7_copyFrom_L24 F M (st b 0) (st b' 0) (nI k) = some (cpQ M b b' k) := by
  intro d
  induction d with
  | zero =>
    intro k F M hk hF
    obtain ⟨F, rfl⟩ : ∃ F', F = F' + 1 := ⟨F - 1, by omega⟩
    rw [fX7_copyFrom_L24]
    refine ob_in (gR_ok (x := st b 6) (by rw [shp_st hb (by omega)]; rfl) (rf_st02 hb)) ?_
    refine ob_in (aN_ok (n := 3) (by rw [shp_st hb (by omega)]; rfl) (by rw [ln_st hb (by omega)]; rfl)) ?_
    rw [if_pos ((nI_leE (by omega) (by omega)).mpr (by omega))]
    congr 1
    funext x j
    unfold cpQ
    rw [if_neg (by omega)]
  | succ d ih =>
    intro k F M hk hF
    obtain ⟨F, rfl⟩ : ∃ F', F = F' + 1 := ⟨F - 1, by omega⟩
    rw [fX7_copyFrom_L24]
    refine ob_in (gR_ok (x := st b 6) (by rw [shp_st hb (by omega)]; rfl) (rf_st02 hb)) ?_
    refine ob_in (aN_ok (n := 3) (by rw [shp_st hb (by omega)]; rfl) (by rw [ln_st hb (by omega)]; rfl)) ?_
    rw [if_neg (fun h => by have := (nI_leE (by omega) (by omega)).mp h; omega)]
    refine ob_in (gR_ok (x := st b' 6) (by rw [shp_st hb' (by omega)]; rfl) (rf_st02 hb')) ?_
    refine ob_in (aN_ok (n := 3) (by rw [shp_st hb' (by omega)]; rfl) (by rw [ln_st hb' (by omega)]; rfl)) ?_
    rw [if_neg (fun h => by have := (nI_leE (by omega) (by omega)).mp h; omega)]
    refine ob_in (gR_ok (x := st b 6) (by rw [shp_st hb (by omega)]; rfl) (rf_st02 hb)) ?_
    refine ob_in (aR_ok (n := 3) (by rw [shp_st hb (by omega)]; rfl) (by rw [ln_st hb (by omega)]; rfl) (by omega) (by omega) (rf_st6 hb)) ?_
    refine ob_in (gR_ok (x := st b' 6) (by rw [shp_st hb' (by omega)]; rfl) (rf_st02 hb')) ?_
    refine ob_in (aR_ok (n := 3) (by rw [shp_st hb' (by omega)]; rfl) (by rw [ln_st hb' (by omega)]; rfl) (by omega) (by omega) (rf_st6 hb')) ?_
    refine ob_in (premCopy_ok (by omega) (by omega) (by omega)) ?_
    rw [li1, nI_addE, ih (k + 1) F _ (by omega) (by omega)]
    congr 1
    funext x j
    rcases pqs_cases b x with ⟨p, o, hp, ho, rfl⟩ | hne
    · rw [cpQ_at hp ho, cpQ_at hp ho]
      by_cases hpk : p = k
      · subst hpk
        rw [if_neg (by omega), cpP_at ho]
        by_cases hv : valP o j = true
        · rw [if_pos hv, if_pos ⟨Nat.le_refl _, hv⟩]
        · rw [if_neg hv, if_neg (fun z => hv z.2)]
      · have e1 : ∀ b1, cpP M (3 * b + k) (3 * b' + k) (pq (3 * b1 + p) o) j = M (pq (3 * b1 + p) o) j := fun b1 => by
          rw [cpP_ne]
          intro o' ho' z
          rw [pq_eq ho ho'] at z
          omega
        rw [e1, e1]
        by_cases hv : k ≤ p ∧ valP o j = true
        · rw [if_pos hv, if_pos ⟨by omega, hv.2⟩]
        · rw [if_neg hv, if_neg (fun z => hv ⟨by omega, z.2⟩)]
    · rw [cpQ_ne hne, cpQ_ne hne, cpP_ne (fun o ho => hne k o (by omega) ho)]
theorem typesCopy_ok {b b' : Nat} {M : Mem} (hb : b < 9) (hb' : b' < 9) (h : b' ≠ b) : fX9_copyFrom M (st b 2) (st b' 2) = some (setR (setR (setR (up2 M (st b 2) 0 (M (st b' 2) 0)) (st b 3) 0 6 (M (st b' 3))) (st b 4) 0 6 (M (st b' 4))) (st b 5) 0 6 (M (st b' 5))) := by
  have cp : ∀ (o : Nat) (M : Mem), 3 ≤ o → o < 6 → fX11_copy M (st b' o) (st b o) = some (setR M (st b o) 0 6 (M (st b' o))) := fun o M h3 h6 => by
    rcases (show o = 3 ∨ o = 4 ∨ o = 5 by omega) with rfl | rfl | rfl <;>
      exact copy_ok (by rw [shp_st hb' (by omega)]; rfl) (by rw [ln_st hb' (by omega)]; rfl) (by rw [shp_st hb (by omega)]; rfl) (by rw [ln_st hb (by omega)]; rfl) (by unfold st; omega) (by omega)
  simp (disch := first | omega | assumption | decide | (simp only [pq, st, ne_eq]; omega)) only [fX9_copyFrom, gI, pI, gR, aL, aS, aN, aR, shp_pq, shp_st, ln_pq, ln_st, shP, shT, lnP, lnT, rP, rf_pq16a, rf_pq16b, rf_pq19, rf_pq21, rf_pq0, rf_pq7, rf_st00, rf_st01, rf_st02, rf_st21, rf_st22, rf_st23, rf_st6, ob_some, ob2_some, oob_nI, nI_cl, if_true, if_false, and_true, true_and, and_self, false_and, and_false, cp, up2_ne, setR_other]
theorem stateCopy_ok {b b' : Nat} {M : Mem} (hb : b < 9) (hb' : b' < 9) (h : b' ≠ b) : fX7_copyFrom M (st b 0) (st b' 0) = some (cpS M b b') := by
  unfold fX7_copyFrom
  rw [if_pos (by rw [shp_st hb (by omega)]; rfl)]
  refine ob_in (gR_ok (x := st b' 1) (by rw [shp_st hb' (by omega)]; rfl) (rf_st00 hb')) ?_
  refine ob_in (gR_ok (x := st b 1) (by rw [shp_st hb (by omega)]; rfl) (rf_st00 hb)) ?_
  refine ob_in (copy_ok (n := 3) (by rw [shp_st hb' (by omega)]; rfl) (by rw [ln_st hb' (by omega)]; rfl) (by rw [shp_st hb (by omega)]; rfl) (by rw [ln_st hb (by omega)]; rfl) (by unfold st; omega) (by omega)) ?_
  refine ob_in (gR_ok (x := st b 2) (by rw [shp_st hb (by omega)]; rfl) (rf_st01 hb)) ?_
  refine ob_in (gR_ok (x := st b' 2) (by rw [shp_st hb' (by omega)]; rfl) (rf_st01 hb')) ?_
  refine ob_in (typesCopy_ok hb hb' h) ?_
  refine ob_in (sL_ok hb hb' h 3 0 5000 _ (by omega) (by omega)) ?_
  congr 1
  simp (disch := first | omega | assumption | decide | (simp only [pq, st, ne_eq]; omega)) only [setR_other]
  obtain ⟨M1, hM1⟩ : ∃ M1, M1 = setR (setR (setR (up2 (setR M (st b 1) 0 3 (M (st b' 1))) (st b 2) 0 (M (st b' 2) 0)) (st b 3) 0 6 (M (st b' 3))) (st b 4) 0 6 (M (st b' 4))) (st b 5) 0 6 (M (st b' 5)) := ⟨_, rfl⟩
  rw [← hM1]
  have hpq : ∀ (b1 p o : Nat), M1 (pq (3 * b1 + p) o) = M (pq (3 * b1 + p) o) := fun b1 p o => by
    rw [hM1]
    simp (disch := first | omega | assumption | decide | (simp only [pq, st, ne_eq]; omega)) only [up2_same, setR_same, up2_ne, setR_other]
  funext x j
  rcases pqs_cases b x with ⟨p, o, hp, ho, rfl⟩ | hne
  · rw [cpQ_at hp ho, cpS_pq hb hp ho, hpq, hpq]
    by_cases hv : valP o j = true
    · rw [if_pos hv, if_pos ⟨Nat.zero_le _, hv⟩]
    · rw [if_neg hv, if_neg (fun z => hv z.2)]
  · rw [cpQ_ne hne]
    by_cases hs : 34 + 7 * b ≤ x ∧ x < 34 + 7 * b + 7
    · obtain ⟨o, ho, rfl⟩ : ∃ o, o < 7 ∧ x = st b o := ⟨x - (34 + 7 * b), by omega, by unfold st; omega⟩
      rw [cpS_st hb ho, hM1]
      rcases (show o = 0 ∨ o = 1 ∨ o = 2 ∨ o = 3 ∨ o = 4 ∨ o = 5 ∨ o = 6 by omega) with rfl | rfl | rfl | rfl | rfl | rfl | rfl <;> simp (disch := first | omega | assumption | decide | (simp only [pq, st, ne_eq]; omega)) only [up2_same, setR_same, up2_ne, setR_other] <;> simp [valT]
      all_goals (by_cases hj : j = 0 <;> simp [hj])
    · rw [cpS_ne (fun o ho => by unfold st; omega) hne, hM1]
      have h0 : ∀ o, o < 7 → x ≠ st b o := fun o ho => by unfold st; omega
      rw [setR_other, setR_other, setR_other, up2_ne, setR_other] <;> exact h0 _ (by omega)
