/-! written numbers -/
theorem li0 : (0 : Int32) = nI 0 := rfl
theorem li1 : (1 : Int32) = nI 1 := rfl
theorem li2 : (2 : Int32) = nI 2 := rfl
theorem li3 : (3 : Int32) = nI 3 := rfl
theorem li4 : (4 : Int32) = nI 4 := rfl
theorem li5 : (5 : Int32) = nI 5 := rfl
theorem li6 : (6 : Int32) = nI 6 := rfl
theorem li7 : (7 : Int32) = nI 7 := rfl
theorem li8 : (8 : Int32) = nI 8 := rfl
theorem li9 : (9 : Int32) = nI 9 := rfl
theorem li10 : (10 : Int32) = nI 10 := rfl
theorem li11 : (11 : Int32) = nI 11 := rfl
theorem li12 : (12 : Int32) = nI 12 := rfl
theorem li13 : (13 : Int32) = nI 13 := rfl
theorem li14 : (14 : Int32) = nI 14 := rfl
theorem li15 : (15 : Int32) = nI 15 := rfl
theorem li16 : (16 : Int32) = nI 16 := rfl
theorem li17 : (17 : Int32) = nI 17 := rfl
theorem li18 : (18 : Int32) = nI 18 := rfl
theorem li19 : (19 : Int32) = nI 19 := rfl
theorem li20 : (20 : Int32) = nI 20 := rfl
theorem li21 : (21 : Int32) = nI 21 := rfl
theorem li22 : (22 : Int32) = nI 22 := rfl
theorem li23 : (23 : Int32) = nI 23 := rfl
theorem li24 : (24 : Int32) = nI 24 := rfl
theorem li25 : (25 : Int32) = nI 25 := rfl
theorem li26 : (26 : Int32) = nI 26 := rfl
theorem li27 : (27 : Int32) = nI 27 := rfl
theorem li28 : (28 : Int32) = nI 28 := rfl
theorem li29 : (29 : Int32) = nI 29 := rfl
theorem li30 : (30 : Int32) = nI 30 := rfl
theorem li31 : (31 : Int32) = nI 31 := rfl
theorem li32 : (32 : Int32) = nI 32 := rfl
theorem li33 : (33 : Int32) = nI 33 := rfl
theorem li34 : (34 : Int32) = nI 34 := rfl
theorem li35 : (35 : Int32) = nI 35 := rfl
theorem li36 : (36 : Int32) = nI 36 := rfl
theorem li37 : (37 : Int32) = nI 37 := rfl
theorem li38 : (38 : Int32) = nI 38 := rfl
theorem li39 : (39 : Int32) = nI 39 := rfl
theorem li40 : (40 : Int32) = nI 40 := rfl
theorem li41 : (41 : Int32) = nI 41 := rfl
theorem li42 : (42 : Int32) = nI 42 := rfl
theorem li43 : (43 : Int32) = nI 43 := rfl
theorem li44 : (44 : Int32) = nI 44 := rfl
theorem li45 : (45 : Int32) = nI 45 := rfl
theorem li46 : (46 : Int32) = nI 46 := rfl
theorem li47 : (47 : Int32) = nI 47 := rfl
theorem li48 : (48 : Int32) = nI 48 := rfl
theorem li49 : (49 : Int32) = nI 49 := rfl
theorem li50 : (50 : Int32) = nI 50 := rfl
theorem li51 : (51 : Int32) = nI 51 := rfl
theorem li52 : (52 : Int32) = nI 52 := rfl
theorem li53 : (53 : Int32) = nI 53 := rfl
theorem li54 : (54 : Int32) = nI 54 := rfl
theorem li55 : (55 : Int32) = nI 55 := rfl
theorem li56 : (56 : Int32) = nI 56 := rfl
theorem li57 : (57 : Int32) = nI 57 := rfl
theorem li58 : (58 : Int32) = nI 58 := rfl
theorem li59 : (59 : Int32) = nI 59 := rfl
theorem li60 : (60 : Int32) = nI 60 := rfl
theorem li61 : (61 : Int32) = nI 61 := rfl
theorem li62 : (62 : Int32) = nI 62 := rfl
theorem li63 : (63 : Int32) = nI 63 := rfl
theorem li64 : (64 : Int32) = nI 64 := rfl
theorem li75 : (75 : Int32) = nI 75 := rfl
theorem li87 : (87 : Int32) = nI 87 := rfl
theorem li91 : (91 : Int32) = nI 91 := rfl
theorem li97 : (97 : Int32) = nI 97 := rfl
theorem li98 : (98 : Int32) = nI 98 := rfl
theorem li99 : (99 : Int32) = nI 99 := rfl
theorem li100 : (100 : Int32) = nI 100 := rfl
theorem li101 : (101 : Int32) = nI 101 := rfl
theorem li102 : (102 : Int32) = nI 102 := rfl
theorem li103 : (103 : Int32) = nI 103 := rfl
theorem li104 : (104 : Int32) = nI 104 := rfl
theorem li105 : (105 : Int32) = nI 105 := rfl
theorem li110 : (110 : Int32) = nI 110 := rfl
theorem li114 : (114 : Int32) = nI 114 := rfl
theorem li117 : (117 : Int32) = nI 117 := rfl
theorem li120 : (120 : Int32) = nI 120 := rfl
theorem li126 : (126 : Int32) = nI 126 := rfl
theorem li223 : (223 : Int32) = nI 223 := rfl
theorem li221 : (221 : Int32) = nI 221 := rfl
theorem li222 : (222 : Int32) = nI 222 := rfl
theorem li255 : (255 : Int32) = nI 255 := rfl
theorem li500 : (500 : Int32) = nI 500 := rfl
theorem li1000 : (1000 : Int32) = nI 1000 := rfl
theorem li2000 : (2000 : Int32) = nI 2000 := rfl
theorem li2400 : (2400 : Int32) = nI 2400 := rfl
theorem li691 : (691 : Int32) = nI 691 := rfl
theorem li1382 : (1382 : Int32) = nI 1382 := rfl
theorem li3455 : (3455 : Int32) = nI 3455 := rfl
theorem li4146 : (4146 : Int32) = nI 4146 := rfl
theorem li6000 : (6000 : Int32) = nI 6000 := rfl
theorem li7000 : (7000 : Int32) = nI 7000 := rfl
theorem li20000 : (20000 : Int32) = nI 20000 := rfl
theorem li2147483647 : (2147483647 : Int32) = nI 2147483647 := rfl
/-! copies of blocks -/
theorem ob_some {α β : Type} (v : α) (f : α → Option β) : (some v).bind f = f v := rfl
theorem ob2_some {α β γ : Type} (a : α) (b : β) (f : α → β → Option γ) : ob2 (some (a, b)) f = f a b := rfl
theorem setR_ap (M : Mem) (b k m x j : Nat) (f : Nat → Int32) : setR M b k m f x j = if x = b ∧ k ≤ j ∧ j < m then f j else M x j := rfl
theorem setR_same (M : Mem) (b k m j : Nat) (f : Nat → Int32) : setR M b k m f b j = if k ≤ j ∧ j < m then f j else M b j := by
  rw [setR_ap]
  by_cases h : k ≤ j ∧ j < m
  · rw [if_pos ⟨rfl, h⟩, if_pos h]
  · rw [if_neg (fun z => h z.2), if_neg h]
theorem up2_same (M : Mem) (i k j : Nat) (v : Int32) : up2 M i k v i j = if j = k then v else M i j := by
  rw [up2_ap, if_pos rfl]
/-- which entries of a premiere's cells are numbers -/
def valP (o j : Nat) : Bool := match o with
  | 0 => decide (j < 3)
  | 6 => decide (j < 8)
  | 7 => false
  | 16 => decide (j < 2)
  | 19 => decide (j = 1)
  | 21 => decide (j = 1)
  | 22 => decide (j < 3)
  | _ => decide (j < 12)
def cpP (M : Mem) (q q' : Nat) : Mem := fun x j => if 97 + 23 * q ≤ x ∧ x < 97 + 23 * q + 23 ∧ valP (x - (97 + 23 * q)) j = true then M (x - (97 + 23 * q) + (97 + 23 * q')) j else M x j
theorem cpP_at {M : Mem} {q q' o j : Nat} (ho : o < 23) : cpP M q q' (pq q o) j = if valP o j = true then M (pq q' o) j else M (pq q o) j := by
  unfold cpP
  have e1 : pq q o - (97 + 23 * q) = o := by unfold pq; omega
  have e2 : o + (97 + 23 * q') = pq q' o := by unfold pq; omega
  rw [e1, e2]
  by_cases h : valP o j = true
  · rw [if_pos h, if_pos ⟨by unfold pq; omega, by unfold pq; omega, h⟩]
  · rw [if_neg h, if_neg (fun z => h z.2.2)]
theorem cpP_ne {M : Mem} {q q' x : Nat} (h : ∀ o, o < 23 → x ≠ pq q o) : cpP M q q' x = M x := by
  funext j
  unfold cpP
  rw [if_neg]
  rintro ⟨h1, h2, -⟩
  exact h (x - (97 + 23 * q)) (by omega) (by unfold pq; omega)
theorem pq_cases (q x : Nat) : (∃ o, o < 23 ∧ x = pq q o) ∨ ∀ o, o < 23 → x ≠ pq q o := by
  by_cases h : 97 + 23 * q ≤ x ∧ x < 97 + 23 * q + 23
  · exact Or.inl ⟨x - (97 + 23 * q), by omega, by unfold pq; omega⟩
  · exact Or.inr (fun o ho => by unfold pq; omega)
theorem copyP_ok {q q' o n : Nat} {M : Mem} (hq : q < 28) (hq' : q' < 28) (h : q' ≠ q) (ho : o < 23) (hs : shP o = 20) (hl : lnP o = n) (hn : n < 5000) : fX11_copy M (pq q' o) (pq q o) = some (setR M (pq q o) 0 n (M (pq q' o))) :=
  copy_ok (by rw [shp_pq hq' ho]; exact hs) (by rw [ln_pq hq' ho]; exact hl) (by rw [shp_pq hq ho]; exact hs) (by rw [ln_pq hq ho]; exact hl) (by intro z; rw [pq_eq ho ho] at z; exact h z.1) hn
theorem shP_c {c : Nat} (h : c < 8) : shP (8 + c) = 20 ∧ lnP (8 + c) = 12 := by
  rcases (show c = 0 ∨ c = 1 ∨ c = 2 ∨ c = 3 ∨ c = 4 ∨ c = 5 ∨ c = 6 ∨ c = 7 by omega) with rfl | rfl | rfl | rfl | rfl | rfl | rfl | rfl <;> exact ⟨rfl, rfl⟩
theorem copyL_ok {q q' : Nat} (hq : q < 28) (hq' : q' < 28) (h : q' ≠ q) : ∀ (d k F : Nat) (M : Mem), k + d = 8 → d < F → ∃ M', fX6_copyFrom_L92 F M (pq q 0) (pq q' 0) (nI k) = some M' ∧ ∀ x j, M' x j = if pq q (8 + k) ≤ x ∧ x < pq q 16 ∧ j < 12 then M (x - 23 * q + 23 * q') j else M x j := by
  intro d
  induction d with
  | zero =>
    intro k F M hk hF
    obtain ⟨F, rfl⟩ : ∃ F', F = F' + 1 := ⟨F - 1, by omega⟩
    refine ⟨M, ?_, fun x j => ?_⟩
    · rw [fX6_copyFrom_L92, li8, if_pos ((nI_leE (by omega) (by omega)).mpr (by omega))]
    · rw [if_neg]
      unfold pq
      omega
  | succ d ih =>
    intro k F M hk hF
    obtain ⟨F, rfl⟩ : ∃ F', F = F' + 1 := ⟨F - 1, by omega⟩
    obtain ⟨M', e1, e2⟩ := ih (k + 1) F (setR M (pq q (8 + k)) 0 12 (M (pq q' (8 + k)))) (by omega) (by omega)
    refine ⟨M', ?_, fun x j => ?_⟩
    · rw [fX6_copyFrom_L92, li8, if_neg (fun h => by have := (nI_leE (by omega) (by omega)).mp h; omega)]
      refine ob_in (gR_ok (x := pq q' 7) (by rw [shp_pq hq' (by omega)]; rfl) (rf_pq0 (by omega))) ?_
      refine ob_in (aR_ok (n := 8) (by rw [shp_pq hq' (by omega)]; rfl) (by rw [ln_pq hq' (by omega)]; rfl) (by omega) (by omega) rf_pq7) ?_
      refine ob_in (gR_ok (x := pq q 7) (by rw [shp_pq hq (by omega)]; rfl) (rf_pq0 (by omega))) ?_
      refine ob_in (aR_ok (n := 8) (by rw [shp_pq hq (by omega)]; rfl) (by rw [ln_pq hq (by omega)]; rfl) (by omega) (by omega) rf_pq7) ?_
      refine ob_in (copyP_ok hq hq' h (by omega) (shP_c (by omega)).1 (shP_c (by omega)).2 (by omega)) ?_
      rw [li1, nI_addE]
      exact e1
    · rw [e2]
      by_cases h0 : x = pq q (8 + k)
      · subst h0
        rw [if_neg (by unfold pq; omega), setR_ap]
        have e3 : pq q (8 + k) - 23 * q + 23 * q' = pq q' (8 + k) := by unfold pq; omega
        rw [e3]
        by_cases h4 : j < 12
        · rw [if_pos ⟨rfl, by omega, h4⟩, if_pos ⟨Nat.le_refl _, by unfold pq; omega, h4⟩]
        · rw [if_neg (fun z => h4 z.2.2), if_neg (fun z => h4 z.2.2)]
      · by_cases h1 : pq q (8 + k) ≤ x ∧ x < pq q 16 ∧ j < 12
        · rw [if_pos h1, if_pos (by unfold pq at h0 h1 ⊢; omega), setR_other]
          unfold pq at h1 ⊢
          omega
        · rw [if_neg h1, if_neg (by unfold pq at h0 h1 ⊢; omega), setR_other h0]
theorem fadeCopy_ok {q q' : Nat} {M : Mem} (hq : q < 28) (hq' : q' < 28) (h : q' ≠ q) : fX1_copyFrom M (pq q 16) (pq q' 16) = some (setR (setR (up2 (up2 M (pq q 16) 0 (M (pq q' 16) 0)) (pq q 16) 1 (M (pq q' 16) 1)) (pq q 17) 0 12 (M (pq q' 17))) (pq q 18) 0 12 (M (pq q' 18))) := by
  simp (disch := first | omega | assumption | decide | (simp only [pq, st, ne_eq]; omega)) only [fX1_copyFrom, gI, pI, gR, aL, aS, aN, aR, shp_pq, shp_st, ln_pq, ln_st, shP, shT, lnP, lnT, rP, rf_pq16a, rf_pq16b, rf_pq19, rf_pq21, rf_pq0, rf_pq7, rf_st00, rf_st01, rf_st02, rf_st21, rf_st22, rf_st23, rf_st6, ob_some, ob2_some, oob_nI, nI_cl, if_true, if_false, and_true, true_and, and_self, false_and, and_false, up2_same, setR_same, up2_ne, setR_other, h, copyP_ok (q := q) (q' := q') (o := 17) (n := 12), copyP_ok (q := q) (q' := q') (o := 18) (n := 12), up2_ne, setR_other, ne_eq, not_false_eq_true]
theorem brkD_ok {q q' : Nat} {M : Mem} (hq : q < 28) (hq' : q' < 28) (h : q' ≠ q) : fX0_copyFrom M (pq q 19) (pq q' 19) = some (setR (up2 M (pq q 19) 1 (M (pq q' 19) 1)) (pq q 20) 0 12 (M (pq q' 20))) := by
  simp (disch := first | omega | assumption | decide | (simp only [pq, st, ne_eq]; omega)) only [fX0_copyFrom, gI, pI, gR, aL, aS, aN, aR, shp_pq, shp_st, ln_pq, ln_st, shP, shT, lnP, lnT, rP, rf_pq16a, rf_pq16b, rf_pq19, rf_pq21, rf_pq0, rf_pq7, rf_st00, rf_st01, rf_st02, rf_st21, rf_st22, rf_st23, rf_st6, ob_some, ob2_some, oob_nI, nI_cl, if_true, if_false, and_true, true_and, and_self, false_and, and_false, up2_same, setR_same, up2_ne, setR_other, h, copyP_ok (q := q) (q' := q') (o := 20) (n := 12), up2_ne, setR_other, ne_eq, not_false_eq_true]
theorem brkP_ok {q q' : Nat} {M : Mem} (hq : q < 28) (hq' : q' < 28) (h : q' ≠ q) : fX0_copyFrom M (pq q 21) (pq q' 21) = some (setR (up2 M (pq q 21) 1 (M (pq q' 21) 1)) (pq q 22) 0 3 (M (pq q' 22))) := by
  simp (disch := first | omega | assumption | decide | (simp only [pq, st, ne_eq]; omega)) only [fX0_copyFrom, gI, pI, gR, aL, aS, aN, aR, shp_pq, shp_st, ln_pq, ln_st, shP, shT, lnP, lnT, rP, rf_pq16a, rf_pq16b, rf_pq19, rf_pq21, rf_pq0, rf_pq7, rf_st00, rf_st01, rf_st02, rf_st21, rf_st22, rf_st23, rf_st6, ob_some, ob2_some, oob_nI, nI_cl, if_true, if_false, and_true, true_and, and_self, false_and, and_false, up2_same, setR_same, up2_ne, setR_other, h, copyP_ok (q := q) (q' := q') (o := 22) (n := 3), up2_ne, setR_other, ne_eq, not_false_eq_true]
