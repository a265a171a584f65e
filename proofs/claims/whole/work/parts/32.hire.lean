/-! hire, count -/
theorem nI_modE {a b : Nat} (ha : a < 2 ^ 31) (hb0 : 0 < b) (hb : b < 2 ^ 31) : nI a % nI b = nI (a % b) := by
  refine Int32.toInt_inj.mp ?_
  have hq : a % b < b := Nat.mod_lt _ hb0
  have e : (Int.tmod (a : Int) (b : Int)) = ((a % b : Nat) : Int) := rfl
  rw [Int32.toInt_mod, nI_toInt ha, nI_toInt hb, e]
  generalize a % b = c at hq
  rw [nI_toInt (by omega)]
def cT (A : SA) (t : Nat) : Nat → Nat
  | 0 => 0
  | k + 1 => cT A t k + if A 1 k = t then 1 else 0
abbrev onD (A : SA) (y : Nat) : Prop := A 0 0 ≤ y ∧ y ≤ A 0 1
def ndp (A : SA) (t y : Nat) : Nat := if onD A y then cT A t (A 0 2) else 0
def nd (A : PA) (t y : Nat) : Nat := ndp (A 0) t y + ndp (A 1) t y + ndp (A 2) t y
theorem cT_le (A : SA) (t : Nat) : ∀ k, cT A t k ≤ k := by
  intro k
  induction k with
  | zero => exact Nat.le_refl _
  | succ k ih =>
    show cT A t k + (if A 1 k = t then 1 else 0) ≤ k + 1
    split <;> omega
theorem onC_ok {M : Mem} {q y : Nat} {A : SA} {told : Nat} (hq : q < 28) (hC : CRel M q A) (hW : WA told A) (hy : y < 7) : fX6_isOn M (pq q 0) (nI y) = some (if onD A y then 1 else 0) := by
  have h1 := hW.1
  unfold fX6_isOn
  rw [ifsp (o := 0) (t := 6) hq (by omega) rfl]
  refine ob_in (gI_ok (sp0 hq (by omega) rfl)) ?_
  refine ob_in (gI_ok (sp0 hq (by omega) rfl)) ?_
  rw [isIn_ok, ob_some, bz01, ob_some, cr0 hC (by omega), cr0 hC (by omega)]
  by_cases h : onD A y
  · rw [if_pos h, if_pos ⟨(nI_leE (by omega) (by omega)).mpr h.1, (nI_leE (by omega) (by omega)).mpr h.2⟩]
  · rw [if_neg h, if_neg (fun z => h ⟨(nI_leE (by omega) (by omega)).mp z.1, (nI_leE (by omega) (by omega)).mp z.2⟩)]
theorem ltC_L {M : Mem} {q t told : Nat} {A : SA} (hq : q < 28) (ht : t < 6) (h6 : told ≤ 6) (hC : CRel M q A) (hW : WA told A) : ∀ (e k F : Nat), k + e = A 0 2 → e < F → fX6_lampsOfType_L4 F M (pq q 0) (nI t) (nI (cT A t k)) (nI k) = some (nI (cT A t (A 0 2))) := by
  have h12 := hW.1.2.2
  intro e
  induction e with
  | zero =>
    intro k F hk hF
    obtain ⟨F, rfl⟩ : ∃ F', F = F' + 1 := ⟨F - 1, by omega⟩
    have hk0 : k = A 0 2 := by omega
    rw [fX6_lampsOfType_L4, li12]
    by_cases h : 12 ≤ k
    · rw [if_pos ((nI_leE (by omega) (by omega)).mpr h), hk0]
    · rw [if_neg (fun z => h ((nI_leE (by omega) (by omega)).mp z)), hasLamp_ok hq (cr0 hC (by omega)) h12, ob_some, b01, if_neg (fun z => by have := (nI_ltE (by omega) (by omega)).mp z.2; omega), hk0]
  | succ e ih =>
    intro k F hk hF
    obtain ⟨F, rfl⟩ : ∃ F', F = F' + 1 := ⟨F - 1, by omega⟩
    rw [fX6_lampsOfType_L4, li12, if_neg (fun z => by have := (nI_leE (by omega) (by omega)).mp z; omega), hasLamp_ok hq (cr0 hC (by omega)) h12, ob_some, b01, if_pos (lamp_y (by omega) h12)]
    refine ob_in (gR_ok (x := pq q 1) (sp0 hq (by omega) rfl) (rf_pq0 (by omega))) ?_
    refine ob_in (aL_ok (n := 12) (sp0 hq (by omega) rfl) (lp0 hq (by omega) rfl) (by omega) (by omega)) ?_
    rw [cr1 hC (by omega)]
    have := ih (k + 1) F (by omega) (by omega)
    have e2 : cT A t (k + 1) = cT A t k + if A 1 k = t then 1 else 0 := rfl
    have ht1 := hW.2.1 k (by omega)
    rw [e2] at this
    by_cases h : A 1 k = t
    · rw [if_pos ((nI_eqE (by omega) (by omega)).mpr h), li1, nI_addE, nI_addE]
      rw [if_pos h] at this
      exact this
    · rw [if_neg (fun z => h ((nI_eqE (by omega) (by omega)).mp z)), li1, nI_addE]
      rw [if_neg h] at this
      exact this
theorem ltC_ok {M : Mem} {q t told : Nat} {A : SA} (hq : q < 28) (ht : t < 6) (h6 : told ≤ 6) (hC : CRel M q A) (hW : WA told A) : fX6_lampsOfType M (pq q 0) (nI t) = some (nI (cT A t (A 0 2))) := by
  have h12 := hW.1.2.2
  unfold fX6_lampsOfType
  rw [ifsp (o := 0) (t := 6) hq (by omega) rfl]
  exact ob_in (ltC_L hq ht h6 hC hW (A 0 2) 0 5000 (by omega) (by omega)) rfl
theorem r40 {j : Nat} (hj : j < 3) : rf 40 j = pq j 0 := by
  have := rf_st6 (b := 0) (j := j) (by omega)
  rw [Nat.mul_zero, Nat.zero_add] at this
  exact this
theorem ndC_ok {M N : Mem} {T : SA} {A : PA} {t y : Nat} (hL : Live M N T A) (ht : t < 6) (hy : y < 7) : fX7_needed M 34 (nI t) (nI y) = some (nI (nd A t y)) := by
  have h6 : T 2 0 ≤ 6 := hL.2.2.1.2.2.2.1
  have st : ∀ (F x j : Nat), j < 3 → fX7_needed_L16 (F + 1) M (nI t) (nI y) (nI x) 40 (nI 3) (nI j) = fX7_needed_L16 F M (nI t) (nI y) (nI (x + ndp (A j) t y)) 40 (nI 3) (nI (j + 1)) := fun F x j hj => by
    have hC := cr_live hL (p := j) (by omega)
    have hW := wa_live hL (p := j) (by omega)
    rw [fX7_needed_L16, if_neg (fun z => by have := (nI_leE (by omega) (by omega)).mp z; omega)]
    refine ob_in (aR_ok (n := 3) rfl rfl hj (by omega) (r40 hj)) ?_
    rw [onC_ok (by omega) hC hW hy, ob_some, b01]
    unfold ndp
    by_cases h : onD (A j) y
    · rw [if_pos h, if_pos h, ltC_ok (by omega) ht h6 hC hW, ob_some, lt1_eq, li1, nI_addE, nI_addE]
    · rw [if_neg h, if_neg h, li1, nI_addE]
      rfl
  unfold fX7_needed
  rw [if_pos (show shp 34 = 7 from rfl)]
  refine ob_in (gR_ok (x := 40) rfl rfl) ?_
  refine ob_in (aN_ok (n := 3) rfl rfl) ?_
  refine ob_in (v := nI (0 + ndp (A 0) t y + ndp (A 1) t y + ndp (A 2) t y)) ?_ (by rw [Nat.zero_add]; rfl)
  rw [li0, st 4999 _ 0 (by omega), st 4998 _ (0 + 1) (by omega), st 4997 _ (0 + 1 + 1) (by omega), fX7_needed_L16, if_pos (Int32.le_refl _)]
theorem ndR_in {N : Mem} {p t y told : Nat} {A : SA} (hp : p < 3) (ht : t < 6) (h6 : told ≤ 6) (hy : y < 7) (hP : RP (N 1) p A) (hW : WA told A) (x : Nat) : ∀ (e k F : Nat), k + e = A 0 2 → e < F → onD A y → fX12_needed_L14 F N (nI t) (nI y) (nI (x + cT A t k)) (nI p) (nI k) = some (nI (x + cT A t (A 0 2))) := by
  have h1 := hW.1
  have h12 := hW.1.2.2
  intro e
  induction e with
  | zero =>
    intro k F hk hF hon
    obtain ⟨F, rfl⟩ : ∃ F', F = F' + 1 := ⟨F - 1, by omega⟩
    rw [fX12_needed_L14, at1_2, ob_some, s30 (AX_lt hp (by omega)), ob_some, ra0 hP (by omega), if_pos ((nI_leE (by omega) (by omega)).mpr (by omega)), show k = A 0 2 by omega]
  | succ e ih =>
    intro k F hk hF hon
    obtain ⟨F, rfl⟩ : ∃ F', F = F' + 1 := ⟨F - 1, by omega⟩
    have ht1 := hW.2.1 k (by omega)
    rw [fX12_needed_L14, at1_2, ob_some, s30 (AX_lt hp (by omega)), ob_some, ra0 hP (by omega), if_neg (fun z => by have := (nI_leE (by omega) (by omega)).mp z; omega), at1_0, ob_some, s30 (AX_lt hp (by omega)), ob_some, at1_1, ob_some, s30 (AX_lt hp (by omega)), ob_some, ra0 hP (by omega), ra0 hP (by omega), in_ok, ob_some, b01, if_pos ⟨(nI_leE (by omega) (by omega)).mpr hon.1, (nI_leE (by omega) (by omega)).mpr hon.2⟩, ol0, ob_some, s30 (LX_lt hp (by omega) (by omega)), ob_some, rl0 hP (by omega)]
    have := ih (k + 1) F (by omega) (by omega) hon
    have e2 : cT A t (k + 1) = cT A t k + if A 1 k = t then 1 else 0 := rfl
    rw [e2] at this
    by_cases h : A 1 k = t
    · rw [if_pos ((nI_eqE (by omega) (by omega)).mpr h), lt1_eq, li1, nI_addE, nI_addE]
      rw [if_pos h] at this
      exact this
    · rw [if_neg (fun z => h ((nI_eqE (by omega) (by omega)).mp z)), lt1_eq, Int32.add_zero, li1, nI_addE]
      rw [if_neg h] at this
      exact this
theorem ndR_p {N : Mem} {p t y told : Nat} {A : SA} (hp : p < 3) (ht : t < 6) (h6 : told ≤ 6) (hy : y < 7) (hP : RP (N 1) p A) (hW : WA told A) (x : Nat) : fX12_needed_L14 5000 N (nI t) (nI y) (nI x) (nI p) (nI 0) = some (nI (x + ndp A t y)) := by
  have h1 := hW.1
  have h12 := hW.1.2.2
  unfold ndp
  by_cases h : onD A y
  · rw [if_pos h]
    exact ndR_in hp ht h6 hy hP hW x (A 0 2) 0 5000 (by omega) (by omega) h
  · rw [if_neg h, fX12_needed_L14, at1_2, ob_some, s30 (AX_lt hp (by omega)), ob_some, ra0 hP (by omega)]
    by_cases h0 : A 0 2 ≤ 0
    · rw [if_pos ((nI_leE (by omega) (by omega)).mpr h0)]
      rfl
    · rw [if_neg (fun z => h0 ((nI_leE (by omega) (by omega)).mp z)), at1_0, ob_some, s30 (AX_lt hp (by omega)), ob_some, at1_1, ob_some, s30 (AX_lt hp (by omega)), ob_some, ra0 hP (by omega), ra0 hP (by omega), in_ok, ob_some, b01, if_neg (fun z => h ⟨(nI_leE (by omega) (by omega)).mp z.1, (nI_leE (by omega) (by omega)).mp z.2⟩)]
      rfl
theorem ndR_ok {M N : Mem} {T : SA} {A : PA} {t y : Nat} (hL : Live M N T A) (ht : t < 6) (hy : y < 7) : fX12_needed N (nI t) (nI y) = some (nI (nd A t y)) := by
  have h6 : T 2 0 ≤ 6 := hL.2.2.1.2.2.2.1
  have st : ∀ (F x j : Nat), j < 3 → fX12_needed_L5 (F + 1) N (nI t) (nI y) (nI x) (nI j) = fX12_needed_L5 F N (nI t) (nI y) (nI (x + ndp (A j) t y)) (nI (j + 1)) := fun F x j hj => by
    have hP := rp_live hL (p := j) (by omega)
    have hW := wa_live hL (p := j) (by omega)
    rw [fX12_needed_L5, li3, if_neg (fun z => by have := (nI_leE (by omega) (by omega)).mp z; omega)]
    refine ob_in (ndR_p hj ht h6 hy hP hW x) ?_
    rw [li1, nI_addE]
  unfold fX12_needed
  refine ob_in (v := nI (0 + ndp (A 0) t y + ndp (A 1) t y + ndp (A 2) t y)) ?_ (by rw [Nat.zero_add]; rfl)
  rw [li0, st 4999 _ 0 (by omega), st 4998 _ (0 + 1) (by omega), st 4997 _ (0 + 1 + 1) (by omega), fX12_needed_L5, li3, if_pos (Int32.le_refl _)]
theorem ndp_le {A : SA} {told t y : Nat} (hW : WA told A) : ndp A t y ≤ 12 := by
  have h12 := hW.1.2.2
  have := cT_le A t (A 0 2)
  unfold ndp
  split <;> omega
theorem nd_le {M N : Mem} {T : SA} {A : PA} {t y : Nat} (hL : Live M N T A) : nd A t y ≤ 36 := by
  have h0 := ndp_le (t := t) (y := y) (wa_live hL (p := 0) (by omega))
  have h1 := ndp_le (t := t) (y := y) (wa_live hL (p := 1) (by omega))
  have h2 := ndp_le (t := t) (y := y) (wa_live hL (p := 2) (by omega))
  unfold nd
  omega
theorem stock_ok {M : Mem} {t : Nat} {T : SA} (hC : CT M 0 T) (h6 : T 2 0 ≤ 6) (ht : t < T 2 0) : fX9_stockOf M 36 (nI t) = some (nI (T 4 t)) ∧ fX9_priceOf M 36 (nI t) = some (nI (T 5 t)) := by
  have hy : (0 : Int32) ≤ nI t ∧ nI t < nI (T 2 0) := ⟨le0 (by omega), nI_lt ht (by omega)⟩
  refine ⟨?_, ?_⟩
  · unfold fX9_stockOf
    rw [if_pos (show shp 36 = 9 from rfl), show (36 : Nat) = st 0 2 from rfl, has_ok (by omega) hC rfl h6, ob_some, b01, if_pos hy]
    refine ob_in (gR_ok (x := 38) rfl rfl) ?_
    refine ob_in (aL_ok (n := 6) rfl rfl (by omega) (by omega)) ?_
    rw [show M 38 t = nI (T 4 t) from ct4 hC (by omega)]
  · unfold fX9_priceOf
    rw [if_pos (show shp 36 = 9 from rfl), show (36 : Nat) = st 0 2 from rfl, has_ok (by omega) hC rfl h6, ob_some, b01, if_pos hy]
    refine ob_in (gR_ok (x := 39) rfl rfl) ?_
    refine ob_in (aL_ok (n := 6) rfl rfl (by omega) (by omega)) ?_
    rw [show M 39 t = nI (T 5 t) from ct5 hC (by omega)]
def misN (T : SA) (A : PA) (t y : Nat) : Nat := nd A t y - T 4 t
def cosN (T : SA) (A : PA) (t y : Nat) : Nat := T 5 t * min (nd A t y) (T 4 t)
theorem pos_sub {a b : Nat} (ha : a < 2 ^ 30) (hb : b < 2 ^ 30) : (if 0 < nI a - nI b then nI a - nI b else 0) = nI (a - b) := by
  by_cases h : b ≤ a
  · rw [nI_subE h]
    by_cases h0 : a - b = 0
    · rw [h0]
      rfl
    · rw [if_pos (show (0 : Int32) < nI (a - b) from nI_lt (a := 0) (by omega) (by omega))]
  · rw [if_neg, show a - b = 0 by omega]
    · rfl
    · intro z
      rw [Int32.lt_iff_toInt_lt, Int32.toInt_sub, nI_toInt (by omega), nI_toInt (by omega), Int32.toInt_zero, Int.bmod_def] at z
      omega
theorem misC_ok {M N : Mem} {T : SA} {A : PA} {t y : Nat} (hL : Live M N T A) (ht : t < T 2 0) (hy : y < 7) : fX7_missing M 34 (nI t) (nI y) = some (nI (misN T A t y)) := by
  have h6 : T 2 0 ≤ 6 := hL.2.2.1.2.2.2.1
  have h20 := (hL.2.2.1.2.2.2.2 t (by omega)).2.1
  have h36 := nd_le (t := t) (y := y) hL
  unfold fX7_missing
  rw [if_pos (show shp 34 = 7 from rfl), ndC_ok hL (by omega) hy, ob_some]
  refine ob_in (gR_ok (x := 36) rfl rfl) ?_
  rw [(stock_ok (ct_live hL) h6 ht).1, ob_some, pos_sub (by omega) (by omega)]
  rfl
theorem cosC_ok {M N : Mem} {T : SA} {A : PA} {t y : Nat} (hL : Live M N T A) (ht : t < T 2 0) (hy : y < 7) : fX7_cost M 34 (nI t) (nI y) = some (nI (cosN T A t y)) := by
  have h6 : T 2 0 ≤ 6 := hL.2.2.1.2.2.2.1
  have h20 := (hL.2.2.1.2.2.2.2 t (by omega)).2.1
  have h36 := nd_le (t := t) (y := y) hL
  unfold fX7_cost
  rw [if_pos (show shp 34 = 7 from rfl)]
  refine ob_in (gR_ok (x := 36) rfl rfl) ?_
  rw [(stock_ok (ct_live hL) h6 ht).2, ob_some, ndC_ok hL (by omega) hy, ob_some]
  refine ob_in (gR_ok (x := 36) rfl rfl) ?_
  rw [(stock_ok (ct_live hL) h6 ht).1, ob_some]
  unfold cosN
  by_cases h : T 4 t < nd A t y
  · rw [if_pos (nI_lt h (by omega)), nI_mulE, Nat.min_eq_right (by omega)]
  · rw [if_neg (nI_nlt (by omega) (by omega)), nI_mulE, Nat.min_eq_left (by omega)]
theorem hired_ok {M N : Mem} {T : SA} {A : PA} {t y k : Nat} (hL : Live M N T A) (ht : t < T 2 0) (hy : y < 7) (hk : k < 3) : fX12_hired N (nI t) (nI y) (nI k) = some (nI (if k = 0 then nd A t y else if k = 1 then misN T A t y else cosN T A t y)) := by
  have h6 : T 2 0 ≤ 6 := hL.2.2.1.2.2.2.1
  have h20 := (hL.2.2.1.2.2.2.2 t (by omega)).2.1
  have h36 := nd_le (t := t) (y := y) hL
  have hRT := (rt_live hL).2.2 t (by omega)
  have e1 : N 1 (4 + 3 * t + 1) = nI (T 4 t) := by rw [← hRT.2.1]; exact congrArg (N 1) (by omega)
  have e2 : N 1 (4 + 3 * t + 2) = nI (T 5 t) := by rw [← hRT.2.2]; exact congrArg (N 1) (by omega)
  unfold fX12_hired
  rw [ndR_ok hL (by omega) hy, ob_some, li4, li3, li1, li2, nI_mulE, nI_addE, nI_addE, nI_addE, s30 (by omega), ob_some, s30 (by omega), e1, e2]
  refine ob_in (v := nI (misN T A t y)) ?_ ?_
  · unfold misN
    by_cases h : nd A t y ≤ T 4 t
    · rw [if_pos ((nI_leE (by omega) (by omega)).mpr h), show nd A t y - T 4 t = 0 by omega]
      rfl
    · rw [if_neg (fun z => h ((nI_leE (by omega) (by omega)).mp z)), nI_subE (by omega)]
  · rcases (show k = 0 ∨ k = 1 ∨ k = 2 by omega) with rfl | rfl | rfl
    · rfl
    · rfl
    · rw [if_neg (by decide), if_neg (by decide), ob_some, nI_subE (by unfold misN; omega), nI_mulE, if_neg (by omega), if_neg (by omega)]
      unfold cosN misN
      rw [show nd A t y - (nd A t y - T 4 t) = min (nd A t y) (T 4 t) by omega]
theorem op_hire {M N : Mem} (h : Rel M N) (a1 a2 a3 : Int32) : OKv (fX11_hire M a1 a2 a3) (fX12_hire N a1 a2 a3) := by
  obtain ⟨⟨T, A, hL⟩, n, hR⟩ := id h
  have h6 : T 2 0 ≤ 6 := hL.2.2.1.2.2.2.1
  have e3r : N 1 3 = nI (T 2 0) := hL.2.1.1.2.1
  have s3 : aL 30 N 1 3 = some (N 1 3) := s30 (k := 3) (by omega)
  have e36 : (36 : Nat) = st 0 2 := rfl
  by_cases h1 : 0 ≤ a1 ∧ a1 < nI (T 2 0)
  · obtain ⟨t, ht, rfl⟩ := i32_nat h1.1 h1.2 (by omega)
    rcases ic a2 6 6 rfl (by omega) with ⟨y, hy, rfl, hyy⟩ | h2
    · rcases ic a3 2 2 rfl (by omega) with ⟨k, hk, rfl, hky⟩ | h3
      · refine ⟨nI (if k = 0 then nd A t y else if k = 1 then misN T A t y else cosN T A t y), ?_, ?_⟩
        · unfold fX11_hire
          rw [e36, has_ok (by omega) (ct_live hL) rfl h6, ob_some, b01, if_pos h1, isIn_ok, ob_some, b01, if_pos hyy, ndC_ok hL (by omega) (by omega), misC_ok hL ht (by omega), cosC_ok hL ht (by omega), ob_some, ob_some, ob_some]
          rcases (show k = 0 ∨ k = 1 ∨ k = 2 by omega) with rfl | rfl | rfl <;> rfl
        · unfold fX12_hire
          rw [s3, ob_some, e3r, in_ok, ob_some, b01, if_pos ((le_pred (by omega) _).mpr h1), in_ok, ob_some, b01, if_pos hyy, in_ok, ob_some, b01, if_pos hky, hired_ok hL ht (by omega) (by omega), ob_some]
      · refine ⟨-2, ?_, ?_⟩
        · unfold fX11_hire
          rw [e36, has_ok (by omega) (ct_live hL) rfl h6, ob_some, b01, if_pos h1, isIn_ok, ob_some, b01, if_pos hyy, if_neg (fun z => h3 (by rw [z]; decide)), if_neg (fun z => h3 (by rw [z]; decide)), if_neg (fun z => h3 (by rw [z]; decide))]
        · unfold fX12_hire
          rw [s3, ob_some, e3r, in_ok, ob_some, b01, if_pos ((le_pred (by omega) _).mpr h1), in_ok, ob_some, b01, if_pos hyy, in_ok, ob_some, b01, if_neg h3]
    · refine ⟨-2, ?_, ?_⟩
      · unfold fX11_hire
        rw [e36, has_ok (by omega) (ct_live hL) rfl h6, ob_some, b01, if_pos h1, isIn_ok, ob_some, b01, if_neg h2]
      · unfold fX12_hire
        rw [s3, ob_some, e3r, in_ok, ob_some, b01, if_pos ((le_pred (by omega) _).mpr h1), in_ok, ob_some, b01, if_neg h2]
  · refine ⟨-1, ?_, ?_⟩
    · unfold fX11_hire
      rw [e36, has_ok (by omega) (ct_live hL) rfl h6, ob_some, b01, if_neg h1]
    · unfold fX12_hire
      rw [s3, ob_some, e3r, in_ok, ob_some, b01, if_neg (fun z => h1 ((le_pred (by omega) _).mp z))]
