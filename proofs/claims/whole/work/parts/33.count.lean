/-! count -/
def rs (f : Nat → Nat → Nat) : Nat → Nat
  | 0 => 0
  | k + 1 => rs f k + f (k / 7) (k % 7)
theorem rmd7 {k : Nat} (hk : k < 2 ^ 31) : rmd (nI k) 7 = some (nI (k % 7)) := by
  unfold rmd
  rw [if_neg (by decide), li7, nI_divE hk (by omega) (by omega), nI_mulE, nI_subE (by omega)]
  congr 2
  omega
theorem wc_in {M N : Mem} {T : SA} {A : PA} {t : Nat} (hL : Live M N T A) (ht : t < T 2 0) : ∀ (e y F : Nat), y + e = 7 → e < F → fX7_wholeCost_L17 F M 34 (nI (rs (cosN T A) (7 * t + y))) (nI t) (nI y) = some (nI (rs (cosN T A) (7 * t + 7))) := by
  intro e
  induction e with
  | zero =>
    intro y F hy hF
    obtain ⟨F, rfl⟩ : ∃ F', F = F' + 1 := ⟨F - 1, by omega⟩
    rw [fX7_wholeCost_L17, li7, if_pos ((nI_leE (by omega) (by omega)).mpr (by omega)), show y = 7 by omega]
  | succ e ih =>
    intro y F hy hF
    obtain ⟨F, rfl⟩ : ∃ F', F = F' + 1 := ⟨F - 1, by omega⟩
    have := ih (y + 1) F (by omega) (by omega)
    have e2 : rs (cosN T A) (7 * t + (y + 1)) = rs (cosN T A) (7 * t + y) + cosN T A ((7 * t + y) / 7) ((7 * t + y) % 7) := rfl
    rw [e2, show (7 * t + y) / 7 = t by omega, show (7 * t + y) % 7 = y by omega] at this
    rw [fX7_wholeCost_L17, li7, if_neg (fun z => by have := (nI_leE (by omega) (by omega)).mp z; omega), cosC_ok hL ht (by omega), ob_some, lt1_eq, li1, nI_addE, nI_addE]
    exact this
theorem wc_out {M N : Mem} {T : SA} {A : PA} (hL : Live M N T A) : ∀ (e t F : Nat), t + e = T 2 0 → e < F → fX7_wholeCost_L4 F M 34 (nI (rs (cosN T A) (7 * t))) (nI t) = some (nI (rs (cosN T A) (7 * T 2 0))) := by
  have h6 : T 2 0 ≤ 6 := hL.2.2.1.2.2.2.1
  have c2 : M 36 0 = nI (T 2 0) := ct2 (ct_live hL)
  intro e
  induction e with
  | zero =>
    intro t F ht hF
    obtain ⟨F, rfl⟩ : ∃ F', F = F' + 1 := ⟨F - 1, by omega⟩
    rw [fX7_wholeCost_L4]
    refine ob_in (gR_ok (x := 36) rfl rfl) ?_
    refine ob_in (gI_ok rfl) ?_
    rw [c2, if_pos ((nI_leE (by omega) (by omega)).mpr (by omega)), show t = T 2 0 by omega]
  | succ e ih =>
    intro t F ht hF
    obtain ⟨F, rfl⟩ : ∃ F', F = F' + 1 := ⟨F - 1, by omega⟩
    rw [fX7_wholeCost_L4]
    refine ob_in (gR_ok (x := 36) rfl rfl) ?_
    refine ob_in (gI_ok rfl) ?_
    rw [c2, if_neg (fun z => by have := (nI_leE (by omega) (by omega)).mp z; omega)]
    refine ob_in (wc_in hL (t := t) (by omega) 7 0 5000 (by omega) (by omega)) ?_
    rw [li1, nI_addE]
    exact ih (t + 1) F (by omega) (by omega)
theorem wcC_ok {M N : Mem} {T : SA} {A : PA} (hL : Live M N T A) : fX7_wholeCost M 34 = some (nI (rs (cosN T A) (7 * T 2 0))) := by
  have h6 : T 2 0 ≤ 6 := hL.2.2.1.2.2.2.1
  unfold fX7_wholeCost
  rw [if_pos (show shp 34 = 7 from rfl)]
  exact ob_in (wc_out hL (T 2 0) 0 5000 (by omega) (by omega)) rfl
theorem am_in {M N : Mem} {T : SA} {A : PA} {t : Nat} (hL : Live M N T A) (ht : t < T 2 0) : ∀ (e y F : Nat), y + e = 7 → e < F → fX7_allMissing_L17 F M 34 (nI (rs (misN T A) (7 * t + y))) (nI t) (nI y) = some (nI (rs (misN T A) (7 * t + 7))) := by
  intro e
  induction e with
  | zero =>
    intro y F hy hF
    obtain ⟨F, rfl⟩ : ∃ F', F = F' + 1 := ⟨F - 1, by omega⟩
    rw [fX7_allMissing_L17, li7, if_pos ((nI_leE (by omega) (by omega)).mpr (by omega)), show y = 7 by omega]
  | succ e ih =>
    intro y F hy hF
    obtain ⟨F, rfl⟩ : ∃ F', F = F' + 1 := ⟨F - 1, by omega⟩
    have := ih (y + 1) F (by omega) (by omega)
    have e2 : rs (misN T A) (7 * t + (y + 1)) = rs (misN T A) (7 * t + y) + misN T A ((7 * t + y) / 7) ((7 * t + y) % 7) := rfl
    rw [e2, show (7 * t + y) / 7 = t by omega, show (7 * t + y) % 7 = y by omega] at this
    rw [fX7_allMissing_L17, li7, if_neg (fun z => by have := (nI_leE (by omega) (by omega)).mp z; omega), misC_ok hL ht (by omega), ob_some, lt1_eq, li1, nI_addE, nI_addE]
    exact this
theorem am_out {M N : Mem} {T : SA} {A : PA} (hL : Live M N T A) : ∀ (e t F : Nat), t + e = T 2 0 → e < F → fX7_allMissing_L4 F M 34 (nI (rs (misN T A) (7 * t))) (nI t) = some (nI (rs (misN T A) (7 * T 2 0))) := by
  have h6 : T 2 0 ≤ 6 := hL.2.2.1.2.2.2.1
  have c2 : M 36 0 = nI (T 2 0) := ct2 (ct_live hL)
  intro e
  induction e with
  | zero =>
    intro t F ht hF
    obtain ⟨F, rfl⟩ : ∃ F', F = F' + 1 := ⟨F - 1, by omega⟩
    rw [fX7_allMissing_L4]
    refine ob_in (gR_ok (x := 36) rfl rfl) ?_
    refine ob_in (gI_ok rfl) ?_
    rw [c2, if_pos ((nI_leE (by omega) (by omega)).mpr (by omega)), show t = T 2 0 by omega]
  | succ e ih =>
    intro t F ht hF
    obtain ⟨F, rfl⟩ : ∃ F', F = F' + 1 := ⟨F - 1, by omega⟩
    rw [fX7_allMissing_L4]
    refine ob_in (gR_ok (x := 36) rfl rfl) ?_
    refine ob_in (gI_ok rfl) ?_
    rw [c2, if_neg (fun z => by have := (nI_leE (by omega) (by omega)).mp z; omega)]
    refine ob_in (am_in hL (t := t) (by omega) 7 0 5000 (by omega) (by omega)) ?_
    rw [li1, nI_addE]
    exact ih (t + 1) F (by omega) (by omega)
theorem amC_ok {M N : Mem} {T : SA} {A : PA} (hL : Live M N T A) : fX7_allMissing M 34 = some (nI (rs (misN T A) (7 * T 2 0))) := by
  have h6 : T 2 0 ≤ 6 := hL.2.2.1.2.2.2.1
  unfold fX7_allMissing
  rw [if_pos (show shp 34 = 7 from rfl)]
  exact ob_in (am_out hL (T 2 0) 0 5000 (by omega) (by omega)) rfl
theorem sumR_L {M N : Mem} {T : SA} {A : PA} {k : Nat} (hk : k < 3) (hL : Live M N T A) : ∀ (e j F : Nat), j + e = 7 * T 2 0 → e < F → fX12_sum_L4 F N (nI k) (nI (rs (fun t y => if k = 0 then nd A t y else if k = 1 then misN T A t y else cosN T A t y) j)) (nI j) = some (nI (rs (fun t y => if k = 0 then nd A t y else if k = 1 then misN T A t y else cosN T A t y) (7 * T 2 0))) := by
  have h6 : T 2 0 ≤ 6 := hL.2.2.1.2.2.2.1
  have e3r : N 1 3 = nI (T 2 0) := hL.2.1.1.2.1
  have s3 : aL 30 N 1 3 = some (N 1 3) := s30 (k := 3) (by omega)
  intro e
  induction e with
  | zero =>
    intro j F hj hF
    obtain ⟨F, rfl⟩ : ∃ F', F = F' + 1 := ⟨F - 1, by omega⟩
    rw [fX12_sum_L4, s3, ob_some, e3r, li7, nI_mulE, if_pos ((nI_leE (by omega) (by omega)).mpr (by omega)), show j = 7 * T 2 0 by omega]
  | succ e ih =>
    intro j F hj hF
    obtain ⟨F, rfl⟩ : ∃ F', F = F' + 1 := ⟨F - 1, by omega⟩
    have := ih (j + 1) F (by omega) (by omega)
    rw [fX12_sum_L4, s3, ob_some, e3r, rmd7 (by omega), li7, nI_mulE, if_neg (fun z => by have := (nI_leE (by omega) (by omega)).mp z; omega), dv_ok (by omega) (by omega) (by omega), ob_some, ob_some, hired_ok hL (by omega) (by omega) hk, ob_some, lt1_eq, li1, nI_addE, nI_addE]
    exact this
theorem sumR_ok {M N : Mem} {T : SA} {A : PA} {k : Nat} (hk : k < 3) (hL : Live M N T A) : fX12_sum N (nI k) = some (nI (rs (fun t y => if k = 0 then nd A t y else if k = 1 then misN T A t y else cosN T A t y) (7 * T 2 0))) := by
  have h6 : T 2 0 ≤ 6 := hL.2.2.1.2.2.2.1
  unfold fX12_sum
  exact ob_in (sumR_L hk hL (7 * T 2 0) 0 5000 (by omega) (by omega)) rfl
/-- all lamps that are needed on a day -/
def nop (A : SA) (y : Nat) : Nat := if onD A y then A 0 2 else 0
def nO (A : PA) (y : Nat) : Nat := nop (A 0) y + nop (A 1) y + nop (A 2) y
def sT (f : Nat → Nat) : Nat → Nat
  | 0 => 0
  | k + 1 => sT f k + f k
theorem sT_add (f g : Nat → Nat) : ∀ k, sT (fun t => f t + g t) k = sT f k + sT g k := by
  intro k
  induction k with
  | zero => rfl
  | succ k ih =>
    show sT (fun t => f t + g t) k + (f k + g k) = sT f k + f k + (sT g k + g k)
    omega
theorem sT_zero : ∀ k, sT (fun _ => 0) k = 0 := by
  intro k
  induction k with
  | zero => rfl
  | succ k ih => exact ih
theorem sT_one {a : Nat} : ∀ k, sT (fun t => if a = t then 1 else 0) k = if a < k then 1 else 0 := by
  intro k
  induction k with
  | zero => rfl
  | succ k ih =>
    show sT (fun t => if a = t then 1 else 0) k + (if a = k then 1 else 0) = _
    rw [ih]
    by_cases h : a < k
    · rw [if_pos h, if_neg (by omega), if_pos (by omega)]
    · rw [if_neg h]
      by_cases h2 : a = k
      · rw [if_pos h2, if_pos (by omega)]
      · rw [if_neg h2, if_neg (by omega)]
theorem cT_sum {A : SA} {told : Nat} : ∀ n, (∀ i, i < n → A 1 i < told) → sT (fun t => cT A t n) told = n := by
  intro n
  induction n with
  | zero => intro _; exact sT_zero told
  | succ n ih =>
    intro h
    have e : (fun t => cT A t (n + 1)) = fun t => cT A t n + if A 1 n = t then 1 else 0 := rfl
    rw [e, sT_add, ih (fun i hi => h i (by omega)), sT_one, if_pos (h n (by omega))]
theorem ndp_sum {A : SA} {told y : Nat} (hW : WA told A) : sT (fun t => ndp A t y) told = nop A y := by
  unfold nop
  by_cases h : onD A y
  · have e : (fun t => ndp A t y) = fun t => cT A t (A 0 2) := by
      funext t
      exact if_pos h
    rw [e, if_pos h, cT_sum _ hW.2.1]
  · have e : (fun t => ndp A t y) = fun _ => 0 := by
      funext t
      exact if_neg h
    rw [e, if_neg h, sT_zero]
theorem nd_sum {M N : Mem} {T : SA} {A : PA} {y : Nat} (hL : Live M N T A) : sT (fun t => nd A t y) (T 2 0) = nO A y := by
  have e : (fun t => nd A t y) = fun t => (fun t => (fun t => ndp (A 0) t y) t + (fun t => ndp (A 1) t y) t) t + (fun t => ndp (A 2) t y) t := rfl
  rw [e, sT_add, sT_add, ndp_sum (wa_live hL (p := 0) (by omega)), ndp_sum (wa_live hL (p := 1) (by omega)), ndp_sum (wa_live hL (p := 2) (by omega))]
  rfl
theorem nO_le {M N : Mem} {T : SA} {A : PA} {y : Nat} (hL : Live M N T A) : nO A y ≤ 36 := by
  have h0 := (wa_live hL (p := 0) (by omega)).1.2.2
  have h1 := (wa_live hL (p := 1) (by omega)).1.2.2
  have h2 := (wa_live hL (p := 2) (by omega)).1.2.2
  unfold nO nop
  split <;> split <;> split <;> omega
theorem noC_ok {M N : Mem} {T : SA} {A : PA} {y : Nat} (hL : Live M N T A) (hy : y < 7) : fX7_neededOn M 34 (nI y) = some (nI (nO A y)) := by
  have st : ∀ (F x j : Nat), j < 3 → fX7_neededOn_L14 (F + 1) M (nI y) (nI x) 40 (nI 3) (nI j) = fX7_neededOn_L14 F M (nI y) (nI (x + nop (A j) y)) 40 (nI 3) (nI (j + 1)) := fun F x j hj => by
    have hC := cr_live hL (p := j) (by omega)
    have hW := wa_live hL (p := j) (by omega)
    rw [fX7_neededOn_L14, if_neg (fun z => by have := (nI_leE (by omega) (by omega)).mp z; omega)]
    refine ob_in (aR_ok (n := 3) rfl rfl hj (by omega) (r40 hj)) ?_
    rw [onC_ok (by omega) hC hW hy, ob_some, b01]
    unfold nop
    by_cases h : onD (A j) y
    · rw [if_pos h, if_pos h]
      refine ob_in (gI_ok (sp0 (by omega) (by omega) rfl)) ?_
      rw [cr0 hC (by omega), lt1_eq, li1, nI_addE, nI_addE]
    · rw [if_neg h, if_neg h, li1, nI_addE]
      rfl
  unfold fX7_neededOn
  rw [if_pos (show shp 34 = 7 from rfl)]
  refine ob_in (gR_ok (x := 40) rfl rfl) ?_
  refine ob_in (aN_ok (n := 3) rfl rfl) ?_
  refine ob_in (v := nI (0 + nop (A 0) y + nop (A 1) y + nop (A 2) y)) ?_ (by rw [Nat.zero_add]; rfl)
  rw [li0, st 4999 _ 0 (by omega), st 4998 _ (0 + 1) (by omega), st 4997 _ (0 + 1 + 1) (by omega), fX7_neededOn_L14, if_pos (Int32.le_refl _)]
theorem noR_L {M N : Mem} {T : SA} {A : PA} {y : Nat} {z1 z2 : Int32} (hL : Live M N T A) (hy : y < 7) : ∀ (e t F : Nat), t + e = T 2 0 → e < F → fX12_fullest_L18 F N z1 z2 (nI y) (nI (sT (fun t => nd A t y) t)) (nI t) = some (nI (sT (fun t => nd A t y) (T 2 0))) := by
  have h6 : T 2 0 ≤ 6 := hL.2.2.1.2.2.2.1
  have e3r : N 1 3 = nI (T 2 0) := hL.2.1.1.2.1
  have s3 : aL 30 N 1 3 = some (N 1 3) := s30 (k := 3) (by omega)
  intro e
  induction e with
  | zero =>
    intro t F ht hF
    obtain ⟨F, rfl⟩ : ∃ F', F = F' + 1 := ⟨F - 1, by omega⟩
    rw [fX12_fullest_L18, s3, ob_some, e3r, if_pos ((nI_leE (by omega) (by omega)).mpr (by omega)), show t = T 2 0 by omega]
  | succ e ih =>
    intro t F ht hF
    obtain ⟨F, rfl⟩ : ∃ F', F = F' + 1 := ⟨F - 1, by omega⟩
    have := ih (t + 1) F (by omega) (by omega)
    rw [fX12_fullest_L18, s3, ob_some, e3r, if_neg (fun z => by have := (nI_leE (by omega) (by omega)).mp z; omega), ndR_ok hL (by omega) hy, ob_some, lt1_eq, li1, nI_addE, nI_addE]
    exact this
/-- the fullest day so far and its lamps -/
def fday (f : Nat → Nat) : Nat → Nat × Nat
  | 0 => (0, 0)
  | k + 1 => if f k ≤ (fday f k).2 then fday f k else (k, f k)
theorem fday_le {M N : Mem} {T : SA} {A : PA} (hL : Live M N T A) : ∀ y, (fday (nO A) y).2 ≤ 36 := by
  intro y
  induction y with
  | zero => exact Nat.zero_le _
  | succ y ih =>
    have := nO_le (y := y) hL
    show (if nO A y ≤ (fday (nO A) y).2 then fday (nO A) y else (y, nO A y)).2 ≤ 36
    split
    · exact ih
    · exact this
theorem bdC_M {M N : Mem} {T : SA} {A : PA} (hL : Live M N T A) : ∀ (e y F : Nat), y + e = 7 → e < F → fX7_busiestDay_L6 F M 34 (nI (fday (nO A) y).1) (nI (fday (nO A) y).2) (nI y) = some (nI (fday (nO A) 7).1) := by
  intro e
  induction e with
  | zero =>
    intro y F hy hF
    obtain ⟨F, rfl⟩ : ∃ F', F = F' + 1 := ⟨F - 1, by omega⟩
    rw [fX7_busiestDay_L6, li7, if_pos ((nI_leE (by omega) (by omega)).mpr (by omega)), show y = 7 by omega]
  | succ e ih =>
    intro y F hy hF
    obtain ⟨F, rfl⟩ : ∃ F', F = F' + 1 := ⟨F - 1, by omega⟩
    have := ih (y + 1) F (by omega) (by omega)
    have b1 := nO_le (y := y) hL
    have b2 := fday_le hL y
    have e2 : fday (nO A) (y + 1) = if nO A y ≤ (fday (nO A) y).2 then fday (nO A) y else (y, nO A y) := rfl
    rw [e2] at this
    rw [fX7_busiestDay_L6, li7, if_neg (fun z => by have := (nI_leE (by omega) (by omega)).mp z; omega), noC_ok hL (by omega), ob_some, li1, nI_addE]
    by_cases h : nO A y ≤ (fday (nO A) y).2
    · rw [if_pos ((nI_leE (by omega) (by omega)).mpr h)]
      rw [if_pos h] at this
      exact this
    · rw [if_neg (fun z => h ((nI_leE (by omega) (by omega)).mp z))]
      rw [if_neg h] at this
      exact this
theorem bdR_M {M N : Mem} {T : SA} {A : PA} (hL : Live M N T A) : ∀ (e y F : Nat), y + e = 7 → e < F → fX12_fullest_L6 F N (nI (fday (nO A) y).1) (nI (fday (nO A) y).2) (nI y) = some (nI (fday (nO A) 7).1) := by
  have h6 : T 2 0 ≤ 6 := hL.2.2.1.2.2.2.1
  intro e
  induction e with
  | zero =>
    intro y F hy hF
    obtain ⟨F, rfl⟩ : ∃ F', F = F' + 1 := ⟨F - 1, by omega⟩
    rw [fX12_fullest_L6, li7, if_pos ((nI_leE (by omega) (by omega)).mpr (by omega)), show y = 7 by omega]
  | succ e ih =>
    intro y F hy hF
    obtain ⟨F, rfl⟩ : ∃ F', F = F' + 1 := ⟨F - 1, by omega⟩
    have := ih (y + 1) F (by omega) (by omega)
    have b1 := nO_le (y := y) hL
    have b2 := fday_le hL y
    have e2 : fday (nO A) (y + 1) = if nO A y ≤ (fday (nO A) y).2 then fday (nO A) y else (y, nO A y) := rfl
    rw [e2] at this
    rw [fX12_fullest_L6, li7, if_neg (fun z => by have := (nI_leE (by omega) (by omega)).mp z; omega), li0]
    refine ob_in (noR_L hL (show y < 7 by omega) (T 2 0) 0 5000 (by omega) (by omega)) ?_
    rw [nd_sum hL]
    by_cases h : nO A y ≤ (fday (nO A) y).2
    · rw [if_pos ((nI_leE (by omega) (by omega)).mpr h), ob_some, if_pos ((nI_leE (by omega) (by omega)).mpr h), li1, nI_addE]
      rw [if_pos h] at this
      exact this
    · rw [if_neg (fun z => h ((nI_leE (by omega) (by omega)).mp z)), ob_some, if_neg (fun z => h ((nI_leE (by omega) (by omega)).mp z)), li1, nI_addE]
      rw [if_neg h] at this
      exact this
theorem bdR_ok {M N : Mem} {T : SA} {A : PA} (hL : Live M N T A) : fX12_fullest N = some (nI (fday (nO A) 7).1) := by
  have h6 : T 2 0 ≤ 6 := hL.2.2.1.2.2.2.1
  have b1 := nO_le (y := 0) hL
  unfold fX12_fullest
  refine ob_in (v := nI (fday (nO A) 7).1) ?_ rfl
  have h1 := bdR_M hL 6 1 4999 (by omega) (by omega)
  have e1 : (fday (nO A) 1).1 = 0 ∧ (fday (nO A) 1).2 = nO A 0 := by
    show (if nO A 0 ≤ 0 then ((0, 0) : Nat × Nat) else (0, nO A 0)).1 = 0 ∧ (if nO A 0 ≤ 0 then ((0, 0) : Nat × Nat) else (0, nO A 0)).2 = nO A 0
    by_cases h : nO A 0 ≤ 0
    · rw [if_pos h]
      exact ⟨rfl, by show 0 = nO A 0; omega⟩
    · rw [if_neg h]
      exact ⟨rfl, rfl⟩
  rw [e1.1, e1.2] at h1
  have hneg : ¬ (nI (nO A 0) ≤ -1) := fun z => by
    rw [Int32.le_iff_toInt_le, nI_toInt (by omega)] at z
    have : (-1 : Int32).toInt = -1 := by decide
    rw [this] at z
    omega
  rw [fX12_fullest_L6, if_neg (by decide)]
  refine ob_in (v := nI (nO A 0)) ?_ ?_
  · rw [← nd_sum hL]
    exact noR_L hL (show 0 < 7 by omega) (T 2 0) 0 5000 (by omega) (by omega)
  · rw [if_neg hneg, ob_some, if_neg hneg]
    exact h1
theorem op_count {M N : Mem} (h : Rel M N) (a1 : Int32) : OKv (fX11_count M a1) (fX12_count N a1) := by
  obtain ⟨⟨T, A, hL⟩, n, hR⟩ := id h
  have h6 : T 2 0 ≤ 6 := hL.2.2.1.2.2.2.1
  have hRT := rt_live hL
  have hCT := ct_live hL
  obtain ⟨⟨hh, hs, H1⟩, ⟨m, sl, H2⟩, len, pd, H3⟩ := id hR
  have cB : fX7_busiestDay M 34 = some (nI (fday (nO A) 7).1) := by
    unfold fX7_busiestDay
    rw [if_pos (show shp 34 = 7 from rfl)]
    exact ob_in (bdC_M hL 7 0 5000 (by omega) (by omega)) rfl
  have c35 : ∀ j, j < 3 → aL 20 M 35 (nI j) = some (nI (T 1 j)) := fun j hj => by
    refine (aL_ok (n := 3) rfl rfl hj (by omega)).trans ?_
    rw [show M 35 j = nI (T 1 j) from ct1 hCT hj]
  have r30 : ∀ j, j < 3 → aL 30 N 1 (nI j) = some (nI (T 1 j)) := fun j hj => by rw [s30 (by omega), hRT.1 j hj]
  have s3 : aL 30 N 1 3 = some (nI (T 2 0)) := (s30 (k := 3) (by omega)).trans (by rw [hRT.2.1])
  have s1 : fX12_sum N 1 = some (nI (rs (misN T A) (7 * T 2 0))) := sumR_ok (k := 1) (by omega) hL
  have s2 : fX12_sum N 2 = some (nI (rs (cosN T A) (7 * T 2 0))) := sumR_ok (k := 2) (by omega) hL
  have eC : fX11_count M a1 = (if a1 = 0 then some (nI (T 2 0)) else if a1 = 1 then some (nI (rs (cosN T A) (7 * T 2 0))) else if a1 = 2 then some (nI (rs (misN T A) (7 * T 2 0))) else if a1 = 3 then some (nI (fday (nO A) 7).1) else if a1 = 4 then some (nI (T 1 0)) else if a1 = 5 then some (nI (T 1 1)) else if a1 = 6 then some (nI (T 1 2)) else if a1 = 7 then some (nI len) else if a1 = 8 then some (nI n) else some (-2)) := by
    unfold fX11_count
    rw [wcC_ok hL, amC_ok hL, cB, li0, li1, li2, c35 0 (by omega), c35 1 (by omega), c35 2 (by omega), gI_ok (show shp 36 = 9 from rfl), gI_ok (show shp 15 = 5 from rfl), gI_ok (show shp 12 = 2 from rfl), H3.2.1, H1.2.1, show M 36 0 = nI (T 2 0) from ct2 hCT]
    rfl
  rw [eC]
  by_cases z0 : a1 = 0
  · subst z0
    exact ⟨_, rfl, by unfold fX12_count; rw [if_pos rfl, s3, ob_some]⟩
  · rw [if_neg z0]
    by_cases z1 : a1 = 1
    · subst z1
      exact ⟨_, rfl, by unfold fX12_count; rw [if_neg (by decide), if_pos rfl, s2, ob_some]⟩
    · rw [if_neg z1]
      by_cases z2 : a1 = 2
      · subst z2
        exact ⟨_, rfl, by unfold fX12_count; rw [if_neg (by decide), if_neg (by decide), if_pos rfl, s1, ob_some]⟩
      · rw [if_neg z2]
        by_cases z3 : a1 = 3
        · subst z3
          exact ⟨_, rfl, by unfold fX12_count; rw [if_neg (by decide), if_neg (by decide), if_neg (by decide), if_pos rfl, bdR_ok hL, ob_some]⟩
        · rw [if_neg z3]
          by_cases z4 : a1 = 4
          · subst z4
            exact ⟨_, rfl, by unfold fX12_count; rw [if_neg (by decide), if_neg (by decide), if_neg (by decide), if_neg (by decide), if_pos rfl, show ((0 : Int32) + 4 - 4) = nI 0 by decide, r30 0 (by omega), ob_some]⟩
          · rw [if_neg z4]
            by_cases z5 : a1 = 5
            · subst z5
              exact ⟨_, rfl, by unfold fX12_count; rw [if_neg (by decide), if_neg (by decide), if_neg (by decide), if_neg (by decide), if_neg (by decide), if_pos rfl, show ((0 : Int32) + 5 - 4) = nI 1 by decide, r30 1 (by omega), ob_some]⟩
            · rw [if_neg z5]
              by_cases z6 : a1 = 6
              · subst z6
                exact ⟨_, rfl, by unfold fX12_count; rw [if_neg (by decide), if_neg (by decide), if_neg (by decide), if_neg (by decide), if_neg (by decide), if_neg (by decide), if_pos rfl, show ((0 : Int32) + 6 - 4) = nI 2 by decide, r30 2 (by omega), ob_some]⟩
              · rw [if_neg z6]
                by_cases z7 : a1 = 7
                · subst z7
                  exact ⟨_, rfl, by unfold fX12_count; rw [if_neg (by decide), if_neg (by decide), if_neg (by decide), if_neg (by decide), if_neg (by decide), if_neg (by decide), if_neg (by decide), if_pos rfl, n_gI, ob_some, H3.2.2.1]⟩
                · rw [if_neg z7]
                  by_cases z8 : a1 = 8
                  · subst z8
                    exact ⟨_, rfl, by unfold fX12_count; rw [if_neg (by decide), if_neg (by decide), if_neg (by decide), if_neg (by decide), if_neg (by decide), if_neg (by decide), if_neg (by decide), if_neg (by decide), if_pos rfl, n_gI, ob_some, H1.2.2.1]⟩
                  · rw [if_neg z8]
                    exact ⟨_, rfl, by unfold fX12_count; rw [if_neg z0, if_neg z1, if_neg z2, if_neg z3, if_neg z4, if_neg z5, if_neg z6, if_neg z7, if_neg z8]⟩
