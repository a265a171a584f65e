/-! trips: of dimmers, of phases -/
def cc (c f : Nat → Nat) (lim d : Nat) : Nat := if f d ≤ lim then 0 else c d + 1
def fin (c f : Nat → Nat) (lim tk d : Nat) : Nat := if tk ≤ cc c f lim d then 0 else cc c f lim d
def orb (m k : Nat) : Nat := if m / 2 ^ k % 2 = 1 then m else m + 2 ^ k
def mkk (c f : Nat → Nat) (lim tk m : Nat) : Nat → Nat
  | 0 => m
  | k + 1 => if tk ≤ cc c f lim k then orb (mkk c f lim tk m k) k else mkk c f lim tk m k
def trs (c f : Nat → Nat) (lim tk : Nat) : Nat → Nat
  | 0 => 0
  | k + 1 => trs c f lim tk k + if tk ≤ cc c f lim k then 1 else 0
theorem orb_64 : ∀ d, d < 12 → ∀ a, a < 64 → ∀ b, b < 64 → (nI (64 * a + b) ||| (1 <<< (nI d &&& 31))) = nI (if (64 * a + b) / 2 ^ d % 2 = 1 then 64 * a + b else 64 * a + b + 2 ^ d) := by decide +kernel
theorem orb_ok {m d : Nat} (hd : d < 12) (hm : m < 4096) : (nI m ||| (1 <<< (nI d &&& 31))) = nI (orb m d) := by
  have h := orb_64 d hd (m / 64) (by omega) (m % 64) (by omega)
  rw [Nat.div_add_mod] at h
  exact h
theorem orb_self {m k : Nat} : orb m k / 2 ^ k % 2 = 1 := by
  unfold orb
  by_cases h : m / 2 ^ k % 2 = 1
  · rw [if_pos h, h]
  · rw [if_neg h, Nat.add_div_right _ (Nat.two_pow_pos k)]
    omega
theorem orb_lt {m k j : Nat} (h : j < k) : orb m k / 2 ^ j % 2 = m / 2 ^ j % 2 := by
  unfold orb
  by_cases h1 : m / 2 ^ k % 2 = 1
  · rw [if_pos h1]
  · rw [if_neg h1]
    obtain ⟨e, rfl⟩ : ∃ e, k = j + 1 + e := ⟨k - j - 1, by omega⟩
    have e1 : 2 ^ (j + 1 + e) = 2 ^ j * (2 * 2 ^ e) := by
      rw [Nat.pow_add, Nat.pow_succ, Nat.mul_assoc]
    rw [e1, Nat.add_mul_div_left _ _ (Nat.two_pow_pos j)]
    omega
theorem orb_gt {m k j : Nat} (h : k < j) : orb m k / 2 ^ j % 2 = m / 2 ^ j % 2 := by
  unfold orb
  by_cases h1 : m / 2 ^ k % 2 = 1
  · rw [if_pos h1]
  · rw [if_neg h1]
    obtain ⟨e, rfl⟩ : ∃ e, j = k + 1 + e := ⟨j - k - 1, by omega⟩
    have e1 : 2 ^ (k + 1 + e) = 2 ^ k * 2 * 2 ^ e := by
      rw [Nat.pow_add, Nat.pow_succ]
    have e2 : (m + 2 ^ k) / 2 ^ k / 2 = m / 2 ^ k / 2 := by
      rw [Nat.add_div_right _ (Nat.two_pow_pos k)]
      omega
    rw [e1, ← Nat.div_div_eq_div_mul, ← Nat.div_div_eq_div_mul, e2, ← Nat.div_div_eq_div_mul, ← Nat.div_div_eq_div_mul]
theorem orb_bd {m k n : Nat} (hm : m < 2 ^ n) (hk : k < n) : orb m k < 2 ^ n := by
  unfold orb
  by_cases h1 : m / 2 ^ k % 2 = 1
  · rw [if_pos h1]
    exact hm
  · rw [if_neg h1]
    obtain ⟨e, rfl⟩ : ∃ e, n = k + 1 + e := ⟨n - k - 1, by omega⟩
    have e1 : 2 ^ (k + 1 + e) = 2 * 2 ^ e * 2 ^ k := by
      rw [Nat.pow_add, Nat.pow_succ, Nat.mul_assoc, Nat.mul_comm]
    rw [e1] at hm ⊢
    have h2 : m / 2 ^ k < 2 * 2 ^ e := (Nat.div_lt_iff_lt_mul (Nat.two_pow_pos k)).mpr hm
    have h3 : m / 2 ^ k + 1 < 2 * 2 ^ e := by omega
    have h4 : (m + 2 ^ k) / 2 ^ k < 2 * 2 ^ e := by
      rw [Nat.add_div_right _ (Nat.two_pow_pos k)]
      exact h3
    exact (Nat.div_lt_iff_lt_mul (Nat.two_pow_pos k)).mp h4
theorem mkk_bd {c f : Nat → Nat} {lim tk m n : Nat} (hm : m < 2 ^ n) : ∀ k, k ≤ n → mkk c f lim tk m k < 2 ^ n := by
  intro k
  induction k with
  | zero => intro _; exact hm
  | succ k ih =>
    intro h
    show (if tk ≤ cc c f lim k then orb (mkk c f lim tk m k) k else mkk c f lim tk m k) < 2 ^ n
    split
    · exact orb_bd (ih (by omega)) (by omega)
    · exact ih (by omega)
theorem mkk_bit {c f : Nat → Nat} {lim tk m : Nat} : ∀ k j, mkk c f lim tk m k / 2 ^ j % 2 = if j < k ∧ tk ≤ cc c f lim j then 1 else m / 2 ^ j % 2 := by
  intro k
  induction k with
  | zero =>
    intro j
    rw [if_neg (by omega)]
    rfl
  | succ k ih =>
    intro j
    show (if tk ≤ cc c f lim k then orb (mkk c f lim tk m k) k else mkk c f lim tk m k) / 2 ^ j % 2 = _
    by_cases ht : tk ≤ cc c f lim k
    · rw [if_pos ht]
      rcases Nat.lt_trichotomy j k with h | h | h
      · rw [orb_lt h, ih]
        by_cases h2 : tk ≤ cc c f lim j
        · rw [if_pos ⟨h, h2⟩, if_pos ⟨by omega, h2⟩]
        · rw [if_neg (fun z => h2 z.2), if_neg (fun z => h2 z.2)]
      · subst h
        rw [orb_self, if_pos ⟨by omega, ht⟩]
      · rw [orb_gt h, ih, if_neg (by omega), if_neg (by omega)]
    · rw [if_neg ht, ih]
      by_cases h2 : j < k ∧ tk ≤ cc c f lim j
      · rw [if_pos h2, if_pos ⟨by omega, h2.2⟩]
      · rw [if_neg h2, if_neg (fun z => h2 ⟨by have := z.1; by_cases hjk : j = k; (· subst hjk; exact absurd z.2 ht); omega, z.2⟩)]
theorem chk_L {x y z n : Nat} {c f : Nat → Nat} {lim tk m : Nat} (sx : shp x = 0) (ry : rf x 0 = y) (sy : shp y = 20) (ly : ln y = n) (sz : shp z = 20) (lz : ln z = n) (hxy : x ≠ y) (hzy : z ≠ y) (hzx : z ≠ x) (hn : n ≤ 12) (hm : m < 2 ^ n) (hlim : lim < 2 ^ 31) (htk : tk < 2 ^ 31) (hf : ∀ d, d < n → f d < 2 ^ 31) (hc : ∀ d, d < n → c d < 2 ^ 30) : ∀ (e k F : Nat) (M : Mem), k + e = n → e < F → (∀ d, d < n → M z d = nI (f d)) → (∀ d, k ≤ d → d < n → M y d = nI (c d)) → M x 1 = nI (mkk c f lim tk m k) → ∃ M', fX0_check_L6 F M x z (nI lim) (nI tk) (nI (trs c f lim tk k)) (nI k) = some (nI (trs c f lim tk n), M') ∧ (∀ w, w ≠ x → w ≠ y → M' w = M w) ∧ (∀ j, j ≠ 1 → M' x j = M x j) ∧ M' x 1 = nI (mkk c f lim tk m n) ∧ ∀ d, M' y d = if k ≤ d ∧ d < n then nI (fin c f lim tk d) else M y d := by
  have h4096 : (2 : Nat) ^ n ≤ 2 ^ 12 := Nat.pow_le_pow_right (by omega) hn
  intro e
  induction e with
  | zero =>
    intro k F M hk hF hz hy hx
    obtain ⟨F, rfl⟩ : ∃ F', F = F' + 1 := ⟨F - 1, by omega⟩
    have hkn : k = n := by omega
    subst hkn
    refine ⟨M, ?_, fun _ _ _ => rfl, fun _ _ => rfl, hx, fun d => by rw [if_neg (by omega)]⟩
    rw [fX0_check_L6]
    refine ob_in (gR_ok sx ry) ?_
    refine ob_in (aN_ok sy ly) ?_
    rw [if_pos (Int32.le_refl _)]
  | succ e ih =>
    intro k F M hk hF hz hy hx
    obtain ⟨F, rfl⟩ : ∃ F', F = F' + 1 := ⟨F - 1, by omega⟩
    have hfk := hf k (by omega)
    have hck := hc k (by omega)
    have hcc : cc c f lim k < 2 ^ 31 := by
      unfold cc
      split <;> omega
    have hmb := mkk_bd (c := c) (f := f) (lim := lim) (tk := tk) hm k (by omega)
    have e0 : ∀ (rest : Mem → Option (Int32 × Mem)), (∀ M1, M1 = up2 M y k (nI (cc c f lim k)) → (if nI (cc c f lim k) < nI tk then fX0_check_L6 F M1 x z (nI lim) (nI tk) (nI (trs c f lim tk k)) (nI (k + 1)) else (gR 0 0 x).bind fun x23 => (aS 20 M1 x23 (nI k) 0).bind fun M25 => (gI 0 1 M25 x).bind fun v27 => (pI 0 1 M25 x (v27 ||| (1 <<< (nI k &&& 31)))).bind fun M29 => fX0_check_L6 F M29 x z (nI lim) (nI tk) (nI (trs c f lim tk k + 1)) (nI (k + 1))) = rest M1) → fX0_check_L6 (F + 1) M x z (nI lim) (nI tk) (nI (trs c f lim tk k)) (nI k) = rest (up2 M y k (nI (cc c f lim k))) := fun rest hrest => by
      rw [← hrest _ rfl, fX0_check_L6]
      refine ob_in (gR_ok sx ry) ?_
      refine ob_in (aN_ok sy ly) ?_
      rw [if_neg (fun q => by have := (nI_leE (by omega) (by omega)).mp q; omega)]
      refine ob_in (aN_ok sz lz) ?_
      rw [if_neg (fun q => by have := (nI_leE (by omega) (by omega)).mp q; omega)]
      refine ob_in (gR_ok sx ry) ?_
      refine ob_in (aL_ok sz lz (by omega) (by omega)) ?_
      refine ob_in (v := nI (cc c f lim k)) ?_ ?_
      · unfold cc
        rw [hz k (by omega)]
        by_cases h : f k ≤ lim
        · rw [if_pos ((nI_leE hfk hlim).mpr h), if_pos h]
          rfl
        · rw [if_neg (fun q => h ((nI_leE hfk hlim).mp q)), if_neg h]
          refine ob_in (gR_ok sx ry) ?_
          refine ob_in (aL_ok sy ly (by omega) (by omega)) ?_
          rw [hy k (Nat.le_refl _) (by omega), li1, nI_addE]
      · refine ob_in (aS_ok sy ly (by omega) (by omega)) ?_
        refine ob_in (gR_ok sx ry) ?_
        refine ob_in (aL_ok sy ly (by omega) (by omega)) ?_
        rw [up2_same, if_pos rfl, li1, nI_addE, nI_addE]
    by_cases ht : tk ≤ cc c f lim k
    · have et : trs c f lim tk (k + 1) = trs c f lim tk k + 1 := by
        show trs c f lim tk k + (if tk ≤ cc c f lim k then 1 else 0) = _
        rw [if_pos ht]
      have em : mkk c f lim tk m (k + 1) = orb (mkk c f lim tk m k) k := if_pos ht
      have ef : fin c f lim tk k = 0 := if_pos ht
      obtain ⟨M', g1, g2, g3, g4, g5⟩ := ih (k + 1) F (up2 (up2 (up2 M y k (nI (cc c f lim k))) y k 0) x 1 (nI (mkk c f lim tk m (k + 1)))) (by omega) (by omega) (fun d hd => by rw [up2_ne hzx, up2_ne hzy, up2_ne hzy]; exact hz d hd) (fun d h1 h2 => by rw [up2_ne (Ne.symm hxy), up2_same, if_neg (by omega), up2_same, if_neg (by omega)]; exact hy d (by omega) h2) (by rw [up2_same, if_pos rfl])
      rw [et] at g1
      refine ⟨M', (e0 (fun _ => some (nI (trs c f lim tk n), M')) (fun M1 hM1 => ?_)), fun w h1 h2 => by rw [g2 w h1 h2, up2_ne h1, up2_ne h2, up2_ne h2], fun j hj => by rw [g3 j hj, up2_same, if_neg hj, up2_ne hxy, up2_ne hxy], g4, fun d => ?_⟩
      · rw [hM1, if_neg (fun q => by have := (nI_ltE hcc htk).mp q; omega)]
        refine ob_in (gR_ok sx ry) ?_
        refine ob_in (aS_ok sy ly (by omega) (by omega)) ?_
        refine ob_in (gI_ok sx) ?_
        refine ob_in (pI_ok sx) ?_
        rw [up2_ne hxy, up2_ne hxy, hx, orb_ok (by omega) (by omega), ← em]
        exact g1
      · rw [g5, up2_ne (Ne.symm hxy), up2_same]
        by_cases h1 : k + 1 ≤ d ∧ d < n
        · rw [if_pos h1, if_pos ⟨by omega, h1.2⟩]
        · rw [if_neg h1]
          by_cases h2 : d = k
          · rw [if_pos h2, if_pos ⟨by omega, by omega⟩, h2, ef]
            rfl
          · rw [if_neg h2, up2_same, if_neg h2, if_neg (by omega)]
    · have et : trs c f lim tk (k + 1) = trs c f lim tk k := by
        show trs c f lim tk k + (if tk ≤ cc c f lim k then 1 else 0) = _
        rw [if_neg ht]
        rfl
      have em : mkk c f lim tk m (k + 1) = mkk c f lim tk m k := if_neg ht
      have ef : fin c f lim tk k = cc c f lim k := if_neg ht
      obtain ⟨M', g1, g2, g3, g4, g5⟩ := ih (k + 1) F (up2 M y k (nI (cc c f lim k))) (by omega) (by omega) (fun d hd => by rw [up2_ne hzy]; exact hz d hd) (fun d h1 h2 => by rw [up2_same, if_neg (by omega)]; exact hy d (by omega) h2) (by rw [up2_ne hxy, em]; exact hx)
      rw [et] at g1
      refine ⟨M', (e0 (fun _ => some (nI (trs c f lim tk n), M')) (fun M1 hM1 => ?_)), fun w h1 h2 => by rw [g2 w h1 h2, up2_ne h2], fun j hj => by rw [g3 j hj, up2_ne hxy], g4, fun d => ?_⟩
      · rw [hM1, if_pos (nI_lt (by omega) htk)]
        exact g1
      · rw [g5, up2_same]
        by_cases h1 : k + 1 ≤ d ∧ d < n
        · rw [if_pos h1, if_pos ⟨by omega, h1.2⟩]
        · rw [if_neg h1]
          by_cases h2 : d = k
          · rw [if_pos h2, if_pos ⟨by omega, by omega⟩, h2, ef]
          · rw [if_neg h2, if_neg (by omega)]
theorem chk_ok {x y z n : Nat} {c f : Nat → Nat} {lim tk m : Nat} {M : Mem} (sx : shp x = 0) (ry : rf x 0 = y) (sy : shp y = 20) (ly : ln y = n) (sz : shp z = 20) (lz : ln z = n) (hxy : x ≠ y) (hzy : z ≠ y) (hzx : z ≠ x) (hn : n ≤ 12) (hm : m < 2 ^ n) (hlim : lim < 2 ^ 31) (htk : tk < 2 ^ 31) (hf : ∀ d, d < n → f d < 2 ^ 31) (hc : ∀ d, d < n → c d < 2 ^ 30) (hz : ∀ d, d < n → M z d = nI (f d)) (hy : ∀ d, d < n → M y d = nI (c d)) (hx : M x 1 = nI m) : ∃ M', fX0_check M x z (nI lim) (nI tk) = some (nI (trs c f lim tk n), M') ∧ (∀ w, w ≠ x → w ≠ y → M' w = M w) ∧ (∀ j, j ≠ 1 → M' x j = M x j) ∧ M' x 1 = nI (mkk c f lim tk m n) ∧ ∀ d, M' y d = if d < n then nI (fin c f lim tk d) else M y d := by
  obtain ⟨M', e1, e2, e3, e4, e5⟩ := chk_L (c := c) (f := f) (lim := lim) (tk := tk) (m := m) sx ry sy ly sz lz hxy hzy hzx hn hm hlim htk hf hc n 0 5000 M (by omega) (by omega) hz (fun d _ hd => hy d hd) hx
  refine ⟨M', ?_, e2, e3, e4, fun d => ?_⟩
  · unfold fX0_check
    rw [if_pos sx]
    exact ob2_in e1 rfl
  · rw [e5]
    by_cases h : d < n
    · rw [if_pos ⟨Nat.zero_le _, h⟩, if_pos h]
    · rw [if_neg (fun z => h z.2), if_neg h]
theorem trs_le {c f : Nat → Nat} {lim tk : Nat} : ∀ n, trs c f lim tk n ≤ n := by
  intro n
  induction n with
  | zero => exact Nat.le_refl _
  | succ n ih =>
    show trs c f lim tk n + (if tk ≤ cc c f lim n then 1 else 0) ≤ n + 1
    split <;> omega
theorem trs_zero {c f : Nat → Nat} {lim tk m : Nat} : ∀ n, trs c f lim tk n = 0 → mkk c f lim tk m n = m := by
  intro n
  induction n with
  | zero => intro _; rfl
  | succ n ih =>
    intro h
    have h' : trs c f lim tk n + (if tk ≤ cc c f lim n then 1 else 0) = 0 := h
    show (if tk ≤ cc c f lim n then orb (mkk c f lim tk m n) n else mkk c f lim tk m n) = m
    by_cases ht : tk ≤ cc c f lim n
    · rw [if_pos ht] at h'
      omega
    · rw [if_neg ht] at h' ⊢
      exact ih (by omega)
