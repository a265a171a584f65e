/-! arguments, places of the reference's row, bits -/
theorem i32_cases (a : Int32) (k : Nat) (hk : k < 2 ^ 31 - 1) : (∃ n, n ≤ k ∧ a = nI n) ∨ ¬ (0 ≤ a ∧ a ≤ nI k) := by
  by_cases h : 0 ≤ a ∧ a ≤ nI k
  · refine Or.inl ?_
    have h2 : a < nI (k + 1) := by
      have h3 := h.2
      rw [Int32.le_iff_toInt_le, nI_toInt (by omega)] at h3
      rw [Int32.lt_iff_toInt_lt, nI_toInt (by omega)]
      omega
    obtain ⟨n, h4, h5⟩ := i32_nat h.1 h2 (by omega)
    exact ⟨n, by omega, h5⟩
  · exact Or.inr h
theorem isIn_ok (v a b : Int32) : fX11_isIn v a b = some (if a ≤ v ∧ v ≤ b then 1 else 0) := by
  unfold fX11_isIn
  by_cases h1 : v < a
  · rw [if_pos h1, if_neg (fun z => Int32.not_le.mpr h1 z.1)]
  · rw [if_neg h1]
    by_cases h2 : b < v
    · rw [if_pos h2, if_neg (fun z => Int32.not_le.mpr h2 z.2)]
    · rw [if_neg h2, if_pos ⟨Int32.not_lt.mp h1, Int32.not_lt.mp h2⟩]
theorem in_ok (v a b : Int32) : fX12_in v a b = some (if a ≤ v ∧ v ≤ b then 1 else 0) := isIn_ok v a b
theorem b01 {α : Type} {P : Prop} [Decidable P] {x y : α} : (if (if P then (1 : Int32) else 0) = 0 then x else y) = if P then y else x := by
  by_cases h : P
  · simp [h]
  · simp [h]
theorem bz01 {P : Prop} [Decidable P] : bz (if P then (1 : Int32) else 0) = some (if P then (1 : Int32) else 0) := by
  unfold bz
  by_cases h : P
  · simp [h]
  · simp [h]
theorem nI_0' : (0 : Int32) = nI 0 := rfl
theorem le0 {n : Nat} (h : n < 2 ^ 31) : (0 : Int32) ≤ nI n := nI_pos' h
theorem isIn_y {n k : Nat} (h : n ≤ k) (hk : k < 2 ^ 31) : ((0 : Int32) ≤ nI n ∧ nI n ≤ nI k) := ⟨le0 (by omega), nI_le h hk⟩
theorem isDimmer_ok (a : Int32) : fX11_isDimmer a = some (if 0 ≤ a ∧ a ≤ 11 then 1 else 0) := by
  unfold fX11_isDimmer
  rw [isIn_ok, ob_some, bz01, ob_some]
theorem isPhase_ok (a : Int32) : fX11_isPhase a = some (if 0 ≤ a ∧ a ≤ 2 then 1 else 0) := by
  unfold fX11_isPhase
  rw [isIn_ok, ob_some, bz01, ob_some]
theorem isCue_ok (a : Int32) : fX11_isCue a = some (if 0 ≤ a ∧ a ≤ 7 then 1 else 0) := by
  unfold fX11_isCue
  rw [isIn_ok, ob_some, bz01, ob_some]
theorem isPrem_ok (a : Int32) : fX12_isPremiere a = some (if 0 ≤ a ∧ a ≤ 2 then 1 else 0) := by
  unfold fX12_isPremiere
  rw [in_ok, ob_some, bz01, ob_some]
theorem isDimR_ok (a : Int32) : fX12_isDimmer a = some (if 0 ≤ a ∧ a ≤ 11 then 1 else 0) := by
  unfold fX12_isDimmer
  rw [in_ok, ob_some, bz01, ob_some]
theorem isCueR_ok (p c : Int32) : fX12_isCue p c = some (if (0 ≤ p ∧ p ≤ 2) ∧ (0 ≤ c ∧ c ≤ 7) then 1 else 0) := by
  unfold fX12_isCue
  rw [isPrem_ok, ob_some, b01]
  by_cases h : 0 ≤ p ∧ p ≤ 2
  · rw [if_pos h, in_ok, ob_some, b01]
    by_cases h2 : 0 ≤ c ∧ c ≤ 7
    · rw [if_pos h2, if_pos ⟨h, h2⟩]
    · rw [if_neg h2, if_neg (fun z => h2 z.2)]
  · rw [if_neg h, if_neg (fun z => h z.1)]
theorem dimOrNone_ok (a : Int32) : fX11_isDimmerOrNone a = some (if a = -6 ∨ (0 ≤ a ∧ a ≤ 11) then 1 else 0) := by
  unfold fX11_isDimmerOrNone
  by_cases h : a = -6
  · rw [if_pos h, if_pos (Or.inl h)]
  · rw [if_neg h, isDimmer_ok, ob_some, b01]
    by_cases h2 : 0 ≤ a ∧ a ≤ 11
    · rw [if_pos h2, if_pos (Or.inr h2)]
    · rw [if_neg h2, if_neg (fun z => z.elim h h2)]
theorem find_bad {a : Int32} (h : ¬ (0 ≤ a ∧ a ≤ 2)) : fX7_find 34 a = some none := by
  unfold fX7_find
  rw [if_pos (show shp 34 = 7 from rfl)]
  refine ob_in (gR_ok (x := 40) rfl rfl) ?_
  refine ob_in (aN_ok (n := 3) rfl rfl) ?_
  rw [isIn_ok, ob_some, b01, li1, nI_subE (by omega)]
  exact if_neg h
theorem find_ok {p : Nat} (h : p < 3) : fX7_find 34 (nI p) = some (some (pq p 0)) := by
  unfold fX7_find
  rw [if_pos (show shp 34 = 7 from rfl)]
  refine ob_in (gR_ok (x := 40) rfl rfl) ?_
  refine ob_in (aN_ok (n := 3) rfl rfl) ?_
  rw [isIn_ok, ob_some, b01, li1, nI_subE (by omega), if_pos (isIn_y (by omega) (by omega))]
  refine ob_in (gR_ok (x := 40) rfl rfl) ?_
  exact ob_in (aR_ok (n := 3) (x := pq p 0) rfl rfl h (by omega) (by have := rf_st6 (b := 0) (j := p) (by omega); rw [Nat.mul_zero, Nat.zero_add] at this; exact this)) rfl
theorem hasLamp_ok {M : Mem} {q n : Nat} (hq : q < 28) (hn : M (pq q 0) 2 = nI n) (hn2 : n ≤ 12) (a : Int32) : fX6_hasLamp M (pq q 0) a = some (if 0 ≤ a ∧ a < nI n then 1 else 0) := by
  unfold fX6_hasLamp
  rw [if_pos (by rw [shp_pq hq (by omega)]; rfl)]
  by_cases h1 : a < 0
  · rw [if_pos h1, if_neg (fun z => Int32.not_le.mpr h1 z.1)]
  · rw [if_neg h1]
    refine ob_in (gI_ok (by rw [shp_pq hq (by omega)]; rfl)) ?_
    rw [hn]
    by_cases h2 : nI n ≤ a
    · rw [if_pos h2, if_neg (fun z => Int32.not_le.mpr z.2 h2)]
    · rw [if_neg h2, if_neg, if_pos ⟨Int32.not_lt.mp h1, Int32.not_le.mp h2⟩]
      intro z
      have h3 := Int32.not_le.mp h2
      rw [Int32.lt_iff_toInt_lt, nI_toInt (by omega)] at h3
      rw [li12, Int32.le_iff_toInt_le, nI_toInt (by omega)] at z
      omega
/-! the reference's places -/
def LX (p i k : Nat) : Nat := 22 + 223 * p + (3 + 6 * i + k)
def CX (p c : Nat) : Nat := 22 + 223 * p + (117 + 13 * c)
def AX (p w : Nat) : Nat := 22 + 223 * p + w
theorem at1_ok (p w : Nat) : fX12_at1 (nI p) (nI w) = some (nI (AX p w)) := by
  unfold fX12_at1 AX
  rw [li22, li223, nI_mulE, nI_addE, nI_addE]
theorem ofLamp_ok (p i k : Nat) : fX12_ofLamp (nI p) (nI i) (nI k) = some (nI (LX p i k)) := by
  unfold fX12_ofLamp
  rw [li3, li6, nI_mulE, nI_addE, nI_addE, at1_ok, ob_some]
  rfl
theorem ofCue_ok (p c : Nat) : fX12_ofCue (nI p) (nI c) = some (nI (CX p c)) := by
  unfold fX12_ofCue
  rw [li117, li13, nI_mulE, nI_addE, at1_ok, ob_some]
  rfl
theorem s30 {N : Mem} {k : Nat} (h : k < 691) : aL 30 N 1 (nI k) = some (N 1 k) := aL_ok (n := 691) rfl rfl h (by omega)
theorem w30 {N : Mem} {k : Nat} {v : Int32} (h : k < 691) : aS 30 N 1 (nI k) v = some (up2 N 1 k v) := aS_ok (n := 691) rfl rfl h (by omega)
theorem AX_lt {p w : Nat} (hp : p < 3) (hw : w < 223) : AX p w < 691 := by unfold AX; omega
theorem LX_lt {p i k : Nat} (hp : p < 3) (hi : i < 12) (hk : k < 6) : LX p i k < 691 := by unfold LX; omega
theorem CX_lt {p c i : Nat} (hp : p < 3) (hc : c < 8) (hi : i < 13) : CX p c + i < 691 := by unfold CX; omega
section RPs
variable {σ : Nat → Int32} {p : Nat} {A : SA}
theorem ra0 (h : RP σ p A) {j : Nat} (hj : j < 3) : σ (AX p j) = nI (A 0 j) := h.1 j hj
theorem rl0 (h : RP σ p A) {i : Nat} (hi : i < A 0 2) : σ (LX p i 0) = nI (A 1 i) := by rw [← (h.2.1 i hi).1]; exact congrArg σ (by unfold LX PB; omega)
theorem rl1 (h : RP σ p A) {i : Nat} (hi : i < A 0 2) : σ (LX p i 1) = vI 2 (A 2 i) := by rw [← (h.2.1 i hi).2.1]; exact congrArg σ (by unfold LX PB; omega)
theorem rl2 (h : RP σ p A) {i : Nat} (hi : i < A 0 2) : σ (LX p i 2) = nI (A 3 i) := by rw [← (h.2.1 i hi).2.2.1]; exact congrArg σ (by unfold LX PB; omega)
theorem rl3 (h : RP σ p A) {i : Nat} (hi : i < A 0 2) : σ (LX p i 3) = nI (A 4 i) := by rw [← (h.2.1 i hi).2.2.2.1]; exact congrArg σ (by unfold LX PB; omega)
theorem rl4 (h : RP σ p A) {i : Nat} (hi : i < A 0 2) : σ (LX p i 4) = nI (A 17 i) := by rw [← (h.2.1 i hi).2.2.2.2.1]; exact congrArg σ (by unfold LX PB; omega)
theorem rl5 (h : RP σ p A) {i : Nat} (hi : i < A 0 2) : σ (LX p i 5) = nI (A 18 i) := by rw [← (h.2.1 i hi).2.2.2.2.2]; exact congrArg σ (by unfold LX PB; omega)
theorem ra75 (h : RP σ p A) {d : Nat} (hd : d < 12) : σ (AX p (75 + d)) = nI (A 5 d) := by rw [← h.2.2.1 d hd]; exact congrArg σ (by unfold AX PB; omega)
theorem ra87 (h : RP σ p A) {d : Nat} (hd : d < 12) : σ (AX p (87 + d)) = nI (A 19 1 / 2 ^ d % 2) := by rw [← h.2.2.2.1 d hd]; exact congrArg σ (by unfold AX PB; omega)
theorem ra99 (h : RP σ p A) {d : Nat} (hd : d < 3) : σ (AX p (99 + d)) = nI (A 21 1 / 2 ^ d % 2) := by rw [← h.2.2.2.2.1 d hd]; exact congrArg σ (by unfold AX PB; omega)
theorem ra102 (h : RP σ p A) {d : Nat} (hd : d < 12) : σ (AX p (102 + d)) = nI (A 20 d) := by rw [← h.2.2.2.2.2.1 d hd]; exact congrArg σ (by unfold AX PB; omega)
theorem ra114 (h : RP σ p A) {d : Nat} (hd : d < 3) : σ (AX p (114 + d)) = nI (A 22 d) := by rw [← h.2.2.2.2.2.2.1 d hd]; exact congrArg σ (by unfold AX PB; omega)
theorem rcT (h : RP σ p A) {c : Nat} (hc : c < 8) : σ (CX p c) = nI (A 6 c) := by rw [← (h.2.2.2.2.2.2.2.1 c hc).1]; exact congrArg σ (by unfold CX PB; omega)
theorem rcL (h : RP σ p A) {c i : Nat} (hc : c < 8) (hi : i < A 0 2) : σ (CX p c + 1 + i) = nI (A (8 + c) i) := by rw [← (h.2.2.2.2.2.2.2.1 c hc).2 i hi]; exact congrArg σ (by unfold CX PB; omega)
theorem ra221 (h : RP σ p A) : σ (AX p 221) = nI (A 16 0) := by rw [← h.2.2.2.2.2.2.2.2.1]; exact congrArg σ (by unfold AX PB; omega)
theorem ra222 (h : RP σ p A) (h0 : A 16 0 ≠ 0) : σ (AX p 222) = nI (A 16 1) := by rw [← h.2.2.2.2.2.2.2.2.2 h0]; exact congrArg σ (by unfold AX PB; omega)
end RPs
theorem isLamp_ok {N : Mem} {p : Nat} {A : SA} (hp : p < 3) (h : RP (N 1) p A) (hn : A 0 2 ≤ 12) (a : Int32) : fX12_isLamp N (nI p) a = some (if 0 ≤ a ∧ a < nI (A 0 2) then 1 else 0) := by
  unfold fX12_isLamp
  rw [isPrem_ok, ob_some, b01, li2, if_pos (isIn_y (by omega) (by omega)), at1_ok, ob_some, s30 (AX_lt hp (by omega)), ob_some, ra0 h (by omega), in_ok, ob_some, b01]
  have e : (0 ≤ a ∧ a ≤ nI (A 0 2) - 1) ↔ (0 ≤ a ∧ a < nI (A 0 2)) := by
    rw [Int32.le_iff_toInt_le, Int32.le_iff_toInt_le, Int32.lt_iff_toInt_lt, Int32.toInt_zero, nI_toInt (show A 0 2 < 2 ^ 31 by omega)]
    have e2 : (nI (A 0 2) - 1 : Int32).toInt = (A 0 2 : Int) - 1 := by
      rw [Int32.toInt_sub, nI_toInt (show A 0 2 < 2 ^ 31 by omega)]
      have e3 : (1 : Int32).toInt = 1 := by decide
      rw [e3, Int.bmod_def]
      omega
    rw [e2]
    omega
  by_cases h2 : 0 ≤ a ∧ a < nI (A 0 2)
  · rw [if_pos (e.mpr h2), if_pos h2]
  · rw [if_neg (fun z => h2 (e.mp z)), if_neg h2]
theorem isLamp_bad {N : Mem} {a b : Int32} (h : ¬ (0 ≤ a ∧ a ≤ 2)) : fX12_isLamp N a b = some 0 := by
  unfold fX12_isLamp
  rw [isPrem_ok, ob_some, b01, if_neg h]
theorem lamp_cases (a : Int32) {n : Nat} (hn : n ≤ 12) : (∃ i, i < n ∧ a = nI i) ∨ ¬ (0 ≤ a ∧ a < nI n) := by
  by_cases h : 0 ≤ a ∧ a < nI n
  · exact Or.inl (i32_nat h.1 h.2 (by omega))
  · exact Or.inr h
theorem lamp_y {i n : Nat} (hi : i < n) (hn : n ≤ 12) : (0 : Int32) ≤ nI i ∧ nI i < nI n := ⟨le0 (by omega), nI_lt hi (by omega)⟩
/-! bits -/
theorem bit_64 : ∀ a, a < 64 → ∀ b, b < 64 → ∀ d, d < 12 → ((nI (64 * a + b) >>> (nI d &&& 31)) &&& 1) = nI ((64 * a + b) / 2 ^ d % 2) := by decide +kernel
theorem bit_all {m d : Nat} (hm : m < 4096) (hd : d < 12) : ((nI m >>> (nI d &&& 31)) &&& 1) = nI (m / 2 ^ d % 2) := by
  have h := bit_64 (m / 64) (by omega) (m % 64) (by omega) d hd
  rw [Nat.div_add_mod] at h
  exact h
def bsum (m : Nat) : Nat → Nat
  | 0 => 0
  | k + 1 => bsum m k + m / 2 ^ k % 2
theorem bc_64 : ∀ a, a < 64 → ∀ b, b < 64 → fJ6_bitCount_0f7a4 (nI (64 * a + b)) = some (nI (bsum (64 * a + b) 12)) := by decide +kernel
theorem bc_all {m : Nat} (hm : m < 4096) : fJ6_bitCount_0f7a4 (nI m) = some (nI (bsum m 12)) := by
  have h := bc_64 (m / 64) (by omega) (m % 64) (by omega)
  rw [Nat.div_add_mod] at h
  exact h
