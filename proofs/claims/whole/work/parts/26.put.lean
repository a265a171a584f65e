/-! put: the signs of a long -/
def sh64 (a : Int64) (k : Int32) : Int64 := (a.toUInt64 >>> ((8 * k).toInt64.toUInt64 &&& Int64.toUInt64 63)).toInt64
def uN (a : Int64) : Nat := a.toUInt64.toNat
def byN (a : Int64) (k : Nat) : Nat := uN a / 2 ^ (8 * k) % 256
theorem sh_nat (a : Int64) {k : Nat} (hk : k < 8) : (a.toUInt64 >>> ((8 * nI k).toInt64.toUInt64 &&& Int64.toUInt64 63)).toNat = uN a / 2 ^ (8 * k) := by
  have e : ∀ k, k < 8 → ((8 * nI k).toInt64.toUInt64 &&& Int64.toUInt64 63).toNat = 8 * k := by decide +kernel
  rw [UInt64.toNat_shiftRight, e k hk, Nat.mod_eq_of_lt (show 8 * k < 64 by omega), Nat.shiftRight_eq_div_pow]
  rfl
theorem sh_zero (a : Int64) {k : Nat} (hk : k < 8) : sh64 a (nI k) = 0 ↔ uN a / 2 ^ (8 * k) = 0 := by
  rw [← sh_nat a hk]
  unfold sh64
  refine ⟨fun h => ?_, fun h => ?_⟩
  · have h1 := congrArg (fun x : Int64 => x.toUInt64.toNat) h
    exact h1
  · have h1 : (a.toUInt64 >>> ((8 * nI k).toInt64.toUInt64 &&& Int64.toUInt64 63)) = 0 := UInt64.toNat_inj.mp h
    rw [h1]
    rfl
theorem by_and (a : Int64) {k : Nat} (hk : k < 8) : sh64 a (nI k) &&& 255 = Int64.ofNat (byN a k) := by
  unfold byN
  rw [← sh_nat a hk]
  unfold sh64
  apply Int64.toBitVec_inj.mp
  apply BitVec.eq_of_toNat_eq
  have hm : (255 : Int64).toBitVec.toNat = 2 ^ 8 - 1 := by decide
  rw [Int64.toBitVec_and, BitVec.toNat_and, hm, Nat.and_two_pow_sub_one_eq_mod]
  rw [Int64.toBitVec_ofNat', BitVec.toNat_ofNat]
  show (a.toUInt64 >>> ((8 * nI k).toInt64.toUInt64 &&& Int64.toUInt64 63)).toNat % 2 ^ 8 = _
  omega
theorem by_lt (a : Int64) (k : Nat) : byN a k < 256 := Nat.mod_lt _ (by omega)
theorem b_cmp0 : ∀ b, b < 256 → (lg_cmp (Int64.ofNat b) 0 = 0 ↔ b = 0) := by decide +kernel
theorem b_cmp33 : ∀ b, b < 256 → (lg_cmp (Int64.ofNat b) 33 < 0 ↔ b < 33) := by decide +kernel
theorem b_cmp126 : ∀ b, b < 256 → (lg_cmp (Int64.ofNat b) 126 ≤ 0 ↔ b ≤ 126) := by decide +kernel
theorem b_i32 : ∀ b, b < 256 → (Int64.ofNat b).toInt32 = nI b := by decide +kernel
/-- the first place from k on where the signs end, at most 8 -/
abbrev gdB (b : Nat) : Prop := 33 ≤ b ∧ b ≤ 126
theorem end_mono {a : Int64} {k k' : Nat} (h : uN a / 2 ^ (8 * k) = 0) (hk : k ≤ k') : uN a / 2 ^ (8 * k') = 0 := by
  have h1 : uN a < 2 ^ (8 * k) := by
    have := (Nat.div_eq_zero_iff (a := uN a) (b := 2 ^ (8 * k))).mp h
    rcases this with h2 | h2
    · have := Nat.two_pow_pos (8 * k)
      omega
    · exact h2
  have h2 : 2 ^ (8 * k) ≤ 2 ^ (8 * k') := Nat.pow_le_pow_right (by omega) (by omega)
  exact Nat.div_eq_of_lt (by omega)
/-- c signs stand from k on, and all are good; or something is wrong -/
theorem signs_L (a : Int64) : ∀ (d k F : Nat), k + d = 8 → d < F → (∃ c, k ≤ c ∧ c ≤ 8 ∧ (∀ i, k ≤ i → i < c → gdB (byN a i) ∧ uN a / 2 ^ (8 * i) ≠ 0) ∧ (c < 8 → uN a / 2 ^ (8 * c) = 0) ∧ fX5_signsIn_L2 F a (nI k) = some (if c = 8 then .inl () else .inr (nI c))) ∨ (∃ i, k ≤ i ∧ i < 8 ∧ uN a / 2 ^ (8 * i) ≠ 0 ∧ ¬ gdB (byN a i) ∧ fX5_signsIn_L2 F a (nI k) = some (.inr 0)) := by
  intro d
  induction d with
  | zero =>
    intro k F hk hF
    obtain ⟨F, rfl⟩ : ∃ F', F = F' + 1 := ⟨F - 1, by omega⟩
    refine Or.inl ⟨8, by omega, by omega, fun i h1 h2 => by omega, fun h => by omega, ?_⟩
    rw [fX5_signsIn_L2, li8, if_pos ((nI_leE (by omega) (by omega)).mpr (by omega)), if_pos rfl]
  | succ d ih =>
    intro k F hk hF
    obtain ⟨F, rfl⟩ : ∃ F', F = F' + 1 := ⟨F - 1, by omega⟩
    have e0 : fX5_signsIn_L2 (F + 1) a (nI k) = if lg_cmp (sh64 a (nI k) &&& 255) 0 = 0 then (if lg_cmp (sh64 a (nI k)) 0 = 0 then some (.inr (nI k)) else some (.inr 0)) else (if lg_cmp (sh64 a (nI k) &&& 255) 33 < 0 then some (.inr 0) else if lg_cmp (sh64 a (nI k) &&& 255) 126 ≤ 0 then fX5_signsIn_L2 F a (nI (k + 1)) else some (.inr 0)) := by
      rw [fX5_signsIn_L2, li8, if_neg (fun h => by have := (nI_leE (by omega) (by omega)).mp h; omega), lt1_eq, lt1_eq, li1, nI_addE]
      rfl
    have hb := by_lt a k
    rw [by_and a (show k < 8 by omega)] at e0
    by_cases z : uN a / 2 ^ (8 * k) = 0
    · refine Or.inl ⟨k, by omega, by omega, fun i h1 h2 => by omega, fun _ => z, ?_⟩
      have zb : byN a k = 0 := by unfold byN; rw [z]
      rw [e0, if_pos ((b_cmp0 _ hb).mpr zb), if_pos ((lg_cmp_eq _ _).mpr ((sh_zero a (by omega)).mpr z)), if_neg (by omega)]
    · by_cases g : gdB (byN a k)
      · have e1 : fX5_signsIn_L2 (F + 1) a (nI k) = fX5_signsIn_L2 F a (nI (k + 1)) := by
          rw [e0, if_neg (fun h => by have := (b_cmp0 _ hb).mp h; unfold gdB at g; omega), if_neg (fun h => by have := (b_cmp33 _ hb).mp h; unfold gdB at g; omega), if_pos ((b_cmp126 _ hb).mpr g.2)]
        rw [e1]
        rcases ih (k + 1) F (by omega) (by omega) with ⟨c, c1, c2, c3, c4, c5⟩ | ⟨i, i1, i2, i3, i4, i5⟩
        · refine Or.inl ⟨c, by omega, c2, fun i h1 h2 => ?_, c4, c5⟩
          by_cases hi : i = k
          · rw [hi]
            exact ⟨g, z⟩
          · exact c3 i (by omega) h2
        · exact Or.inr ⟨i, by omega, i2, i3, i4, i5⟩
      · refine Or.inr ⟨k, by omega, by omega, z, g, ?_⟩
        rw [e0]
        by_cases h0 : byN a k = 0
        · rw [if_pos ((b_cmp0 _ hb).mpr h0), if_neg (fun h => z ((sh_zero a (by omega)).mp ((lg_cmp_eq _ _).mp h)))]
        · rw [if_neg (fun h => h0 ((b_cmp0 _ hb).mp h))]
          by_cases h33 : byN a k < 33
          · rw [if_pos ((b_cmp33 _ hb).mpr h33)]
          · rw [if_neg (fun h => h33 ((b_cmp33 _ hb).mp h)), if_neg (fun h => g ⟨by omega, (b_cmp126 _ hb).mp h⟩)]
/-- the reference's step -/
def pbad (a : Int64) (k w : Nat) : Nat := if w = 0 then (if 0 < k ∧ uN a / 2 ^ (8 * k) = 0 then 0 else if gdB (byN a k) then 0 else 1) else 1
theorem pbad_le (a : Int64) (k w : Nat) : pbad a k w ≤ 1 := by
  unfold pbad
  by_cases h : w = 0
  · rw [if_pos h]
    by_cases h1 : 0 < k ∧ uN a / 2 ^ (8 * k) = 0
    · rw [if_pos h1]
      omega
    · rw [if_neg h1]
      by_cases h2 : gdB (byN a k)
      · rw [if_pos h2]
        omega
      · rw [if_neg h2]
        omega
  · rw [if_neg h]
    omega
def pcnt (a : Int64) (k c : Nat) : Nat := if 0 < k ∧ uN a / 2 ^ (8 * k) = 0 then c else c + 1
theorem put_st (a : Int64) {k c w F : Nat} (hk : k < 8) (hc : c ≤ 8) (hw : w ≤ 1) : fX12_put_L8 (F + 1) a (nI c) (nI w) (nI k) = fX12_put_L8 F a (nI (pcnt a k c)) (nI (pbad a k w)) (nI (k + 1)) := by
  have hb := by_lt a k
  have e1 : (if nI k ≤ 0 then some (0 : Int32) else if lg_cmp (sh64 a (nI k)) 0 = 0 then some 1 else some 0) = some (if 0 < k ∧ uN a / 2 ^ (8 * k) = 0 then 1 else 0) := by
    by_cases h0 : k = 0
    · subst h0
      rfl
    · rw [if_neg (fun h => by rw [li0] at h; have := (nI_leE (by omega) (by omega)).mp h; omega)]
      by_cases z : uN a / 2 ^ (8 * k) = 0
      · rw [if_pos ((lg_cmp_eq _ _).mpr ((sh_zero a hk).mpr z)), if_pos ⟨by omega, z⟩]
      · rw [if_neg (fun h => z ((sh_zero a hk).mp ((lg_cmp_eq _ _).mp h))), if_neg (fun h => z h.2)]
  have e2 : fX12_put_L8 (F + 1) a (nI c) (nI w) (nI k) = ((if nI k ≤ 0 then some (0 : Int32) else if lg_cmp (sh64 a (nI k)) 0 = 0 then some 1 else some 0).bind fun v4 => (if nI w = 0 then (if v4 = 0 then ((fX12_in ((sh64 a (nI k) &&& 255).toInt32) 33 126).bind fun v18 => if v18 = 0 then some (1 : Int32) else some 0) else some 0) else some 1).bind fun v7 => if v4 = 0 then fX12_put_L8 F a (nI (c + 1)) v7 (nI (k + 1)) else fX12_put_L8 F a (nI c) v7 (nI (k + 1))) := by
    rw [fX12_put_L8, li8, if_neg (fun h => by have := (nI_leE (by omega) (by omega)).mp h; omega), lt1_eq]
    simp only [lt1_eq, Int32.add_zero, ← nI_addE]
    rfl
  rw [e2, e1, ob_some, by_and a hk, b_i32 _ hb, in_ok, ob_some]
  have e33 : ((33 : Int32) ≤ nI (byN a k) ∧ nI (byN a k) ≤ 126) ↔ gdB (byN a k) := by
    rw [li33, li126, nI_leE (by omega) (by omega), nI_leE (by omega) (by omega)]
  unfold pbad pcnt
  by_cases hw0 : w = 0
  · subst hw0
    by_cases h0 : 0 < k ∧ uN a / 2 ^ (8 * k) = 0
    · rw [if_pos (show nI 0 = (0 : Int32) from rfl), if_pos h0, if_neg (by decide), ob_some, if_neg (by decide), if_pos h0, if_pos rfl, if_pos h0]
      rfl
    · rw [if_pos (show nI 0 = (0 : Int32) from rfl), if_neg h0, if_pos rfl, b01]
      by_cases g : gdB (byN a k)
      · rw [if_pos (e33.mpr g), ob_some, if_pos rfl, if_neg h0, if_pos rfl, if_neg h0, if_pos g]
        rfl
      · rw [if_neg (fun h => g (e33.mp h)), ob_some, if_pos rfl, if_neg h0, if_pos rfl, if_neg h0, if_neg g]
        rfl
  · rw [if_neg (nI_ne0 (by omega) (by omega)), ob_some]
    have w1 : w = 1 := by omega
    subst w1
    by_cases h0 : 0 < k ∧ uN a / 2 ^ (8 * k) = 0
    · rw [if_pos h0, if_neg (by decide), if_pos h0, if_neg (by omega)]
      rfl
    · rw [if_neg h0, if_pos rfl, if_neg h0, if_neg (by omega)]
      rfl
theorem putBad_L (a : Int64) : ∀ (d k F c : Nat), k + d = 8 → d < F → c ≤ k → ∃ x, fX12_put_L8 F a (nI c) (nI 1) (nI k) = some (x, nI 1) := by
  intro d
  induction d with
  | zero =>
    intro k F c hk hF hc
    obtain ⟨F, rfl⟩ : ∃ F', F = F' + 1 := ⟨F - 1, by omega⟩
    exact ⟨nI c, by rw [fX12_put_L8, li8, if_pos ((nI_leE (by omega) (by omega)).mpr (by omega))]⟩
  | succ d ih =>
    intro k F c hk hF hc
    obtain ⟨F, rfl⟩ : ∃ F', F = F' + 1 := ⟨F - 1, by omega⟩
    rw [put_st a (by omega) (by omega) (by omega), show pbad a k 1 = 1 from if_neg (by omega)]
    exact ih (k + 1) F _ (by omega) (by omega) (by unfold pcnt; split <;> omega)
theorem putBad (a : Int64) {i : Nat} (hi : i < 8) (hz : i = 0 ∨ uN a / 2 ^ (8 * i) ≠ 0) (hg : ¬ gdB (byN a i)) : ∀ (d k F c w : Nat), k + d = i → d + 9 < F → c ≤ k → w ≤ 1 → ∃ x, fX12_put_L8 F a (nI c) (nI w) (nI k) = some (x, nI 1) := by
  intro d
  induction d with
  | zero =>
    intro k F c w hk hF hc hw
    obtain ⟨F, rfl⟩ : ∃ F', F = F' + 1 := ⟨F - 1, by omega⟩
    have hki : k = i := by omega
    subst hki
    have hb : pbad a k w = 1 := by
      unfold pbad
      by_cases h : w = 0
      · rw [if_pos h, if_neg (show ¬ (0 < k ∧ uN a / 2 ^ (8 * k) = 0) from fun z => hz.elim (fun z0 => by omega) (fun zz => zz z.2))]
        exact if_neg hg
      · rw [if_neg h]
    rw [put_st a (by omega) (by omega) hw, hb]
    exact putBad_L a (7 - k) (k + 1) F _ (by omega) (by omega) (by unfold pcnt; split <;> omega)
  | succ d ih =>
    intro k F c w hk hF hc hw
    obtain ⟨F, rfl⟩ : ∃ F', F = F' + 1 := ⟨F - 1, by omega⟩
    rw [put_st a (by omega) (by omega) hw]
    exact ih (k + 1) F _ _ (by omega) (by omega) (by unfold pcnt; split <;> omega) (pbad_le _ _ _)
theorem putGood (a : Int64) {n : Nat} (hn : 1 ≤ n) (hg : ∀ i, i < n → gdB (byN a i) ∧ uN a / 2 ^ (8 * i) ≠ 0) (hn8 : n ≤ 8) (he : n < 8 → uN a / 2 ^ (8 * n) = 0) : ∀ (d k F : Nat), k + d = 8 → d < F → fX12_put_L8 F a (nI (min k n)) (nI 0) (nI k) = some (nI n, nI 0) := by
  intro d
  induction d with
  | zero =>
    intro k F hk hF
    obtain ⟨F, rfl⟩ : ∃ F', F = F' + 1 := ⟨F - 1, by omega⟩
    rw [fX12_put_L8, li8, if_pos ((nI_leE (by omega) (by omega)).mpr (by omega)), show min k n = n by omega]
  | succ d ih =>
    intro k F hk hF
    obtain ⟨F, rfl⟩ : ∃ F', F = F' + 1 := ⟨F - 1, by omega⟩
    rw [put_st a (by omega) (by omega) (by omega)]
    have e : pbad a k 0 = 0 ∧ pcnt a k (min k n) = min (k + 1) n := by
      unfold pbad pcnt
      rw [if_pos rfl]
      by_cases hkn : k < n
      · rw [if_neg (fun z => (hg k hkn).2 z.2), if_pos (hg k hkn).1, if_neg (fun z => (hg k hkn).2 z.2)]
        omega
      · have z : uN a / 2 ^ (8 * k) = 0 := end_mono (he (by omega)) (by omega)
        rw [if_pos ⟨by omega, z⟩, if_pos ⟨by omega, z⟩]
        omega
    rw [e.1, e.2]
    exact ih (k + 1) F (by omega) (by omega)
theorem by32 (a : Int64) {k : Nat} (hk : k < 8) : (((a.toUInt64 >>> ((8 * nI k).toInt64.toUInt64 &&& Int64.toUInt64 63)).toInt64) &&& 255).toInt32 = nI (byN a k) := by
  have h := by_and a hk
  unfold sh64 at h
  rw [h, b_i32 _ (by_lt a k)]
theorem app_L (a : Int64) : ∀ (k l F : Nat) (M : Mem), l + k ≤ 60 → k ≤ 8 → k < F → M 15 1 = nI l → ∃ M', fX5_append_L5 F M a (nI k - 1) = some M' ∧ M' 15 1 = nI (l + k) ∧ (∀ j, M' 16 j = if l ≤ j ∧ j < l + k then nI (byN a (l + k - 1 - j)) else M 16 j) ∧ ∀ x, x ≠ 15 → x ≠ 16 → M' x = M x := by
  intro k
  induction k with
  | zero =>
    intro l F M h60 h8 hF hM
    obtain ⟨F, rfl⟩ : ∃ F', F = F' + 1 := ⟨F - 1, by omega⟩
    refine ⟨M, ?_, hM, fun j => by rw [if_neg (by omega)], fun _ _ _ => rfl⟩
    rw [fX5_append_L5, if_pos (by decide)]
  | succ k ih =>
    intro l F M h60 h8 hF hM
    obtain ⟨F, rfl⟩ : ∃ F', F = F' + 1 := ⟨F - 1, by omega⟩
    obtain ⟨M', e1, e2, e3, e4⟩ := ih (l + 1) F (up2 (up2 M 16 l (nI (byN a k))) 15 1 (nI (l + 1))) (by omega) (by omega) (by omega) (by rw [up2_same, if_pos rfl])
    refine ⟨M', ?_, by rw [e2]; congr 1; omega, fun j => ?_, fun x h1 h2 => by rw [e4 x h1 h2, up2_ne h1, up2_ne h2]⟩
    · rw [fX5_append_L5, li1, nI_subE (by omega), show k + 1 - 1 = k by omega, if_neg (nI_pos (by omega))]
      refine ob_in (gI_ok rfl) ?_
      rw [hM, li60, if_neg (fun h => by have := (nI_leE (by omega) (by omega)).mp h; omega)]
      refine ob_in (gI_ok rfl) ?_
      rw [hM]
      refine ob_in (aS_ok (n := 60) rfl rfl (by omega) (by omega)) ?_
      refine ob_in (gI_ok rfl) ?_
      refine ob_in (pI_ok rfl) ?_
      rw [by32 a (by omega), up2_ne (by omega), hM, nI_addE, show (nI k + -nI 1 : Int32) = nI k - 1 from (Int32.sub_eq_add_neg _ _).symm]
      exact e1
    · rw [e3, up2_ne (by omega), up2_same]
      by_cases h1 : l + 1 ≤ j ∧ j < l + 1 + k
      · rw [if_pos h1, if_pos (by omega)]
        congr 2
        omega
      · rw [if_neg h1]
        by_cases h2 : j = l
        · rw [if_pos h2, if_pos (by omega)]
          congr 2
          omega
        · rw [if_neg h2, if_neg (by omega)]
theorem putW_L (a : Int64) {l c : Nat} (h60 : l + c ≤ 60) (h8 : c ≤ 8) : ∀ (d k F : Nat) (N : Mem), k + d = c → d < F → N 0 7 = nI l → ∃ N', fX12_put_L126 F N a (nI c) (nI k) = some N' ∧ (∀ x, x ≠ 6 → N' x = N x) ∧ ∀ j, N' 6 j = if l ≤ j ∧ j < l + c - k then nI (byN a (l + c - 1 - j)) else N 6 j := by
  intro d
  induction d with
  | zero =>
    intro k F N hk hF hN
    obtain ⟨F, rfl⟩ : ∃ F', F = F' + 1 := ⟨F - 1, by omega⟩
    refine ⟨N, ?_, fun _ _ => rfl, fun j => by rw [if_neg (by omega)]⟩
    rw [fX12_put_L126, if_pos ((nI_leE (by omega) (by omega)).mpr (by omega))]
  | succ d ih =>
    intro k F N hk hF hN
    obtain ⟨F, rfl⟩ : ∃ F', F = F' + 1 := ⟨F - 1, by omega⟩
    obtain ⟨N', e1, e2, e3⟩ := ih (k + 1) F (up2 N 6 (l + c - 1 - k) (nI (byN a k))) (by omega) (by omega) (by rw [up2_ne (by omega)]; exact hN)
    refine ⟨N', ?_, fun x hx => by rw [e2 x hx, up2_ne hx], fun j => ?_⟩
    · rw [fX12_put_L126, if_neg (fun h => by have := (nI_leE (by omega) (by omega)).mp h; omega), n_gI, ob_some, hN, li1, nI_addE, nI_subE (by omega), nI_subE (by omega)]
      refine ob_in (aS_ok (n := 60) rfl rfl (by omega) (by omega)) ?_
      rw [by32 a (by omega), nI_addE]
      exact e1
    · rw [e3, up2_same]
      by_cases h1 : l ≤ j ∧ j < l + c - (k + 1)
      · rw [if_pos h1, if_pos (by omega)]
      · rw [if_neg h1]
        by_cases h2 : j = l + c - 1 - k
        · rw [if_pos h2, if_pos (by omega)]
          congr 2
          omega
        · rw [if_neg h2, if_neg (by omega)]
theorem op_put {M N : Mem} (h : Rel M N) (a : Int64) : OK (fX11_put M a) (fX12_put N a) := by
  obtain ⟨⟨T, A, hL⟩, n, hR⟩ := id h
  obtain ⟨⟨hh, hs, h1, h2, h3, h4, h5, h6⟩, ⟨m, sl, H2⟩, len, pd, H3⟩ := id hR
  have bad : ∀ i, i < 8 → (i = 0 ∨ uN a / 2 ^ (8 * i) ≠ 0) → ¬ gdB (byN a i) → fX12_put N a = some (-2, N) := fun i hi hz hg => by
    obtain ⟨x, hx⟩ := putBad a hi hz hg i 0 5000 0 0 (by omega) (by omega) (by omega) (by omega)
    unfold fX12_put
    refine ob2_in hx ?_
    exact if_neg (by decide)
  rcases signs_L a 8 0 5000 (by omega) (by omega) with ⟨c, c1, c2, c3, c4, c5⟩ | ⟨i, i1, i2, i3, i4, i5⟩
  · have es : fX5_signsIn a = some (nI c) := by
      unfold fX5_signsIn
      refine ob_in c5 ?_
      by_cases h8 : c = 8
      · rw [if_pos h8, h8]
        rfl
      · rw [if_neg h8]
        rfl
    by_cases h0 : c = 0
    · subst h0
      have z0 := c4 (by omega)
      refine OK_er (r := -2) h ?_ (bad 0 (by omega) (Or.inl rfl) (fun g => ?_))
      · unfold fX11_put
        rw [es, ob_some]
        exact if_pos rfl
      · unfold byN gdB at g
        rw [z0] at g
        omega
    · have hg := putGood a (n := c) (by omega) (fun i hi => c3 i (by omega) hi) c2 c4 8 0 5000 (by omega) (by omega)
      rw [show min 0 c = 0 by omega] at hg
      have h60 := H3.1
      by_cases hf : len + c ≤ 60
      · obtain ⟨M', e1, e2, e3, e4⟩ := app_L a c len 5000 M hf c2 (by omega) H3.2.1
        obtain ⟨N1, f1, f2, f3⟩ := putW_L a hf c2 c 0 5000 N (by omega) (by omega) H3.2.2.1
        have cs : ∀ {b : Nat} {T : SA} {A : PA}, CS M b T A → CS M' b T A := fun hcs => CS_congr hcs (fun o ho => e4 _ (by unfold st; omega) (by unfold st; omega)) (fun p o _ _ => e4 _ (by unfold pq; omega) (by unfold pq; omega))
        have u0 : ∀ x, x ≠ 0 → x ≠ 6 → up2 N1 0 7 (nI (len + c)) x = N x := fun x hx h6 => by rw [up2_ne hx, f2 x h6]
        refine OK_in (r := nI (len + c)) (M := M') (N := up2 N1 0 7 (nI (len + c))) ?_ ?_ ⟨⟨cs hL.1, by rw [u0 1 (by omega) (by omega)]; exact hL.2.1, hL.2.2⟩, ⟨hh, hs, h1, by rw [e4 12 (by omega) (by omega)]; exact h2, by rw [up2_same, if_neg (by omega), f2 0 (by omega)]; exact h3, fun i hi => ⟨(h4 i hi).1, (h4 i hi).2.1, by rw [e4 13 (by omega) (by omega)]; exact (h4 i hi).2.2⟩, h5, fun i hi => ⟨cs (h6 i hi).1, by rw [u0 3 (by omega) (by omega)]; exact (h6 i hi).2.1, (h6 i hi).2.2⟩⟩, ⟨m, sl, H2.1, by rw [e4 10 (by omega) (by omega)]; exact H2.2.1, fun i hi => ⟨by rw [e4 11 (by omega) (by omega)]; exact (H2.2.2 i hi).1, by rw [u0 5 (by omega) (by omega)]; exact (H2.2.2 i hi).2.1, fun hm => ⟨cs ((H2.2.2 i hi).2.2 hm).1, by rw [u0 4 (by omega) (by omega)]; exact ((H2.2.2 i hi).2.2 hm).2.1, ((H2.2.2 i hi).2.2 hm).2.2⟩⟩⟩, len + c, fun j => if j < len then pd j else byN a (len + c - 1 - j), hf, e2, by rw [up2_same, if_pos rfl], fun j hj => ?_⟩
        · unfold fX11_put
          rw [es, ob_some, if_neg (nI_ne0 (by omega) (by omega))]
          refine ob_in (gI_ok rfl) ?_
          rw [H3.2.1, nI_addE, li60, if_pos ((nI_leE (by omega) (by omega)).mpr hf)]
          refine ob_in (v := M') ?_ ?_
          · unfold fX5_append
            rw [lt1_eq]
            exact ob_in e1 rfl
          · refine ob_in (gI_ok rfl) ?_
            rw [e2]
        · unfold fX12_put
          refine ob2_in hg ?_
          rw [if_pos (show nI 0 = (0 : Int32) from rfl), n_gI, ob_some, H3.2.2.1, nI_addE, li60, if_pos ((nI_leE (by omega) (by omega)).mpr hf)]
          refine ob_in f1 ?_
          rw [n_gI, ob_some, n_pI, ob_some, f2 0 (by omega), H3.2.2.1, nI_addE, n_gI, ob_some, up2_same, if_pos rfl]
        · rw [e3, up2_ne (by omega), f3]
          by_cases hjl : j < len
          · simp only [if_pos hjl]
            rw [if_neg (by omega), if_neg (by omega)]
            exact H3.2.2.2 j hjl
          · simp only [if_neg hjl]
            rw [if_pos (by omega), if_pos (by omega)]
            have g := (c3 (len + c - 1 - j) (by omega) (by omega)).1
            exact ⟨g.1, g.2, rfl, rfl⟩
      · refine OK_er (r := -4) h ?_ ?_
        · unfold fX11_put
          rw [es, ob_some, if_neg (nI_ne0 (by omega) (by omega))]
          refine ob_in (gI_ok rfl) ?_
          rw [H3.2.1, nI_addE, li60, if_neg (fun h => hf ((nI_leE (by omega) (by omega)).mp h))]
        · unfold fX12_put
          refine ob2_in hg ?_
          rw [if_pos (show nI 0 = (0 : Int32) from rfl), n_gI, ob_some, H3.2.2.1, nI_addE, li60, if_neg (fun h => hf ((nI_leE (by omega) (by omega)).mp h))]
  · refine OK_er (r := -2) h ?_ (bad i i2 (Or.inr i3) i4)
    unfold fX11_put fX5_signsIn
    refine ob_in (v := 0) (ob_in i5 rfl) ?_
    exact if_pos rfl
