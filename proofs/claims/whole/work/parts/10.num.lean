/-! numbers and places -/
theorem nI_addE (a b : Nat) : nI a + nI b = nI (a + b) := by
  unfold nI
  rw [Int32.ofNat_add]
theorem nI_mulE (a b : Nat) : nI a * nI b = nI (a * b) := by
  unfold nI
  rw [Int32.ofNat_mul]
theorem nI_subE {a b : Nat} (h : b ≤ a) : nI a - nI b = nI (a - b) := by
  have h1 := nI_addE (a - b) b
  rw [Nat.sub_add_cancel h] at h1
  rw [← h1, Int32.add_sub_cancel]
theorem litE (k : Nat) : (OfNat.ofNat k : Int32) = nI k := rfl
theorem nI_leE {a b : Nat} (ha : a < 2 ^ 31) (hb : b < 2 ^ 31) : nI a ≤ nI b ↔ a ≤ b := by
  rw [Int32.le_iff_toInt_le, nI_toInt ha, nI_toInt hb]; omega
theorem nI_ltE {a b : Nat} (ha : a < 2 ^ 31) (hb : b < 2 ^ 31) : nI a < nI b ↔ a < b := by
  rw [Int32.lt_iff_toInt_lt, nI_toInt ha, nI_toInt hb]; omega
theorem nI_eqE {a b : Nat} (ha : a < 2 ^ 31) (hb : b < 2 ^ 31) : nI a = nI b ↔ a = b := by
  refine ⟨fun h => ?_, fun h => by rw [h]⟩
  have h1 := congrArg Int32.toInt h
  rw [nI_toInt ha, nI_toInt hb] at h1
  omega
theorem nI_negE {a b : Nat} (ha : a < 2 ^ 31) (hb : 0 < b) (hb2 : b < 2 ^ 31) : nI a = -nI b ↔ False := by
  refine ⟨fun h => ?_, fun h => h.elim⟩
  have h1 := congrArg Int32.toInt h
  rw [nI_toInt ha, Int32.toInt_neg, nI_toInt hb2] at h1
  have h2 : (-(b : Int)).bmod (2 ^ 32) = -(b : Int) := by
    rw [Int.bmod_def]
    omega
  rw [h2] at h1
  omega
theorem nI_negE' {a b : Nat} (ha : a < 2 ^ 31) (hb : 0 < b) (hb2 : b < 2 ^ 31) : -nI b = nI a ↔ False := ⟨fun h => (nI_negE ha hb hb2).mp h.symm, fun h => h.elim⟩
theorem nI_cl {n : Nat} (h : n < 2 ^ 31) : (nI n).toNatClampNeg = n := nI_clamp h
theorem i32_nat {x : Int32} {k : Nat} (h0 : 0 ≤ x) (h1 : x < nI k) (hk : k < 2 ^ 31) : ∃ n, n < k ∧ x = nI n := by
  rw [Int32.le_iff_toInt_le, Int32.toInt_zero] at h0
  rw [Int32.lt_iff_toInt_lt, nI_toInt hk] at h1
  refine ⟨x.toInt.toNat, by omega, ?_⟩
  refine Int32.toInt_inj.mp ?_
  rw [nI_toInt (by omega)]
  omega
theorem oob_nI {n j : Nat} (h : j < n) (hn : n < 2 ^ 31) : oobB n (nI j) = false := oobB_not.mpr (nI_in h hn)
/-! places in the blocks -/
theorem pq_eq {q o q' o' : Nat} (h : o < 23) (h' : o' < 23) : (pq q o = pq q' o') = (q = q' ∧ o = o') := by
  unfold pq
  refine propext ⟨fun h1 => ?_, fun h1 => by rw [h1.1, h1.2]⟩
  omega
theorem st_eq {b o b' o' : Nat} (h : o < 7) (h' : o' < 7) : (st b o = st b' o') = (b = b' ∧ o = o') := by
  unfold st
  refine propext ⟨fun h1 => ?_, fun h1 => by rw [h1.1, h1.2]⟩
  omega
theorem pq_st {q o b o' : Nat} (hb : b < 9) (h' : o' < 7) : (pq q o = st b o') = False := by
  unfold pq st
  refine propext ⟨fun h1 => by omega, fun h1 => h1.elim⟩
theorem st_pq {q o b o' : Nat} (hb : b < 9) (h' : o' < 7) : (st b o' = pq q o) = False := by
  unfold pq st
  refine propext ⟨fun h1 => by omega, fun h1 => h1.elim⟩
theorem pq_ne {q o k : Nat} (h : k < 97) : (pq q o = k) = False := by
  unfold pq
  refine propext ⟨fun h1 => by omega, fun h1 => h1.elim⟩
theorem st_ne {b o k : Nat} (h : k < 34) : (st b o = k) = False := by
  unfold st
  refine propext ⟨fun h1 => by omega, fun h1 => h1.elim⟩
theorem ne_pq {q o k : Nat} (h : k < 97) : (k = pq q o) = False := by
  unfold pq
  refine propext ⟨fun h1 => by omega, fun h1 => h1.elim⟩
theorem ne_st {b o k : Nat} (h : k < 34) : (k = st b o) = False := by
  unfold st
  refine propext ⟨fun h1 => by omega, fun h1 => h1.elim⟩
theorem shp_pq {q o : Nat} (hq : q < 28) (ho : o < 23) : shp (pq q o) = shP o := by
  unfold shp pq
  rw [if_neg (by omega), if_neg (by omega), if_pos (by omega)]
  congr 1
  omega
theorem ln_pq {q o : Nat} (hq : q < 28) (ho : o < 23) : ln (pq q o) = lnP o := by
  unfold ln pq
  rw [if_neg (by omega), if_neg (by omega), if_pos (by omega)]
  congr 1
  omega
theorem shp_st {b o : Nat} (hb : b < 9) (ho : o < 7) : shp (st b o) = shT o := by
  unfold shp st
  rw [if_neg (by omega), if_pos (by omega)]
  congr 1
  omega
theorem ln_st {b o : Nat} (hb : b < 9) (ho : o < 7) : ln (st b o) = lnT o := by
  unfold ln st
  rw [if_neg (by omega), if_pos (by omega)]
  congr 1
  omega
/-- the places that the references of a block's cells name -/
def rP : Nat → Nat → Nat := fun o k => match o, k with
  | 0, 3 => 1 | 0, 4 => 2 | 0, 5 => 3 | 0, 6 => 4 | 0, 7 => 5 | 0, 8 => 6 | 0, 9 => 7 | 0, 10 => 16 | 0, 11 => 19 | 0, 12 => 21
  | 7, j => 8 + j | 16, 2 => 17 | 16, 3 => 18 | 19, 0 => 20 | 21, 0 => 22 | _, _ => 0
theorem rf_pq0 {q k : Nat} (hk : 3 ≤ k ∧ k ≤ 12) : rf (pq q 0) k = pq q (rP 0 k) := by
  have h1 : rf (pq q 0) k = rfP (pq q 0) 0 k := by
    unfold rf
    rw [if_neg (by unfold pq; omega), if_neg (by unfold pq; omega)]
    congr 1
    unfold pq
    omega
  rw [h1]
  rcases (show k = 3 ∨ k = 4 ∨ k = 5 ∨ k = 6 ∨ k = 7 ∨ k = 8 ∨ k = 9 ∨ k = 10 ∨ k = 11 ∨ k = 12 by omega) with rfl | rfl | rfl | rfl | rfl | rfl | rfl | rfl | rfl | rfl <;> simp [rfP, rP, pq, Nat.add_assoc]
theorem rf_pqo {q o k : Nat} (ho : o < 23) : rf (pq q o) k = rfP (pq q o) o k := by
  unfold rf
  rw [if_neg (by unfold pq; omega), if_neg (by unfold pq; omega)]
  congr 1
  unfold pq
  omega
theorem rf_pq7 {q j : Nat} : rf (pq q 7) j = pq q (8 + j) := by
  rw [rf_pqo (by omega)]
  simp only [rfP, pq]
  omega
theorem rf_pq16a {q : Nat} : rf (pq q 16) 2 = pq q 17 := by rw [rf_pqo (by omega)]; simp [rfP, pq, Nat.add_assoc]
theorem rf_pq16b {q : Nat} : rf (pq q 16) 3 = pq q 18 := by rw [rf_pqo (by omega)]; simp [rfP, pq, Nat.add_assoc]
theorem rf_pq19 {q : Nat} : rf (pq q 19) 0 = pq q 20 := by rw [rf_pqo (by omega)]; simp [rfP, pq, Nat.add_assoc]
theorem rf_pq21 {q : Nat} : rf (pq q 21) 0 = pq q 22 := by rw [rf_pqo (by omega)]; simp [rfP, pq, Nat.add_assoc]
theorem rf_sto {b o k : Nat} (hb : b < 9) (ho : o < 7) : rf (st b o) k = rfT b (st b o) o k := by
  unfold rf
  rw [if_neg (by unfold st; omega), if_pos (by unfold st; omega)]
  congr 1
  · unfold st
    omega
  · unfold st
    omega
theorem rf_st00 {b : Nat} (hb : b < 9) : rf (st b 0) 0 = st b 1 := by rw [rf_sto hb (by omega)]; simp [rfT, st, Nat.add_assoc]
theorem rf_st01 {b : Nat} (hb : b < 9) : rf (st b 0) 1 = st b 2 := by rw [rf_sto hb (by omega)]; simp [rfT, st, Nat.add_assoc]
theorem rf_st02 {b : Nat} (hb : b < 9) : rf (st b 0) 2 = st b 6 := by rw [rf_sto hb (by omega)]; simp [rfT, st, Nat.add_assoc]
theorem rf_st21 {b : Nat} (hb : b < 9) : rf (st b 2) 1 = st b 3 := by rw [rf_sto hb (by omega)]; simp [rfT, st, Nat.add_assoc]
theorem rf_st22 {b : Nat} (hb : b < 9) : rf (st b 2) 2 = st b 4 := by rw [rf_sto hb (by omega)]; simp [rfT, st, Nat.add_assoc]
theorem rf_st23 {b : Nat} (hb : b < 9) : rf (st b 2) 3 = st b 5 := by rw [rf_sto hb (by omega)]; simp [rfT, st, Nat.add_assoc]
theorem rf_st6 {b j : Nat} (hb : b < 9) : rf (st b 6) j = pq (3 * b + j) 0 := by rw [rf_sto hb (by omega)]; simp [rfT, pq]
theorem st_34 : (34 : Nat) = st 0 0 := rfl
/-! the steps of the printed functions, where they go on -/
theorem ob_in {α β : Type} {x : Option α} {f : α → Option β} {v : α} {z : Option β} (h : x = some v) (h2 : f v = z) : x.bind f = z := by
  rw [h]
  exact h2
theorem ob2_in {α β γ : Type} {x : Option (α × β)} {f : α → β → Option γ} {a : α} {b : β} {z : Option γ} (h : x = some (a, b)) (h2 : f a b = z) : ob2 x f = z := by
  rw [h]
  exact h2
theorem gI_ok {c k i : Nat} {M : Mem} (h : shp i = c) : gI c k M i = some (M i k) := if_pos h
theorem gR_ok {c k i x : Nat} (h : shp i = c) (hr : rf i k = x) : gR c k i = some x := by
  unfold gR
  rw [if_pos h, hr]
theorem pI_ok {c k i : Nat} {M : Mem} {v : Int32} (h : shp i = c) : pI c k M i v = some (up2 M i k v) := if_pos h
theorem aL_ok {t i n j : Nat} {M : Mem} (h : shp i = t) (hn : ln i = n) (hj : j < n) (h2 : n < 2 ^ 31) : aL t M i (nI j) = some (M i j) := by
  unfold aL
  rw [hn, if_pos ⟨h, oob_nI hj h2⟩, nI_cl (by omega)]
theorem aS_ok {t i n j : Nat} {M : Mem} {v : Int32} (h : shp i = t) (hn : ln i = n) (hj : j < n) (h2 : n < 2 ^ 31) : aS t M i (nI j) v = some (up2 M i j v) := by
  unfold aS
  rw [hn, if_pos ⟨h, oob_nI hj h2⟩, nI_cl (by omega)]
theorem aN_ok {t i n : Nat} (h : shp i = t) (hn : ln i = n) : aN t i = some (nI n) := by
  unfold aN
  rw [hn, if_pos h]
  rfl
theorem aR_ok {t i n j x : Nat} (h : shp i = t) (hn : ln i = n) (hj : j < n) (h2 : n < 2 ^ 31) (hr : rf i j = x) : aR t i (nI j) = some x := by
  unfold aR
  rw [hn, if_pos ⟨h, oob_nI hj h2⟩, nI_cl (by omega), hr]
theorem up2_ap (M : Mem) (i k a j : Nat) (v : Int32) : up2 M i k v a j = if a = i then (if j = k then v else M a j) else M a j := rfl
