/-! rows: copy, clear, close a gap, raise, greatest, least -/
def setR (M : Mem) (b k m : Nat) (f : Nat → Int32) : Mem := fun x j => if x = b ∧ k ≤ j ∧ j < m then f j else M x j
theorem setR_step {M : Mem} {b k m : Nat} {v : Int32} {f f' : Nat → Int32} (hk : k < m) (hv : v = f k) (hf : ∀ j, k + 1 ≤ j → j < m → f' j = f j) : setR (up2 M b k v) b (k + 1) m f' = setR M b k m f := by
  funext x j
  unfold setR up2
  by_cases hx : x = b
  · by_cases h1 : j = k
    · subst h1
      rw [if_neg (by omega), if_pos hx, if_pos rfl, if_pos ⟨hx, Nat.le_refl _, hk⟩, hv]
    · by_cases h2 : k ≤ j ∧ j < m
      · rw [if_pos ⟨hx, by omega, h2.2⟩, if_pos ⟨hx, h2⟩, hf j (by omega) h2.2]
      · rw [if_neg (by omega), if_pos hx, if_neg h1, if_neg (by omega)]
  · rw [if_neg (by omega), if_neg hx, if_neg (by omega)]
theorem setR_none {M : Mem} {b m : Nat} {f : Nat → Int32} : setR M b m m f = M := by
  funext x j
  unfold setR
  rw [if_neg (by omega)]
theorem setR_other {M : Mem} {b k m x : Nat} {f : Nat → Int32} (h : x ≠ b) : setR M b k m f x = M x := by
  funext j
  unfold setR
  rw [if_neg (fun q => h q.1)]
theorem copy_L {a b n : Nat} (ha : shp a = 20) (hla : ln a = n) (hb : shp b = 20) (hlb : ln b = n) (hab : a ≠ b) (hn : n < 5000) : ∀ (d k F : Nat) (M : Mem), k + d = n → d < F → fX11_copy_L2 F M a b (nI k) = some (setR M b k n (M a)) := by
  intro d
  induction d with
  | zero =>
    intro k F M hk hF
    obtain ⟨F, rfl⟩ : ∃ F', F = F' + 1 := ⟨F - 1, by omega⟩
    rw [fX11_copy_L2]
    refine ob_in (aN_ok ha hla) ?_
    rw [if_pos ((nI_leE (by omega) (by omega)).mpr (by omega))]
    rw [show k = n by omega, setR_none]
  | succ d ih =>
    intro k F M hk hF
    obtain ⟨F, rfl⟩ : ∃ F', F = F' + 1 := ⟨F - 1, by omega⟩
    rw [fX11_copy_L2]
    refine ob_in (aN_ok ha hla) ?_
    rw [if_neg (fun h => by have := (nI_leE (by omega) (by omega)).mp h; omega)]
    refine ob_in (aN_ok hb hlb) ?_
    rw [if_neg (fun h => by have := (nI_leE (by omega) (by omega)).mp h; omega)]
    refine ob_in (aL_ok ha hla (by omega) (by omega)) ?_
    refine ob_in (aS_ok hb hlb (by omega) (by omega)) ?_
    rw [show (nI k + 1 : Int32) = nI (k + 1) from nI_addE k 1, ih (k + 1) F _ (by omega) (by omega)]
    congr 1
    exact setR_step (by omega) rfl (fun j _ _ => by rw [up2_ne hab])
theorem copy_ok {a b n : Nat} {M : Mem} (ha : shp a = 20) (hla : ln a = n) (hb : shp b = 20) (hlb : ln b = n) (hab : a ≠ b) (hn : n < 5000) : fX11_copy M a b = some (setR M b 0 n (M a)) := by
  unfold fX11_copy
  exact ob_in (copy_L ha hla hb hlb hab hn n 0 5000 M (by omega) (by omega)) rfl
theorem clear_L {a n : Nat} (ha : shp a = 20) (hla : ln a = n) (hn : n < 5000) : ∀ (d k F : Nat) (M : Mem), k + d = n → d < F → fX11_clear_L2 F M a (nI k) = some (setR M a k n (fun _ => 0)) := by
  intro d
  induction d with
  | zero =>
    intro k F M hk hF
    obtain ⟨F, rfl⟩ : ∃ F', F = F' + 1 := ⟨F - 1, by omega⟩
    rw [fX11_clear_L2]
    refine ob_in (aN_ok ha hla) ?_
    rw [if_pos ((nI_leE (by omega) (by omega)).mpr (by omega))]
    rw [show k = n by omega, setR_none]
  | succ d ih =>
    intro k F M hk hF
    obtain ⟨F, rfl⟩ : ∃ F', F = F' + 1 := ⟨F - 1, by omega⟩
    rw [fX11_clear_L2]
    refine ob_in (aN_ok ha hla) ?_
    rw [if_neg (fun h => by have := (nI_leE (by omega) (by omega)).mp h; omega)]
    refine ob_in (aS_ok ha hla (by omega) (by omega)) ?_
    rw [show (nI k + 1 : Int32) = nI (k + 1) from nI_addE k 1, ih (k + 1) F _ (by omega) (by omega)]
    congr 1
    exact setR_step (by omega) rfl (fun j _ _ => rfl)
theorem clear_ok {a n : Nat} {M : Mem} (ha : shp a = 20) (hla : ln a = n) (hn : n < 5000) : fX11_clear M a = some (setR M a 0 n (fun _ => 0)) := by
  unfold fX11_clear
  exact ob_in (clear_L ha hla hn n 0 5000 M (by omega) (by omega)) rfl
theorem gap_L {a n : Nat} (ha : shp a = 20) (hla : ln a = n) (hn : n < 5000) : ∀ (d k F : Nat) (M : Mem), k + d = n → d < F → fX11_closeGap_L6 F M a (nI k) = some (setR M a k n (fun j => if j + 1 < n then M a (j + 1) else 0)) := by
  intro d
  induction d with
  | zero =>
    intro k F M hk hF
    obtain ⟨F, rfl⟩ : ∃ F', F = F' + 1 := ⟨F - 1, by omega⟩
    rw [fX11_closeGap_L6]
    refine ob_in (aN_ok ha hla) ?_
    rw [if_pos ((nI_leE (by omega) (by omega)).mpr (by omega))]
    rw [show k = n by omega, setR_none]
  | succ d ih =>
    intro k F M hk hF
    obtain ⟨F, rfl⟩ : ∃ F', F = F' + 1 := ⟨F - 1, by omega⟩
    rw [fX11_closeGap_L6]
    refine ob_in (aN_ok ha hla) ?_
    rw [if_neg (fun h => by have := (nI_leE (by omega) (by omega)).mp h; omega)]
    refine ob_in (aN_ok ha hla) ?_
    rw [show (nI k + 1 : Int32) = nI (k + 1) from nI_addE k 1]
    by_cases h1 : n ≤ k + 1
    · rw [if_pos ((nI_leE (by omega) (by omega)).mpr h1)]
      refine ob_in (aS_ok ha hla (by omega) (by omega)) ?_
      rw [ih (k + 1) F _ (by omega) (by omega)]
      congr 1
      exact setR_step (by omega) (by rw [if_neg (by omega)]) (fun j _ _ => by omega)
    · rw [if_neg (fun h => h1 ((nI_leE (by omega) (by omega)).mp h))]
      refine ob_in (aL_ok ha hla (by omega) (by omega)) ?_
      refine ob_in (aS_ok ha hla (by omega) (by omega)) ?_
      rw [ih (k + 1) F _ (by omega) (by omega)]
      congr 1
      refine setR_step (by omega) (by rw [if_pos (by omega)]) (fun j h2 h3 => ?_)
      by_cases h4 : j + 1 < n
      · rw [if_pos h4, if_pos h4, up2_ap, if_pos rfl, if_neg (by omega)]
      · rw [if_neg h4, if_neg h4]
theorem gap_ok {a n g : Nat} {M : Mem} (ha : shp a = 20) (hla : ln a = n) (hn : n < 5000) (hg : g < n) : fX11_closeGap M a (nI g) = some (setR M a g n (fun j => if j + 1 < n then M a (j + 1) else 0)) := by
  unfold fX11_closeGap lt1
  rw [if_neg (nI_pos (by omega))]
  exact ob_in (gap_L ha hla hn (n - g) g 5000 M (by omega) (by omega)) rfl
def mx (a b : Int32) : Int32 := if a < b then b else a
theorem raise_L {a b n : Nat} (ha : shp a = 20) (hla : ln a = n) (hb : shp b = 20) (hlb : ln b = n) (hab : a ≠ b) (hn : n < 5000) : ∀ (d k F : Nat) (M : Mem), k + d = n → d < F → fX11_raise_L2 F M a b (nI k) = some (setR M a k n (fun j => mx (M a j) (M b j))) := by
  intro d
  induction d with
  | zero =>
    intro k F M hk hF
    obtain ⟨F, rfl⟩ : ∃ F', F = F' + 1 := ⟨F - 1, by omega⟩
    rw [fX11_raise_L2]
    refine ob_in (aN_ok ha hla) ?_
    rw [if_pos ((nI_leE (by omega) (by omega)).mpr (by omega))]
    rw [show k = n by omega, setR_none]
  | succ d ih =>
    intro k F M hk hF
    obtain ⟨F, rfl⟩ : ∃ F', F = F' + 1 := ⟨F - 1, by omega⟩
    rw [fX11_raise_L2]
    refine ob_in (aN_ok ha hla) ?_
    rw [if_neg (fun h => by have := (nI_leE (by omega) (by omega)).mp h; omega)]
    refine ob_in (aN_ok hb hlb) ?_
    rw [if_neg (fun h => by have := (nI_leE (by omega) (by omega)).mp h; omega)]
    refine ob_in (aL_ok ha hla (by omega) (by omega)) ?_
    refine ob_in (aL_ok hb hlb (by omega) (by omega)) ?_
    refine ob_in (aS_ok ha hla (by omega) (by omega)) ?_
    rw [show (nI k + 1 : Int32) = nI (k + 1) from nI_addE k 1, ih (k + 1) F _ (by omega) (by omega)]
    congr 1
    exact setR_step (by omega) rfl (fun j _ _ => by rw [up2_ne (Ne.symm hab), up2_ap, if_pos rfl, if_neg (by omega)])
theorem raise_ok {a b n : Nat} {M : Mem} (ha : shp a = 20) (hla : ln a = n) (hb : shp b = 20) (hlb : ln b = n) (hab : a ≠ b) (hn : n < 5000) : fX11_raise M a b = some (setR M a 0 n (fun j => mx (M a j) (M b j))) := by
  unfold fX11_raise
  exact ob_in (raise_L ha hla hb hlb hab hn n 0 5000 M (by omega) (by omega)) rfl
/-- the greatest of f 0 .. f (n - 1) and z, the least likewise -/
def gmax (z : Int32) (f : Nat → Int32) : Nat → Int32
  | 0 => z
  | n + 1 => mx (gmax z f n) (f n)
def mnx (a b : Int32) : Int32 := if b < a then b else a
def gmin (z : Int32) (f : Nat → Int32) : Nat → Int32
  | 0 => z
  | n + 1 => mnx (gmin z f n) (f n)
theorem greatest_L {a n : Nat} {M : Mem} (ha : shp a = 20) (hla : ln a = n) (hn : n < 5000) : ∀ (d k F : Nat), k + d = n → d < F → fX11_greatest_L10 F M (gmax 0 (M a) k) a (nI n) (nI k) = some (gmax 0 (M a) n) := by
  intro d
  induction d with
  | zero =>
    intro k F hk hF
    obtain ⟨F, rfl⟩ : ∃ F', F = F' + 1 := ⟨F - 1, by omega⟩
    rw [fX11_greatest_L10, if_pos ((nI_leE (by omega) (by omega)).mpr (by omega)), show k = n by omega]
  | succ d ih =>
    intro k F hk hF
    obtain ⟨F, rfl⟩ : ∃ F', F = F' + 1 := ⟨F - 1, by omega⟩
    rw [fX11_greatest_L10, if_neg (fun h => by have := (nI_leE (by omega) (by omega)).mp h; omega)]
    refine ob_in (aL_ok ha hla (by omega) (by omega)) ?_
    rw [show (nI k + 1 : Int32) = nI (k + 1) from nI_addE k 1]
    exact ih (k + 1) F (by omega) (by omega)
theorem greatest_ok {a n : Nat} {M : Mem} (ha : shp a = 20) (hla : ln a = n) (hn : n < 5000) : fX11_greatest M a = some (gmax 0 (M a) n) := by
  unfold fX11_greatest
  refine ob_in (aN_ok ha hla) ?_
  exact ob_in (greatest_L ha hla hn n 0 5000 (by omega) (by omega)) rfl
theorem least_L {a n : Nat} {M : Mem} {z : Int32} (ha : shp a = 20) (hla : ln a = n) (hn : n < 5000) : ∀ (d k F : Nat), k + d = n → d < F → fX11_least_L21 F M (gmin z (M a) k) a (nI n) (nI k) = some (gmin z (M a) n) := by
  intro d
  induction d with
  | zero =>
    intro k F hk hF
    obtain ⟨F, rfl⟩ : ∃ F', F = F' + 1 := ⟨F - 1, by omega⟩
    rw [fX11_least_L21, if_pos ((nI_leE (by omega) (by omega)).mpr (by omega)), show k = n by omega]
  | succ d ih =>
    intro k F hk hF
    obtain ⟨F, rfl⟩ : ∃ F', F = F' + 1 := ⟨F - 1, by omega⟩
    rw [fX11_least_L21, if_neg (fun h => by have := (nI_leE (by omega) (by omega)).mp h; omega)]
    refine ob_in (aL_ok ha hla (by omega) (by omega)) ?_
    rw [show (nI k + 1 : Int32) = nI (k + 1) from nI_addE k 1]
    exact ih (k + 1) F (by omega) (by omega)
theorem least_ok {a n : Nat} {M : Mem} (ha : shp a = 20) (hla : ln a = n) (hn : n < 5000) (h0 : 0 < n) : fX11_least M a = some (gmin (M a 0) (M a) n) := by
  unfold fX11_least
  refine ob_in (aN_ok ha hla) ?_
  refine ob_in (v := M a 0) ?_ ?_
  · rw [if_neg (fun h => by have := (nI_leE (a := n) (b := 0) (by omega) (by omega)).mp h; omega)]
    exact ob_in (aL_ok (j := 0) ha hla h0 (by omega)) rfl
  · refine ob_in (aN_ok ha hla) ?_
    exact ob_in (least_L ha hla hn n 0 5000 (by omega) (by omega)) rfl
