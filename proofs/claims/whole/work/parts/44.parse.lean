/-! the order text: what it says; the class's signs and numbers -/
def sg (len : Nat) (pd : Nat → Nat) (i : Nat) : Nat := if i < len then pd i else 0
abbrev isD (len : Nat) (pd : Nat → Nat) (i : Nat) : Prop := 48 ≤ sg len pd i ∧ sg len pd i ≤ 57
def nm (len : Nat) (pd : Nat → Nat) (hi : Nat) : Nat → Nat → Nat → Nat × Nat
  | 0, i, v => (v, i)
  | f + 1, i, v => if v ≠ 0 ∧ isD len pd i ∧ 10 * v + (sg len pd i - 48) ≤ hi then nm len pd hi f (i + 1) (10 * v + (sg len pd i - 48)) else (v, i)
def num (len : Nat) (pd : Nat → Nat) (lo hi i : Nat) : Option (Nat × Nat) := if isD len pd i ∧ lo ≤ sg len pd i - 48 ∧ sg len pd i - 48 ≤ hi then some (nm len pd hi 2 (i + 1) (sg len pd i - 48)) else none
def sI (len : Nat) (pd : Nat → Nat) (i : Nat) : Int32 := if i < len then nI (pd i) else -6
def PadC (len : Nat) (pd : Nat → Nat) (M : Mem) : Prop := len ≤ 60 ∧ M 15 1 = nI len ∧ ∀ j, j < len → 33 ≤ pd j ∧ pd j ≤ 126 ∧ M 16 j = nI (pd j)
/-- the class's reader at place i -/
def AtC (len : Nat) (pd : Nat → Nat) (M : Mem) (i : Nat) : Prop := PadC len pd M ∧ M 14 1 = nI i ∧ M 14 2 = sI len pd i
def stM (len : Nat) (pd : Nat → Nat) (M : Mem) (i : Nat) : Mem := up2 (up2 M 14 1 (nI i)) 14 2 (sI len pd i)
theorem stM_ne {len : Nat} {pd : Nat → Nat} {M : Mem} {i x : Nat} (h : x ≠ 14) : stM len pd M i x = M x := by
  unfold stM
  rw [up2_ne h, up2_ne h]
theorem stM_k {len : Nat} {pd : Nat → Nat} {M : Mem} {i k : Nat} (h1 : k ≠ 1) (h2 : k ≠ 2) : stM len pd M i 14 k = M 14 k := by
  unfold stM
  rw [up2_same, if_neg h2, up2_same, if_neg h1]
theorem PadC_st {len : Nat} {pd : Nat → Nat} {M : Mem} {i : Nat} (h : PadC len pd M) : PadC len pd (stM len pd M i) :=
  ⟨h.1, by rw [stM_ne (by omega)]; exact h.2.1, fun j hj => by rw [stM_ne (by omega)]; exact h.2.2 j hj⟩
theorem AtC_st {len : Nat} {pd : Nat → Nat} {M : Mem} {i : Nat} (h : PadC len pd M) : AtC len pd (stM len pd M i) i := by
  refine ⟨PadC_st h, ?_, ?_⟩
  · unfold stM
    rw [up2_same, if_neg (by omega), up2_same, if_pos rfl]
  · unfold stM
    rw [up2_same, if_pos rfl]
theorem stepTo_ok {len : Nat} {pd : Nat → Nat} {M : Mem} {i : Nat} (h : PadC len pd M) (hi : i ≤ 61) : fX4_stepTo M (nI i) = some (stM len pd M i) := by
  have h60 := h.1
  unfold fX4_stepTo stM sI
  refine ob_in (pI_ok rfl) ?_
  rw [if_neg (nI_pos (by omega))]
  refine ob_in (gI_ok rfl) ?_
  rw [up2_ne (by omega), h.2.1]
  by_cases hl : i < len
  · rw [if_neg (fun q => by have := (nI_leE (by omega) (by omega)).mp q; omega), li60, if_neg (fun q => by have := (nI_leE (by omega) (by omega)).mp q; omega), if_pos hl]
    refine ob_in (aL_ok (n := 60) rfl rfl (by omega) (by omega)) ?_
    refine ob_in (pI_ok rfl) ?_
    rw [up2_ne (by omega), (h.2.2 i hl).2.2]
  · rw [if_pos ((nI_leE (by omega) (by omega)).mpr (by omega)), if_neg hl]
    exact ob_in (pI_ok rfl) rfl
theorem sI_eq {len : Nat} {pd : Nat → Nat} {M : Mem} {i c : Nat} (h : PadC len pd M) (hc : 33 ≤ c) (hc2 : c ≤ 126) : (sI len pd i = nI c) = (sg len pd i = c) := by
  unfold sI sg
  by_cases hl : i < len
  · have := h.2.2 i hl
    rw [if_pos hl, if_pos hl]
    exact propext (nI_eqE (by omega) (by omega))
  · rw [if_neg hl, if_neg hl]
    refine propext ⟨fun z => ?_, fun z => by omega⟩
    rw [li6] at z
    exact ((nI_negE' (by omega) (by omega) (by omega)).mp z).elim
theorem take_ok {len : Nat} {pd : Nat → Nat} {M : Mem} {i c : Nat} (h : AtC len pd M i) (hi : i ≤ 60) (hc : 33 ≤ c) (hc2 : c ≤ 126) : fX4_take M (nI c) = if sg len pd i = c then some (1, stM len pd M (i + 1)) else some (0, M) := by
  unfold fX4_take
  refine ob_in (gI_ok rfl) ?_
  rw [h.2.2]
  by_cases hs : sg len pd i = c
  · rw [if_pos ((sI_eq h.1 hc hc2).mpr hs), if_pos hs]
    refine ob_in (gI_ok rfl) ?_
    rw [h.2.1, li1, nI_addE, stepTo_ok h.1 (by omega), ob_some]
  · rw [if_neg (fun z => hs ((sI_eq h.1 hc hc2).mp z)), if_neg hs]
theorem digit_ok {len : Nat} {pd : Nat → Nat} {M : Mem} {i : Nat} (h : AtC len pd M i) : fX4_digitHere M = some (if isD len pd i then nI (sg len pd i - 48) else -6) := by
  unfold fX4_digitHere
  refine ob_in (gI_ok rfl) ?_
  rw [h.2.2]
  by_cases hl : i < len
  · have hp := h.1.2.2 i hl
    have e1 : sI len pd i = nI (pd i) := if_pos hl
    have e2 : sg len pd i = pd i := if_pos hl
    rw [e1]
    unfold isD
    rw [e2]
    by_cases h1 : pd i < 48
    · rw [if_pos (show nI (pd i) < 48 from nI_lt (b := 48) h1 (by omega)), if_neg (by omega)]
    · rw [if_neg (show ¬ nI (pd i) < (48 : Int32) from fun z => h1 ((nI_ltE (b := 48) (by omega) (by omega)).mp z))]
      refine ob_in (gI_ok rfl) ?_
      rw [h.2.2, e1]
      by_cases h2 : 57 < pd i
      · rw [if_pos (show (57 : Int32) < nI (pd i) from nI_lt (a := 57) h2 (by omega)), if_neg (by omega)]
      · rw [if_neg (show ¬ (57 : Int32) < nI (pd i) from fun z => h2 ((nI_ltE (a := 57) (by omega) (by omega)).mp z)), if_pos (by omega)]
        refine ob_in (gI_ok rfl) ?_
        rw [h.2.2, e1, li48, nI_subE (by omega)]
  · have e1 : sI len pd i = -6 := if_neg hl
    have e2 : sg len pd i = 0 := if_neg hl
    unfold isD
    rw [e1, e2, if_pos (by decide), if_neg (by omega)]
/-- what reading leaves as it was -/
def KeepR (M M' : Mem) : Prop := (∀ x, x ≠ 14 → M' x = M x) ∧ ∀ k, k ≠ 1 → k ≠ 2 → M' 14 k = M 14 k
theorem KeepR.rf {M : Mem} : KeepR M M := ⟨fun _ _ => rfl, fun _ _ _ => rfl⟩
theorem KeepR.tr {M1 M2 M3 : Mem} (h1 : KeepR M1 M2) (h2 : KeepR M2 M3) : KeepR M1 M3 := ⟨fun x hx => (h2.1 x hx).trans (h1.1 x hx), fun k a b => (h2.2 k a b).trans (h1.2 k a b)⟩
theorem KeepR.st {len : Nat} {pd : Nat → Nat} {M : Mem} {i : Nat} : KeepR M (stM len pd M i) := ⟨fun x hx => stM_ne hx, fun k a b => stM_k a b⟩
theorem nm_le {len : Nat} {pd : Nat → Nat} {hi : Nat} : ∀ (f i v : Nat), v ≤ hi → (nm len pd hi f i v).1 ≤ hi ∧ i ≤ (nm len pd hi f i v).2 ∧ ((nm len pd hi f i v).2 ≤ max i len) := by
  intro f
  induction f with
  | zero =>
    intro i v h
    exact ⟨h, Nat.le_refl _, Nat.le_max_left _ _⟩
  | succ f ih =>
    intro i v h
    rw [nm]
    by_cases hc : v ≠ 0 ∧ isD len pd i ∧ 10 * v + (sg len pd i - 48) ≤ hi
    · rw [if_pos hc]
      obtain ⟨a1, a2, a3⟩ := ih (i + 1) _ hc.2.2
      have hl : i < len := by
        have := hc.2.1
        unfold isD sg at this
        by_cases h2 : i < len
        · exact h2
        · rw [if_neg h2] at this
          omega
      exact ⟨a1, by omega, by omega⟩
    · rw [if_neg hc]
      exact ⟨h, Nat.le_refl _, Nat.le_max_left _ _⟩
theorem isD_lt {len : Nat} {pd : Nat → Nat} {i : Nat} (h : isD len pd i) : i < len := by
  unfold isD sg at h
  by_cases h2 : i < len
  · exact h2
  · rw [if_neg h2] at h
    omega
theorem num_le {len : Nat} {pd : Nat → Nat} {lo hi i v j : Nat} (h : num len pd lo hi i = some (v, j)) : v ≤ hi ∧ i < j ∧ j ≤ len := by
  unfold num at h
  by_cases hc : isD len pd i ∧ lo ≤ sg len pd i - 48 ∧ sg len pd i - 48 ≤ hi
  · rw [if_pos hc] at h
    have hl := isD_lt hc.1
    obtain ⟨a1, a2, a3⟩ := nm_le (len := len) (pd := pd) (hi := hi) 2 (i + 1) _ hc.2.2
    have e := Option.some.inj h
    rw [e] at a1 a2 a3
    exact ⟨a1, by omega, by omega⟩
  · rw [if_neg hc] at h
    cases h
