/-! a span of lamps, the class's -/
def span (len : Nat) (pd : Nat → Nat) (i : Nat) : Nat × Option (Nat × Nat) :=
  match num len pd 0 11 i with
  | none => (i, none)
  | some (f, j) => if sg len pd j = 62 then (match num len pd 0 11 (j + 1) with
    | none => (j + 1, none)
    | some (l, j2) => (j2, some (f, l))) else (j, some (f, f))
theorem span_n {len : Nat} {pd : Nat → Nat} {i : Nat} (h : num len pd 0 11 i = none) : span len pd i = (i, none) := by
  unfold span
  rw [h]
theorem span_1 {len : Nat} {pd : Nat → Nat} {i f j : Nat} (h : num len pd 0 11 i = some (f, j)) (h2 : sg len pd j ≠ 62) : span len pd i = (j, some (f, f)) := by
  unfold span
  rw [h]
  exact if_neg h2
theorem span_2n {len : Nat} {pd : Nat → Nat} {i f j : Nat} (h : num len pd 0 11 i = some (f, j)) (h2 : sg len pd j = 62) (h3 : num len pd 0 11 (j + 1) = none) : span len pd i = (j + 1, none) := by
  unfold span
  rw [h]
  show (if sg len pd j = 62 then _ else _) = _
  rw [if_pos h2, h3]
theorem span_2 {len : Nat} {pd : Nat → Nat} {i f j l j2 : Nat} (h : num len pd 0 11 i = some (f, j)) (h2 : sg len pd j = 62) (h3 : num len pd 0 11 (j + 1) = some (l, j2)) : span len pd i = (j2, some (f, l)) := by
  unfold span
  rw [h]
  show (if sg len pd j = 62 then _ else _) = _
  rw [if_pos h2, h3]
/-- what the reading of the whole text leaves as it was -/
def KeepQ (M M' : Mem) : Prop := ∀ x, (x < 14 ∨ x = 15 ∨ x = 16 ∨ 23 ≤ x) → M' x = M x
theorem KeepQ.rf {M : Mem} : KeepQ M M := fun _ _ => rfl
theorem KeepQ.tr {M1 M2 M3 : Mem} (h1 : KeepQ M1 M2) (h2 : KeepQ M2 M3) : KeepQ M1 M3 := fun x hx => (h2 x hx).trans (h1 x hx)
theorem KeepR.q {M M' : Mem} (h : KeepR M M') : KeepQ M M' := fun x hx => h.1 x (by omega)
theorem AtC_up {len : Nat} {pd : Nat → Nat} {M : Mem} {i x k : Nat} {v : Int32} (h : AtC len pd M i) (hx : 17 ≤ x ∨ (x = 14 ∧ k ≠ 1 ∧ k ≠ 2)) : AtC len pd (up2 M x k v) i := by
  obtain ⟨⟨a1, a2, a3⟩, a4, a5⟩ := h
  have e : ∀ j, j = 1 ∨ j = 2 → up2 M x k v 14 j = M 14 j := fun j hj => by
    rw [up2_ap]
    by_cases h1 : (14 : Nat) = x
    · rw [if_pos h1, if_neg (by omega)]
    · rw [if_neg h1]
  exact ⟨⟨a1, by rw [up2_ne (by omega)]; exact a2, fun j hj => by rw [up2_ne (by omega)]; exact a3 j hj⟩, by rw [e 1 (Or.inl rfl)]; exact a4, by rw [e 2 (Or.inr rfl)]; exact a5⟩
/-- a span's numbers put down at m -/
def spM (M : Mem) (m f l : Nat) : Mem := up2 (up2 (up2 M 21 m (nI f)) 22 m (nI l)) 14 8 (nI (m + 1))
theorem readSpan_ok {len : Nat} {pd : Nat → Nat} {M : Mem} {i m : Nat} (hA : AtC len pd M i) (hm : M 14 8 = nI m) (hm60 : m < 60) : (∀ j, span len pd i = (j, none) → ∃ M', fX4_readSpan M = some (0, M') ∧ AtC len pd M' j ∧ KeepQ M M') ∧ (∀ j f l, span len pd i = (j, some (f, l)) → ∃ M1, fX4_readSpan M = some (1, spM M1 m f l) ∧ AtC len pd M1 j ∧ KeepR M M1) := by
  have h60 := hA.1.1
  have tail : ∀ (M1 : Mem) (f l : Nat), KeepR M M1 → ((gI 4 8 M1 14).bind fun v13 => if v13 < 60 then (gI 4 8 M1 14).bind fun v16 => (aS 20 M1 21 v16 (nI f)).bind fun M18 => (gI 4 8 M18 14).bind fun v20 => (aS 20 M18 22 v20 (nI l)).bind fun M22 => (gI 4 8 M22 14).bind fun v24 => (pI 4 8 M22 14 (v24 + 1)).bind fun M26 => some ((1 : Int32), M26) else some ((0 : Int32), M1)) = some (1, spM M1 m f l) := fun M1 f l hk => by
    have e1 : M1 14 8 = nI m := by rw [hk.2 8 (by omega) (by omega), hm]
    rw [gI_ok (show shp 14 = 4 from rfl), ob_some, e1, if_pos (show nI m < (60 : Int32) from nI_lt (b := 60) hm60 (by omega)), ob_some]
    refine ob_in (aS_ok (n := 60) rfl rfl hm60 (by omega)) ?_
    refine ob_in (gI_ok rfl) ?_
    rw [up2_ne (by omega), e1]
    refine ob_in (aS_ok (n := 60) rfl rfl hm60 (by omega)) ?_
    refine ob_in (gI_ok rfl) ?_
    rw [up2_ne (by omega), up2_ne (by omega), e1]
    refine ob_in (pI_ok rfl) ?_
    rw [li1, nI_addE]
    rfl
  have n6 : ∀ v, v ≤ 11 → ¬ nI v = -6 := fun v hv q => by
    rw [li6] at q
    exact (nI_negE (by omega) (by omega) (by omega)).mp q
  obtain ⟨r1, r2⟩ := readN_ok (lo := 0) (hi := 11) (by omega) (by omega) hA
  have ne : ∀ {a b : Nat} {y : Nat × Nat}, (a, some y) = (b, (none : Option (Nat × Nat))) → False := fun h => by
    have := congrArg Prod.snd h
    cases this
  have ne' : ∀ {a b : Nat} {y : Nat × Nat}, (a, (none : Option (Nat × Nat))) = (b, some y) → False := fun h => by
    have := congrArg Prod.snd h
    cases this
  rcases hn : num len pd 0 11 i with _ | ⟨f, j⟩
  · refine ⟨fun j' hs => ?_, fun j' f' l' hs => (ne' ((span_n hn).symm.trans hs)).elim⟩
    have ej : i = j' := congrArg Prod.fst ((span_n hn).symm.trans hs)
    subst ej
    refine ⟨M, ?_, hA, KeepQ.rf⟩
    unfold fX4_readSpan
    refine ob2_in (r2 hn) ?_
    exact if_pos rfl
  · obtain ⟨M1, a1, a2, a3⟩ := r1 f j hn
    have b1 := num_le hn
    by_cases h62 : sg len pd j = 62
    · have t := take_ok (c := 62) a2 (by omega) (by omega) (by omega)
      rw [if_pos h62] at t
      have hA2 := AtC_st (len := len) (pd := pd) (i := j + 1) a2.1
      obtain ⟨q1, q2⟩ := readN_ok (lo := 0) (hi := 11) (by omega) (by omega) hA2
      rcases hn2 : num len pd 0 11 (j + 1) with _ | ⟨l, j2⟩
      · refine ⟨fun j' hs => ?_, fun j' f' l' hs => (ne' ((span_2n hn h62 hn2).symm.trans hs)).elim⟩
        have ej : j + 1 = j' := congrArg Prod.fst ((span_2n hn h62 hn2).symm.trans hs)
        subst ej
        refine ⟨stM len pd M1 (j + 1), ?_, hA2, (a3.tr KeepR.st).q⟩
        unfold fX4_readSpan
        refine ob2_in a1 ?_
        rw [if_neg (n6 f b1.1)]
        refine ob2_in t ?_
        refine ob2_in (a := -6) (b := stM len pd M1 (j + 1)) ?_ ?_
        · rw [if_neg (by decide)]
          exact ob2_in (q2 hn2) rfl
        · exact if_pos rfl
      · refine ⟨fun j' hs => (ne ((span_2 hn h62 hn2).symm.trans hs)).elim, fun j' f' l' hs => ?_⟩
        have es := (span_2 hn h62 hn2).symm.trans hs
        have ej : j2 = j' := congrArg Prod.fst es
        have e2 := Option.some.inj (congrArg Prod.snd es)
        have ef : f = f' := congrArg Prod.fst e2
        have el : l = l' := congrArg Prod.snd e2
        subst ej
        subst ef
        subst el
        obtain ⟨M2, c1, c2, c3⟩ := q1 l j2 hn2
        have b2 := num_le hn2
        have hk := (a3.tr KeepR.st).tr c3
        refine ⟨M2, ?_, c2, hk⟩
        unfold fX4_readSpan
        refine ob2_in a1 ?_
        rw [if_neg (n6 f b1.1)]
        refine ob2_in t ?_
        refine ob2_in (a := nI l) (b := M2) ?_ ?_
        · rw [if_neg (by decide)]
          exact ob2_in c1 rfl
        · rw [if_neg (n6 l b2.1)]
          exact tail M2 f l hk
    · have t := take_ok (c := 62) a2 (by omega) (by omega) (by omega)
      rw [if_neg h62] at t
      refine ⟨fun j' hs => (ne ((span_1 hn h62).symm.trans hs)).elim, fun j' f' l' hs => ?_⟩
      have es := (span_1 hn h62).symm.trans hs
      have ej : j = j' := congrArg Prod.fst es
      have e2 := Option.some.inj (congrArg Prod.snd es)
      have ef : f = f' := congrArg Prod.fst e2
      have el : f = l' := congrArg Prod.snd e2
      subst ej
      subst ef
      subst el
      refine ⟨M1, ?_, a2, a3⟩
      unfold fX4_readSpan
      refine ob2_in a1 ?_
      rw [if_neg (n6 f b1.1)]
      refine ob2_in t ?_
      refine ob2_in (a := nI f) (b := M1) ?_ ?_
      · exact if_pos rfl
      · rw [if_neg (n6 f b1.1)]
        exact tail M1 f f a3
