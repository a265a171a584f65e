/-! an order read by the class -/
def RO (len : Nat) (pd : Nat → Nat) (M : Mem) (i n m : Nat) : Prop := (∀ j, ordr len pd i = (j, none) → ∃ M', fX4_readOrder M = some (0, M') ∧ AtC len pd M' j ∧ KeepQ M M') ∧ (∀ j o, ordr len pd i = (j, some o) → ∃ M', fX4_readOrder M = some (1, M') ∧ AtC len pd M' j ∧ OrR M M' n m o ∧ 2 * (m + o.2.2.2.1) ≤ j ∧ i < j ∧ j ≤ len)
theorem RO_n {len : Nat} {pd : Nat → Nat} {M : Mem} {i n m j0 : Nat} (eo : ordr len pd i = (j0, none)) (h : ∃ M', fX4_readOrder M = some (0, M') ∧ AtC len pd M' j0 ∧ KeepQ M M') : RO len pd M i n m := by
  refine ⟨fun j hs => ?_, fun j o hs => ?_⟩
  · have ej : j0 = j := congrArg Prod.fst (eo.symm.trans hs)
    subst ej
    exact h
  · have := congrArg Prod.snd (eo.symm.trans hs)
    cases this
theorem RO_s {len : Nat} {pd : Nat → Nat} {M : Mem} {i n m j0 : Nat} {o : Ord5} (eo : ordr len pd i = (j0, some o)) (h : ∃ M', fX4_readOrder M = some (1, M') ∧ AtC len pd M' j0 ∧ OrR M M' n m o ∧ 2 * (m + o.2.2.2.1) ≤ j0 ∧ i < j0 ∧ j0 ≤ len) : RO len pd M i n m := by
  refine ⟨fun j hs => ?_, fun j o' hs => ?_⟩
  · have := congrArg Prod.snd (eo.symm.trans hs)
    cases this
  · have e2 := eo.symm.trans hs
    have ej : j0 = j := congrArg Prod.fst e2
    have e3 : o = o' := Option.some.inj (congrArg Prod.snd e2)
    subst ej
    subst e3
    exact h
theorem n6 {v : Nat} (hv : v < 2 ^ 31) : ¬ nI v = -6 := fun q => by
  rw [li6] at q
  exact (nI_negE hv (by omega) (by omega)).mp q
theorem rOrd_r {len : Nat} {pd : Nat → Nat} {M : Mem} {i n m : Nat} (hA : AtC len pd M i) (hn : M 14 3 = nI n) (hm : M 14 8 = nI m) (hn60 : n < 60) (h2 : 2 * m ≤ i) (h114 : sg len pd i = 114) : RO len pd M i n m := by
  have h60 := hA.1.1
  have hil := sg_lt h114 (by omega)
  have t1 := take_ok (c := 114) hA (by omega) (by omega) (by omega)
  rw [if_pos h114] at t1
  have hA1 := AtC_st (len := len) (pd := pd) (i := i + 1) hA.1
  obtain ⟨r1, r2⟩ := readN_ok (lo := 0) (hi := 7) (by omega) (by omega) hA1
  have eo : ∀ x, (match num len pd 0 7 (i + 1) with
    | none => (i + 1, none)
    | some (a, j) => if sg len pd j = 47 then (match num len pd 1 50 (j + 1) with
      | none => (j + 1, none)
      | some (b, j2) => (j2, some (1, a, b, 0, g0))) else (j, none)) = x → ordr len pd i = x := fun x hx => by
    unfold ordr
    rw [if_pos h114]
    exact hx
  have ec : ∀ x, ob2 (fX4_readRecord (stM len pd M (i + 1))) (fun v29 M30 => (bz v29).bind fun b31 => some (b31, M30)) = x → fX4_readOrder M = x := fun x hx => by
    unfold fX4_readOrder
    refine ob2_in t1 ?_
    rw [if_neg (by decide)]
    exact hx
  rcases hn1 : num len pd 0 7 (i + 1) with _ | ⟨a, j⟩
  · refine RO_n (j0 := i + 1) (eo _ (by rw [hn1])) ⟨_, ec _ ?_, hA1, KeepR.st.q⟩
    unfold fX4_readRecord
    refine ob2_in (a := 0) (b := stM len pd M (i + 1)) ?_ rfl
    refine ob2_in (r2 hn1) ?_
    exact if_pos rfl
  · obtain ⟨M1, a1, a2, a3⟩ := r1 a j hn1
    have b1 := num_le hn1
    have t2 := take_ok (c := 47) a2 (by omega) (by omega) (by omega)
    by_cases h47 : sg len pd j = 47
    · rw [if_pos h47] at t2
      have hA2 := AtC_st (len := len) (pd := pd) (i := j + 1) a2.1
      obtain ⟨q1, q2⟩ := readN_ok (lo := 1) (hi := 50) (by omega) (by omega) hA2
      rcases hn2 : num len pd 1 50 (j + 1) with _ | ⟨b, j2⟩
      · refine RO_n (j0 := j + 1) (eo _ (by rw [hn1]; show (if sg len pd j = 47 then _ else _) = _; rw [if_pos h47, hn2])) ⟨_, ec _ ?_, hA2, ((KeepR.st.tr a3).tr KeepR.st).q⟩
        unfold fX4_readRecord
        refine ob2_in (a := 0) (b := stM len pd M1 (j + 1)) ?_ rfl
        refine ob2_in a1 ?_
        rw [if_neg (n6 (by omega))]
        refine ob2_in t2 ?_
        rw [if_neg (by decide)]
        refine ob2_in (q2 hn2) ?_
        exact if_pos rfl
      · obtain ⟨M2, c1, c2, c3⟩ := q1 b j2 hn2
        have b2 := num_le hn2
        have hk := ((KeepR.st (len := len) (pd := pd) (M := M) (i := i + 1)).tr a3).tr (KeepR.st.tr c3)
        have hS := SpR_R (SpR_0 hm) hk
        have hN := note_ok (M := M2) (n := n) (m := m) (k := 1) (a := nI a) (b := nI b) (by rw [hk.2 3 (by omega) (by omega)]; exact hn) (by rw [hk.2 8 (by omega) (by omega)]; exact hm) hn60
        refine RO_s (j0 := j2) (o := (1, a, b, 0, g0)) (eo _ (by rw [hn1]; show (if sg len pd j = 47 then _ else _) = _; rw [if_pos h47, hn2])) ⟨ntM M2 n m 1 (nI a) (nI b), ec _ ?_, AtC_nt c2, OrR_nt (k := 1) hS, by show 2 * (m + 0) ≤ j2; omega, by omega, b2.2.2⟩
        unfold fX4_readRecord
        refine ob2_in (a := 1) (b := ntM M2 n m 1 (nI a) (nI b)) ?_ rfl
        refine ob2_in a1 ?_
        rw [if_neg (n6 (by omega))]
        refine ob2_in t2 ?_
        rw [if_neg (by decide)]
        refine ob2_in c1 ?_
        rw [if_neg (n6 (by omega))]
        refine ob2_in hN ?_
        exact if_neg (by decide)
    · rw [if_neg h47] at t2
      refine RO_n (j0 := j) (eo _ (by rw [hn1]; exact if_neg h47)) ⟨M1, ec _ ?_, a2, (KeepR.st.tr a3).q⟩
      unfold fX4_readRecord
      refine ob2_in (a := 0) (b := M1) ?_ rfl
      refine ob2_in a1 ?_
      rw [if_neg (n6 (by omega))]
      refine ob2_in t2 ?_
      exact if_pos rfl
