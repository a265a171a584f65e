/-! an order noted by the class -/
def ntM (M : Mem) (n m : Nat) (k a b : Int32) : Mem := up2 (up2 (up2 (up2 (up2 M 17 n k) 18 n a) 19 n b) 20 n (nI m)) 14 3 (nI (n + 1))
theorem note_ok {M : Mem} {n m : Nat} {k a b : Int32} (hn : M 14 3 = nI n) (hm : M 14 8 = nI m) (h60 : n < 60) : fX4_note M k a b = some (1, ntM M n m k a b) := by
  unfold fX4_note ntM
  refine ob_in (gI_ok rfl) ?_
  rw [hn, if_pos (show nI n < (60 : Int32) from nI_lt (b := 60) h60 (by omega))]
  refine ob_in (gI_ok rfl) ?_
  rw [hn]
  refine ob_in (aS_ok (n := 60) rfl rfl h60 (by omega)) ?_
  refine ob_in (gI_ok rfl) ?_
  rw [up2_ne (by omega), hn]
  refine ob_in (aS_ok (n := 60) rfl rfl h60 (by omega)) ?_
  refine ob_in (gI_ok rfl) ?_
  rw [up2_ne (by omega), up2_ne (by omega), hn]
  refine ob_in (aS_ok (n := 60) rfl rfl h60 (by omega)) ?_
  refine ob_in (gI_ok rfl) ?_
  refine ob_in (gI_ok rfl) ?_
  rw [up2_ne (by omega), up2_ne (by omega), up2_ne (by omega), hn, hm]
  refine ob_in (aS_ok (n := 60) rfl rfl h60 (by omega)) ?_
  refine ob_in (gI_ok rfl) ?_
  refine ob_in (pI_ok rfl) ?_
  rw [up2_ne (by omega), up2_ne (by omega), up2_ne (by omega), up2_ne (by omega), hn, li1, nI_addE]
theorem AtC_nt {len : Nat} {pd : Nat → Nat} {M : Mem} {i n m : Nat} {k a b : Int32} (h : AtC len pd M i) : AtC len pd (ntM M n m k a b) i :=
  AtC_up (AtC_up (AtC_up (AtC_up (AtC_up h (Or.inl (by omega))) (Or.inl (by omega))) (Or.inl (by omega))) (Or.inl (by omega))) (Or.inr ⟨rfl, by omega, by omega⟩)
theorem AtC_sp {len : Nat} {pd : Nat → Nat} {M : Mem} {i m f l : Nat} (h : AtC len pd M i) : AtC len pd (spM M m f l) i :=
  AtC_up (AtC_up (AtC_up h (Or.inl (by omega))) (Or.inl (by omega))) (Or.inr ⟨rfl, by omega, by omega⟩)
theorem KeepQ_nt {M : Mem} {n m : Nat} {k a b : Int32} : KeepQ M (ntM M n m k a b) := fun x hx => by
  unfold ntM
  rw [up2_ne (by omega), up2_ne (by omega), up2_ne (by omega), up2_ne (by omega), up2_ne (by omega)]
theorem KeepQ_sp {M : Mem} {m f l : Nat} : KeepQ M (spM M m f l) := fun x hx => by
  unfold spM
  rw [up2_ne (by omega), up2_ne (by omega), up2_ne (by omega)]
theorem span_le {len : Nat} {pd : Nat → Nat} {i j f l : Nat} (h : span len pd i = (j, some (f, l))) : f ≤ 11 ∧ l ≤ 11 ∧ i < j ∧ j ≤ len := by
  rcases hn : num len pd 0 11 i with _ | ⟨f', j'⟩
  · rw [span_n hn] at h
    have := congrArg Prod.snd h
    cases this
  · have b1 := num_le hn
    by_cases h62 : sg len pd j' = 62
    · rcases hn2 : num len pd 0 11 (j' + 1) with _ | ⟨l', j2⟩
      · rw [span_2n hn h62 hn2] at h
        have := congrArg Prod.snd h
        cases this
      · have b2 := num_le hn2
        rw [span_2 hn h62 hn2] at h
        have ej : j2 = j := congrArg Prod.fst h
        have e2 := Option.some.inj (congrArg Prod.snd h)
        have ef : f' = f := congrArg Prod.fst e2
        have el : l' = l := congrArg Prod.snd e2
        omega
    · rw [span_1 hn h62] at h
      have ej : j' = j := congrArg Prod.fst h
      have e2 := Option.some.inj (congrArg Prod.snd h)
      have ef : f' = f := congrArg Prod.fst e2
      have el : f' = l := congrArg Prod.snd e2
      omega
/-- the spans of an order, from its c-th on: their end, and how many and which -/
def lvls (len : Nat) (pd : Nat → Nat) : Nat → Nat → Nat → (Nat → Nat × Nat) → Nat × Option (Nat × (Nat → Nat × Nat))
  | 0, i, _, _ => (i, none)
  | fu + 1, i, c, g => match span len pd i with
    | (j, none) => (j, none)
    | (j, some s) => if sg len pd j = 43 then lvls len pd fu (j + 1) (c + 1) (fun x => if x = c then s else g x) else (j, some (c + 1, fun x => if x = c then s else g x))
