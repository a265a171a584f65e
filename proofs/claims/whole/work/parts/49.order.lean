/-! an order, the class's -/
abbrev Ord5 : Type := Nat × Nat × Nat × Nat × (Nat → Nat × Nat)
def g0 : Nat → Nat × Nat := fun _ => (0, 0)
def ordr (len : Nat) (pd : Nat → Nat) (i : Nat) : Nat × Option Ord5 :=
  if sg len pd i = 114 then
    (match num len pd 0 7 (i + 1) with
    | none => (i + 1, none)
    | some (a, j) => if sg len pd j = 47 then (match num len pd 1 50 (j + 1) with
      | none => (j + 1, none)
      | some (b, j2) => (j2, some (1, a, b, 0, g0))) else (j, none))
  else if sg len pd i = 103 then
    (match num len pd 0 7 (i + 1) with
    | none => (i + 1, none)
    | some (a, j) => (j, some (2, a, 0, 0, g0)))
  else if sg len pd i = 120 then (i + 1, some (3, 0, 0, 0, g0))
  else (match lvls len pd 60 i 0 g0 with
    | (j, none) => (j, none)
    | (j, some (c, g)) => if sg len pd j = 64 then (match num len pd 0 100 (j + 1) with
      | none => (j + 1, none)
      | some (v, j2) => (j2, some (0, v, 0, c, g))) else (j, none))
/-- the class's notes behind an order -/
def OrR (M0 M : Mem) (n m0 : Nat) (o : Ord5) : Prop := M 14 3 = nI (n + 1) ∧ M 14 8 = nI (m0 + o.2.2.2.1) ∧ (M 17 n = nI o.1 ∧ M 18 n = nI o.2.1 ∧ M 19 n = nI o.2.2.1 ∧ M 20 n = nI (m0 + o.2.2.2.1)) ∧ (∀ x, x < o.2.2.2.1 → M 21 (m0 + x) = nI (o.2.2.2.2 x).1 ∧ M 22 (m0 + x) = nI (o.2.2.2.2 x).2) ∧ (∀ k, k < m0 → M 21 k = M0 21 k ∧ M 22 k = M0 22 k) ∧ (∀ x k, 17 ≤ x → x ≤ 20 → k < n → M x k = M0 x k) ∧ KeepQ M0 M
theorem SpR_0 {M : Mem} {m0 : Nat} (h : M 14 8 = nI m0) : SpR M M m0 0 g0 := ⟨h, fun x hx => by omega, fun _ _ => ⟨rfl, rfl⟩, fun _ _ _ => rfl, rfl, KeepQ.rf⟩
theorem OrR_nt {M0 M : Mem} {n m0 c k a b : Nat} {g : Nat → Nat × Nat} (h : SpR M0 M m0 c g) : OrR M0 (ntM M n (m0 + c) (nI k) (nI a) (nI b)) n m0 (k, a, b, c, g) := by
  obtain ⟨a1, a2, a3, a4, a5, a6⟩ := h
  have e : ∀ x, x ≠ 14 → (x < 17 ∨ 20 < x) → ntM M n (m0 + c) (nI k) (nI a) (nI b) x = M x := fun x h1 h2 => by
    unfold ntM
    rw [up2_ne (by omega), up2_ne (by omega), up2_ne (by omega), up2_ne (by omega), up2_ne (by omega)]
  have e2 : ∀ x, 17 ≤ x → x ≤ 20 → ∀ k', k' ≠ n → ntM M n (m0 + c) (nI k) (nI a) (nI b) x k' = M x k' := fun x h1 h2 k' hk => by
    unfold ntM
    rw [up2_ne (by omega), up2_ap, up2_ap, up2_ap, up2_ap, if_neg hk, if_neg hk, if_neg hk, if_neg hk]
    repeat' split
    all_goals rfl
  refine ⟨?_, ?_, ⟨?_, ?_, ?_, ?_⟩, fun x hx => ?_, fun k' hk => ?_, fun x k' h1 h2 hk => ?_, a6.tr KeepQ_nt⟩
  · unfold ntM
    rw [up2_same, if_pos rfl]
  · unfold ntM
    rw [up2_same, if_neg (by omega), up2_ne (by omega), up2_ne (by omega), up2_ne (by omega), up2_ne (by omega)]
    exact a1
  · unfold ntM
    rw [up2_ne (by omega), up2_ne (by omega), up2_ne (by omega), up2_ne (by omega), up2_same, if_pos rfl]
  · unfold ntM
    rw [up2_ne (by omega), up2_ne (by omega), up2_ne (by omega), up2_same, if_pos rfl]
  · unfold ntM
    rw [up2_ne (by omega), up2_ne (by omega), up2_same, if_pos rfl]
  · unfold ntM
    rw [up2_ne (by omega), up2_same, if_pos rfl]
  · rw [e 21 (by omega) (by omega), e 22 (by omega) (by omega)]
    exact a2 x hx
  · rw [e 21 (by omega) (by omega), e 22 (by omega) (by omega)]
    exact a3 k' hk
  · rw [e2 x h1 h2 k' (by omega), a4 x h1 h2]
