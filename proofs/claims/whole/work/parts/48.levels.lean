/-! the spans of an order, the class's -/
theorem lvls_f {len : Nat} {pd : Nat → Nat} {fu i c j : Nat} {g : Nat → Nat × Nat} (h : span len pd i = (j, none)) : lvls len pd (fu + 1) i c g = (j, none) := by
  rw [lvls, h]
theorem lvls_s {len : Nat} {pd : Nat → Nat} {fu i c j : Nat} {g : Nat → Nat × Nat} {s : Nat × Nat} (h : span len pd i = (j, some s)) : lvls len pd (fu + 1) i c g = if sg len pd j = 43 then lvls len pd fu (j + 1) (c + 1) (fun x => if x = c then s else g x) else (j, some (c + 1, fun x => if x = c then s else g x)) := by
  rw [lvls, h]
def SpR (M0 M : Mem) (m0 c : Nat) (g : Nat → Nat × Nat) : Prop := M 14 8 = nI (m0 + c) ∧ (∀ x, x < c → M 21 (m0 + x) = nI (g x).1 ∧ M 22 (m0 + x) = nI (g x).2) ∧ (∀ k, k < m0 → M 21 k = M0 21 k ∧ M 22 k = M0 22 k) ∧ (∀ x, 17 ≤ x → x ≤ 20 → M x = M0 x) ∧ M 14 3 = M0 14 3 ∧ KeepQ M0 M
theorem SpR_R {M0 M M' : Mem} {m0 c : Nat} {g : Nat → Nat × Nat} (h : SpR M0 M m0 c g) (hk : KeepR M M') : SpR M0 M' m0 c g := by
  obtain ⟨a1, a2, a3, a4, a5, a6⟩ := h
  exact ⟨by rw [hk.2 8 (by omega) (by omega)]; exact a1, fun x hx => by rw [hk.1 21 (by omega), hk.1 22 (by omega)]; exact a2 x hx, fun k hk' => by rw [hk.1 21 (by omega), hk.1 22 (by omega)]; exact a3 k hk', fun x h1 h2 => by rw [hk.1 x (by omega)]; exact a4 x h1 h2, by rw [hk.2 3 (by omega) (by omega)]; exact a5, a6.tr hk.q⟩
theorem SpR_sp {M0 M : Mem} {m0 c f l : Nat} {g : Nat → Nat × Nat} (h : SpR M0 M m0 c g) : SpR M0 (spM M (m0 + c) f l) m0 (c + 1) (fun x => if x = c then (f, l) else g x) := by
  obtain ⟨a1, a2, a3, a4, a5, a6⟩ := h
  have e21 : ∀ k, spM M (m0 + c) f l 21 k = if k = m0 + c then nI f else M 21 k := fun k => by
    unfold spM
    rw [up2_ne (by omega), up2_ne (by omega), up2_same]
  have e22 : ∀ k, spM M (m0 + c) f l 22 k = if k = m0 + c then nI l else M 22 k := fun k => by
    unfold spM
    rw [up2_ne (by omega), up2_same, up2_ne (by omega)]
  refine ⟨?_, fun x hx => ?_, fun k hk => ?_, fun x h1 h2 => ?_, ?_, a6.tr KeepQ_sp⟩
  · unfold spM
    rw [up2_same, if_pos rfl]
    rfl
  · rw [e21, e22]
    show _ = nI (if x = c then (f, l) else g x).1 ∧ _ = nI (if x = c then (f, l) else g x).2
    by_cases hxc : x = c
    · rw [if_pos (show m0 + x = m0 + c by omega), if_pos (show m0 + x = m0 + c by omega), if_pos hxc]
      exact ⟨rfl, rfl⟩
    · rw [if_neg (show ¬ m0 + x = m0 + c by omega), if_neg (show ¬ m0 + x = m0 + c by omega), if_neg hxc]
      exact a2 x (by omega)
  · rw [e21, e22, if_neg (by omega), if_neg (by omega)]
    exact a3 k hk
  · unfold spM
    rw [up2_ne (by omega), up2_ne (by omega), up2_ne (by omega)]
    exact a4 x h1 h2
  · unfold spM
    rw [up2_same, if_neg (by omega), up2_ne (by omega), up2_ne (by omega)]
    exact a5
theorem sg_lt {len : Nat} {pd : Nat → Nat} {i c : Nat} (h : sg len pd i = c) (hc : 0 < c) : i < len := by
  unfold sg at h
  by_cases h2 : i < len
  · exact h2
  · rw [if_neg h2] at h
    omega
theorem lvC_L {len : Nat} {pd : Nat → Nat} {M0 : Mem} {m0 : Nat} : ∀ (fu c F i : Nat) (M : Mem) (g : Nat → Nat × Nat), c + fu = 60 → fu + 1 < F → 2 * (m0 + c) ≤ i → i ≤ len → AtC len pd M i → SpR M0 M m0 c g → (∀ j, lvls len pd fu i c g = (j, none) → ∃ M', fX4_readLevels_L4 F M 1 (nI c) = some (.inr (0, M')) ∧ AtC len pd M' j ∧ KeepQ M0 M') ∧ (∀ j c' g', lvls len pd fu i c g = (j, some (c', g')) → ∃ M', fX4_readLevels_L4 F M 1 (nI c) = some (.inl M') ∧ AtC len pd M' j ∧ SpR M0 M' m0 c' g' ∧ 2 * (m0 + c') ≤ j + 1 ∧ j ≤ len ∧ 1 ≤ c' ∧ i < j) := by
  intro fu
  induction fu with
  | zero =>
    intro c F i M g hc hF h2 hl hA hS
    have := hA.1.1
    omega
  | succ fu ih =>
    intro c F i M g hc hF h2 hl hA hS
    obtain ⟨F, rfl⟩ : ∃ F', F = F' + 1 := ⟨F - 1, by omega⟩
    have h60 := hA.1.1
    obtain ⟨r1, r2⟩ := readSpan_ok hA hS.1 (by omega)
    have e0 : fX4_readLevels_L4 (F + 1) M 1 (nI c) = ob2 (fX4_readSpan M) fun v4 M5 => if v4 = 0 then some (.inr (0, M5)) else ob2 (fX4_take M5 43) fun v8 M9 => fX4_readLevels_L4 F M9 v8 (nI (c + 1)) := by
      rw [fX4_readLevels_L4, li60, if_neg (fun q => by have := (nI_leE (by omega) (by omega)).mp q; omega), if_neg (by decide), li1, nI_addE]
    rcases hsp : span len pd i with ⟨j, _ | ⟨f, l⟩⟩
    · obtain ⟨M1, a1, a2, a3⟩ := r1 j hsp
      refine ⟨fun j' hs => ?_, fun j' c' g' hs => ?_⟩
      · have ej : j = j' := congrArg Prod.fst ((lvls_f hsp).symm.trans hs)
        subst ej
        refine ⟨M1, ?_, a2, hS.2.2.2.2.2.tr a3⟩
        rw [e0, a1, ob2_some]
        exact if_pos rfl
      · have := congrArg Prod.snd ((lvls_f (fu := fu) (c := c) (g := g) hsp).symm.trans hs)
        cases this
    · obtain ⟨M1, a1, a2, a3⟩ := r2 j f l hsp
      have bs := span_le hsp
      have hA2 : AtC len pd (spM M1 (m0 + c) f l) j := AtC_sp a2
      have hS2 := SpR_sp (f := f) (l := l) (SpR_R hS a3)
      have t := take_ok (c := 43) hA2 (by omega) (by omega) (by omega)
      by_cases h43 : sg len pd j = 43
      · have hjl := sg_lt h43 (by omega)
        rw [if_pos h43] at t
        have e1 : fX4_readLevels_L4 (F + 1) M 1 (nI c) = fX4_readLevels_L4 F (stM len pd (spM M1 (m0 + c) f l) (j + 1)) 1 (nI (c + 1)) := by
          rw [e0, a1, ob2_some, if_neg (by decide)]
          exact ob2_in t rfl
        have es := lvls_s (fu := fu) (c := c) (g := g) hsp
        rw [if_pos h43] at es
        obtain ⟨q1, q2⟩ := ih (c + 1) F (j + 1) (stM len pd (spM M1 (m0 + c) f l) (j + 1)) (fun x => if x = c then (f, l) else g x) (by omega) (by omega) (by omega) (by omega) (AtC_st hA2.1) (SpR_R hS2 KeepR.st)
        refine ⟨fun j' hs => ?_, fun j' c' g' hs => ?_⟩
        · obtain ⟨M', k1, k2, k3⟩ := q1 j' (es.symm.trans hs)
          exact ⟨M', by rw [e1]; exact k1, k2, k3⟩
        · obtain ⟨M', k1, k2, k3, k4, k5, k6, k7⟩ := q2 j' c' g' (es.symm.trans hs)
          exact ⟨M', by rw [e1]; exact k1, k2, k3, k4, k5, k6, by omega⟩
      · rw [if_neg h43] at t
        have es := lvls_s (fu := fu) (c := c) (g := g) hsp
        rw [if_neg h43] at es
        refine ⟨fun j' hs => ?_, fun j' c' g' hs => ?_⟩
        · have := congrArg Prod.snd (es.symm.trans hs)
          cases this
        · have e2 := es.symm.trans hs
          have ej : j = j' := congrArg Prod.fst e2
          have e3 := Option.some.inj (congrArg Prod.snd e2)
          have ec : c + 1 = c' := congrArg Prod.fst e3
          have eg : (fun x => if x = c then (f, l) else g x) = g' := congrArg Prod.snd e3
          subst ej
          subst ec
          subst eg
          refine ⟨spM M1 (m0 + c) f l, ?_, hA2, hS2, by omega, bs.2.2.2, by omega, bs.2.2.1⟩
          rw [e0, a1, ob2_some, if_neg (by decide)]
          refine ob2_in t ?_
          obtain ⟨F2, rfl⟩ : ∃ F2, F = F2 + 1 := ⟨F - 1, by omega⟩
          rw [fX4_readLevels_L4, li60, if_neg (fun q => by have := (nI_leE (by omega) (by omega)).mp q; omega), if_pos rfl]
