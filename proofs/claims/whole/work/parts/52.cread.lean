/-! the whole text read by the class -/
def it (len : Nat) (pd : Nat → Nat) : Nat → Nat
  | 0 => 0
  | k + 1 => (ordr len pd (it len pd k)).1 + 1
def oo (len : Nat) (pd : Nat → Nat) (k : Nat) : Ord5 := (ordr len pd (it len pd k)).2.getD (0, 0, 0, 0, g0)
def cs (len : Nat) (pd : Nat → Nat) : Nat → Nat
  | 0 => 0
  | k + 1 => cs len pd k + (oo len pd k).2.2.2.1
def pr (len : Nat) (pd : Nat → Nat) : Nat → Nat → Nat ⊕ Nat
  | 0, _ => .inl 0
  | f + 1, k => match ordr len pd (it len pd k) with
    | (j, none) => .inl j
    | (j, some _) => if j < len then (if sg len pd j = 59 then pr len pd f (k + 1) else .inl j) else .inr (k + 1)
/-- the class's notes of k orders -/
def NtC (len : Nat) (pd : Nat → Nat) (M : Mem) (k : Nat) : Prop := M 14 3 = nI k ∧ M 14 8 = nI (cs len pd k) ∧ ∀ q, q < k → (M 17 q = nI (oo len pd q).1 ∧ M 18 q = nI (oo len pd q).2.1 ∧ M 19 q = nI (oo len pd q).2.2.1 ∧ M 20 q = nI (cs len pd (q + 1))) ∧ ∀ x, x < (oo len pd q).2.2.2.1 → M 21 (cs len pd q + x) = nI ((oo len pd q).2.2.2.2 x).1 ∧ M 22 (cs len pd q + x) = nI ((oo len pd q).2.2.2.2 x).2
theorem cs_mono {len : Nat} {pd : Nat → Nat} {a b : Nat} (h : a ≤ b) : cs len pd a ≤ cs len pd b := by
  induction b with
  | zero =>
    rw [show a = 0 by omega]
    exact Nat.le_refl _
  | succ b ih =>
    by_cases hab : a = b + 1
    · rw [hab]
      exact Nat.le_refl _
    · have := ih (by omega)
      show cs len pd a ≤ cs len pd b + _
      omega
theorem NtC_R {len : Nat} {pd : Nat → Nat} {M M' : Mem} {k : Nat} (h : NtC len pd M k) (hk : KeepR M M') : NtC len pd M' k := by
  obtain ⟨a1, a2, a3⟩ := h
  refine ⟨by rw [hk.2 3 (by omega) (by omega)]; exact a1, by rw [hk.2 8 (by omega) (by omega)]; exact a2, fun q hq => ?_⟩
  rw [hk.1 17 (by omega), hk.1 18 (by omega), hk.1 19 (by omega), hk.1 20 (by omega), hk.1 21 (by omega), hk.1 22 (by omega)]
  exact a3 q hq
theorem NtC_o {len : Nat} {pd : Nat → Nat} {M M' : Mem} {k : Nat} (h : NtC len pd M k) (hO : OrR M M' k (cs len pd k) (oo len pd k)) : NtC len pd M' (k + 1) := by
  obtain ⟨a1, a2, a3⟩ := h
  obtain ⟨b1, b2, b3, b4, b5, b6, b7⟩ := hO
  refine ⟨b1, b2, fun q hq => ?_⟩
  by_cases hqk : q = k
  · subst hqk
    exact ⟨b3, b4⟩
  · have c1 := a3 q (by omega)
    have m1 : cs len pd (q + 1) ≤ cs len pd k := cs_mono (by omega)
    have m2 : cs len pd (q + 1) = cs len pd q + (oo len pd q).2.2.2.1 := rfl
    rw [b6 17 q (by omega) (by omega) (by omega), b6 18 q (by omega) (by omega) (by omega), b6 19 q (by omega) (by omega) (by omega), b6 20 q (by omega) (by omega) (by omega)]
    refine ⟨c1.1, fun x hx => ?_⟩
    rw [(b5 (cs len pd q + x) (by omega)).1, (b5 (cs len pd q + x) (by omega)).2]
    exact c1.2 x hx
theorem readC_L {len : Nat} {pd : Nat → Nat} {M0 : Mem} : ∀ (f k F : Nat) (M : Mem), k + f = 60 → f < F → 2 * k ≤ it len pd k → it len pd k ≤ len → 2 * cs len pd k ≤ it len pd k → AtC len pd M (it len pd k) → NtC len pd M k → KeepQ M0 M → (∀ j, pr len pd f k = .inl j → ∃ M', fX4_read_L17 F M (nI k) = some (.inr (0, M')) ∧ AtC len pd M' j ∧ KeepQ M0 M') ∧ (∀ n, pr len pd f k = .inr n → ∃ M', fX4_read_L17 F M (nI k) = some (.inr (1, M')) ∧ NtC len pd M' n ∧ PadC len pd M' ∧ KeepQ M0 M' ∧ n ≤ 60) := by
  intro f
  induction f with
  | zero =>
    intro k F M hk hF h1 h2 h3 hA hN hQ
    have := hA.1.1
    omega
  | succ f ih =>
    intro k F M hk hF h1 h2 h3 hA hN hQ
    obtain ⟨F, rfl⟩ : ∃ F', F = F' + 1 := ⟨F - 1, by omega⟩
    have h60 := hA.1.1
    obtain ⟨r1, r2⟩ := rOrd_ok (n := k) (m := cs len pd k) hA h2 hN.1 hN.2.1 (by omega) h3
    have e0 : fX4_read_L17 (F + 1) M (nI k) = ob2 (fX4_readOrder M) fun v9 M10 => if v9 = 0 then some (.inr (0, M10)) else (gI 4 1 M10 14).bind fun v12 => (gI 5 1 M10 15).bind fun v14 => if v12 < v14 then ob2 (fX4_take M10 59) fun v18 M19 => if v18 = 0 then some (.inr (0, M19)) else fX4_read_L17 F M19 (nI (k + 1)) else some (.inr (1, M10)) := by
      rw [fX4_read_L17, li60, if_neg (fun q => by have := (nI_leE (by omega) (by omega)).mp q; omega), li1, nI_addE]
    rcases ho : ordr len pd (it len pd k) with ⟨j, _ | o⟩
    · obtain ⟨M1, a1, a2, a3⟩ := r1 j ho
      have ep : pr len pd (f + 1) k = .inl j := by rw [pr, ho]
      refine ⟨fun j' hs => ?_, fun n hs => ?_⟩
      · have ej : j = j' := Sum.inl.inj (ep.symm.trans hs)
        subst ej
        refine ⟨M1, ?_, a2, hQ.tr a3⟩
        rw [e0, a1, ob2_some]
        exact if_pos rfl
      · cases ep.symm.trans hs
    · obtain ⟨M1, a1, a2, a3, a4, a5, a6⟩ := r2 j o ho
      have eo : oo len pd k = o := by
        unfold oo
        rw [ho]
        rfl
      have ei : it len pd (k + 1) = j + 1 := by
        show (ordr len pd (it len pd k)).1 + 1 = j + 1
        rw [ho]
      have ec : cs len pd (k + 1) = cs len pd k + o.2.2.2.1 := by
        show cs len pd k + (oo len pd k).2.2.2.1 = _
        rw [eo]
      have hN1 : NtC len pd M1 (k + 1) := NtC_o hN (by rw [eo]; exact a3)
      have hQ1 : KeepQ M0 M1 := hQ.tr a3.2.2.2.2.2.2
      have ep : pr len pd (f + 1) k = if j < len then (if sg len pd j = 59 then pr len pd f (k + 1) else .inl j) else .inr (k + 1) := by rw [pr, ho]
      have e1 : fX4_read_L17 (F + 1) M (nI k) = if j < len then ob2 (fX4_take M1 59) fun v18 M19 => if v18 = 0 then some (.inr (0, M19)) else fX4_read_L17 F M19 (nI (k + 1)) else some (.inr (1, M1)) := by
        rw [e0, a1, ob2_some, if_neg (by decide), gI_ok (show shp 14 = 4 from rfl), ob_some, gI_ok (show shp 15 = 5 from rfl), ob_some, a2.2.1, a2.1.2.1]
        by_cases hj : j < len
        · rw [if_pos (nI_lt hj (by omega)), if_pos hj]
        · rw [if_neg (nI_nlt (by omega) (by omega)), if_neg hj]
      by_cases hj : j < len
      · rw [if_pos hj] at ep e1
        have t := take_ok (c := 59) a2 (by omega) (by omega) (by omega)
        by_cases h59 : sg len pd j = 59
        · rw [if_pos h59] at t ep
          have e2 : fX4_read_L17 (F + 1) M (nI k) = fX4_read_L17 F (stM len pd M1 (j + 1)) (nI (k + 1)) := by
            rw [e1]
            exact ob2_in t (if_neg (by decide))
          obtain ⟨q1, q2⟩ := ih (k + 1) F (stM len pd M1 (j + 1)) (by omega) (by omega) (by omega) (by omega) (by omega) (by rw [ei]; exact AtC_st a2.1) (NtC_R hN1 KeepR.st) (hQ1.tr KeepR.st.q)
          exact ⟨fun j' hs => by rw [e2]; exact q1 j' (ep.symm.trans hs), fun n hs => by rw [e2]; exact q2 n (ep.symm.trans hs)⟩
        · rw [if_neg h59] at t ep
          refine ⟨fun j' hs => ?_, fun n hs => (by cases ep.symm.trans hs)⟩
          have ej : j = j' := Sum.inl.inj (ep.symm.trans hs)
          subst ej
          refine ⟨M1, ?_, a2, hQ1⟩
          rw [e1]
          exact ob2_in t (if_pos rfl)
      · rw [if_neg hj] at ep e1
        refine ⟨fun j' hs => (by cases ep.symm.trans hs), fun n hs => ?_⟩
        have en : k + 1 = n := Sum.inr.inj (ep.symm.trans hs)
        subst en
        exact ⟨M1, e1, hN1, a2.1, hQ1, by omega⟩
theorem readC_ok {len : Nat} {pd : Nat → Nat} {M : Mem} (hP : PadC len pd M) : (∀ j, pr len pd 60 0 = .inl j → ∃ M', fX4_read M = some (0, M') ∧ AtC len pd M' j ∧ KeepQ M M') ∧ (∀ n, pr len pd 60 0 = .inr n → ∃ M', fX4_read M = some (1, M') ∧ NtC len pd M' n ∧ PadC len pd M' ∧ KeepQ M M' ∧ n ≤ 60) := by
  have hP2 : PadC len pd (up2 (up2 M 14 3 0) 14 8 0) := ⟨hP.1, by rw [up2_ne (by omega), up2_ne (by omega)]; exact hP.2.1, fun j hj => by rw [up2_ne (by omega), up2_ne (by omega)]; exact hP.2.2 j hj⟩
  have hA := AtC_st (i := 0) hP2
  have hQ : KeepQ M (stM len pd (up2 (up2 M 14 3 0) 14 8 0) 0) := fun x hx => by rw [stM_ne (by omega), up2_ne (by omega), up2_ne (by omega)]
  have hN : NtC len pd (stM len pd (up2 (up2 M 14 3 0) 14 8 0) 0) 0 := ⟨by rw [stM_k (by omega) (by omega), up2_same, if_neg (by omega), up2_same, if_pos rfl]; rfl, by rw [stM_k (by omega) (by omega), up2_same, if_pos rfl]; rfl, fun q hq => by omega⟩
  obtain ⟨q1, q2⟩ := readC_L (len := len) (pd := pd) (M0 := M) 60 0 5000 _ (by omega) (by omega) (Nat.zero_le _) (Nat.zero_le _) (Nat.zero_le _) hA hN hQ
  have er : ∀ v M', (v = 0 ∨ v = 1) → fX4_read_L17 5000 (stM len pd (up2 (up2 M 14 3 0) 14 8 0) 0) 0 = some (.inr (v, M')) → fX4_read M = some (v, M') := fun v M' hv hx => by
    unfold fX4_read
    refine ob_in (pI_ok rfl) ?_
    refine ob_in (pI_ok rfl) ?_
    refine ob_in (stepTo_ok (i := 0) hP2 (by omega)) ?_
    refine ob_in hx ?_
    show (bz v).bind (fun b13 => some (b13, M')) = _
    unfold bz
    rw [if_pos hv, ob_some]
  refine ⟨fun j hj => ?_, fun n hn => ?_⟩
  · obtain ⟨M', a1, a2, a3⟩ := q1 j hj
    exact ⟨M', er 0 M' (Or.inl rfl) a1, a2, a3⟩
  · obtain ⟨M', a1, a2, a3, a4, a5⟩ := q2 n hn
    exact ⟨M', er 1 M' (Or.inr rfl) a1, a2, a3, a4, a5⟩
