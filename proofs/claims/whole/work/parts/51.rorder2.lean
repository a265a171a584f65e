/-! go, reset, levels read by the class -/
theorem rOrd_g {len : Nat} {pd : Nat → Nat} {M : Mem} {i n m : Nat} (hA : AtC len pd M i) (hn : M 14 3 = nI n) (hm : M 14 8 = nI m) (hn60 : n < 60) (h2 : 2 * m ≤ i) (h114 : sg len pd i ≠ 114) (h103 : sg len pd i = 103) : RO len pd M i n m := by
  have h60 := hA.1.1
  have hil := sg_lt h103 (by omega)
  have t0 := take_ok (c := 114) hA (by omega) (by omega) (by omega)
  rw [if_neg h114] at t0
  have t1 := take_ok (c := 103) hA (by omega) (by omega) (by omega)
  rw [if_pos h103] at t1
  have hA1 := AtC_st (len := len) (pd := pd) (i := i + 1) hA.1
  obtain ⟨r1, r2⟩ := readN_ok (lo := 0) (hi := 7) (by omega) (by omega) hA1
  have eo : ∀ x, (match num len pd 0 7 (i + 1) with
    | none => (i + 1, none)
    | some (a, j) => (j, some (2, a, 0, 0, g0))) = x → ordr len pd i = x := fun x hx => by
    unfold ordr
    rw [if_neg h114, if_pos h103]
    exact hx
  have ec : ∀ x, ob2 (fX4_readGo (stM len pd M (i + 1))) (fun v29 M30 => (bz v29).bind fun b31 => some (b31, M30)) = x → fX4_readOrder M = x := fun x hx => by
    unfold fX4_readOrder
    refine ob2_in t0 ?_
    rw [if_pos rfl]
    refine ob2_in t1 ?_
    rw [if_neg (by decide)]
    exact hx
  rcases hn1 : num len pd 0 7 (i + 1) with _ | ⟨a, j⟩
  · refine RO_n (j0 := i + 1) (eo _ (by rw [hn1])) ⟨_, ec _ ?_, hA1, KeepR.st.q⟩
    unfold fX4_readGo
    refine ob2_in (a := 0) (b := stM len pd M (i + 1)) ?_ rfl
    refine ob2_in (r2 hn1) ?_
    exact if_pos rfl
  · obtain ⟨M1, a1, a2, a3⟩ := r1 a j hn1
    have b1 := num_le hn1
    have hk := (KeepR.st (len := len) (pd := pd) (M := M) (i := i + 1)).tr a3
    have hS := SpR_R (SpR_0 hm) hk
    have hN := note_ok (M := M1) (n := n) (m := m) (k := 2) (a := nI a) (b := 0) (by rw [hk.2 3 (by omega) (by omega)]; exact hn) (by rw [hk.2 8 (by omega) (by omega)]; exact hm) hn60
    refine RO_s (j0 := j) (o := (2, a, 0, 0, g0)) (eo _ (by rw [hn1])) ⟨ntM M1 n m 2 (nI a) 0, ec _ ?_, AtC_nt a2, OrR_nt (k := 2) (b := 0) hS, by show 2 * (m + 0) ≤ j; omega, by omega, b1.2.2⟩
    unfold fX4_readGo
    refine ob2_in (a := 1) (b := ntM M1 n m 2 (nI a) 0) ?_ rfl
    refine ob2_in a1 ?_
    rw [if_neg (n6 (by omega))]
    refine ob2_in hN ?_
    exact if_neg (by decide)
theorem rOrd_x {len : Nat} {pd : Nat → Nat} {M : Mem} {i n m : Nat} (hA : AtC len pd M i) (hn : M 14 3 = nI n) (hm : M 14 8 = nI m) (hn60 : n < 60) (h2 : 2 * m ≤ i) (h114 : sg len pd i ≠ 114) (h103 : sg len pd i ≠ 103) (h120 : sg len pd i = 120) : RO len pd M i n m := by
  have h60 := hA.1.1
  have hil := sg_lt h120 (by omega)
  have t0 := take_ok (c := 114) hA (by omega) (by omega) (by omega)
  rw [if_neg h114] at t0
  have t1 := take_ok (c := 103) hA (by omega) (by omega) (by omega)
  rw [if_neg h103] at t1
  have t2 := take_ok (c := 120) hA (by omega) (by omega) (by omega)
  rw [if_pos h120] at t2
  have hA1 := AtC_st (len := len) (pd := pd) (i := i + 1) hA.1
  have hS := SpR_R (SpR_0 hm) (KeepR.st (len := len) (pd := pd) (M := M) (i := i + 1))
  have hN := note_ok (M := stM len pd M (i + 1)) (n := n) (m := m) (k := 3) (a := 0) (b := 0) (by rw [stM_k (by omega) (by omega)]; exact hn) (by rw [stM_k (by omega) (by omega)]; exact hm) hn60
  refine RO_s (j0 := i + 1) (o := (3, 0, 0, 0, g0)) (by unfold ordr; rw [if_neg h114, if_neg h103, if_pos h120]) ⟨ntM (stM len pd M (i + 1)) n m 3 0 0, ?_, AtC_nt hA1, OrR_nt (k := 3) (a := 0) (b := 0) hS, by show 2 * (m + 0) ≤ i + 1; omega, by omega, by omega⟩
  unfold fX4_readOrder
  refine ob2_in t0 ?_
  rw [if_pos rfl]
  refine ob2_in t1 ?_
  rw [if_pos rfl]
  refine ob2_in t2 ?_
  rw [if_neg (by decide)]
  exact ob2_in hN rfl
theorem rOrd_l {len : Nat} {pd : Nat → Nat} {M : Mem} {i n m : Nat} (hA : AtC len pd M i) (hil : i ≤ len) (hn : M 14 3 = nI n) (hm : M 14 8 = nI m) (hn60 : n < 60) (h2 : 2 * m ≤ i) (h114 : sg len pd i ≠ 114) (h103 : sg len pd i ≠ 103) (h120 : sg len pd i ≠ 120) : RO len pd M i n m := by
  have h60 := hA.1.1
  have t0 := take_ok (c := 114) hA (by omega) (by omega) (by omega)
  rw [if_neg h114] at t0
  have t1 := take_ok (c := 103) hA (by omega) (by omega) (by omega)
  rw [if_neg h103] at t1
  have t2 := take_ok (c := 120) hA (by omega) (by omega) (by omega)
  rw [if_neg h120] at t2
  have ec : ∀ v M', (v = 0 ∨ v = 1) → fX4_readLevels M = some (v, M') → fX4_readOrder M = some (v, M') := fun v M' hv hx => by
    unfold fX4_readOrder
    refine ob2_in t0 ?_
    rw [if_pos rfl]
    refine ob2_in t1 ?_
    rw [if_pos rfl]
    refine ob2_in t2 ?_
    rw [if_pos rfl]
    refine ob2_in hx ?_
    unfold bz
    rw [if_pos hv, ob_some]
  have eo : ∀ x, (match lvls len pd 60 i 0 g0 with
    | (j, none) => (j, none)
    | (j, some (c, g)) => if sg len pd j = 64 then (match num len pd 0 100 (j + 1) with
      | none => (j + 1, none)
      | some (v, j2) => (j2, some (0, v, 0, c, g))) else (j, none)) = x → ordr len pd i = x := fun x hx => by
    unfold ordr
    rw [if_neg h114, if_neg h103, if_neg h120]
    exact hx
  obtain ⟨l1, l2⟩ := lvC_L (len := len) (pd := pd) (M0 := M) (m0 := m) 60 0 5000 i M g0 (by omega) (by omega) (by omega) hil hA (SpR_0 hm)
  rcases hl : lvls len pd 60 i 0 g0 with ⟨j, _ | ⟨c, g⟩⟩
  · obtain ⟨M1, a1, a2, a3⟩ := l1 j hl
    refine RO_n (j0 := j) (eo _ (by rw [hl])) ⟨M1, ec 0 M1 (Or.inl rfl) ?_, a2, a3⟩
    unfold fX4_readLevels
    exact ob_in a1 rfl
  · obtain ⟨M1, a1, a2, a3, a4, a5, a6, a7⟩ := l2 j c g hl
    have t3 := take_ok (c := 64) a2 (by omega) (by omega) (by omega)
    have er : ∀ x, ob2 (fX4_take M1 64) (fun v10 M11 => if v10 = 0 then some ((0 : Int32), M11) else ob2 (fX4_readNumber M11 0 100) fun v14 M15 => if v14 = -6 then some (0, M15) else ob2 (fX4_note M15 0 v14 0) fun v18 M19 => if v18 = 0 then some (0, M19) else some (1, M19)) = x → fX4_readLevels M = x := fun x hx => by
      unfold fX4_readLevels
      refine ob_in a1 ?_
      exact hx
    by_cases h64 : sg len pd j = 64
    · have hjl := sg_lt h64 (by omega)
      rw [if_pos h64] at t3
      have hA2 := AtC_st (len := len) (pd := pd) (i := j + 1) a2.1
      obtain ⟨q1, q2⟩ := readN_ok (lo := 0) (hi := 100) (by omega) (by omega) hA2
      rcases hn2 : num len pd 0 100 (j + 1) with _ | ⟨v, j2⟩
      · refine RO_n (j0 := j + 1) (eo _ (by rw [hl]; show (if sg len pd j = 64 then _ else _) = _; rw [if_pos h64, hn2])) ⟨stM len pd M1 (j + 1), ec 0 _ (Or.inl rfl) (er _ ?_), hA2, a3.2.2.2.2.2.tr KeepR.st.q⟩
        refine ob2_in t3 ?_
        rw [if_neg (by decide)]
        refine ob2_in (q2 hn2) ?_
        exact if_pos rfl
      · obtain ⟨M2, c1, c2, c3⟩ := q1 v j2 hn2
        have b2 := num_le hn2
        have hk := (KeepR.st (len := len) (pd := pd) (M := M1) (i := j + 1)).tr c3
        have hS := SpR_R a3 hk
        have hN := note_ok (M := M2) (n := n) (m := m + c) (k := 0) (a := nI v) (b := 0) (by rw [hS.2.2.2.2.1]; exact hn) hS.1 hn60
        refine RO_s (j0 := j2) (o := (0, v, 0, c, g)) (eo _ (by rw [hl]; show (if sg len pd j = 64 then _ else _) = _; rw [if_pos h64, hn2])) ⟨ntM M2 n (m + c) 0 (nI v) 0, ec 1 _ (Or.inr rfl) (er _ ?_), AtC_nt c2, OrR_nt (k := 0) (b := 0) hS, by show 2 * (m + c) ≤ j2; omega, by omega, b2.2.2⟩
        refine ob2_in t3 ?_
        rw [if_neg (by decide)]
        refine ob2_in c1 ?_
        rw [if_neg (n6 (by omega))]
        refine ob2_in hN ?_
        exact if_neg (by decide)
    · rw [if_neg h64] at t3
      refine RO_n (j0 := j) (eo _ (by rw [hl]; exact if_neg h64)) ⟨M1, ec 0 _ (Or.inl rfl) (er _ ?_), a2, a3.2.2.2.2.2⟩
      refine ob2_in t3 ?_
      exact if_pos rfl
theorem rOrd_ok {len : Nat} {pd : Nat → Nat} {M : Mem} {i n m : Nat} (hA : AtC len pd M i) (hil : i ≤ len) (hn : M 14 3 = nI n) (hm : M 14 8 = nI m) (hn60 : n < 60) (h2 : 2 * m ≤ i) : RO len pd M i n m := by
  by_cases h1 : sg len pd i = 114
  · exact rOrd_r hA hn hm hn60 h2 h1
  · by_cases h3 : sg len pd i = 103
    · exact rOrd_g hA hn hm hn60 h2 h1 h3
    · by_cases h4 : sg len pd i = 120
      · exact rOrd_x hA hn hm hn60 h2 h1 h3 h4
      · exact rOrd_l hA hil hn hm hn60 h2 h1 h3 h4
