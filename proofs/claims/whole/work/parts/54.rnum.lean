/-! the reference's numbers and spans -/
theorem sgM_w {len : Nat} {pd : Nat → Nat} {N : Mem} {i : Nat} (h : WrR len pd N i) : WrR len pd (sgM N 1 i) i := sgM_wr h.1 h.2.2.2
theorem AtR_k {len : Nat} {pd : Nat → Nat} {N N' : Mem} {i : Nat} (h : AtR len pd N i) (h6 : N' 6 = N 6) (h7 : N' 0 7 = N 0 7) (h10 : N' 0 10 = N 0 10) (h11 : N' 0 11 = N 0 11) : AtR len pd N' i :=
  ⟨⟨h.1.1, by rw [h7]; exact h.1.2.1, fun j hj => by rw [h6]; exact h.1.2.2 j hj⟩, by rw [h10]; exact h.2.1, by rw [h11]; exact h.2.2.1, h.2.2.2⟩
theorem WrR_k {len : Nat} {pd : Nat → Nat} {N N' : Mem} {i : Nat} (h : WrR len pd N i) (h6 : N' 6 = N 6) (h7 : N' 0 7 = N 0 7) (h10 : N' 0 10 = N 0 10) (h11 : N' 0 11 = N 0 11) : WrR len pd N' i :=
  ⟨⟨h.1.1, by rw [h7]; exact h.1.2.1, fun j hj => by rw [h6]; exact h.1.2.2 j hj⟩, by rw [h10]; exact h.2.1, by rw [h11]; exact h.2.2.1, h.2.2.2⟩
theorem hereR {γ : Type} {len : Nat} {pd : Nat → Nat} {N : Mem} {i : Nat} {f : Int32 → Option γ} (h : AtR len pd N i) (hi : i < len) : ((gI 12 10 N 0).bind fun v10 => (aL 30 N 6 v10).bind f) = f (nI (sg len pd i)) := by
  have h60 := h.1.1
  rw [n_gI, ob_some, h.2.1]
  refine ob_in (aL_ok (n := 60) rfl rfl (by omega) (by omega)) ?_
  rw [(h.1.2.2 i hi).2.2]
  unfold sg
  rw [if_pos hi]
theorem numR_w {len : Nat} {pd : Nat → Nat} {N : Mem} {i : Nat} {a b : Int32} (h : WrR len pd N i) : ∃ v N', fX12_number N a b = some (v, N') ∧ WrR len pd N' i ∧ KeepS N N' := by
  have e : ∀ v : Int32, fX12_number_L14 5000 (sgM N 1 i) b v = some (v, sgM N 1 i) := fun v => by
    rw [fX12_number_L14]
    by_cases h0 : v ≤ 0
    · exact if_pos h0
    · rw [if_neg h0, nextR_w (sgM_w h), ob_some]
      exact if_pos rfl
  refine ⟨nI (sg len pd i) - 48, sgM N 1 i, ?_, sgM_w h, sgM_keep⟩
  unfold fX12_number
  rw [signR_w h, ob2_some, lt1_eq, e, ob2_some]
theorem numR_L {len : Nat} {pd : Nat → Nat} {hi : Nat} (hhi : hi ≤ 100) : ∀ (f F i v : Nat) (N : Mem), f < F → v ≤ hi → (v = 0 ∨ (f = 0 ∧ hi < 10 * v) ∨ (f = 1 ∧ hi < 100 * v) ∨ (f = 2 ∧ hi < 1000 * v)) → AtR len pd N i → ∃ N', fX12_number_L14 F N (nI hi) (nI v) = some (nI (nm len pd hi f i v).1, N') ∧ AtR len pd N' (nm len pd hi f i v).2 ∧ KeepS N N' := by
  intro f
  induction f with
  | zero =>
    intro F i v N hF hv hw hA
    obtain ⟨F, rfl⟩ : ∃ F', F = F' + 1 := ⟨F - 1, by omega⟩
    refine ⟨N, ?_, hA, KeepS.rf⟩
    have hb := sg_bd (i := i) hA.1
    rw [fX12_number_L14]
    by_cases h0 : v = 0
    · rw [h0]
      exact if_pos (by decide)
    · rw [if_neg (show ¬ nI v ≤ 0 from fun q => by rw [li0] at q; have := (nI_leE (by omega) (by omega)).mp q; omega)]
      have e := nextR_ok (lo := 48) (hi := 57) hA (by omega) (by omega) (by omega)
      refine ob_in e ?_
      by_cases hd : isD len pd i
      · have hl := isD_lt hd
        rw [if_pos hd, if_neg (by decide), hereR hA hl, li10, nI_mulE, nI_addE, li48, nI_subE (by have := hd.1; omega), if_pos (nI_lt (by have := hd.1; omega) (by omega))]
        rfl
      · rw [if_neg hd, if_pos rfl]
        rfl
  | succ f ih =>
    intro F i v N hF hv hw hA
    obtain ⟨F, rfl⟩ : ∃ F', F = F' + 1 := ⟨F - 1, by omega⟩
    have hb := sg_bd (i := i) hA.1
    have h60 := hA.1.1
    rw [nm, fX12_number_L14]
    by_cases h0 : v = 0
    · refine ⟨N, ?_, ?_, KeepS.rf⟩
      · rw [if_neg (c := v ≠ 0 ∧ isD len pd i ∧ 10 * v + (sg len pd i - 48) ≤ hi) (fun z => z.1 h0), h0]
        exact if_pos (by decide)
      · rw [if_neg (fun z => z.1 h0)]
        exact hA
    · rw [if_neg (show ¬ nI v ≤ 0 from fun q => by rw [li0] at q; have := (nI_leE (by omega) (by omega)).mp q; omega)]
      have e := nextR_ok (lo := 48) (hi := 57) hA (by omega) (by omega) (by omega)
      by_cases hd : isD len pd i
      · have hl := isD_lt hd
        have hd1 := hd.1
        have hd2 := hd.2
        rw [if_pos hd] at e
        by_cases hh : 10 * v + (sg len pd i - 48) ≤ hi
        · have hc : v ≠ 0 ∧ isD len pd i ∧ 10 * v + (sg len pd i - 48) ≤ hi := ⟨h0, hd, hh⟩
          obtain ⟨N', e1, e2, e3⟩ := ih F (i + 1) (10 * v + (sg len pd i - 48)) (sgM N 0 (i + 1)) (by omega) hh (by omega) (sgM_at hA.1 (by omega))
          refine ⟨N', ?_, ?_, sgM_keep.tr e3⟩
          · rw [if_pos hc]
            refine ob_in e ?_
            rw [if_neg (by decide), hereR hA hl, li10, nI_mulE, nI_addE, li48, nI_subE (by omega), if_neg (nI_nlt (by omega) (by omega))]
            have s := ((signR_ok (lo := 48) (hi := 57) hA (by omega) (by omega) (by omega)).1 ⟨hd1, hd2⟩).1
            refine ob2_in s ?_
            rw [lt1_eq, nI_addE, nI_subE (by omega), show 10 * v + sg len pd i - 48 = 10 * v + (sg len pd i - 48) by omega]
            exact e1
          · rw [if_pos hc]
            exact e2
        · refine ⟨N, ?_, ?_, KeepS.rf⟩
          · rw [if_neg (c := v ≠ 0 ∧ isD len pd i ∧ 10 * v + (sg len pd i - 48) ≤ hi) (fun z => hh z.2.2)]
            refine ob_in e ?_
            rw [if_neg (by decide), hereR hA hl, li10, nI_mulE, nI_addE, li48, nI_subE (by omega), if_pos (nI_lt (by omega) (by omega))]
          · rw [if_neg (fun z => hh z.2.2)]
            exact hA
      · rw [if_neg hd] at e
        refine ⟨N, ?_, ?_, KeepS.rf⟩
        · rw [if_neg (c := v ≠ 0 ∧ isD len pd i ∧ 10 * v + (sg len pd i - 48) ≤ hi) (fun z => hd z.2.1)]
          refine ob_in e ?_
          exact if_pos rfl
        · rw [if_neg (fun z => hd z.2.1)]
          exact hA
theorem numR_ok {len : Nat} {pd : Nat → Nat} {N : Mem} {lo hi i : Nat} (hlo : lo ≤ 1) (hhi : hi ≤ 100) (hhi9 : 9 ≤ hi) (hA : AtR len pd N i) : (∀ v j, num len pd lo hi i = some (v, j) → ∃ N', fX12_number N (nI lo) (nI hi) = some (nI v, N') ∧ AtR len pd N' j ∧ KeepS N N') ∧ (num len pd lo hi i = none → ∃ w N', fX12_number N (nI lo) (nI hi) = some (w, N') ∧ WrR len pd N' i ∧ KeepS N N') := by
  have hb := sg_bd (i := i) hA.1
  obtain ⟨s1, s2⟩ := signR_ok (lo := 48 + lo) (hi := 57) hA (by omega) (by omega) (by omega)
  rw [← nI_addE] at s1 s2
  unfold num
  by_cases hd : isD len pd i ∧ lo ≤ sg len pd i - 48 ∧ sg len pd i - 48 ≤ hi
  · have hd1 := hd.1.1
    have hd2 := hd.1.2
    obtain ⟨e1, hl⟩ := s1 ⟨by omega, hd2⟩
    refine ⟨fun v j hv => ?_, fun hn => (by rw [if_pos hd] at hn; cases hn)⟩
    rw [if_pos hd] at hv
    have e := Option.some.inj hv
    obtain ⟨N', k1, k2, k3⟩ := numR_L (len := len) (pd := pd) hhi 2 5000 (i + 1) (sg len pd i - 48) (sgM N 0 (i + 1)) (by omega) hd.2.2 (by omega) (sgM_at hA.1 (by omega))
    rw [e] at k1 k2
    refine ⟨N', ?_, k2, sgM_keep.tr k3⟩
    unfold fX12_number
    refine ob2_in e1 ?_
    rw [lt1_eq, li48, nI_subE (by omega), k1, ob2_some]
  · have hno : ¬ (48 + lo ≤ sg len pd i ∧ sg len pd i ≤ 57) := fun z => hd ⟨⟨by omega, z.2⟩, by omega, by omega⟩
    refine ⟨fun v j hv => (by rw [if_neg hd] at hv; cases hv), fun _ => ?_⟩
    have hw := sgM_wr (i := i) hA.1 hA.2.2.2
    have e : ∀ v : Int32, fX12_number_L14 5000 (sgM N 1 i) (nI hi) v = some (v, sgM N 1 i) := fun v => by
      rw [fX12_number_L14]
      by_cases h0 : v ≤ 0
      · exact if_pos h0
      · rw [if_neg h0, nextR_w hw, ob_some]
        exact if_pos rfl
    refine ⟨nI (sg len pd i) - 48, sgM N 1 i, ?_, hw, sgM_keep⟩
    unfold fX12_number
    refine ob2_in (s2 hno) ?_
    rw [lt1_eq, e, ob2_some]
def spR {γ : Type} (N : Mem) (f : Int32 → Int32 → Mem → Option γ) : Option γ :=
  ob2 (fX12_number N 0 11) fun v5 M6 =>
    (fX12_isNext M6 62 62).bind fun v8 =>
    ob2 (if v8 = 0 then (
    some ((0 : Int32), M6)) else (
    ob2 (fX12_sign M6 62 62) fun v41 M42 =>
    some (v41, M42))) fun _v9 M10 =>
    ob2 (if v8 = 0 then (
    some (v5, M10)) else (
    ob2 (fX12_number M10 0 11) fun v37 M38 =>
    some (v37, M38))) fun v13 M14 => f v5 v13 M14
theorem spR_w {γ : Type} {len : Nat} {pd : Nat → Nat} {N N1 : Mem} {j : Nat} {w : Int32} {f : Int32 → Int32 → Mem → Option γ} (e : fX12_number N 0 11 = some (w, N1)) (h : WrR len pd N1 j) : spR N f = f w w N1 := by
  unfold spR
  rw [e, ob2_some, nextR_w h, ob_some, if_pos rfl, ob2_some, if_pos rfl, ob2_some]
theorem spanR {len : Nat} {pd : Nat → Nat} {N : Mem} {i : Nat} (hA : AtR len pd N i) : (∀ j, span len pd i = (j, none) → ∃ a b N', WrR len pd N' j ∧ KeepS N N' ∧ ∀ (γ : Type) (f : Int32 → Int32 → Mem → Option γ), spR N f = f a b N') ∧ (∀ j x y, span len pd i = (j, some (x, y)) → ∃ N', AtR len pd N' j ∧ KeepS N N' ∧ ∀ (γ : Type) (f : Int32 → Int32 → Mem → Option γ), spR N f = f (nI x) (nI y) N') := by
  obtain ⟨r1, r2⟩ := numR_ok (lo := 0) (hi := 11) (by omega) (by omega) (by omega) hA
  have ne : ∀ {a b : Nat} {y : Nat × Nat}, (a, some y) = (b, (none : Option (Nat × Nat))) → False := fun h => by
    have := congrArg Prod.snd h
    cases this
  have ne' : ∀ {a b : Nat} {y : Nat × Nat}, (a, (none : Option (Nat × Nat))) = (b, some y) → False := fun h => by
    have := congrArg Prod.snd h
    cases this
  rcases hn : num len pd 0 11 i with _ | ⟨f0, j0⟩
  · refine ⟨fun j' hs => ?_, fun j' f' l' hs => (ne' ((span_n hn).symm.trans hs)).elim⟩
    have ej : i = j' := congrArg Prod.fst ((span_n hn).symm.trans hs)
    subst ej
    obtain ⟨w, N1, e1, e2, e3⟩ := r2 hn
    exact ⟨w, w, N1, e2, e3, fun γ f => spR_w e1 e2⟩
  · obtain ⟨N1, a1, a2, a3⟩ := r1 f0 j0 hn
    have b1 := num_le hn
    have nx := nextR_ok (lo := 62) (hi := 62) a2 (by omega) (by omega) (by omega)
    by_cases h62 : sg len pd j0 = 62
    · rw [if_pos (show 62 ≤ sg len pd j0 ∧ sg len pd j0 ≤ 62 by omega)] at nx
      obtain ⟨t, hjl⟩ := (signR_ok (lo := 62) (hi := 62) a2 (by omega) (by omega) (by omega)).1 (by omega)
      have hA2 := sgM_at (i := j0 + 1) a2.1 (by omega)
      obtain ⟨q1, q2⟩ := numR_ok (lo := 0) (hi := 11) (by omega) (by omega) (by omega) hA2
      have ec : ∀ (γ : Type) (f : Int32 → Int32 → Mem → Option γ) (w : Int32) (N2 : Mem), fX12_number (sgM N1 0 (j0 + 1)) 0 11 = some (w, N2) → spR N f = f (nI f0) w N2 := fun γ f w N2 hx => by
        unfold spR
        refine ob2_in a1 ?_
        refine ob_in nx ?_
        refine ob2_in (a := nI (sg len pd j0)) (b := sgM N1 0 (j0 + 1)) ?_ ?_
        · rw [if_neg (by decide)]
          exact ob2_in t rfl
        · refine ob2_in (a := w) (b := N2) ?_ rfl
          rw [if_neg (by decide)]
          exact ob2_in hx rfl
      rcases hn2 : num len pd 0 11 (j0 + 1) with _ | ⟨l, j2⟩
      · refine ⟨fun j' hs => ?_, fun j' f' l' hs => (ne' ((span_2n hn h62 hn2).symm.trans hs)).elim⟩
        have ej : j0 + 1 = j' := congrArg Prod.fst ((span_2n hn h62 hn2).symm.trans hs)
        subst ej
        obtain ⟨w, N2, c1, c2, c3⟩ := q2 hn2
        exact ⟨nI f0, w, N2, c2, (a3.tr sgM_keep).tr c3, fun γ f => ec γ f w N2 c1⟩
      · refine ⟨fun j' hs => (ne ((span_2 hn h62 hn2).symm.trans hs)).elim, fun j' f' l' hs => ?_⟩
        have es := (span_2 hn h62 hn2).symm.trans hs
        have ej : j2 = j' := congrArg Prod.fst es
        have e2 := Option.some.inj (congrArg Prod.snd es)
        have ef : f0 = f' := congrArg Prod.fst e2
        have el : l = l' := congrArg Prod.snd e2
        subst ej
        subst ef
        subst el
        obtain ⟨N2, c1, c2, c3⟩ := q1 l j2 hn2
        exact ⟨N2, c2, (a3.tr sgM_keep).tr c3, fun γ f => ec γ f (nI l) N2 c1⟩
    · rw [if_neg (show ¬ (62 ≤ sg len pd j0 ∧ sg len pd j0 ≤ 62) by omega)] at nx
      refine ⟨fun j' hs => (ne ((span_1 hn h62).symm.trans hs)).elim, fun j' f' l' hs => ?_⟩
      have es := (span_1 hn h62).symm.trans hs
      have ej : j0 = j' := congrArg Prod.fst es
      have e2 := Option.some.inj (congrArg Prod.snd es)
      have ef : f0 = f' := congrArg Prod.fst e2
      have el : f0 = l' := congrArg Prod.snd e2
      subst ej
      subst ef
      subst el
      refine ⟨N1, a2, a3, fun γ f => ?_⟩
      unfold spR
      refine ob2_in a1 ?_
      refine ob_in nx ?_
      rw [if_pos rfl, ob2_some, if_pos rfl, ob2_some]
