/-! an order, the reference's -/
def KeepU (N N' : Mem) : Prop := (∀ x, x ≠ 0 → x ≠ 9 → N' x = N x) ∧ ∀ k, k < 10 → N' 0 k = N 0 k
theorem KeepU.rf {N : Mem} : KeepU N N := ⟨fun _ _ _ => rfl, fun _ _ => rfl⟩
theorem KeepU.tr {N1 N2 N3 : Mem} (h1 : KeepU N1 N2) (h2 : KeepU N2 N3) : KeepU N1 N3 := ⟨fun x a b => (h2.1 x a b).trans (h1.1 x a b), fun k a => (h2.2 k a).trans (h1.2 k a)⟩
theorem KeepV.w {N N' : Mem} (h : KeepV N N') : KeepU N N' := ⟨h.1, fun k a => h.2 k (by omega) (by omega) (by omega) (by omega)⟩
theorem KeepU.up {N : Mem} {k : Nat} {v : Int32} (h : 10 ≤ k) : KeepU N (up2 N 0 k v) := ⟨fun x a _ => up2_ne a, fun q hq => n0_ne (by omega)⟩
def ltr (k : Nat) : Nat := if k = 0 then 64 else if k = 1 then 114 else if k = 2 then 103 else 120
def NoR (N : Mem) (o : Ord5) : Prop := N 0 14 = nI (ltr o.1) ∧ (o.1 ≤ 2 → N 0 15 = nI o.2.1) ∧ (o.1 = 1 → N 0 16 = nI o.2.2.1) ∧ (o.1 = 0 → SpN N o.2.2.2.1 o.2.2.2.2)
theorem num7 {len : Nat} {pd : Nat → Nat} {i : Nat} : num len pd 0 7 i = if 48 ≤ sg len pd i ∧ sg len pd i ≤ 55 then some (sg len pd i - 48, i + 1) else none := by
  have e : ∀ v, nm len pd 7 2 (i + 1) v = (v, i + 1) := fun v => by
    rw [nm]
    by_cases h : v ≠ 0 ∧ isD len pd (i + 1) ∧ 10 * v + (sg len pd (i + 1) - 48) ≤ 7
    · omega
    · rw [if_neg h]
  unfold num
  rw [e]
  by_cases h : 48 ≤ sg len pd i ∧ sg len pd i ≤ 55
  · rw [if_pos h, if_pos (show isD len pd i ∧ 0 ≤ sg len pd i - 48 ∧ sg len pd i - 48 ≤ 7 from ⟨⟨by omega, by omega⟩, by omega, by omega⟩)]
  · rw [if_neg h, if_neg (show ¬ (isD len pd i ∧ 0 ≤ sg len pd i - 48 ∧ sg len pd i - 48 ≤ 7) from fun z => h ⟨z.1.1, by have := z.1.1; omega⟩)]
def ordC (v5 : Int32) (M27 : Mem) : Option Mem :=
  ob2 (if v5 = 114 then (
  ob2 (fX12_sign M27 48 55) fun v53 M54 =>
  some (v53 - 48, M54)) else (
  if v5 = 103 then (
  ob2 (fX12_sign M27 48 55) fun v57 M58 =>
  some (v57 - 48, M58)) else (
  some ((0 : Int32), M27)))) fun v29 M30 =>
  (pI 12 15 M30 0 v29).bind fun M33 =>
  ob2 (if v5 = 114 then (
  ob2 (fX12_sign M33 47 47) fun v49 M50 =>
  some (v49, M50)) else (
  some ((0 : Int32), M33))) fun _v35 M36 =>
  if v5 = 114 then (
  ob2 (fX12_number M36 1 50) fun v43 M44 =>
  (pI 12 16 M44 0 v43).bind fun M45 =>
  some M45) else (
  (pI 12 16 M36 0 0).bind fun M40 =>
  some M40)
def ordB (N : Mem) (v5 : Int32) : Option Mem :=
  (pI 12 14 N 0 v5).bind fun M11 =>
  (gI 12 11 M11 0).bind fun v13 =>
  (if v13 = 0 then (
  if v5 = 114 then (
  some (0 : Int32)) else (
  if v5 = 103 then (
  some (0 : Int32)) else (
  if v5 = 120 then (
  some (0 : Int32)) else (
  some (1 : Int32))))) else (
  some (1 : Int32))).bind fun v15 =>
  (pZ 12 11 M11 0 v15).bind fun M18 =>
  (gI 12 10 M18 0).bind fun v20 =>
  (gI 12 11 M18 0).bind fun v22 =>
  (if v22 = 0 then (
  some (1 : Int32)) else (
  some (0 : Int32))).bind fun v24 =>
  (pI 12 10 M18 0 (v20 + v24)).bind fun M27 => ordC v5 M27
theorem ord_e {len : Nat} {pd : Nat → Nat} {N : Mem} {i : Nat} (hA : AtR len pd N i) : fX12_order N = if isD len pd i then ((pI 12 14 N 0 64).bind fun M64 => (fX12_readLamps M64).bind fun M67 => some M67) else ordB N (nI (sg len pd i)) := by
  have hs := sgHere hA.1 hA.2.2.2 hA.2.1
  have hb := sg_bd (i := i) hA.1
  unfold fX12_order
  rw [n_gI, n_gI, ob_some, ob_some] at hs ⊢
  refine ob_in hs ?_
  refine ob_in (inR (a := sg len pd i) (b := 48) (c := 57) (by omega) (by omega) (by omega)) ?_
  rw [b01]
  by_cases hd : isD len pd i
  · rw [if_pos hd, if_pos hd]
  · rw [if_neg hd, if_neg hd]
    rfl
theorem ordB_y {len : Nat} {pd : Nat → Nat} {N : Mem} {i : Nat} {v : Int32} (hA : AtR len pd N i) (hv : v = 114 ∨ v = 103 ∨ v = 120) : ordB N v = ordC v (sgM (up2 N 0 14 v) 0 (i + 1)) := by
  have e : (if v = 114 then some (0 : Int32) else if v = 103 then some (0 : Int32) else if v = 120 then some (0 : Int32) else some (1 : Int32)) = some 0 := by
    rcases hv with rfl | rfl | rfl <;> decide
  unfold ordB
  rw [n_pI, ob_some, n_gI, ob_some, n0_ne (by omega), hA.2.2.1, if_pos rfl, e, ob_some, pZ_ok (Or.inl rfl), ob_some, n_gI, ob_some, n_gI, ob_some, n0_eq, if_pos rfl, ob_some, n_pI, ob_some, n0_ne (k := 11) (by omega), n0_ne (k := 14) (by omega), hA.2.1, li1, nI_addE]
  rfl
theorem ordB_n {len : Nat} {pd : Nat → Nat} {N : Mem} {i : Nat} {v : Int32} (hA : AtR len pd N i) (h1 : ¬ v = 114) (h2 : ¬ v = 103) (h3 : ¬ v = 120) : ordB N v = ordC v (sgM (up2 N 0 14 v) 1 i) := by
  unfold ordB
  rw [n_pI, ob_some, n_gI, ob_some, n0_ne (by omega), hA.2.2.1, if_pos rfl, if_neg h1, if_neg h2, if_neg h3, ob_some, pZ_ok (Or.inr rfl), ob_some, n_gI, ob_some, n_gI, ob_some, n0_eq, if_neg (by decide), ob_some, n_pI, ob_some, n0_ne (k := 11) (by omega), n0_ne (k := 14) (by omega), hA.2.1, Int32.add_zero]
  rfl
def ORn (len : Nat) (pd : Nat → Nat) (N : Mem) (i : Nat) : Prop := (∀ j, ordr len pd i = (j, none) → ∃ N', fX12_order N = some N' ∧ WrR len pd N' j ∧ KeepU N N') ∧ (∀ j o, ordr len pd i = (j, some o) → ∃ N', fX12_order N = some N' ∧ AtR len pd N' j ∧ KeepU N N' ∧ NoR N' o)
theorem ORn_n {len : Nat} {pd : Nat → Nat} {N : Mem} {i j0 : Nat} (eo : ordr len pd i = (j0, none)) (h : ∃ N', fX12_order N = some N' ∧ WrR len pd N' j0 ∧ KeepU N N') : ORn len pd N i := by
  refine ⟨fun j hs => ?_, fun j o hs => ?_⟩
  · have ej : j0 = j := congrArg Prod.fst (eo.symm.trans hs)
    subst ej
    exact h
  · have := congrArg Prod.snd (eo.symm.trans hs)
    cases this
theorem ORn_s {len : Nat} {pd : Nat → Nat} {N : Mem} {i j0 : Nat} {o : Ord5} (eo : ordr len pd i = (j0, some o)) (h : ∃ N', fX12_order N = some N' ∧ AtR len pd N' j0 ∧ KeepU N N' ∧ NoR N' o) : ORn len pd N i := by
  refine ⟨fun j hs => ?_, fun j o' hs => ?_⟩
  · have := congrArg Prod.snd (eo.symm.trans hs)
    cases this
  · have e2 := eo.symm.trans hs
    have ej : j0 = j := congrArg Prod.fst e2
    have e3 : o = o' := Option.some.inj (congrArg Prod.snd e2)
    subst ej
    subst e3
    exact h
theorem at_up {len : Nat} {pd : Nat → Nat} {N : Mem} {i k : Nat} {v : Int32} (h : AtR len pd N i) (hk : 13 ≤ k) : AtR len pd (up2 N 0 k v) i := AtR_k h (up2_ne (by omega)) (n0_ne (by omega)) (n0_ne (by omega)) (n0_ne (by omega))
theorem wr_up {len : Nat} {pd : Nat → Nat} {N : Mem} {i k : Nat} {v : Int32} (h : WrR len pd N i) (hk : 13 ≤ k) : WrR len pd (up2 N 0 k v) i := WrR_k h (up2_ne (by omega)) (n0_ne (by omega)) (n0_ne (by omega)) (n0_ne (by omega))
/-- an order that has gone wrong before its numbers goes on without a change of the place -/
theorem ordC_w {len : Nat} {pd : Nat → Nat} {N : Mem} {i : Nat} {v : Int32} (h : WrR len pd N i) : ∃ N', ordC v N = some N' ∧ WrR len pd N' i ∧ KeepU N N' := by
  have a : ∃ w N1, (if v = 114 then ob2 (fX12_sign N 48 55) fun v53 M54 => some (v53 - 48, M54) else if v = 103 then ob2 (fX12_sign N 48 55) fun v57 M58 => some (v57 - 48, M58) else some ((0 : Int32), N)) = some (w, N1) ∧ WrR len pd N1 i ∧ KeepU N N1 := by
    by_cases h1 : v = 114
    · exact ⟨_, _, by rw [if_pos h1, signR_w h, ob2_some], sgM_w h, sgM_keep.l.w⟩
    · by_cases h2 : v = 103
      · exact ⟨_, _, by rw [if_neg h1, if_pos h2, signR_w h, ob2_some], sgM_w h, sgM_keep.l.w⟩
      · exact ⟨_, _, by rw [if_neg h1, if_neg h2], h, KeepU.rf⟩
  obtain ⟨w, N1, a1, a2, a3⟩ := a
  have hb : WrR len pd (up2 N1 0 15 w) i := wr_up a2 (by omega)
  have b : ∃ w2 N2, (if v = 114 then ob2 (fX12_sign (up2 N1 0 15 w) 47 47) fun v49 M50 => some (v49, M50) else some ((0 : Int32), up2 N1 0 15 w)) = some (w2, N2) ∧ WrR len pd N2 i ∧ KeepU (up2 N1 0 15 w) N2 := by
    by_cases h1 : v = 114
    · exact ⟨_, _, by rw [if_pos h1, signR_w hb, ob2_some], sgM_w hb, sgM_keep.l.w⟩
    · exact ⟨_, _, by rw [if_neg h1], hb, KeepU.rf⟩
  obtain ⟨w2, N2, b1, b2, b3⟩ := b
  have hk : KeepU N N2 := (a3.tr (KeepU.up (by omega))).tr b3
  by_cases h1 : v = 114
  · obtain ⟨x, N3, c1, c2, c3⟩ := numR_w (a := 1) (b := 50) b2
    refine ⟨up2 N3 0 16 x, ?_, wr_up c2 (by omega), (hk.tr c3.l.w).tr (KeepU.up (by omega))⟩
    unfold ordC
    rw [a1, ob2_some, n_pI, ob_some, b1, ob2_some, if_pos h1, c1, ob2_some, n_pI, ob_some]
  · refine ⟨up2 N2 0 16 0, ?_, wr_up b2 (by omega), hk.tr (KeepU.up (by omega))⟩
    unfold ordC
    rw [a1, ob2_some, n_pI, ob_some, b1, ob2_some, if_neg h1, n_pI, ob_some]
theorem ordR_r {len : Nat} {pd : Nat → Nat} {N : Mem} {i : Nat} (hA : AtR len pd N i) (h114 : sg len pd i = 114) : ORn len pd N i := by
  have hil := sg_lt h114 (by omega)
  have e0 : fX12_order N = ordC 114 (sgM (up2 N 0 14 114) 0 (i + 1)) := by
    rw [ord_e hA, if_neg (fun z => by have := z.2; omega), h114]
    exact ordB_y hA (Or.inl rfl)
  have hA1 : AtR len pd (sgM (up2 N 0 14 114) 0 (i + 1)) (i + 1) := sgM_at (at_up hA (by omega)).1 (by omega)
  have hk1 : KeepU N (sgM (up2 N 0 14 114) 0 (i + 1)) := (KeepU.up (by omega)).tr sgM_keep.l.w
  have eo : ordr len pd i = (match num len pd 0 7 (i + 1) with
    | none => (i + 1, none)
    | some (a, j) => if sg len pd j = 47 then (match num len pd 1 50 (j + 1) with
      | none => (j + 1, none)
      | some (b, j2) => (j2, some (1, a, b, 0, g0))) else (j, none)) := by
    unfold ordr
    rw [if_pos h114]
    rfl
  obtain ⟨N1, hN1⟩ : ∃ N1, N1 = sgM (up2 N 0 14 114) 0 (i + 1) := ⟨_, rfl⟩
  have e14 : N1 0 14 = 114 := by
    rw [hN1, sgM_keep.2 14 (by omega) (by omega), n0_eq]
  rw [← hN1] at e0 hA1 hk1
  obtain ⟨s1, s2⟩ := signR_ok (lo := 48) (hi := 55) hA1 (by omega) (by omega) (by omega)
  by_cases h7 : 48 ≤ sg len pd (i + 1) ∧ sg len pd (i + 1) ≤ 55
  · obtain ⟨t, hl1⟩ := s1 h7
    rw [num7, if_pos h7] at eo
    have hA2 : AtR len pd (up2 (sgM N1 0 (i + 1 + 1)) 0 15 (nI (sg len pd (i + 1) - 48))) (i + 1 + 1) := at_up (sgM_at hA1.1 (by omega)) (by omega)
    have hk2 : KeepU N (up2 (sgM N1 0 (i + 1 + 1)) 0 15 (nI (sg len pd (i + 1) - 48))) := (hk1.tr sgM_keep.l.w).tr (KeepU.up (by omega))
    have e15 : (up2 (sgM N1 0 (i + 1 + 1)) 0 15 (nI (sg len pd (i + 1) - 48))) 0 15 = nI (sg len pd (i + 1) - 48) := n0_eq
    have e14' : (up2 (sgM N1 0 (i + 1 + 1)) 0 15 (nI (sg len pd (i + 1) - 48))) 0 14 = 114 := by
      rw [n0_ne (by omega), sgM_keep.2 14 (by omega) (by omega), e14]
    obtain ⟨N2, hN2⟩ : ∃ N2, N2 = up2 (sgM N1 0 (i + 1 + 1)) 0 15 (nI (sg len pd (i + 1) - 48)) := ⟨_, rfl⟩
    have e1 : fX12_order N = ob2 (fX12_sign N2 47 47) fun _v M36 => ob2 (fX12_number M36 1 50) fun v43 M44 => (pI 12 16 M44 0 v43).bind fun M45 => some M45 := by
      rw [e0]
      unfold ordC
      refine ob2_in (a := nI (sg len pd (i + 1) - 48)) (b := sgM N1 0 (i + 1 + 1)) ?_ ?_
      · rw [if_pos rfl]
        refine ob2_in t ?_
        rw [li48, nI_subE h7.1]
      · rw [n_pI, ob_some, ← hN2, if_pos rfl]
        obtain ⟨q, hq⟩ : ∃ q, q = fX12_sign N2 47 47 := ⟨_, rfl⟩
        rw [← hq]
        rcases q with _ | ⟨a, b⟩
        · rfl
        · rw [ob2_some, ob2_some, if_pos rfl, ob2_some]
    rw [← hN2] at hA2 hk2 e15 e14'
    obtain ⟨u1, u2⟩ := signR_ok (lo := 47) (hi := 47) hA2 (by omega) (by omega) (by omega)
    by_cases h47 : sg len pd (i + 1 + 1) = 47
    · obtain ⟨t2, hl2⟩ := u1 (by omega)
      have hA3 := sgM_at (i := i + 1 + 1 + 1) hA2.1 (by omega)
      obtain ⟨r1, r2⟩ := numR_ok (lo := 1) (hi := 50) (by omega) (by omega) (by omega) hA3
      have eo2 : ordr len pd i = (match num len pd 1 50 (i + 1 + 1 + 1) with
        | none => (i + 1 + 1 + 1, none)
        | some (b, j2) => (j2, some (1, sg len pd (i + 1) - 48, b, 0, g0))) := by
        rw [eo]
        exact if_pos h47
      rcases hn : num len pd 1 50 (i + 1 + 1 + 1) with _ | ⟨b, j2⟩
      · obtain ⟨w, N4, c1, c2, c3⟩ := r2 hn
        refine ORn_n (j0 := i + 1 + 1 + 1) (by rw [eo2, hn]) ⟨up2 N4 0 16 w, ?_, wr_up c2 (by omega), ((hk2.tr sgM_keep.l.w).tr c3.l.w).tr (KeepU.up (by omega))⟩
        rw [e1]
        refine ob2_in t2 ?_
        refine ob2_in c1 ?_
        rw [n_pI, ob_some]
      · obtain ⟨N4, c1, c2, c3⟩ := r1 b j2 hn
        refine ORn_s (j0 := j2) (o := (1, sg len pd (i + 1) - 48, b, 0, g0)) (by rw [eo2, hn]) ⟨up2 N4 0 16 (nI b), ?_, at_up c2 (by omega), ((hk2.tr sgM_keep.l.w).tr c3.l.w).tr (KeepU.up (by omega)), ?_, fun _ => ?_, fun _ => n0_eq, fun z => (by cases z)⟩
        · rw [e1]
          refine ob2_in t2 ?_
          refine ob2_in c1 ?_
          rw [n_pI, ob_some]
        · rw [n0_ne (by omega), c3.2 14 (by omega) (by omega), sgM_keep.2 14 (by omega) (by omega), e14']
          rfl
        · rw [n0_ne (by omega), c3.2 15 (by omega) (by omega), sgM_keep.2 15 (by omega) (by omega), e15]
    · have eo2 : ordr len pd i = (i + 1 + 1, none) := by
        rw [eo]
        exact if_neg h47
      have hw := sgM_wr (i := i + 1 + 1) hA2.1 hA2.2.2.2
      obtain ⟨w, N4, c1, c2, c3⟩ := numR_w (a := 1) (b := 50) hw
      refine ORn_n eo2 ⟨up2 N4 0 16 w, ?_, wr_up c2 (by omega), ((hk2.tr sgM_keep.l.w).tr c3.l.w).tr (KeepU.up (by omega))⟩
      rw [e1]
      refine ob2_in (u2 (by omega)) ?_
      refine ob2_in c1 ?_
      rw [n_pI, ob_some]
  · rw [num7, if_neg h7] at eo
    have hw := sgM_wr (i := i + 1) hA1.1 hA1.2.2.2
    have hw2 : WrR len pd (up2 (sgM N1 1 (i + 1)) 0 15 (nI (sg len pd (i + 1)) - 48)) (i + 1) := wr_up hw (by omega)
    obtain ⟨N2, hN2⟩ : ∃ N2, N2 = up2 (sgM N1 1 (i + 1)) 0 15 (nI (sg len pd (i + 1)) - 48) := ⟨_, rfl⟩
    have hk2 : KeepU N N2 := by
      rw [hN2]
      exact (hk1.tr sgM_keep.l.w).tr (KeepU.up (by omega))
    rw [← hN2] at hw2
    obtain ⟨w, N4, c1, c2, c3⟩ := numR_w (a := 1) (b := 50) (sgM_w hw2)
    refine ORn_n eo ⟨up2 N4 0 16 w, ?_, wr_up c2 (by omega), ((hk2.tr sgM_keep.l.w).tr c3.l.w).tr (KeepU.up (by omega))⟩
    rw [e0]
    unfold ordC
    refine ob2_in (a := nI (sg len pd (i + 1)) - 48) (b := sgM N1 1 (i + 1)) ?_ ?_
    · rw [if_pos rfl]
      exact ob2_in (s2 h7) rfl
    · rw [n_pI, ob_some, ← hN2, if_pos rfl]
      refine ob2_in (a := nI (sg len pd (i + 1))) (b := sgM N2 1 (i + 1)) (ob2_in (signR_w hw2) rfl) ?_
      rw [if_pos rfl, c1, ob2_some, n_pI, ob_some]
theorem ordR_g {len : Nat} {pd : Nat → Nat} {N : Mem} {i : Nat} (hA : AtR len pd N i) (h103 : sg len pd i = 103) : ORn len pd N i := by
  have hil := sg_lt h103 (by omega)
  have e0 : fX12_order N = ordC 103 (sgM (up2 N 0 14 103) 0 (i + 1)) := by
    rw [ord_e hA, if_neg (fun z => by have := z.2; omega), h103]
    exact ordB_y hA (Or.inr (Or.inl rfl))
  have hA1 : AtR len pd (sgM (up2 N 0 14 103) 0 (i + 1)) (i + 1) := sgM_at (at_up hA (by omega)).1 (by omega)
  have hk1 : KeepU N (sgM (up2 N 0 14 103) 0 (i + 1)) := (KeepU.up (by omega)).tr sgM_keep.l.w
  have eo : ordr len pd i = (match num len pd 0 7 (i + 1) with
    | none => (i + 1, none)
    | some (a, j) => (j, some (2, a, 0, 0, g0))) := by
    unfold ordr
    rw [if_neg (by omega), if_pos h103]
    rfl
  obtain ⟨N1, hN1⟩ : ∃ N1, N1 = sgM (up2 N 0 14 103) 0 (i + 1) := ⟨_, rfl⟩
  have e14 : N1 0 14 = 103 := by
    rw [hN1, sgM_keep.2 14 (by omega) (by omega), n0_eq]
  rw [← hN1] at e0 hA1 hk1
  have e1 : ∀ w N2, fX12_sign N1 48 55 = some (w, N2) → fX12_order N = some (up2 (up2 N2 0 15 (w - 48)) 0 16 0) := fun w N2 hx => by
    rw [e0]
    unfold ordC
    refine ob2_in (a := w - 48) (b := N2) ?_ ?_
    · rw [if_neg (by decide), if_pos rfl]
      exact ob2_in hx rfl
    · rw [n_pI, ob_some, if_neg (by decide), ob2_some, if_neg (by decide), n_pI, ob_some]
  obtain ⟨s1, s2⟩ := signR_ok (lo := 48) (hi := 55) hA1 (by omega) (by omega) (by omega)
  by_cases h7 : 48 ≤ sg len pd (i + 1) ∧ sg len pd (i + 1) ≤ 55
  · obtain ⟨t, hl1⟩ := s1 h7
    rw [num7, if_pos h7] at eo
    refine ORn_s eo ⟨_, e1 _ _ t, at_up (at_up (sgM_at hA1.1 (by omega)) (by omega)) (by omega), ((hk1.tr sgM_keep.l.w).tr (KeepU.up (by omega))).tr (KeepU.up (by omega)), ?_, fun _ => ?_, fun z => (by cases z), fun z => (by cases z)⟩
    · rw [n0_ne (by omega), n0_ne (by omega), sgM_keep.2 14 (by omega) (by omega), e14]
      rfl
    · rw [n0_ne (by omega), n0_eq, li48, nI_subE h7.1]
  · rw [num7, if_neg h7] at eo
    exact ORn_n eo ⟨_, e1 _ _ (s2 h7), wr_up (wr_up (sgM_wr hA1.1 hA1.2.2.2) (by omega)) (by omega), ((hk1.tr sgM_keep.l.w).tr (KeepU.up (by omega))).tr (KeepU.up (by omega))⟩
theorem ordR_x {len : Nat} {pd : Nat → Nat} {N : Mem} {i : Nat} (hA : AtR len pd N i) (h120 : sg len pd i = 120) : ORn len pd N i := by
  have hil := sg_lt h120 (by omega)
  have e0 : fX12_order N = ordC 120 (sgM (up2 N 0 14 120) 0 (i + 1)) := by
    rw [ord_e hA, if_neg (fun z => by have := z.2; omega), h120]
    exact ordB_y hA (Or.inr (Or.inr rfl))
  have hA1 : AtR len pd (sgM (up2 N 0 14 120) 0 (i + 1)) (i + 1) := sgM_at (at_up hA (by omega)).1 (by omega)
  have hk1 : KeepU N (sgM (up2 N 0 14 120) 0 (i + 1)) := (KeepU.up (by omega)).tr sgM_keep.l.w
  have eo : ordr len pd i = (i + 1, some (3, 0, 0, 0, g0)) := by
    unfold ordr
    rw [if_neg (by omega), if_neg (by omega), if_pos h120]
  obtain ⟨N1, hN1⟩ : ∃ N1, N1 = sgM (up2 N 0 14 120) 0 (i + 1) := ⟨_, rfl⟩
  have e14 : N1 0 14 = 120 := by
    rw [hN1, sgM_keep.2 14 (by omega) (by omega), n0_eq]
  rw [← hN1] at e0 hA1 hk1
  refine ORn_s eo ⟨up2 (up2 N1 0 15 0) 0 16 0, ?_, at_up (at_up hA1 (by omega)) (by omega), (hk1.tr (KeepU.up (by omega))).tr (KeepU.up (by omega)), ?_, fun z => ?_, fun z => (by cases z), fun z => (by cases z)⟩
  · rw [e0]
    unfold ordC
    rw [if_neg (by decide), if_neg (by decide), ob2_some, n_pI, ob_some, if_neg (by decide), ob2_some, if_neg (by decide), n_pI, ob_some]
  · rw [n0_ne (by omega), n0_ne (by omega), e14]
    rfl
  · exact absurd z (by decide : ¬ (3 : Nat) ≤ 2)
theorem ordR_ok {len : Nat} {pd : Nat → Nat} {N : Mem} {i : Nat} (hA : AtR len pd N i) : ORn len pd N i := by
  by_cases h1 : sg len pd i = 114
  · exact ordR_r hA h1
  · by_cases h2 : sg len pd i = 103
    · exact ordR_g hA h2
    · by_cases h3 : sg len pd i = 120
      · exact ordR_x hA h3
      · have eo : ordr len pd i = (match lvls len pd 60 i 0 g0 with
          | (j, none) => (j, none)
          | (j, some (c, g)) => if sg len pd j = 64 then (match num len pd 0 100 (j + 1) with
            | none => (j + 1, none)
            | some (v, j2) => (j2, some (0, v, 0, c, g))) else (j, none)) := by
          unfold ordr
          rw [if_neg h1, if_neg h2, if_neg h3]
          rfl
        by_cases hd : isD len pd i
        · have hA1 : AtR len pd (up2 N 0 14 64) i := at_up hA (by omega)
          have k1 : KeepU N (up2 N 0 14 64) := KeepU.up (by omega)
          have e0 : ∀ N', fX12_readLamps (up2 N 0 14 64) = some N' → fX12_order N = some N' := fun N' hx => by
            rw [ord_e hA, if_pos hd, n_pI, ob_some, hx, ob_some]
          obtain ⟨q1, q2⟩ := rdL hA1
          rcases hl : lvls len pd 60 i 0 g0 with ⟨j, _ | ⟨c, g⟩⟩
          · obtain ⟨N', a1, a2, a3⟩ := q1 j hl
            exact ORn_n (j0 := j) (by rw [eo, hl]) ⟨N', e0 N' a1, a2, k1.tr a3.w⟩
          · obtain ⟨p1, p2⟩ := q2 j c g hl
            by_cases h64 : sg len pd j = 64
            · obtain ⟨p3, p4⟩ := p2 h64
              rcases hn : num len pd 0 100 (j + 1) with _ | ⟨v, j2⟩
              · obtain ⟨N', a1, a2, a3⟩ := p3 hn
                exact ORn_n (j0 := j + 1) (by rw [eo, hl]; show (if sg len pd j = 64 then _ else _) = _; rw [if_pos h64, hn]) ⟨N', e0 N' a1, a2, k1.tr a3.w⟩
              · obtain ⟨N', a1, a2, a3, a4, a5⟩ := p4 v j2 hn
                refine ORn_s (j0 := j2) (o := (0, v, 0, c, g)) (by rw [eo, hl]; show (if sg len pd j = 64 then _ else _) = _; rw [if_pos h64, hn]) ⟨N', e0 N' a1, a2, k1.tr a5.w, ?_, fun _ => a4, fun z => (by cases z), fun _ => a3⟩
                rw [a5.2 14 (by omega) (by omega) (by omega) (by omega), n0_eq]
                rfl
            · obtain ⟨N', a1, a2, a3⟩ := p1 h64
              exact ORn_n (j0 := j) (by rw [eo, hl]; exact if_neg h64) ⟨N', e0 N' a1, a2, k1.tr a3.w⟩
        · have hn : num len pd 0 11 i = none := by
            unfold num
            rw [if_neg (fun z => hd z.1)]
          have hl : lvls len pd 60 i 0 g0 = (i, none) := lvls_f (span_n hn)
          have hb := sg_bd (i := i) hA.1
          have e0 : fX12_order N = ordC (nI (sg len pd i)) (sgM (up2 N 0 14 (nI (sg len pd i))) 1 i) := by
            rw [ord_e hA, if_neg hd]
            exact ordB_n hA (fun z => h1 ((nI_eqE (b := 114) (by omega) (by omega)).mp z)) (fun z => h2 ((nI_eqE (b := 103) (by omega) (by omega)).mp z)) (fun z => h3 ((nI_eqE (b := 120) (by omega) (by omega)).mp z))
          have hw : WrR len pd (sgM (up2 N 0 14 (nI (sg len pd i))) 1 i) i := sgM_wr (at_up hA (by omega)).1 hA.2.2.2
          obtain ⟨N', a1, a2, a3⟩ := ordC_w (v := nI (sg len pd i)) hw
          exact ORn_n (j0 := i) (by rw [eo, hl]) ⟨N', by rw [e0]; exact a1, a2, ((KeepU.up (by omega)).tr sgM_keep.l.w).tr a3⟩
