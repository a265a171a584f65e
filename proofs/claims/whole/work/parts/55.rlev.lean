/-! the reference's spans of an order -/
def KeepV (N N' : Mem) : Prop := (∀ x, x ≠ 0 → x ≠ 9 → N' x = N x) ∧ ∀ k, k ≠ 10 → k ≠ 11 → k ≠ 13 → k ≠ 15 → N' 0 k = N 0 k
theorem KeepV.rf {N : Mem} : KeepV N N := ⟨fun _ _ _ => rfl, fun _ _ _ _ _ => rfl⟩
theorem KeepV.tr {N1 N2 N3 : Mem} (h1 : KeepV N1 N2) (h2 : KeepV N2 N3) : KeepV N1 N3 := ⟨fun x a b => (h2.1 x a b).trans (h1.1 x a b), fun k a b c d => (h2.2 k a b c d).trans (h1.2 k a b c d)⟩
theorem KeepS.l {N N' : Mem} (h : KeepS N N') : KeepV N N' := ⟨fun x a _ => h.1 x a, fun k a b _ _ => h.2 k a b⟩
def wrM (N : Mem) (c : Nat) (a b : Int32) : Mem := up2 (up2 (up2 N 9 (2 * c) a) 9 (2 * c + 1) b) 0 13 (nI (c + 1))
def SpN (N : Mem) (c : Nat) (g : Nat → Nat × Nat) : Prop := N 0 13 = nI c ∧ ∀ x, x < c → N 9 (2 * x) = nI (g x).1 ∧ N 9 (2 * x + 1) = nI (g x).2
theorem wrM_x {N : Mem} {c x : Nat} {a b : Int32} (h : x ≠ 0) (h9 : x ≠ 9) : wrM N c a b x = N x := by
  unfold wrM
  rw [up2_ne h, up2_ne h9, up2_ne h9]
theorem wrM_0 {N : Mem} {c k : Nat} {a b : Int32} (h : k ≠ 13) : wrM N c a b 0 k = N 0 k := by
  unfold wrM
  rw [n0_ne h, up2_ne (by omega), up2_ne (by omega)]
theorem wrM_9 {N : Mem} {c k : Nat} {a b : Int32} : wrM N c a b 9 k = if k = 2 * c + 1 then b else if k = 2 * c then a else N 9 k := by
  unfold wrM
  rw [up2_ne (by omega), up2_same, up2_same]
theorem wrM_l {N : Mem} {c : Nat} {a b : Int32} : KeepV N (wrM N c a b) := ⟨fun x h h9 => wrM_x h h9, fun k _ _ h _ => wrM_0 h⟩
theorem wrM_s {N : Mem} {c f l : Nat} {g : Nat → Nat × Nat} (h : SpN N c g) : SpN (wrM N c (nI f) (nI l)) (c + 1) (fun x => if x = c then (f, l) else g x) := by
  refine ⟨by unfold wrM; rw [n0_eq], fun x hx => ?_⟩
  have e1 : wrM N c (nI f) (nI l) 9 (2 * x) = nI (if x = c then (f, l) else g x).1 := by
    rw [wrM_9, if_neg (show ¬ 2 * x = 2 * c + 1 by omega)]
    by_cases hxc : x = c
    · rw [if_pos (show 2 * x = 2 * c by omega), if_pos hxc]
    · rw [if_neg (show ¬ 2 * x = 2 * c by omega), if_neg hxc]
      exact (h.2 x (by omega)).1
  have e2 : wrM N c (nI f) (nI l) 9 (2 * x + 1) = nI (if x = c then (f, l) else g x).2 := by
    rw [wrM_9]
    by_cases hxc : x = c
    · rw [if_pos (show 2 * x + 1 = 2 * c + 1 by omega), if_pos hxc]
    · rw [if_neg (show ¬ 2 * x + 1 = 2 * c + 1 by omega), if_neg (show ¬ 2 * x + 1 = 2 * c by omega), if_neg hxc]
      exact (h.2 x (by omega)).2
  exact ⟨e1, e2⟩
theorem SpN_k {N N' : Mem} {c : Nat} {g : Nat → Nat × Nat} (h : SpN N c g) (h9 : N' 9 = N 9) (h13 : N' 0 13 = N 0 13) : SpN N' c g := ⟨by rw [h13]; exact h.1, fun x hx => by rw [h9]; exact h.2 x hx⟩
def rlT (F : Nat) (v5 v13 : Int32) (M14 : Mem) : Option Mem :=
  (gI 12 13 M14 0).bind fun v17 =>
    (aS 30 M14 9 (2 * v17) v5).bind fun M19 =>
    (gI 12 13 M19 0).bind fun v21 =>
    (aS 30 M19 9 ((2 * v21) + 1) v13).bind fun M23 =>
    (gI 12 13 M23 0).bind fun v25 =>
    (pI 12 13 M23 0 (v25 + 1)).bind fun M27 =>
    (fX12_isNext M27 43 43).bind fun v30 =>
    if v30 = 0 then (
    fX12_readLamps_L7 F M27 v30) else (
    ob2 (fX12_sign M27 43 43) fun _v33 M34 =>
    fX12_readLamps_L7 F M34 v30)
theorem rlT_ok {F c : Nat} {a b : Int32} {N : Mem} (h : N 0 13 = nI c) (hc : c ≤ 30) : rlT F a b N = (fX12_isNext (wrM N c a b) 43 43).bind fun v30 => if v30 = 0 then fX12_readLamps_L7 F (wrM N c a b) v30 else ob2 (fX12_sign (wrM N c a b) 43 43) fun _v33 M34 => fX12_readLamps_L7 F M34 v30 := by
  unfold rlT
  rw [n_gI, ob_some, h, show (2 : Int32) * nI c = nI (2 * c) from nI_mulE 2 c]
  refine ob_in (aS_ok (n := 62) rfl rfl (by omega) (by omega)) ?_
  rw [n_gI, ob_some, up2_ne (by omega), h, show (2 : Int32) * nI c + 1 = nI (2 * c + 1) by rw [li2, nI_mulE, li1, nI_addE]]
  refine ob_in (aS_ok (n := 62) rfl rfl (by omega) (by omega)) ?_
  rw [n_gI, ob_some, up2_ne (by omega), up2_ne (by omega), h, n_pI, ob_some, li1, nI_addE]
  rfl
theorem rlR_L {len : Nat} {pd : Nat → Nat} : ∀ (fu c F i : Nat) (N : Mem) (g : Nat → Nat × Nat), c + fu = 60 → fu + 1 < F → 2 * c ≤ i → AtR len pd N i → SpN N c g → (∀ j, lvls len pd fu i c g = (j, none) → ∃ N', fX12_readLamps_L7 F N 1 = some N' ∧ WrR len pd N' j ∧ KeepV N N') ∧ (∀ j c' g', lvls len pd fu i c g = (j, some (c', g')) → ∃ N', fX12_readLamps_L7 F N 1 = some N' ∧ AtR len pd N' j ∧ SpN N' c' g' ∧ KeepV N N') := by
  intro fu
  induction fu with
  | zero =>
    intro c F i N g hc hF h2 hA hS
    have := hA.1.1
    have := hA.2.2.2
    omega
  | succ fu ih =>
    intro c F i N g hc hF h2 hA hS
    obtain ⟨F, rfl⟩ : ∃ F', F = F' + 1 := ⟨F - 1, by omega⟩
    have h60 := hA.1.1
    have hil := hA.2.2.2
    have stop : ∀ N : Mem, fX12_readLamps_L7 F N 0 = some N := fun N => by
      obtain ⟨F2, rfl⟩ : ∃ F2, F = F2 + 1 := ⟨F - 1, by omega⟩
      rw [fX12_readLamps_L7]
      exact if_pos rfl
    have e0 : fX12_readLamps_L7 (F + 1) N 1 = spR N (rlT F) := by
      rw [fX12_readLamps_L7, if_neg (by decide)]
      rfl
    obtain ⟨r1, r2⟩ := spanR hA
    rcases hsp : span len pd i with ⟨j, _ | ⟨f, l⟩⟩
    · obtain ⟨a, b, N1, a2, a3, a4⟩ := r1 j hsp
      have hw : WrR len pd (wrM N1 c a b) j := WrR_k a2 (wrM_x (by omega) (by omega)) (wrM_0 (by omega)) (wrM_0 (by omega)) (wrM_0 (by omega))
      refine ⟨fun j' hs => ?_, fun j' c' g' hs => ?_⟩
      · have ej : j = j' := congrArg Prod.fst ((lvls_f hsp).symm.trans hs)
        subst ej
        refine ⟨wrM N1 c a b, ?_, hw, a3.l.tr wrM_l⟩
        rw [e0, a4, rlT_ok (by rw [a3.2 13 (by omega) (by omega)]; exact hS.1) (by omega), nextR_w hw, ob_some, if_pos rfl, stop]
      · have := congrArg Prod.snd ((lvls_f (fu := fu) (c := c) (g := g) hsp).symm.trans hs)
        cases this
    · obtain ⟨N1, a2, a3, a4⟩ := r2 j f l hsp
      have bs := span_le hsp
      have hS1 : SpN N1 c g := SpN_k hS (a3.1 9 (by omega)) (a3.2 13 (by omega) (by omega))
      have hS2 := wrM_s (f := f) (l := l) hS1
      have hA2 : AtR len pd (wrM N1 c (nI f) (nI l)) j := AtR_k a2 (wrM_x (by omega) (by omega)) (wrM_0 (by omega)) (wrM_0 (by omega)) (wrM_0 (by omega))
      have nx := nextR_ok (lo := 43) (hi := 43) hA2 (by omega) (by omega) (by omega)
      have e1 : fX12_readLamps_L7 (F + 1) N 1 = (fX12_isNext (wrM N1 c (nI f) (nI l)) 43 43).bind fun v30 => if v30 = 0 then fX12_readLamps_L7 F (wrM N1 c (nI f) (nI l)) v30 else ob2 (fX12_sign (wrM N1 c (nI f) (nI l)) 43 43) fun _v33 M34 => fX12_readLamps_L7 F M34 v30 := by
        rw [e0, a4, rlT_ok hS1.1 (by omega)]
      by_cases h43 : sg len pd j = 43
      · rw [if_pos (show 43 ≤ sg len pd j ∧ sg len pd j ≤ 43 by omega)] at nx
        obtain ⟨t, hjl⟩ := (signR_ok (lo := 43) (hi := 43) hA2 (by omega) (by omega) (by omega)).1 (by omega)
        have e2 : fX12_readLamps_L7 (F + 1) N 1 = fX12_readLamps_L7 F (sgM (wrM N1 c (nI f) (nI l)) 0 (j + 1)) 1 := by
          rw [e1]
          refine ob_in nx ?_
          rw [if_neg (by decide)]
          exact ob2_in t rfl
        have es := lvls_s (fu := fu) (c := c) (g := g) hsp
        rw [if_pos h43] at es
        have hS3 : SpN (sgM (wrM N1 c (nI f) (nI l)) 0 (j + 1)) (c + 1) (fun x => if x = c then (f, l) else g x) := SpN_k hS2 (sgM_keep.1 9 (by omega)) (sgM_keep.2 13 (by omega) (by omega))
        obtain ⟨q1, q2⟩ := ih (c + 1) F (j + 1) (sgM (wrM N1 c (nI f) (nI l)) 0 (j + 1)) (fun x => if x = c then (f, l) else g x) (by omega) (by omega) (by omega) (sgM_at hA2.1 (by omega)) hS3
        have hk : KeepV N (sgM (wrM N1 c (nI f) (nI l)) 0 (j + 1)) := (a3.l.tr wrM_l).tr sgM_keep.l
        refine ⟨fun j' hs => ?_, fun j' c' g' hs => ?_⟩
        · obtain ⟨N', k1, k2, k3⟩ := q1 j' (es.symm.trans hs)
          exact ⟨N', by rw [e2]; exact k1, k2, hk.tr k3⟩
        · obtain ⟨N', k1, k2, k3, k4⟩ := q2 j' c' g' (es.symm.trans hs)
          exact ⟨N', by rw [e2]; exact k1, k2, k3, hk.tr k4⟩
      · rw [if_neg (show ¬ (43 ≤ sg len pd j ∧ sg len pd j ≤ 43) by omega)] at nx
        have es := lvls_s (fu := fu) (c := c) (g := g) hsp
        rw [if_neg h43] at es
        refine ⟨fun j' hs => ?_, fun j' c' g' hs => ?_⟩
        · have := congrArg Prod.snd (es.symm.trans hs)
          cases this
        · have e2 := es.symm.trans hs
          have ej : j = j' := congrArg Prod.fst e2
          have e3 := Option.some.inj (congrArg Prod.snd e2)
          have ec : c + 1 = c' := congrArg Prod.fst e3
          have eg : (fun x => if x = c then (f, l) else g x) = g' := congrArg Prod.snd e3
          subst ej
          subst ec
          subst eg
          refine ⟨wrM N1 c (nI f) (nI l), ?_, hA2, hS2, a3.l.tr wrM_l⟩
          rw [e1]
          refine ob_in nx ?_
          rw [if_pos rfl, stop]
theorem rdL {len : Nat} {pd : Nat → Nat} {N : Mem} {i : Nat} (hA : AtR len pd N i) : (∀ j, lvls len pd 60 i 0 g0 = (j, none) → ∃ N', fX12_readLamps N = some N' ∧ WrR len pd N' j ∧ KeepV N N') ∧ (∀ j c g, lvls len pd 60 i 0 g0 = (j, some (c, g)) → (sg len pd j ≠ 64 → ∃ N', fX12_readLamps N = some N' ∧ WrR len pd N' j ∧ KeepV N N') ∧ (sg len pd j = 64 → (num len pd 0 100 (j + 1) = none → ∃ N', fX12_readLamps N = some N' ∧ WrR len pd N' (j + 1) ∧ KeepV N N') ∧ (∀ v j2, num len pd 0 100 (j + 1) = some (v, j2) → ∃ N', fX12_readLamps N = some N' ∧ AtR len pd N' j2 ∧ SpN N' c g ∧ N' 0 15 = nI v ∧ KeepV N N'))) := by
  have hA0 : AtR len pd (up2 N 0 13 0) i := AtR_k hA (up2_ne (by omega)) (n0_ne (by omega)) (n0_ne (by omega)) (n0_ne (by omega))
  have hS0 : SpN (up2 N 0 13 0) 0 g0 := ⟨n0_eq, fun x hx => by omega⟩
  have k0 : KeepV N (up2 N 0 13 0) := ⟨fun x h _ => up2_ne h, fun k _ _ h _ => n0_ne h⟩
  have k15 : ∀ (N : Mem) (v : Int32), KeepV N (up2 N 0 15 v) := fun N v => ⟨fun x h _ => up2_ne h, fun k _ _ _ h => n0_ne h⟩
  have w15 : ∀ {N : Mem} {j : Nat} (v : Int32), WrR len pd N j → WrR len pd (up2 N 0 15 v) j := fun v h => WrR_k h (up2_ne (by omega)) (n0_ne (by omega)) (n0_ne (by omega)) (n0_ne (by omega))
  obtain ⟨q1, q2⟩ := rlR_L (len := len) (pd := pd) 60 0 5000 i (up2 N 0 13 0) g0 (by omega) (by omega) (by omega) hA0 hS0
  have wr : ∀ (N3 N4 : Mem) (j : Nat) (s : Int32), KeepV N N3 → fX12_readLamps_L7 5000 (up2 N 0 13 0) 1 = some N3 → fX12_sign N3 64 64 = some (s, N4) → KeepS N3 N4 → WrR len pd N4 j → ∃ N', fX12_readLamps N = some N' ∧ WrR len pd N' j ∧ KeepV N N' := fun N3 N4 j s hk hx hs hk4 hw => by
    obtain ⟨v, N5, c1, c2, c3⟩ := numR_w (a := 0) (b := 100) hw
    refine ⟨up2 N5 0 15 v, ?_, w15 v c2, ((hk.tr hk4.l).tr c3.l).tr (k15 _ _)⟩
    unfold fX12_readLamps
    rw [n_pI, ob_some, hx, ob_some, hs, ob2_some, c1, ob2_some, n_pI, ob_some]
  refine ⟨fun j hs => ?_, fun j c g hs => ?_⟩
  · obtain ⟨N3, a1, a2, a3⟩ := q1 j hs
    exact wr N3 _ j _ (k0.tr a3) a1 (signR_w a2) sgM_keep (sgM_w a2)
  · obtain ⟨N3, a1, a2, a3, a4⟩ := q2 j c g hs
    obtain ⟨s1, s2⟩ := signR_ok (lo := 64) (hi := 64) a2 (by omega) (by omega) (by omega)
    refine ⟨fun h64 => wr N3 _ j _ (k0.tr a4) a1 (s2 (by omega)) sgM_keep (sgM_wr a2.1 a2.2.2.2), fun h64 => ?_⟩
    obtain ⟨t, hjl⟩ := s1 (by omega)
    have hA4 := sgM_at (i := j + 1) a2.1 (by omega)
    obtain ⟨r1, r2⟩ := numR_ok (lo := 0) (hi := 100) (by omega) (by omega) (by omega) hA4
    refine ⟨fun hn => ?_, fun v j2 hn => ?_⟩
    · obtain ⟨w, N5, c1, c2, c3⟩ := r2 hn
      refine ⟨up2 N5 0 15 w, ?_, w15 w c2, (((k0.tr a4).tr sgM_keep.l).tr c3.l).tr (k15 _ _)⟩
      unfold fX12_readLamps
      rw [n_pI, ob_some, a1, ob_some]
      refine ob2_in t ?_
      refine ob2_in c1 ?_
      rw [n_pI, ob_some]
    · obtain ⟨N5, c1, c2, c3⟩ := r1 v j2 hn
      refine ⟨up2 N5 0 15 (nI v), ?_, AtR_k c2 (up2_ne (by omega)) (n0_ne (by omega)) (n0_ne (by omega)) (n0_ne (by omega)), SpN_k a3 ?_ ?_, n0_eq, (((k0.tr a4).tr sgM_keep.l).tr c3.l).tr (k15 _ _)⟩
      · unfold fX12_readLamps
        rw [n_pI, ob_some, a1, ob_some]
        refine ob2_in t ?_
        refine ob2_in c1 ?_
        rw [n_pI, ob_some]
      · rw [up2_ne (by omega), c3.1 9 (by omega), sgM_keep.1 9 (by omega)]
      · rw [n0_ne (by omega), c3.2 13 (by omega) (by omega), sgM_keep.2 13 (by omega) (by omega)]
