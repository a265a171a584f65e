/-! bounds of what is read; the scan; fault -/
theorem lvls_bd {len : Nat} {pd : Nat → Nat} : ∀ (fu i c : Nat) (g : Nat → Nat × Nat) (j c' : Nat) (g' : Nat → Nat × Nat), lvls len pd fu i c g = (j, some (c', g')) → i < j ∧ j ≤ len ∧ c < c' ∧ 2 * c' + i ≤ j + 1 + 2 * c ∧ (∀ x, c ≤ x → x < c' → (g' x).1 ≤ 11 ∧ (g' x).2 ≤ 11) ∧ ∀ x, x < c → g' x = g x := by
  intro fu
  induction fu with
  | zero =>
    intro i c g j c' g' h
    have := congrArg Prod.snd h
    cases this
  | succ fu ih =>
    intro i c g j c' g' h
    rcases hsp : span len pd i with ⟨j1, _ | ⟨f, l⟩⟩
    · have := congrArg Prod.snd ((lvls_f hsp).symm.trans h)
      cases this
    · have bs := span_le hsp
      have es := lvls_s (fu := fu) (c := c) (g := g) hsp
      by_cases h43 : sg len pd j1 = 43
      · rw [if_pos h43] at es
        obtain ⟨b1, b2, b3, b4, b5, b6⟩ := ih (j1 + 1) (c + 1) _ j c' g' (es.symm.trans h)
        refine ⟨by omega, b2, by omega, by omega, fun x h1 h2 => ?_, fun x hx => ?_⟩
        · by_cases hxc : x = c
          · have e := b6 x (by omega)
            rw [e, if_pos hxc]
            exact ⟨bs.1, bs.2.1⟩
          · exact b5 x (by omega) h2
        · have e := b6 x (by omega)
          rw [e, if_neg (by omega)]
      · rw [if_neg h43] at es
        have e2 := es.symm.trans h
        have ej : j1 = j := congrArg Prod.fst e2
        have e3 := Option.some.inj (congrArg Prod.snd e2)
        have ec : c + 1 = c' := congrArg Prod.fst e3
        have eg : (fun x => if x = c then (f, l) else g x) = g' := congrArg Prod.snd e3
        subst ej
        subst ec
        subst eg
        refine ⟨bs.2.2.1, bs.2.2.2, by omega, by omega, fun x h1 h2 => ?_, fun x hx => ?_⟩
        · show (if x = c then (f, l) else g x).1 ≤ 11 ∧ (if x = c then (f, l) else g x).2 ≤ 11
          rw [if_pos (by omega)]
          exact ⟨bs.1, bs.2.1⟩
        · show (if x = c then (f, l) else g x) = g x
          rw [if_neg (by omega)]
theorem nm_ge {len : Nat} {pd : Nat → Nat} {hi : Nat} : ∀ (f i v : Nat), v ≤ (nm len pd hi f i v).1 := by
  intro f
  induction f with
  | zero =>
    intro i v
    exact Nat.le_refl _
  | succ f ih =>
    intro i v
    rw [nm]
    by_cases hc : v ≠ 0 ∧ isD len pd i ∧ 10 * v + (sg len pd i - 48) ≤ hi
    · rw [if_pos hc]
      have := ih (i + 1) (10 * v + (sg len pd i - 48))
      omega
    · rw [if_neg hc]
      exact Nat.le_refl _
theorem num_ge {len : Nat} {pd : Nat → Nat} {lo hi i v j : Nat} (h : num len pd lo hi i = some (v, j)) : lo ≤ v := by
  unfold num at h
  by_cases hc : isD len pd i ∧ lo ≤ sg len pd i - 48 ∧ sg len pd i - 48 ≤ hi
  · rw [if_pos hc] at h
    have e := Option.some.inj h
    have := nm_ge (len := len) (pd := pd) (hi := hi) 2 (i + 1) (sg len pd i - 48)
    rw [e] at this
    exact Nat.le_trans hc.2.1 this
  · rw [if_neg hc] at h
    cases h
def OB (o : Ord5) : Prop := o.1 ≤ 3 ∧ (o.1 = 0 → o.2.1 ≤ 100 ∧ ∀ x, x < o.2.2.2.1 → (o.2.2.2.2 x).1 ≤ 11 ∧ (o.2.2.2.2 x).2 ≤ 11) ∧ (o.1 = 1 → o.2.1 ≤ 7 ∧ 1 ≤ o.2.2.1 ∧ o.2.2.1 ≤ 50) ∧ (o.1 = 2 → o.2.1 ≤ 7)
theorem ordr_bd {len : Nat} {pd : Nat → Nat} {i j : Nat} {o : Ord5} (h : ordr len pd i = (j, some o)) : i < j ∧ j ≤ len ∧ 2 * o.2.2.2.1 + i ≤ j ∧ OB o := by
  have fin : ∀ {j0 : Nat} {o0 : Ord5}, ordr len pd i = (j0, some o0) → (i < j0 ∧ j0 ≤ len ∧ 2 * o0.2.2.2.1 + i ≤ j0 ∧ OB o0) → (i < j ∧ j ≤ len ∧ 2 * o.2.2.2.1 + i ≤ j ∧ OB o) := fun hx hb => by
    have e2 := hx.symm.trans h
    have ej := congrArg Prod.fst e2
    have eo := Option.some.inj (congrArg Prod.snd e2)
    subst ej
    subst eo
    exact hb
  have bad : ∀ {j0 : Nat}, ordr len pd i = (j0, none) → False := fun hx => by
    have := congrArg Prod.snd (hx.symm.trans h)
    cases this
  by_cases h1 : sg len pd i = 114
  · have hil := sg_lt h1 (by omega)
    have eo : ordr len pd i = (match num len pd 0 7 (i + 1) with
      | none => (i + 1, none)
      | some (a, j) => if sg len pd j = 47 then (match num len pd 1 50 (j + 1) with
        | none => (j + 1, none)
        | some (b, j2) => (j2, some (1, a, b, 0, g0))) else (j, none)) := by
      unfold ordr
      rw [if_pos h1]
      rfl
    rcases hn1 : num len pd 0 7 (i + 1) with _ | ⟨a, j1⟩
    · exact (bad (j0 := i + 1) (by rw [eo, hn1])).elim
    · have b1 := num_le hn1
      by_cases h47 : sg len pd j1 = 47
      · rcases hn2 : num len pd 1 50 (j1 + 1) with _ | ⟨b, j2⟩
        · exact (bad (j0 := j1 + 1) (by rw [eo, hn1]; show (if sg len pd j1 = 47 then _ else _) = _; rw [if_pos h47, hn2])).elim
        · have b2 := num_le hn2
          have b3 := num_ge hn2
          exact fin (j0 := j2) (o0 := (1, a, b, 0, g0)) (by rw [eo, hn1]; show (if sg len pd j1 = 47 then _ else _) = _; rw [if_pos h47, hn2]) ⟨by omega, b2.2.2, by show 2 * 0 + i ≤ j2; omega, Nat.le_of_ble_eq_true rfl, fun z => (by cases z), fun _ => ⟨b1.1, b3, b2.1⟩, fun z => (by cases z)⟩
      · exact (bad (j0 := j1) (by rw [eo, hn1]; exact if_neg h47)).elim
  · by_cases h2 : sg len pd i = 103
    · have hil := sg_lt h2 (by omega)
      have eo : ordr len pd i = (match num len pd 0 7 (i + 1) with
        | none => (i + 1, none)
        | some (a, j) => (j, some (2, a, 0, 0, g0))) := by
        unfold ordr
        rw [if_neg h1, if_pos h2]
        rfl
      rcases hn1 : num len pd 0 7 (i + 1) with _ | ⟨a, j1⟩
      · exact (bad (j0 := i + 1) (by rw [eo, hn1])).elim
      · have b1 := num_le hn1
        exact fin (j0 := j1) (o0 := (2, a, 0, 0, g0)) (by rw [eo, hn1]) ⟨by omega, b1.2.2, by show 2 * 0 + i ≤ j1; omega, Nat.le_of_ble_eq_true rfl, fun z => (by cases z), fun z => (by cases z), fun _ => b1.1⟩
    · by_cases h3 : sg len pd i = 120
      · have hil := sg_lt h3 (by omega)
        refine fin (j0 := i + 1) (o0 := (3, 0, 0, 0, g0)) ?_ ⟨by omega, by omega, by show 2 * 0 + i ≤ i + 1; omega, Nat.le_of_ble_eq_true rfl, fun z => (by cases z), fun z => (by cases z), fun z => (by cases z)⟩
        unfold ordr
        rw [if_neg h1, if_neg h2, if_pos h3]
      · have eo : ordr len pd i = (match lvls len pd 60 i 0 g0 with
          | (j, none) => (j, none)
          | (j, some (c, g)) => if sg len pd j = 64 then (match num len pd 0 100 (j + 1) with
            | none => (j + 1, none)
            | some (v, j2) => (j2, some (0, v, 0, c, g))) else (j, none)) := by
          unfold ordr
          rw [if_neg h1, if_neg h2, if_neg h3]
          rfl
        rcases hl : lvls len pd 60 i 0 g0 with ⟨j1, _ | ⟨c, g⟩⟩
        · exact (bad (j0 := j1) (by rw [eo, hl])).elim
        · obtain ⟨b1, b2, b3, b4, b5, b6⟩ := lvls_bd _ _ _ _ _ _ _ hl
          by_cases h64 : sg len pd j1 = 64
          · rcases hn : num len pd 0 100 (j1 + 1) with _ | ⟨v, j2⟩
            · exact (bad (j0 := j1 + 1) (by rw [eo, hl]; show (if sg len pd j1 = 64 then _ else _) = _; rw [if_pos h64, hn])).elim
            · have b7 := num_le hn
              exact fin (j0 := j2) (o0 := (0, v, 0, c, g)) (by rw [eo, hl]; show (if sg len pd j1 = 64 then _ else _) = _; rw [if_pos h64, hn]) ⟨by omega, b7.2.2, by show 2 * c + i ≤ j2; omega, Nat.le_of_ble_eq_true rfl, fun _ => ⟨b7.1, fun x hx => b5 x (Nat.zero_le _) hx⟩, fun z => (by cases z), fun z => (by cases z)⟩
          · exact (bad (j0 := j1) (by rw [eo, hl]; exact if_neg h64)).elim
/-- a text of n orders -/
def Gd (len : Nat) (pd : Nat → Nat) (n : Nat) : Prop := 1 ≤ n ∧ ∀ k, k < n → ∃ j, ordr len pd (it len pd k) = (j, some (oo len pd k)) ∧ (k + 1 < n → j < len ∧ sg len pd j = 59) ∧ (k + 1 = n → ¬ j < len)
theorem oo_eq {len : Nat} {pd : Nat → Nat} {k j : Nat} {o : Ord5} (h : ordr len pd (it len pd k) = (j, some o)) : oo len pd k = o := by
  unfold oo
  rw [h]
  rfl
theorem it_eq {len : Nat} {pd : Nat → Nat} {k j : Nat} {o : Option Ord5} (h : ordr len pd (it len pd k) = (j, o)) : it len pd (k + 1) = j + 1 := by
  show (ordr len pd (it len pd k)).1 + 1 = j + 1
  rw [h]
theorem pr_gd {len : Nat} {pd : Nat → Nat} : ∀ (f k n : Nat), pr len pd f k = .inr n → k < n ∧ ∀ q, k ≤ q → q < n → ∃ j, ordr len pd (it len pd q) = (j, some (oo len pd q)) ∧ (q + 1 < n → j < len ∧ sg len pd j = 59) ∧ (q + 1 = n → ¬ j < len) := by
  intro f
  induction f with
  | zero =>
    intro k n h
    cases h
  | succ f ih =>
    intro k n h
    rcases ho : ordr len pd (it len pd k) with ⟨j, _ | o⟩
    · have ep : pr len pd (f + 1) k = .inl j := by rw [pr, ho]
      cases ep.symm.trans h
    · have ep : pr len pd (f + 1) k = if j < len then (if sg len pd j = 59 then pr len pd f (k + 1) else .inl j) else .inr (k + 1) := by rw [pr, ho]
      have eo := oo_eq ho
      by_cases hj : j < len
      · rw [if_pos hj] at ep
        by_cases h59 : sg len pd j = 59
        · rw [if_pos h59] at ep
          obtain ⟨b1, b2⟩ := ih (k + 1) n (ep.symm.trans h)
          refine ⟨by omega, fun q h1 h2 => ?_⟩
          by_cases hq : q = k
          · subst hq
            exact ⟨j, by rw [ho, eo], fun _ => ⟨hj, h59⟩, fun z => by omega⟩
          · exact b2 q (by omega) h2
        · rw [if_neg h59] at ep
          cases ep.symm.trans h
      · rw [if_neg hj] at ep
        have en : k + 1 = n := Sum.inr.inj (ep.symm.trans h)
        subst en
        refine ⟨by omega, fun q h1 h2 => ?_⟩
        have hq : q = k := by omega
        subst hq
        exact ⟨j, by rw [ho, eo], fun z => by omega, fun _ => hj⟩
theorem gd_bd {len : Nat} {pd : Nat → Nat} {n : Nat} (h : Gd len pd n) : ∀ k, k < n → it len pd k ≤ len ∧ 2 * cs len pd k ≤ it len pd k ∧ 2 * k ≤ it len pd k ∧ 2 * cs len pd (k + 1) ≤ len ∧ OB (oo len pd k) := by
  intro k
  induction k with
  | zero =>
    intro hk
    obtain ⟨j, a1, a2, a3⟩ := h.2 0 hk
    have b := ordr_bd a1
    refine ⟨Nat.zero_le _, Nat.zero_le _, Nat.zero_le _, ?_, b.2.2.2⟩
    have e : cs len pd (0 + 1) = 0 + (oo len pd 0).2.2.2.1 := rfl
    have b3 := b.2.2.1
    have b2 := b.2.1
    rw [e]
    omega
  | succ k ih =>
    intro hk
    obtain ⟨c1, c2, c3, c4, c5⟩ := ih (by omega)
    obtain ⟨j0, d1, d2, d3⟩ := h.2 k (by omega)
    obtain ⟨j, a1, a2, a3⟩ := h.2 (k + 1) hk
    have e0 := it_eq d1
    have e1 : cs len pd (k + 1) = cs len pd k + (oo len pd k).2.2.2.1 := rfl
    have e2 : cs len pd (k + 1 + 1) = cs len pd (k + 1) + (oo len pd (k + 1)).2.2.2.1 := rfl
    obtain ⟨b1, b2, b3, b4⟩ := ordr_bd d1
    obtain ⟨f1, f2, f3, f4⟩ := ordr_bd a1
    have := (d2 (by omega)).1
    exact ⟨by omega, by omega, by omega, by omega, f4⟩
theorem thr_stop {F : Nat} {N : Mem} {a1 a2 a3 : Int32} : fX12_goThrough_L15 (F + 1) N a1 a2 a3 0 = some (a3, N) := by
  rw [fX12_goThrough_L15]
  exact if_pos rfl
theorem scanR_L {len : Nat} {pd : Nat → Nat} {a2 : Int32} : ∀ (f k F : Nat) (N : Mem), k + f = 60 → f + 1 < F → 2 * k ≤ it len pd k → AtR len pd N (it len pd k) → (∀ j, pr len pd f k = .inl j → ∃ N', fX12_goThrough_L15 F N 0 a2 0 1 = some (0, N') ∧ WrR len pd N' j ∧ KeepU N N') ∧ (∀ n, pr len pd f k = .inr n → ∃ N' i, fX12_goThrough_L15 F N 0 a2 0 1 = some (0, N') ∧ AtR len pd N' i ∧ KeepU N N') := by
  intro f
  induction f with
  | zero =>
    intro k F N hk hF h2 hA
    have := hA.1.1
    have := hA.2.2.2
    omega
  | succ f ih =>
    intro k F N hk hF h2 hA
    obtain ⟨F, rfl⟩ : ∃ F', F = F' + 1 + 1 := ⟨F - 2, by omega⟩
    have h60 := hA.1.1
    obtain ⟨r1, r2⟩ := ordR_ok hA
    rcases ho : ordr len pd (it len pd k) with ⟨j, _ | o⟩
    · obtain ⟨N1, a1, a3, a4⟩ := r1 j ho
      have ep : pr len pd (f + 1) k = .inl j := by rw [pr, ho]
      refine ⟨fun j' hs => ?_, fun n hs => (by cases ep.symm.trans hs)⟩
      have ej : j = j' := Sum.inl.inj (ep.symm.trans hs)
      subst ej
      refine ⟨N1, ?_, a3, a4⟩
      rw [fX12_goThrough_L15, if_neg (by decide), a1, ob_some, if_pos rfl, ob2_some, if_pos rfl, ob_some, lt1_eq, n_gI, ob_some, a3.2.2.1, if_neg (by decide), ob_some, if_pos rfl, thr_stop]
      rfl
    · obtain ⟨N1, a1, a3, a4, a5⟩ := r2 j o ho
      have bd := ordr_bd ho
      have ei := it_eq ho
      have ep : pr len pd (f + 1) k = if j < len then (if sg len pd j = 59 then pr len pd f (k + 1) else .inl j) else .inr (k + 1) := by rw [pr, ho]
      have e1 : fX12_goThrough_L15 (F + 1 + 1) N 0 a2 0 1 = (if nI len ≤ nI j then some (0 : Int32) else some 1).bind fun v19 => if v19 = 0 then fX12_goThrough_L15 (F + 1) N1 0 a2 0 v19 else ob2 (fX12_sign N1 59 59) fun _v M25 => (gI 12 11 M25 0).bind fun v26 => if v26 = 0 then fX12_goThrough_L15 (F + 1) M25 0 a2 0 1 else fX12_goThrough_L15 (F + 1) M25 0 a2 0 0 := by
        rw [fX12_goThrough_L15, if_neg (by decide), a1, ob_some, if_pos rfl, ob2_some, if_pos rfl, ob_some, lt1_eq, n_gI, ob_some, a3.2.2.1, if_pos rfl, if_pos rfl, if_pos rfl, n_gI, ob_some, n_gI, ob_some, a3.2.1, a3.1.2.1]
        rfl
      by_cases hj : j < len
      · rw [if_pos hj] at ep
        rw [if_neg (fun q => by have := (nI_leE (by omega) (by omega)).mp q; omega), ob_some, if_neg (by decide)] at e1
        obtain ⟨s1, s2⟩ := signR_ok (lo := 59) (hi := 59) a3 (by omega) (by omega) (by omega)
        by_cases h59 : sg len pd j = 59
        · rw [if_pos h59] at ep
          obtain ⟨t, _⟩ := s1 (by omega)
          have hA2 := sgM_at (i := j + 1) a3.1 (by omega)
          have e2 : fX12_goThrough_L15 (F + 1 + 1) N 0 a2 0 1 = fX12_goThrough_L15 (F + 1) (sgM N1 0 (j + 1)) 0 a2 0 1 := by
            rw [e1]
            refine ob2_in t ?_
            rw [n_gI, ob_some, hA2.2.2.1, if_pos rfl]
          obtain ⟨q1, q2⟩ := ih (k + 1) (F + 1) (sgM N1 0 (j + 1)) (by omega) (by omega) (by omega) (by rw [ei]; exact hA2)
          have hk2 : KeepU N (sgM N1 0 (j + 1)) := a4.tr sgM_keep.l.w
          refine ⟨fun j' hs => ?_, fun n hs => ?_⟩
          · obtain ⟨N', k1, k2, k3⟩ := q1 j' (ep.symm.trans hs)
            exact ⟨N', by rw [e2]; exact k1, k2, hk2.tr k3⟩
          · obtain ⟨N', i', k1, k2, k3⟩ := q2 n (ep.symm.trans hs)
            exact ⟨N', i', by rw [e2]; exact k1, k2, hk2.tr k3⟩
        · rw [if_neg h59] at ep
          refine ⟨fun j' hs => ?_, fun n hs => (by cases ep.symm.trans hs)⟩
          have ej : j = j' := Sum.inl.inj (ep.symm.trans hs)
          subst ej
          have hw := sgM_wr (i := j) a3.1 a3.2.2.2
          refine ⟨_, ?_, hw, a4.tr sgM_keep.l.w⟩
          rw [e1]
          refine ob2_in (s2 (by omega)) ?_
          rw [n_gI, ob_some, hw.2.2.1, if_neg (by decide), thr_stop]
      · rw [if_neg hj] at ep
        rw [if_pos ((nI_leE (by omega) (by omega)).mpr (by omega)), ob_some, if_pos rfl, thr_stop] at e1
        exact ⟨fun j' hs => (by cases ep.symm.trans hs), fun n hs => ⟨N1, j, e1, a3, a4⟩⟩
theorem thr0 {len : Nat} {pd : Nat → Nat} {N : Mem} (h : PadR len pd N) : AtR len pd (up2 (up2 N 0 10 0) 0 11 0) 0 ∧ KeepU N (up2 (up2 N 0 10 0) 0 11 0) :=
  ⟨⟨⟨h.1, by rw [n0_ne (by omega), n0_ne (by omega)]; exact h.2.1, fun j hj => by rw [up2_ne (by omega), up2_ne (by omega)]; exact h.2.2 j hj⟩, by rw [n0_ne (by omega), n0_eq]; rfl, n0_eq, Nat.zero_le _⟩, (KeepU.up (by omega)).tr (KeepU.up (by omega))⟩
theorem scanR_ok {len : Nat} {pd : Nat → Nat} {N : Mem} {a2 : Int32} (h : PadR len pd N) : (∀ j, pr len pd 60 0 = .inl j → ∃ N', fX12_goThrough N 0 a2 = some (0, N') ∧ WrR len pd N' j ∧ KeepU N N') ∧ (∀ n, pr len pd 60 0 = .inr n → ∃ N' i, fX12_goThrough N 0 a2 = some (0, N') ∧ AtR len pd N' i ∧ KeepU N N') := by
  obtain ⟨hA, hk⟩ := thr0 h
  obtain ⟨q1, q2⟩ := scanR_L (a2 := a2) 60 0 5000 _ (by omega) (by omega) (Nat.zero_le _) hA
  have e : ∀ N', fX12_goThrough_L15 5000 (up2 (up2 N 0 10 0) 0 11 0) 0 a2 0 1 = some (0, N') → fX12_goThrough N 0 a2 = some (0, N') := fun N' hx => by
    unfold fX12_goThrough
    rw [n_pI, ob_some, pZ_ok (Or.inl rfl), ob_some, hx, ob2_some]
  refine ⟨fun j hs => ?_, fun n hs => ?_⟩
  · obtain ⟨N', a1, a2, a3⟩ := q1 j hs
    exact ⟨N', e N' a1, a2, hk.tr a3⟩
  · obtain ⟨N', i, a1, a2, a3⟩ := q2 n hs
    exact ⟨N', i, e N' a1, a2, hk.tr a3⟩
theorem Live_scr {M N M' N' : Mem} {T : SA} {A : PA} (h : Live M N T A) (hq : KeepQ M M') (hw : KeepU N N') : Live M' N' T A :=
  ⟨CS_congr h.1 (fun o ho => hq _ (by unfold st; omega)) (fun p o _ _ => hq _ (by unfold pq; omega)), by rw [hw.1 1 (by omega) (by omega)]; exact h.2.1, h.2.2⟩
theorem Rst_scr {M N M' N' : Mem} {n : Nat} (h : Rst M N n) (hq : KeepQ M M') (hw : KeepU N N') : Rst M' N' n :=
  Rst_keep h (fun x hx => hq x (by unfold KM at hx; omega)) ⟨hw.2 3 (by omega), hw.2 7 (by omega), hw.1 3 (by omega) (by omega), hw.1 4 (by omega) (by omega), hw.1 5 (by omega) (by omega), hw.1 6 (by omega) (by omega)⟩
theorem Rel_scr {M N M' N' : Mem} (h : Rel M N) (hq : KeepQ M M') (hw : KeepU N N') : Rel M' N' := by
  obtain ⟨⟨T, A, hL⟩, n, hR⟩ := h
  exact ⟨⟨T, A, Live_scr hL hq hw⟩, n, Rst_scr hR hq hw⟩
theorem op_fault {M N : Mem} (h : Rel M N) : OK (fX11_fault M) (fX12_fault N) := by
  obtain ⟨⟨T, A, hL⟩, n, ⟨H1, H2, len, pd, H3⟩⟩ := id h
  have hPC : PadC len pd M := ⟨H3.1, H3.2.1, fun j hj => ⟨(H3.2.2.2 j hj).1, (H3.2.2.2 j hj).2.1, (H3.2.2.2 j hj).2.2.1⟩⟩
  have hPR : PadR len pd N := ⟨H3.1, H3.2.2.1, fun j hj => ⟨(H3.2.2.2 j hj).1, (H3.2.2.2 j hj).2.1, (H3.2.2.2 j hj).2.2.2⟩⟩
  obtain ⟨c1, c2⟩ := readC_ok hPC
  obtain ⟨s1, s2⟩ := scanR_ok (a2 := 0) hPR
  rcases hp : pr len pd 60 0 with j | k
  · obtain ⟨M', a1, a2, a3⟩ := c1 j hp
    obtain ⟨N', b1, b2, b3⟩ := s1 j hp
    refine OK_er (r := nI j) (Rel_scr h a3 b3) ?_ ?_
    · unfold fX11_fault
      rw [a1, ob2_some, if_pos rfl, gI_ok (show shp 14 = 4 from rfl), ob_some, a2.2.1]
    · unfold fX12_fault
      rw [b1, ob2_some, n_gI, ob_some, b2.2.2.1, if_neg (by decide), n_gI, ob_some, b2.2.1]
  · obtain ⟨M', a1, a2, a3, a4, a5⟩ := c2 k hp
    obtain ⟨N', i, b1, b2, b3⟩ := s2 k hp
    refine OK_er (r := -6) (Rel_scr h a4 b3) ?_ ?_
    · unfold fX11_fault
      rw [a1, ob2_some, if_neg (by decide)]
    · unfold fX12_fault
      rw [b1, ob2_some, n_gI, ob_some, b2.2.2.1, if_pos rfl]
