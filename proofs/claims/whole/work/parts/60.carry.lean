/-! all orders carried out; carryOut -/
def exs (len : Nat) (pd : Nat → Nat) : Nat → Nat → SA → SA × Nat
  | 0, k, B => (B, k)
  | d + 1, k, B => if (exo (oo len pd k) B).2 = true then exs len pd d (k + 1) (exo (oo len pd k) B).1 else ((exo (oo len pd k) B).1, k)
theorem call_L {len : Nat} {pd : Nat → Nat} {n q told : Nat} (hq : q < 28) (hn : n ≤ 60) (hG : Gd len pd n) (hl : len ≤ 60) : ∀ (d k F : Nat) (M : Mem) (B : SA), k + d = n → d < F → NtC len pd M n → CRel M q B → WA told B → ∃ M', ((fX4_carryAllOut_L2 F M (pq q 0) (nI k) = some (.inl M') ∧ (exs len pd d k B).2 = n) ∨ fX4_carryAllOut_L2 F M (pq q 0) (nI k) = some (.inr (nI (exs len pd d k B).2, M'))) ∧ NtC len pd M' n ∧ CRel M' q (exs len pd d k B).1 ∧ FrC M M' q ∧ WA told (exs len pd d k B).1 := by
  intro d
  induction d with
  | zero =>
    intro k F M B hd hF hN hC hW
    obtain ⟨F, rfl⟩ : ∃ F', F = F' + 1 := ⟨F - 1, by omega⟩
    refine ⟨M, Or.inl ⟨?_, by show k = n; omega⟩, hN, hC, FrC.rf, hW⟩
    rw [fX4_carryAllOut_L2, gI_ok (show shp 14 = 4 from rfl), ob_some, hN.1, if_pos ((nI_leE (by omega) (by omega)).mpr (by omega))]
  | succ d ih =>
    intro k F M B hd hF hN hC hW
    obtain ⟨F, rfl⟩ : ∃ F', F = F' + 1 := ⟨F - 1, by omega⟩
    obtain ⟨g1, g2, g3, g4, g5⟩ := gd_bd hG k (by omega)
    obtain ⟨M1, a1, a2, a3, a4⟩ := one_ok hq (show k < n by omega) hn (by omega) g5 hN hC hW
    have e0 : fX4_carryAllOut_L2 (F + 1) M (pq q 0) (nI k) = if bI (exo (oo len pd k) B).2 = 0 then some (.inr (nI k, M1)) else fX4_carryAllOut_L2 F M1 (pq q 0) (nI (k + 1)) := by
      rw [fX4_carryAllOut_L2, gI_ok (show shp 14 = 4 from rfl), ob_some, hN.1, if_neg (fun z => by have := (nI_leE (by omega) (by omega)).mp z; omega), li60, if_neg (fun z => by have := (nI_leE (by omega) (by omega)).mp z; omega), a1, ob2_some, li1, nI_addE]
    rw [exs]
    cases hb : (exo (oo len pd k) B).2 with
    | true =>
      rw [if_pos rfl]
      rw [hb, if_neg (by decide)] at e0
      obtain ⟨M2, c1, c2, c3, c4, c5⟩ := ih (k + 1) F M1 _ (by omega) (by omega) (NtC_fr hN a3) a2 a4
      exact ⟨M2, by rw [e0]; exact c1, c2, c3, a3.tr c4, c5⟩
    | false =>
      rw [if_neg (by decide)]
      rw [hb, if_pos (by decide)] at e0
      exact ⟨M1, Or.inr e0, NtC_fr hN a3, a2, a3, a4⟩
def FrX (N N' : Mem) (p : Nat) : Prop := (∀ x, x ≠ 0 → x ≠ 1 → x ≠ 9 → N' x = N x) ∧ (∀ k, k < 10 → N' 0 k = N 0 k) ∧ ∀ k, ¬ (PB p ≤ k ∧ k < PB p + 223) → N' 1 k = N 1 k
theorem FrX.tr {N1 N2 N3 : Mem} {p : Nat} (h1 : FrX N1 N2 p) (h2 : FrX N2 N3 p) : FrX N1 N3 p := ⟨fun x a b c => (h2.1 x a b c).trans (h1.1 x a b c), fun k a => (h2.2.1 k a).trans (h1.2.1 k a), fun k a => (h2.2.2 k a).trans (h1.2.2 k a)⟩
theorem KeepU.x {N N' : Mem} {p : Nat} (h : KeepU N N') : FrX N N' p := ⟨fun x a _ c => h.1 x a c, h.2, fun k _ => by rw [h.1 1 (by omega) (by omega)]⟩
theorem FrN.x {N N' : Mem} {p : Nat} (h : FrN N N' p) : FrX N N' p := ⟨fun x _ b _ => h.1 x b, fun k _ => by rw [h.1 0 (by omega)], h.2⟩
theorem WA_wss {g : Nat → Nat × Nat} {v told : Nat} (hv : v ≤ 100) : ∀ (d x : Nat) (B : SA), WA told B → WA told (wss g v d x B).1 := by
  intro d
  induction d with
  | zero =>
    intro x B hW
    exact hW
  | succ d ih =>
    intro x B hW
    rw [wss]
    have h1 := WA_wsp (told := told) hv (far (g x).1 (g x).2 + 1) 0 B (g x).1 (g x).2 hW
    split
    · exact ih (x + 1) _ h1
    · exact h1
theorem WA_exo {o : Ord5} {told : Nat} {B : SA} (hO : OB o) (hW : WA told B) : WA told (exo o B).1 := by
  obtain ⟨o1, o2, o3, o4⟩ := hO
  unfold exo
  by_cases h0 : o.1 = 0
  · rw [if_pos h0]
    exact WA_wss (o2 h0).1 _ _ _ hW
  · rw [if_neg h0]
    by_cases h1 : o.1 = 1
    · rw [if_pos h1]
      have := o3 h1
      exact WA_rec hW (by omega) this.2.2
    · rw [if_neg h1]
      by_cases h2 : o.1 = 2
      · rw [if_pos h2]
        have b1 := o4 h2
        have h50 := (hW.2.2.2.2.2.2.1 o.2.1 (by omega)).1
        by_cases h6 : B 6 o.2.1 = 0
        · rw [if_pos h6]
          exact hW
        · rw [if_neg h6]
          exact WA_sta hW (by omega) h50 (by omega)
      · rw [if_neg h2]
        exact WA_clr hW
theorem thr_L {len : Nat} {pd : Nat → Nat} {n p told : Nat} (hp : p < 3) (hn : n ≤ 60) (hG : Gd len pd n) (hl : len ≤ 60) : ∀ (d k F : Nat) (N : Mem) (B : SA), k + d = n → 1 ≤ d → d < F → AtR len pd N (it len pd k) → RP (N 1) p B → WA told B → ∃ N', fX12_goThrough_L15 (F + 1) N 1 (nI p) (nI k) 1 = some (nI (exs len pd d k B).2, N') ∧ RP (N' 1) p (exs len pd d k B).1 ∧ FrX N N' p := by
  intro d
  induction d with
  | zero =>
    intro k F N B hd h1 hF hA hP hW
    omega
  | succ d ih =>
    intro k F N B hd h1 hF hA hP hW
    obtain ⟨F, rfl⟩ : ∃ F', F = F' + 1 := ⟨F - 1, by omega⟩
    obtain ⟨g1, g2, g3, g4, g5⟩ := gd_bd hG k (by omega)
    obtain ⟨j, d1, d2, d3⟩ := hG.2 k (by omega)
    have hb := ordr_bd d1
    have ei := it_eq d1
    have e8 : cs len pd (k + 1) = cs len pd k + (oo len pd k).2.2.2.1 := rfl
    obtain ⟨N1, a1, a2, a3, a4⟩ := (ordR_ok hA).2 j (oo len pd k) d1
    obtain ⟨N2, b1, b2, b3⟩ := does_ok (told := told) hp g5 (by omega) a4 (by rw [a3.1 1 (by omega) (by omega)]; exact hP) hW
    have hA2 : AtR len pd N2 j := AtR_k a2 (b3.1 6 (by omega)) (by rw [b3.1 0 (by omega)]) (by rw [b3.1 0 (by omega)]) (by rw [b3.1 0 (by omega)])
    have hk2 : FrX N N2 p := (KeepU.x a3).tr b3.x
    rw [exs]
    cases hbb : (exo (oo len pd k) B).2 with
    | false =>
      rw [if_neg (by decide)]
      refine ⟨N2, ?_, b2, hk2⟩
      rw [fX12_goThrough_L15, if_neg (by decide), a1, ob_some, if_neg (by decide), b1, ob2_some, hbb, if_pos (by decide), ob2_some, if_pos rfl, ob_some, lt1_eq, n_gI, ob_some, hA2.2.2.1, if_pos rfl, if_pos rfl, if_neg (by decide), ob_some, if_pos rfl, thr_stop, Int32.add_zero]
    | true =>
      rw [if_pos rfl]
      have e1 : fX12_goThrough_L15 (F + 1 + 1) N 1 (nI p) (nI k) 1 = (if nI len ≤ nI j then some (0 : Int32) else some 1).bind fun v19 => if v19 = 0 then fX12_goThrough_L15 (F + 1) N2 1 (nI p) (nI (k + 1)) v19 else ob2 (fX12_sign N2 59 59) fun _v M25 => (gI 12 11 M25 0).bind fun v26 => if v26 = 0 then fX12_goThrough_L15 (F + 1) M25 1 (nI p) (nI (k + 1)) 1 else fX12_goThrough_L15 (F + 1) M25 1 (nI p) (nI (k + 1)) 0 := by
        rw [fX12_goThrough_L15, if_neg (by decide), a1, ob_some, if_neg (by decide), b1, ob2_some, hbb, if_neg (by decide), ob2_some, if_neg (by decide), ob_some, lt1_eq, n_gI, ob_some, hA2.2.2.1, if_pos rfl, if_neg (by decide), n_gI, ob_some, n_gI, ob_some, hA2.2.1, hA2.1.2.1, show nI k + 1 = nI (k + 1) by rw [li1, nI_addE]]
      by_cases hkn : k + 1 = n
      · have hj := d3 hkn
        have hd0 : d = 0 := by omega
        subst hd0
        refine ⟨N2, ?_, b2, hk2⟩
        rw [e1, if_pos ((nI_leE (by omega) (by omega)).mpr (by omega)), ob_some, if_pos rfl, thr_stop]
        rfl
      · obtain ⟨hj, h59⟩ := d2 (by omega)
        obtain ⟨t, _⟩ := (signR_ok (lo := 59) (hi := 59) hA2 (by omega) (by omega) (by omega)).1 (by omega)
        have hA3 := sgM_at (i := j + 1) hA2.1 (by omega)
        have hk3 : FrX N (sgM N2 0 (j + 1)) p := hk2.tr (KeepU.x sgM_keep.l.w)
        obtain ⟨N3, c1, c2, c3⟩ := ih (k + 1) F (sgM N2 0 (j + 1)) (exo (oo len pd k) B).1 (by omega) (by omega) (by omega) (by rw [ei]; exact hA3) (by rw [sgM_keep.1 1 (by omega)]; exact b2) (WA_exo g5 hW)
        refine ⟨N3, ?_, c2, hk3.tr c3⟩
        rw [e1, if_neg (fun z => by have := (nI_leE (by omega) (by omega)).mp z; omega), ob_some, if_neg (by decide)]
        refine ob2_in t ?_
        rw [n_gI, ob_some, hA3.2.2.1, if_pos rfl]
        exact c1
/-- what a push leaves as it was -/
theorem push_fr {M N M1 : Mem} {n : Nat} (hR : Rst M N n) (hp : fX2_push M 34 = some M1) : ∀ x, x < 34 → x ≠ 12 → x ≠ 13 → M1 x = M x := by
  obtain ⟨⟨h, hs, h1, h2, h3, h4, h5, h6⟩, _, _⟩ := hR
  have hh : ∀ j, j < 6 → h j < 9 := fun j hj => by have := (h4 j hj).2.1; omega
  obtain ⟨Ma, n', e0, e1, e3, e4, e5⟩ : ∃ (Ma : Mem) (n' : Nat), n' < 6 ∧ (gI 2 1 M 12).bind (fun v1 => (if v1 < 6 then some M else (fX2_dropOldest M).bind fun M18 => some M18)) = some Ma ∧ Ma 12 1 = nI n' ∧ (∃ b, b < 9 ∧ 1 ≤ b ∧ Ma 13 n' = nI (st b 0)) ∧ ∀ x, x ≠ 12 → x ≠ 13 → Ma x = M x := by
    by_cases h66 : n = 6
    · subst h66
      refine ⟨up2 (up2 (setR M 13 0 5 (fun j => nI (st (h (j + 1)) 0))) 13 5 (nI (st (h 0) 0))) 12 1 (nI 5), 5, by omega, ?_, ?_, ⟨h 0, hh 0 (by omega), (h4 0 (by omega)).1, ?_⟩, fun x hx hx' => ?_⟩
      · refine ob_in (gI_ok rfl) ?_
        rw [h2, li6, if_neg (nI_nlt (by omega) (by omega))]
        exact ob_in (drop_ok hh (fun j hj => (h4 j hj).2.2)) rfl
      · rw [up2_same, if_pos rfl]
      · rw [up2_ne (by omega), up2_same, if_pos rfl]
      · rw [up2_ne hx, up2_ne hx', setR_other hx']
    · refine ⟨M, n, by omega, ?_, h2, ⟨h n, hh n (by omega), (h4 n (by omega)).1, (h4 n (by omega)).2.2⟩, fun _ _ _ => rfl⟩
      refine ob_in (gI_ok rfl) ?_
      rw [h2, li6, if_pos (nI_lt (by omega) (by omega))]
  obtain ⟨b, b9, b1, eb⟩ := e4
  have hx0 : ∀ x, x < 34 → cpS Ma b 0 x = Ma x := fun x hx => cpS_ne (fun o ho => by unfold st; omega) (fun p o _ _ => by unfold pq; omega)
  have hpush : fX2_push M 34 = some (up2 (cpS Ma b 0) 12 1 (nI (n' + 1))) := by
    unfold fX2_push
    obtain ⟨v1, a1, a2⟩ := ob_out e1
    refine ob_in a1 (ob_in a2 ?_)
    refine ob_in (gI_ok rfl) ?_
    rw [e3]
    refine ob_in (aD_ok (n := 6) (x := st b 0) rfl rfl (by omega) (by omega) eb (st_small (by omega) (by omega))) ?_
    refine ob_in (stateCopy_ok (b := b) (b' := 0) (by omega) (by omega) (by omega)) ?_
    refine ob_in (gI_ok rfl) ?_
    refine ob_in (pI_ok rfl) ?_
    rw [hx0 12 (by omega), e3, li1, nI_addE]
  have e : M1 = up2 (cpS Ma b 0) 12 1 (nI (n' + 1)) := Option.some.inj (hp.symm.trans hpush)
  intro x hx h12 h13
  rw [e, up2_ne h12, hx0 x hx, e5 x h12 h13]
theorem knN_0 {N : Mem} {n k : Nat} (h : k ≠ 3) : knN N n 0 k = N 0 k := by
  unfold knN
  split
  · rw [up2_same, if_neg h, setR_other (by omega), up2_same, if_neg h, setR_other (by omega)]
  · rw [up2_same, if_neg h, setR_other (by omega)]
theorem knN_6 {N : Mem} {n : Nat} : knN N n 6 = N 6 := by
  unfold knN
  split
  · rw [up2_ne (by omega), setR_other (by omega), up2_ne (by omega), setR_other (by omega)]
  · rw [up2_ne (by omega), setR_other (by omega)]
theorem Rst_0 {M N : Mem} {n : Nat} (hR : Rst M N n) : Rst (up2 M 15 1 0) (up2 N 0 7 0) n := by
  obtain ⟨⟨hh, hs, h1, h2, h3, h4, h5, h6⟩, ⟨m, sl, H2⟩, len, pd, H3⟩ := id hR
  have u1 : ∀ x, x ≠ 15 → up2 M 15 1 0 x = M x := fun x hx => up2_ne hx
  have u0 : ∀ x, x ≠ 0 → up2 N 0 7 0 x = N x := fun x hx => up2_ne hx
  have cs : ∀ {b : Nat} {T : SA} {A : PA}, CS M b T A → CS (up2 M 15 1 0) b T A := fun hcs => CS_congr hcs (fun o ho => u1 _ (by unfold st; omega)) (fun p o _ _ => u1 _ (by unfold pq; omega))
  exact ⟨⟨hh, hs, h1, by rw [u1 12 (by omega)]; exact h2, by rw [up2_same, if_neg (by omega)]; exact h3, fun i hi => ⟨(h4 i hi).1, (h4 i hi).2.1, by rw [u1 13 (by omega)]; exact (h4 i hi).2.2⟩, h5, fun i hi => ⟨cs (h6 i hi).1, by rw [u0 3 (by omega)]; exact (h6 i hi).2.1, (h6 i hi).2.2⟩⟩, ⟨m, sl, H2.1, by rw [u1 10 (by omega)]; exact H2.2.1, fun i hi => ⟨by rw [u1 11 (by omega)]; exact (H2.2.2 i hi).1, by rw [u0 5 (by omega)]; exact (H2.2.2 i hi).2.1, fun hm => ⟨cs ((H2.2.2 i hi).2.2 hm).1, by rw [u0 4 (by omega)]; exact ((H2.2.2 i hi).2.2 hm).2.1, ((H2.2.2 i hi).2.2 hm).2.2⟩⟩⟩, 0, pd, by omega, by rw [up2_same, if_pos rfl]; rfl, by rw [up2_same, if_pos rfl]; rfl, fun i hi => by omega⟩
theorem op_carryOut {M N : Mem} (h : Rel M N) (a1 : Int32) : OK (fX11_carryOut M a1) (fX12_carryOut N a1) := by
  obtain ⟨⟨T, A, hL⟩, n0, hR⟩ := id h
  obtain ⟨H1, H2, len, pd, H3⟩ := id hR
  rcases ic a1 2 2 rfl (by omega) with ⟨p, hp, rfl, hpy⟩ | h1
  · have hPC : PadC len pd M := ⟨H3.1, H3.2.1, fun j hj => ⟨(H3.2.2.2 j hj).1, (H3.2.2.2 j hj).2.1, (H3.2.2.2 j hj).2.2.1⟩⟩
    have hPR : PadR len pd N := ⟨H3.1, H3.2.2.1, fun j hj => ⟨(H3.2.2.2 j hj).1, (H3.2.2.2 j hj).2.1, (H3.2.2.2 j hj).2.2.2⟩⟩
    obtain ⟨c1, c2⟩ := readC_ok hPC
    obtain ⟨s1, s2⟩ := scanR_ok (a2 := 0) hPR
    rcases hp : pr len pd 60 0 with j | k
    · obtain ⟨M', a1, a2, a3⟩ := c1 j hp
      obtain ⟨N', b1, b2, b3⟩ := s1 j hp
      refine OK_er (r := -3) (Rel_scr h a3 b3) ?_ ?_
      · unfold fX11_carryOut
        rw [find_ok (by omega), ob_some, caseO_some, a1, ob2_some, if_pos rfl]
      · unfold fX12_carryOut
        rw [isPrem_ok, ob_some, b01, if_pos hpy, b1, ob2_some, n_gI, ob_some, b2.2.2.1, if_neg (by decide)]
    · obtain ⟨M', a1, a2, a3, a4, a5⟩ := c2 k hp
      obtain ⟨N', i, b1, b2, b3⟩ := s2 k hp
      have hG : Gd len pd k := by
        have g := pr_gd _ _ _ hp
        exact ⟨by omega, fun q hq => g.2 q (Nat.zero_le _) hq⟩
      have hLs := Live_scr hL a4 b3
      have hRs := Rst_scr hR a4 b3
      obtain ⟨M1, e1, e2, hL1, hR1⟩ := push_know hLs hRs
      have ef := push_fr hRs e1
      have hW := wa_live hL1 (p := p) (by omega)
      have hC1 := cr_live hL1 (p := p) (by omega)
      have hP1 := rp_live hL1 (p := p) (by omega)
      have hN1 : NtC len pd (up2 M1 15 1 0) k := by
        obtain ⟨n1, n2, n3⟩ := a2
        have e : ∀ x, x < 34 → x ≠ 12 → x ≠ 13 → x ≠ 15 → up2 M1 15 1 0 x = M' x := fun x h1 h2 h3 h4 => by rw [up2_ne h4, ef x h1 h2 h3]
        refine ⟨by rw [e 14 (by omega) (by omega) (by omega) (by omega)]; exact n1, by rw [e 14 (by omega) (by omega) (by omega) (by omega)]; exact n2, fun q hq => ?_⟩
        rw [e 17 (by omega) (by omega) (by omega) (by omega), e 18 (by omega) (by omega) (by omega) (by omega), e 19 (by omega) (by omega) (by omega) (by omega), e 20 (by omega) (by omega) (by omega) (by omega), e 21 (by omega) (by omega) (by omega) (by omega), e 22 (by omega) (by omega) (by omega) (by omega)]
        exact n3 q hq
      have hC2 : CRel (up2 M1 15 1 0) p (A p) := CRel_upNe hC1 (fun o _ => by unfold pq; omega)
      have hl60 := hPC.1
      obtain ⟨M2, f1, f2, f3, f4, f5⟩ := call_L (told := T 2 0) (show p < 28 by omega) a5 hG hl60 k 0 5000 (up2 M1 15 1 0) (A p) (by omega) (by omega) hN1 hC2 hW
      have hPR2 : PadR len pd (knN N' (n0)) := ⟨b2.1.1, by rw [knN_0 (by omega)]; exact b2.1.2.1, fun j hj => by rw [knN_6]; exact b2.1.2.2 j hj⟩
      obtain ⟨hA2, hk2⟩ := thr0 hPR2
      have hP2 : RP (up2 (up2 (knN N' n0) 0 10 0) 0 11 0 1) p (A p) := by rw [hk2.1 1 (by omega) (by omega)]; exact hP1
      obtain ⟨N2, k1, k2, k3⟩ := thr_L (told := T 2 0) (show p < 3 by omega) a5 hG hl60 k 0 4999 _ (A p) (by omega) hG.1 (by omega) hA2 hP2 hW
      have hL0 : Live (up2 M1 15 1 0) (up2 (knN N' n0) 0 7 0) T A := ⟨CS_congr hL1.1 (fun o ho => up2_ne (by unfold st; omega)) (fun p o _ _ => up2_ne (by unfold pq; omega)), by rw [up2_ne (by omega)]; exact hL1.2.1, hL1.2.2⟩
      have hR0 := Rst_0 hR1
      have hk3 : FrX (knN N' n0) N2 p := hk2.x.tr k3
      have er : ∀ z, (caseS z (fun M1 => (gI 4 3 M1 14).bind fun v7 => some (v7, M1)) (fun zr => caseP zr fun v5 M6 => some (v5, M6)) : Option (Int32 × Mem)) = some (nI (exs len pd k 0 (A p)).2, M2) → fX4_carryAllOut_L2 5000 (up2 M1 15 1 0) (pq p 0) (nI 0) = some z → fX4_carryAllOut (up2 M1 15 1 0) (pq p 0) = some (nI (exs len pd k 0 (A p)).2, M2) := fun z h1 h2 => by
        unfold fX4_carryAllOut
        refine ob_in h2 ?_
        exact h1
      have e5 : fX4_carryAllOut (up2 M1 15 1 0) (pq p 0) = some (nI (exs len pd k 0 (A p)).2, M2) := by
        rcases f1 with ⟨q1, q2⟩ | q1
        · refine er _ ?_ q1
          show (gI 4 3 M2 14).bind (fun v7 => some (v7, M2)) = _
          rw [gI_ok (show shp 14 = 4 from rfl), ob_some, f2.1, q2]
        · exact er _ rfl q1
      refine OK_in (r := nI (exs len pd k 0 (A p)).2) (M := M2) (N := up2 N2 0 7 0) ?_ ?_ (fin_p hL0 hR0 (p := p) (by omega) (fun x hx _ => f4 x hx) f3 (fun q hq => by rw [up2_ne (by omega), up2_ne (by omega)]; exact hk3.2.2 q hq) ⟨by rw [n0_ne (by omega), n0_ne (by omega)]; exact hk3.2.1 3 (by omega), by rw [n0_eq, n0_eq], by rw [up2_ne (by omega), up2_ne (by omega)]; exact hk3.1 3 (by omega) (by omega) (by omega), by rw [up2_ne (by omega), up2_ne (by omega)]; exact hk3.1 4 (by omega) (by omega) (by omega), by rw [up2_ne (by omega), up2_ne (by omega)]; exact hk3.1 5 (by omega) (by omega) (by omega), by rw [up2_ne (by omega), up2_ne (by omega)]; exact hk3.1 6 (by omega) (by omega) (by omega)⟩ (by rw [up2_ne (by omega)]; exact k2) f5)
      · unfold fX11_carryOut
        rw [find_ok (by omega), ob_some, caseO_some, a1, ob2_some, if_neg (by decide), e1, ob_some]
        refine ob_in (pI_ok rfl) ?_
        rw [e5, ob2_some]
      · unfold fX12_carryOut
        rw [isPrem_ok, ob_some, b01, if_pos hpy, b1, ob2_some, n_gI, ob_some, b2.2.2.1, if_pos rfl, e2, ob_some]
        refine ob2_in (a := nI (exs len pd k 0 (A p)).2) (b := N2) ?_ ?_
        · unfold fX12_goThrough
          rw [n_pI, ob_some, pZ_ok (Or.inl rfl), ob_some]
          exact ob2_in k1 rfl
        · rw [n_pI, ob_some]
  · refine OK_er (r := -1) h ?_ ?_
    · unfold fX11_carryOut
      rw [find_bad h1, ob_some, caseO_none]
    · unfold fX12_carryOut
      rw [isPrem_ok, ob_some, b01, if_neg h1]
