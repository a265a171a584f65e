/-! an order carried out -/
theorem NtC_fr {len : Nat} {pd : Nat → Nat} {M M' : Mem} {n q : Nat} (h : NtC len pd M n) (hf : FrC M M' q) : NtC len pd M' n := by
  have e : ∀ x, x < 34 → M' x = M x := fun x hx => hf x (fun o _ => by unfold pq; omega)
  obtain ⟨a1, a2, a3⟩ := h
  refine ⟨by rw [e 14 (by omega)]; exact a1, by rw [e 14 (by omega)]; exact a2, fun k hk => ?_⟩
  rw [e 17 (by omega), e 18 (by omega), e 19 (by omega), e 20 (by omega), e 21 (by omega), e 22 (by omega)]
  exact a3 k hk
theorem cws_L {len : Nat} {pd : Nat → Nat} {n k v c q told : Nat} {g : Nat → Nat × Nat} (hq : q < 28) (hk : k < n) (hn : n ≤ 60) (hv : v ≤ 100) (ec : (oo len pd k).2.2.2.1 = c) (eg : (oo len pd k).2.2.2.2 = g) (ev : (oo len pd k).2.1 = v) (hcs : cs len pd (k + 1) ≤ 30) (hg : ∀ x, x < c → (g x).1 ≤ 11 ∧ (g x).2 ≤ 11) : ∀ (d x F : Nat) (M : Mem) (B : SA), x + d = c → d < F → NtC len pd M n → CRel M q B → WA told B → ∃ M', (((wss g v d x B).2 = true ∧ fX4_changeLevels_L20 F M (nI k) (pq q 0) (nI (cs len pd k + x)) = some (.inl M')) ∨ ((wss g v d x B).2 = false ∧ fX4_changeLevels_L20 F M (nI k) (pq q 0) (nI (cs len pd k + x)) = some (.inr (0, M')))) ∧ CRel M' q (wss g v d x B).1 ∧ FrC M M' q ∧ WA told (wss g v d x B).1 := by
  have e1 : cs len pd (k + 1) = cs len pd k + c := by
    show cs len pd k + (oo len pd k).2.2.2.1 = _
    rw [ec]
  intro d
  induction d with
  | zero =>
    intro x F M B hd hF hN hC hW
    obtain ⟨F, rfl⟩ : ∃ F', F = F' + 1 := ⟨F - 1, by omega⟩
    refine ⟨M, Or.inl ⟨rfl, ?_⟩, hC, FrC.rf, hW⟩
    rw [fX4_changeLevels_L20]
    refine ob_in (aL_ok (n := 60) rfl rfl (by omega) (by omega)) ?_
    rw [(hN.2.2 k hk).1.2.2.2, if_pos ((nI_leE (by omega) (by omega)).mpr (by omega))]
  | succ d ih =>
    intro x F M B hd hF hN hC hW
    obtain ⟨F, rfl⟩ : ∃ F', F = F' + 1 := ⟨F - 1, by omega⟩
    obtain ⟨g1, g2⟩ := hg x (by omega)
    have hx := (hN.2.2 k hk).2 x (by omega)
    rw [eg] at hx
    obtain ⟨M1, a1, a2, a3, a4⟩ := csp_ok (told := told) hq g1 g2 hv hC hW
    have e0 : fX4_changeLevels_L20 (F + 1) M (nI k) (pq q 0) (nI (cs len pd k + x)) = if bI (wsp (g x).1 (g x).2 v (far (g x).1 (g x).2 + 1) 0 B).2 = 0 then some (.inr (0, M1)) else fX4_changeLevels_L20 F M1 (nI k) (pq q 0) (nI (cs len pd k + (x + 1))) := by
      rw [fX4_changeLevels_L20]
      refine ob_in (aL_ok (n := 60) rfl rfl (by omega) (by omega)) ?_
      rw [(hN.2.2 k hk).1.2.2.2, if_neg (fun z => by have := (nI_leE (by omega) (by omega)).mp z; omega), li60, if_neg (fun z => by have := (nI_leE (by omega) (by omega)).mp z; omega)]
      refine ob_in (aL_ok (n := 60) rfl rfl (by omega) (by omega)) ?_
      refine ob_in (aL_ok (n := 60) rfl rfl (by omega) (by omega)) ?_
      refine ob_in (aL_ok (n := 60) rfl rfl (by omega) (by omega)) ?_
      rw [hx.1, hx.2, (hN.2.2 k hk).1.2.1, ev, a1, ob2_some, li1, nI_addE, Nat.add_assoc]
    rw [wss]
    cases hb : (wsp (g x).1 (g x).2 v (far (g x).1 (g x).2 + 1) 0 B).2 with
    | true =>
      rw [if_pos rfl]
      rw [hb, if_neg (by decide)] at e0
      obtain ⟨M2, c1, c2, c3, c4⟩ := ih (x + 1) F M1 _ (by omega) (by omega) (NtC_fr hN a3) a2 a4
      exact ⟨M2, by rw [e0]; exact c1, c2, a3.tr c3, c4⟩
    | false =>
      rw [if_neg (by decide)]
      rw [hb, if_pos (by decide)] at e0
      exact ⟨M1, Or.inr ⟨rfl, e0⟩, a2, a3, a4⟩
def exo (o : Ord5) (B : SA) : SA × Bool := if o.1 = 0 then wss o.2.2.2.2 o.2.1 o.2.2.2.1 0 B else if o.1 = 1 then (recA B o.2.1 o.2.2.1, true) else if o.1 = 2 then (if B 6 o.2.1 = 0 then (B, false) else (staA B o.2.1 (B 6 o.2.1), true)) else (clrA B, true)
theorem one_ok {len : Nat} {pd : Nat → Nat} {n k q told : Nat} {M : Mem} {B : SA} (hq : q < 28) (hk : k < n) (hn : n ≤ 60) (hcs : cs len pd (k + 1) ≤ 30) (hO : OB (oo len pd k)) (hN : NtC len pd M n) (hC : CRel M q B) (hW : WA told B) : ∃ M', fX4_carryOneOut M (nI k) (pq q 0) = some (bI (exo (oo len pd k) B).2, M') ∧ CRel M' q (exo (oo len pd k) B).1 ∧ FrC M M' q ∧ WA told (exo (oo len pd k) B).1 := by
  obtain ⟨⟨n1, n2, n3, n4⟩, n5⟩ := hN.2.2 k hk
  obtain ⟨o1, o2, o3, o4⟩ := hO
  have e0 : ∀ x, ((if nI (oo len pd k).1 = 0 then ob2 (fX4_changeLevels M (nI k) (pq q 0)) fun v5 M6 => (bz v5).bind fun b7 => some (b7, M6) else if nI (oo len pd k).1 = 1 then (fX6_recordCue M (pq q 0) (nI (oo len pd k).2.1) (nI (oo len pd k).2.2.1)).bind fun M15 => some ((1 : Int32), M15) else if nI (oo len pd k).1 = 2 then ob2 (fX4_startRecorded M (nI (oo len pd k).2.1) (pq q 0)) fun v20 M21 => (bz v20).bind fun b22 => some (b22, M21) else ob2 (fX6_clearTrips M (pq q 0)) fun v25 M26 => some ((1 : Int32), M26))) = x → fX4_carryOneOut M (nI k) (pq q 0) = x := fun x hx => by
    unfold fX4_carryOneOut
    refine ob_in (aL_ok (n := 60) rfl rfl (by omega) (by omega)) ?_
    rw [n1, ← hx]
    have a18 : aL 20 M 18 (nI k) = some (nI (oo len pd k).2.1) := (aL_ok (n := 60) rfl rfl (by omega) (by omega)).trans (congrArg some n2)
    have a19 : aL 20 M 19 (nI k) = some (nI (oo len pd k).2.2.1) := (aL_ok (n := 60) rfl rfl (by omega) (by omega)).trans (congrArg some n3)
    rw [a18, a19, ob_some, ob_some, ob_some]
  unfold exo
  rcases (show (oo len pd k).1 = 0 ∨ (oo len pd k).1 = 1 ∨ (oo len pd k).1 = 2 ∨ (oo len pd k).1 = 3 by omega) with h | h | h | h
  · rw [h] at e0
    rw [if_pos h]
    obtain ⟨b1, b2⟩ := o2 h
    obtain ⟨M', a1, a2, a3, a4⟩ := cws_L (told := told) hq hk hn b1 rfl rfl rfl hcs b2 (oo len pd k).2.2.2.1 0 5000 M B (by omega) (by have e : cs len pd (k + 1) = cs len pd k + (oo len pd k).2.2.2.1 := rfl; omega) hN hC hW
    refine ⟨M', e0 _ ?_, a2, a3, a4⟩
    rw [if_pos (show nI 0 = (0 : Int32) from rfl)]
    have eb : (if nI k ≤ 0 then some (0 : Int32) else (aL 20 M 20 (nI k - 1)).bind fun v13 => some v13) = some (nI (cs len pd k)) := by
      by_cases h0 : k = 0
      · rw [h0]
        exact if_pos (by decide)
      · rw [if_neg (fun z => by rw [li0] at z; have := (nI_leE (by omega) (by omega)).mp z; omega), li1, nI_subE (by omega)]
        refine ob_in (aL_ok (n := 60) rfl rfl (by omega) (by omega)) ?_
        rw [(hN.2.2 (k - 1) (by omega)).1.2.2.2, show k - 1 + 1 = k by omega]
    refine ob2_in (a := bI (wss (oo len pd k).2.2.2.2 (oo len pd k).2.1 (oo len pd k).2.2.2.1 0 B).2) (b := M') ?_ (ob_in bz_bI rfl)
    unfold fX4_changeLevels
    refine ob_in eb ?_
    rcases a1 with ⟨b1, b2⟩ | ⟨b1, b2⟩
    · rw [b1]
      exact ob_in b2 rfl
    · rw [b1]
      exact ob_in b2 rfl
  · rw [h] at e0
    rw [if_neg (by omega), if_pos h]
    obtain ⟨b1, b2, b3⟩ := o3 h
    obtain ⟨M', a1, a2, a3⟩ := recordCue_ok (t := (oo len pd k).2.2.1) hq hC (c := (oo len pd k).2.1) (by omega)
    refine ⟨M', e0 _ ?_, a2, a3, WA_rec hW (by omega) b3⟩
    rw [if_neg (by decide), if_pos (show nI 1 = (1 : Int32) from rfl), a1, ob_some]
    rfl
  · rw [h] at e0
    rw [if_neg (by omega), if_neg (by omega), if_pos h]
    have b1 := o4 h
    have h50 := (hW.2.2.2.2.2.2.1 (oo len pd k).2.1 (by omega)).1
    by_cases h0 : B 6 (oo len pd k).2.1 = 0
    · rw [if_pos h0]
      refine ⟨M, e0 _ ?_, hC, FrC.rf, hW⟩
      rw [if_neg (by decide), if_neg (by decide), if_pos (show nI 2 = (2 : Int32) from rfl)]
      refine ob2_in (a := 0) (b := M) ?_ rfl
      unfold fX4_startRecorded
      rw [isRec_ok hq hC (by omega) h50, ob_some, if_pos h0, if_pos rfl]
    · rw [if_neg h0]
      obtain ⟨M', a1, a2, a3⟩ := startCue_ok (t := B 6 (oo len pd k).2.1) hq hC (c := (oo len pd k).2.1) (by omega)
      refine ⟨M', e0 _ ?_, a2, a3, WA_sta hW (by omega) h50 (by omega)⟩
      rw [if_neg (by decide), if_neg (by decide), if_pos (show nI 2 = (2 : Int32) from rfl)]
      refine ob2_in (a := 1) (b := M') ?_ rfl
      unfold fX4_startRecorded
      rw [isRec_ok hq hC (by omega) h50, ob_some, if_neg h0, if_neg (by decide)]
      refine ob_in (gR_ok (x := pq q 6) (sp0 hq (by omega) rfl) (rf_pq0 (by omega))) ?_
      refine ob_in (aL_ok (n := 8) (sp0 hq (by omega) rfl) (lp0 hq (by omega) rfl) (by omega) (by omega)) ?_
      rw [cr6 hC (by omega), a1, ob_some]
  · rw [h] at e0
    rw [if_neg (by omega), if_neg (by omega), if_neg (by omega)]
    obtain ⟨M', a1, a2, a3⟩ := clearTrips_ok hq hC hW
    refine ⟨M', e0 _ ?_, a2, a3, WA_clr hW⟩
    rw [if_neg (by decide), if_neg (by decide), if_neg (by decide), a1, ob2_some]
    rfl
theorem does_ok {o : Ord5} {p told : Nat} {N : Mem} {B : SA} (hp : p < 3) (hO : OB o) (hc : o.2.2.2.1 ≤ 30) (hN : NoR N o) (hP : RP (N 1) p B) (hW : WA told B) : ∃ N', fX12_does N (nI p) = some (bI (exo o B).2, N') ∧ RP (N' 1) p (exo o B).1 ∧ FrN N N' p := by
  obtain ⟨o1, o2, o3, o4⟩ := hO
  obtain ⟨n1, n2, n3, n4⟩ := hN
  have e0 : ∀ x, ((if nI (ltr o.1) = 64 then ob2 (fX12_wants N (nI p)) fun v5 M6 => (bz v5).bind fun b7 => some (b7, M6) else if nI (ltr o.1) = 103 then (gI 12 15 N 0).bind fun v10 => (fX12_ofCue (nI p) v10).bind fun v13 => (aL 30 N 1 v13).bind fun v14 => if v14 ≤ 0 then some ((0 : Int32), N) else (gI 12 15 N 0).bind fun v17 => (gI 12 15 N 0).bind fun v19 => (fX12_ofCue (nI p) v19).bind fun v22 => (aL 30 N 1 v22).bind fun v23 => (fX12_start N (nI p) v17 v23).bind fun M26 => some ((1 : Int32), M26) else if nI (ltr o.1) = 114 then (gI 12 15 N 0).bind fun v28 => (gI 12 16 N 0).bind fun v30 => ob2 (fX12_records N (nI p) v28 v30) fun v33 M34 => some ((1 : Int32), M34) else ob2 (fX12_resets N (nI p)) fun v36 M37 => some ((1 : Int32), M37))) = x → fX12_does N (nI p) = x := fun x hx => by
    unfold fX12_does
    rw [n_gI, ob_some, n1, ← hx]
  unfold exo
  rcases (show o.1 = 0 ∨ o.1 = 1 ∨ o.1 = 2 ∨ o.1 = 3 by omega) with h | h | h | h
  · rw [h] at e0
    rw [if_pos h]
    obtain ⟨b1, b2⟩ := o2 h
    have h15 := n2 (by omega)
    obtain ⟨N', a1, a2, a3⟩ := rws_L (told := told) hp b1 hc b2 o.2.2.2.1 0 5000 N B (by omega) (by omega) h15 (n4 h) hP hW
    refine ⟨N', e0 _ ?_, a2, a3⟩
    rw [if_pos (by decide)]
    refine ob2_in (a := bI (wss o.2.2.2.2 o.2.1 o.2.2.2.1 0 B).2) (b := N') ?_ (ob_in bz_bI rfl)
    unfold fX12_wants
    rcases a1 with ⟨b1, b2⟩ | ⟨b1, b2⟩
    · rw [b1]
      exact ob_in b2 rfl
    · rw [b1]
      exact ob_in b2 rfl
  · rw [h] at e0
    rw [if_neg (by omega), if_pos h]
    obtain ⟨b1, b2, b3⟩ := o3 h
    have h15 := n2 (by omega)
    obtain ⟨N', a1, a2, a3⟩ := records_ok (t := o.2.2.1) hp (c := o.2.1) (by omega) b3 hP hW
    refine ⟨N', e0 _ ?_, a2, a3⟩
    rw [if_neg (by decide), if_neg (by decide), if_pos (by decide), n_gI, ob_some, n_gI, ob_some, h15, n3 h, a1, ob2_some]
    rfl
  · rw [h] at e0
    rw [if_neg (by omega), if_neg (by omega), if_pos h]
    have b1 := o4 h
    have h15 := n2 (by omega)
    have h50 := (hW.2.2.2.2.2.2.1 o.2.1 (by omega)).1
    have hcx := CX_lt (p := p) (c := o.2.1) (i := 0) hp (by omega) (by omega)
    by_cases h0 : B 6 o.2.1 = 0
    · rw [if_pos h0]
      refine ⟨N, e0 _ ?_, hP, FrN.rf⟩
      rw [if_neg (by decide), if_pos (by decide), n_gI, ob_some, h15, ofCue_ok, ob_some, s30 (by omega), ob_some, rcT hP (by omega), h0]
      exact if_pos (by decide)
    · rw [if_neg h0]
      obtain ⟨N', a1, a2, a3⟩ := start_ok (t := B 6 o.2.1) hp (c := o.2.1) (by omega) hP hW.1.2.2
      refine ⟨N', e0 _ ?_, a2, a3⟩
      rw [if_neg (by decide), if_pos (by decide), n_gI, ob_some, h15, ofCue_ok, ob_some, s30 (by omega), ob_some, rcT hP (by omega), if_neg (fun z => by rw [li0] at z; have := (nI_leE (by omega) (by omega)).mp z; omega), ob_some, ob_some, ofCue_ok, ob_some, s30 (by omega), ob_some, rcT hP (by omega), a1, ob_some]
      rfl
  · rw [h] at e0
    rw [if_neg (by omega), if_neg (by omega), if_neg (by omega)]
    obtain ⟨N', a1, a2, a3⟩ := resets_ok hp hP hW
    refine ⟨N', e0 _ ?_, a2, a3⟩
    rw [if_neg (by decide), if_neg (by decide), if_neg (by decide), a1, ob2_some]
    rfl
