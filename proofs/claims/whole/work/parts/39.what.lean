/-! ifDays, bestFeed -/
theorem Live_KX {M M' N : Mem} {T : SA} {A : PA} {n : Nat} (hL : Live M N T A) (hR : Rst M N n) (hk : ∀ x, KX x → M' x = M x) : Live M' N T A ∧ Rst M' N n := by
  obtain ⟨hC, hS, hW⟩ := hL
  exact ⟨⟨CS_congr hC (fun o ho => hk _ (Or.inr (Or.inl (by unfold st; omega)))) (fun p o hp ho => hk _ (Or.inr (Or.inr (by unfold pq; omega)))), hS, hW⟩, Rst_keep hR (fun x hx => hk x (Or.inl hx)) KeepN.rf⟩
theorem days_put {M N : Mem} {T : SA} {A : PA} {n p f g : Nat} (hL : Live M N T A) (hR : Rst M N n) (hp : p < 3) (hf : f ≤ 6) (hg : g ≤ 6) : Live (up2 (up2 M (pq p 0) 0 (nI f)) (pq p 0) 1 (nI g)) (up2 (up2 N 1 (AX p 0) (nI f)) 1 (AX p 1) (nI g)) T (upP A p (upA (upA (A p) 0 0 f) 0 1 g)) ∧ Rst (up2 (up2 M (pq p 0) 0 (nI f)) (pq p 0) 1 (nI g)) (up2 (up2 N 1 (AX p 0) (nI f)) 1 (AX p 1) (nI g)) n := by
  have hC1 := cr_live hL hp
  have hP1 := rp_live hL hp
  have hW := wa_live hL hp
  have e12 : upA (A p) 0 0 f 0 2 ≤ 12 := hW.1.2.2
  exact fin_p hL hR hp (fun x hx _ => by rw [up2_ne (hx 0 (by omega)), up2_ne (hx 0 (by omega))]) (CRel_up (CRel_up hC1 (by omega) (vI_n (by omega)).symm) (by omega) (vI_n (by omega)).symm) (fun k hk => by rw [N1_ne (by unfold AX; unfold PB at hk; omega), N1_ne (by unfold AX; unfold PB at hk; omega)]) (KeepN_1.tr KeepN_1) (by rw [up2_row, up2_row]; exact RP_fl (RP_fl hP1 hW.1.2.2 (by omega) rfl) e12 (by omega) rfl) (WA_0 (WA_0 hW (by omega) (by omega)) (by omega) (by omega))
theorem op_ifDays {M N : Mem} (h : Rel M N) (a1 a2 a3 : Int32) : OK (fX11_ifDays M a1 a2 a3) (fX12_ifDays N a1 a2 a3) := by
  obtain ⟨⟨T, A, hL⟩, n, hR⟩ := id h
  rcases ic a1 2 2 rfl (by omega) with ⟨p, hp, rfl, hpy⟩ | h1
  · have hW := wa_live hL (p := p) (by omega)
    have hC := cr_live hL (p := p) (by omega)
    have hP := rp_live hL (p := p) (by omega)
    rcases days_cases a2 a3 with ⟨f, g, hfg, hg, rfl, rfl⟩ | h2
    · have hd := days_y hfg hg
      obtain ⟨hL1, hR1⟩ := days_put (f := f) (g := g) hL hR (show p < 3 by omega) (by omega) hg
      obtain ⟨hL2, hR2⟩ := days_put (f := A p 0 0) (g := A p 0 1) hL1 hR1 (show p < 3 by omega) hW.1.1 hW.1.2.1
      refine OK_in (r := nI (rs (misN T (upP A p (upA (upA (A p) 0 0 f) 0 1 g))) (7 * T 2 0))) ?_ ?_ ⟨hL2, hR2⟩
      · unfold fX11_ifDays
        rw [find_ok (by omega), ob_some, caseO_some, areDays_ok, ob_some, b01, if_pos hd]
        refine ob_in (gI_ok (sp0 (by omega) (by omega) rfl)) ?_
        refine ob_in (gI_ok (sp0 (by omega) (by omega) rfl)) ?_
        refine ob_in (pI_ok (sp0 (by omega) (by omega) rfl)) ?_
        refine ob_in (pI_ok (sp0 (by omega) (by omega) rfl)) ?_
        refine ob_in (amC_ok hL1) ?_
        refine ob_in (pI_ok (sp0 (by omega) (by omega) rfl)) ?_
        refine ob_in (pI_ok (sp0 (by omega) (by omega) rfl)) ?_
        rw [cr0 hC (by omega), cr0 hC (by omega)]
      · have s1 : fX12_sum (up2 (up2 N 1 (AX p 0) (nI f)) 1 (AX p 1) (nI g)) 1 = some (nI (rs (misN T (upP A p (upA (upA (A p) 0 0 f) 0 1 g))) (7 * T 2 0))) := sumR_ok (k := 1) (by omega) hL1
        unfold fX12_ifDays
        rw [isPrem_ok, ob_some, b01, if_pos hpy, in_ok, ob_some, b01, if_pos hd.1, in_ok, ob_some, b01, if_pos hd.2, at1_0, ob_some, s30 (AX_lt (by omega) (by omega)), ob_some, at1_1, ob_some, s30 (AX_lt (by omega) (by omega)), ob_some, ob_some, w30 (AX_lt (by omega) (by omega)), ob_some, ob_some, w30 (AX_lt (by omega) (by omega)), ob_some, s1, ob_some, ob_some, w30 (AX_lt (by omega) (by omega)), ob_some, ob_some, w30 (AX_lt (by omega) (by omega)), ob_some, ra0 hP (by omega), ra0 hP (by omega)]
    · refine OK_er (r := -2) h ?_ ?_
      · unfold fX11_ifDays
        rw [find_ok (by omega), ob_some, caseO_some, areDays_ok, ob_some, b01, if_neg h2]
      · unfold fX12_ifDays
        rw [isPrem_ok, ob_some, b01, if_pos hpy, in_ok, ob_some, b01]
        by_cases h3 : 0 ≤ a2 ∧ a2 ≤ 6
        · rw [if_pos h3, in_ok, ob_some, b01, if_neg (fun z => h2 ⟨h3, z⟩)]
        · rw [if_neg h3]
  · refine OK_er (r := -1) h ?_ ?_
    · unfold fX11_ifDays
      rw [find_bad h1, ob_some, caseO_none]
    · unfold fX12_ifDays
      rw [isPrem_ok, ob_some, b01, if_neg h1]
theorem feed_put {M N : Mem} {T : SA} {A : PA} {n p d v : Nat} (hL : Live M N T A) (hR : Rst M N n) (hp : p < 3) (hd : d < 12) (hv : v < 3) : Live (up2 M (pq p 5) d (nI v)) (up2 N 1 (AX p (75 + d)) (nI v)) T (upP A p (upA (A p) 5 d v)) ∧ Rst (up2 M (pq p 5) d (nI v)) (up2 N 1 (AX p (75 + d)) (nI v)) n := by
  have hW := wa_live hL hp
  exact fin_p hL hR hp (fun x hx _ => up2_ne (hx 5 (by omega))) (CRel_up (cr_live hL hp) (by omega) (vI_n (by omega)).symm) (fun k hk => N1_ne (by unfold AX; unfold PB at hk; omega)) KeepN_1 (by rw [up2_row]; exact RP_ph (rp_live hL hp) hW.1.2.2 hd rfl) (WA_5 hW (by omega))
def gW (T A : SA) : Nat := max (max (wst T A 8 12) (wst T A 8 13)) (wst T A 8 14)
theorem gW_ref {N : Mem} {p : Nat} {T A : SA} {z2 z3 z4 z5 z6 : Int32} (hp : p < 3) (hT : RT (N 1) T) (hP : RP (N 1) p A) (hWT : WT T) (hW : WA (T 2 0) A) : fX12_bestFeed_L67 5000 N (nI p) z2 z3 z4 z5 z6 0 0 = some (nI (gW T A)) := by
  have b : ∀ u, wst T A 8 u ≤ 24000 := fun u => wst_le hWT hW 8 (by omega)
  have st : ∀ (F x k : Nat), k < 3 → x < 2 ^ 31 → fX12_bestFeed_L67 (F + 1) N (nI p) z2 z3 z4 z5 z6 (nI x) (nI k) = fX12_bestFeed_L67 F N (nI p) z2 z3 z4 z5 z6 (nI (max x (wst T A 8 (12 + k)))) (nI (k + 1)) := fun F x k hk hx => by
    have hb := b (12 + k)
    rw [fX12_bestFeed_L67, li3, if_neg (fun z => by have := (nI_leE (by omega) (by omega)).mp z; omega), li12, nI_addE, worstR_ok hp (by omega) hT hP hWT hW, ob_some, li1, nI_addE]
    by_cases h : wst T A 8 (12 + k) ≤ x
    · rw [if_pos ((nI_leE (by omega) hx).mpr h), Nat.max_eq_left h]
    · rw [if_neg (fun z => h ((nI_leE (by omega) hx).mp z)), Nat.max_eq_right (by omega)]
  have b0 := b (12 + 0)
  have b1 := b (12 + (0 + 1))
  rw [li0, st 4999 0 0 (by omega) (by omega), st 4998 _ (0 + 1) (by omega) (by omega), st 4997 _ (0 + 1 + 1) (by omega) (by omega), fX12_bestFeed_L67, li3, if_pos (Int32.le_refl _), Nat.zero_max]
  rfl
theorem gW_cls {M : Mem} {T A : SA} (hWT : WT T) (hW : WA (T 2 0) A) (h : ∀ x, x < 3 → M 29 x = nI (wst T A 8 (12 + x))) : fX11_greatest M 29 = some (nI (gW T A)) := by
  have b : ∀ u, wst T A 8 u ≤ 24000 := fun u => wst_le hWT hW 8 (by omega)
  have b0 := b 12
  have b1 := b 13
  have b2 := b 14
  refine (greatest_ok (n := 3) rfl rfl (by omega)).trans ?_
  have q0 : M 29 0 = nI (wst T A 8 12) := h 0 (by omega)
  have q1 : M 29 1 = nI (wst T A 8 13) := h 1 (by omega)
  have q2 : M 29 2 = nI (wst T A 8 14) := h 2 (by omega)
  show some (mx (mx (mx 0 (M 29 0)) (M 29 1)) (M 29 2)) = _
  rw [q0, q1, q2, li0, mx_nI (by omega) (by omega), Nat.zero_max, mx_nI (by omega) (by omega), mx_nI (by omega) (by omega)]
  rfl
theorem gW_le {T A : SA} (hWT : WT T) (hW : WA (T 2 0) A) : gW T A ≤ 24000 := by
  have b0 := wst_le (u := 12) hWT hW 8 (by omega)
  have b1 := wst_le (u := 13) hWT hW 8 (by omega)
  have b2 := wst_le (u := 14) hWT hW 8 (by omega)
  unfold gW
  omega
theorem bf_one {M N : Mem} {T : SA} {A : PA} {n p d k : Nat} (hL : Live M N T A) (hR : Rst M N n) (hp : p < 3) (hd : d < 12) (hk : k < 3) : ∃ M1 N1 A1 g, g ≤ 24000 ∧ (∀ f : Mem → Int32 → Option (Int32 × Mem), ((gR 6 7 (pq p 0)).bind fun x12 => (aS 20 M x12 (nI d) (nI k)).bind fun M14 => (fX10_measure M14 (pq p 0) 36).bind fun M17 => (fX11_greatest M17 29).bind fun v19 => f M17 v19) = f M1 (nI g)) ∧ (∀ (z3 z4 z5 : Int32) (f : Mem → Int32 → Option (Int32 × Mem)), ((fX12_at1 (nI p) (75 + nI d)).bind fun v13 => (aS 30 N 1 v13 (nI k)).bind fun M14 => (fX12_bestFeed_L67 5000 M14 (nI p) (nI d) z3 z4 z5 (nI k) 0 0).bind fun v16 => f M14 v16) = f N1 (nI g)) ∧ Live M1 N1 T A1 ∧ Rst M1 N1 n := by
  obtain ⟨hL1, hR1⟩ := feed_put (v := k) hL hR hp hd hk
  have hWT := hL1.2.2.1
  have hW1 := wa_live hL1 hp
  obtain ⟨M2, f1, f2, f3, f4⟩ := worstC_ok (show p < 28 by omega) hWT hW1 (cr_live hL1 hp) (ct_live hL1)
  obtain ⟨hL2, hR2⟩ := Live_KX hL1 hR1 (fun x hx => f2 x (by have := KX_hi hx; omega))
  refine ⟨M2, _, _, gW T (upP A p (upA (A p) 5 d k) p), gW_le hWT hW1, fun f => ?_, fun z3 z4 z5 f => ?_, hL2, hR2⟩
  · refine ob_in (gR_ok (x := pq p 5) (sp0 (by omega) (by omega) rfl) (rf_pq0 (by omega))) ?_
    refine ob_in (aS_ok (n := 12) (sp0 (by omega) (by omega) rfl) (lp0 (by omega) (by omega) rfl) (by omega) (by omega)) ?_
    refine ob_in f1 ?_
    exact ob_in (gW_cls hWT hW1 f4) rfl
  · rw [li75, nI_addE, at1_ok, ob_some, w30 (AX_lt hp (by omega)), ob_some, gW_ref hp (rt_live hL1) (rp_live hL1 hp) hWT hW1, ob_some]
theorem bf_L {T : SA} {n p d : Nat} {z z' : Int32} (hp : p < 3) (hd : d < 12) : ∀ (e k F best low : Nat) (M N : Mem) (A : PA), k + e = 3 → 0 < k → e < F → best < 3 → low ≤ 24000 → Live M N T A → Rst M N n → ∃ M' N' A' r, fX11_bestFeed_L39 F M (nI d) (pq p 0) z (nI best) (nI low) (nI k) = some (nI r, M') ∧ fX12_bestFeed_L40 F N (nI p) (nI d) z' (nI best) (nI low) (nI k) = some (nI r, N') ∧ Live M' N' T A' ∧ Rst M' N' n := by
  intro e
  induction e with
  | zero =>
    intro k F best low M N A hk hk0 hF hb hl hL hR
    obtain ⟨F, rfl⟩ : ∃ F', F = F' + 1 := ⟨F - 1, by omega⟩
    have hk3 : k = 3 := by omega
    subst hk3
    exact ⟨M, N, A, best, by rw [fX11_bestFeed_L39, li3, if_pos (Int32.le_refl _)], by rw [fX12_bestFeed_L40, li3, if_pos (Int32.le_refl _)], hL, hR⟩
  | succ e ih =>
    intro k F best low M N A hk hk0 hF hb hl hL hR
    obtain ⟨F, rfl⟩ : ∃ F', F = F' + 1 := ⟨F - 1, by omega⟩
    obtain ⟨M1, N1, A1, g, g1, g2, g3, g4, g5⟩ := bf_one hL hR hp hd (show k < 3 by omega)
    have n6 : ¬ nI best = -6 := fun q => by rw [li6] at q; exact (nI_negE (by omega) (by omega) (by omega)).mp q
    by_cases h : low ≤ g
    · obtain ⟨M', N', A', r, b1, b2, b3, b4⟩ := ih (k + 1) F best low M1 N1 A1 (by omega) (by omega) (by omega) hb hl g4 g5
      refine ⟨M', N', A', r, ?_, ?_, b3, b4⟩
      · rw [fX11_bestFeed_L39, li3, if_neg (fun q => by have := (nI_leE (by omega) (by omega)).mp q; omega)]
        refine (g2 _).trans ?_
        rw [if_neg (nI_ne0 hk0 (by omega)), if_pos ((nI_leE (by omega) (by omega)).mpr h), li1, nI_addE]
        exact b1
      · rw [fX12_bestFeed_L40, li3, if_neg (fun q => by have := (nI_leE (by omega) (by omega)).mp q; omega)]
        refine (g3 _ _ _ _).trans ?_
        rw [if_neg n6, if_pos ((nI_leE (by omega) (by omega)).mpr h), ob_some, if_pos rfl, ob_some, if_pos rfl, li1, nI_addE]
        exact b2
    · obtain ⟨M', N', A', r, b1, b2, b3, b4⟩ := ih (k + 1) F k g M1 N1 A1 (by omega) (by omega) (by omega) (by omega) g1 g4 g5
      refine ⟨M', N', A', r, ?_, ?_, b3, b4⟩
      · rw [fX11_bestFeed_L39, li3, if_neg (fun q => by have := (nI_leE (by omega) (by omega)).mp q; omega)]
        refine (g2 _).trans ?_
        rw [if_neg (nI_ne0 hk0 (by omega)), if_neg (fun q => h ((nI_leE (by omega) (by omega)).mp q)), li1, nI_addE]
        exact b1
      · rw [fX12_bestFeed_L40, li3, if_neg (fun q => by have := (nI_leE (by omega) (by omega)).mp q; omega)]
        refine (g3 _ _ _ _).trans ?_
        rw [if_neg n6, if_neg (fun q => h ((nI_leE (by omega) (by omega)).mp q)), ob_some, if_neg (by decide), ob_some, if_neg (by decide), li1, nI_addE]
        exact b2
theorem op_bestFeed {M N : Mem} (h : Rel M N) (a1 a2 : Int32) : OK (fX11_bestFeed M a1 a2) (fX12_bestFeed N a1 a2) := by
  obtain ⟨⟨T, A, hL⟩, n, hR⟩ := id h
  rcases ic a1 2 2 rfl (by omega) with ⟨p, hp, rfl, hpy⟩ | h1
  · have hW := wa_live hL (p := p) (by omega)
    have hC := cr_live hL (p := p) (by omega)
    have hP := rp_live hL (p := p) (by omega)
    rcases ic a2 11 11 rfl (by omega) with ⟨d, hd, rfl, hdy⟩ | h2
    · have h5 := hW.2.2.2.2.2.1 d (by omega)
      obtain ⟨M1, N1, A1, g, g1, g2, g3, g4, g5⟩ := bf_one (p := p) (d := d) (k := 0) hL hR (by omega) (by omega) (by omega)
      obtain ⟨M2, N2, A2, r, b1, b2, b3, b4⟩ := bf_L (z := nI (A p 5 d)) (z' := nI (A p 5 d)) (p := p) (d := d) (by omega) (by omega) 2 1 4999 0 g M1 N1 A1 (by omega) (by omega) (by omega) (by omega) g1 g4 g5
      obtain ⟨hL3, hR3⟩ := feed_put (p := p) (d := d) (v := A p 5 d) b3 b4 (by omega) (by omega) h5
      refine OK_in (r := nI r) ?_ ?_ ⟨hL3, hR3⟩
      · unfold fX11_bestFeed
        rw [find_ok (by omega), ob_some, caseO_some, isDimmer_ok, ob_some, b01, if_pos hdy]
        refine ob_in (gR_ok (x := pq p 5) (sp0 (by omega) (by omega) rfl) (rf_pq0 (by omega))) ?_
        refine ob_in (aL_ok (n := 12) (sp0 (by omega) (by omega) rfl) (lp0 (by omega) (by omega) rfl) (by omega) (by omega)) ?_
        rw [cr5 hC (by omega)]
        refine ob2_in (a := nI r) (b := M2) ?_ ?_
        · rw [fX11_bestFeed_L39, if_neg (by decide)]
          refine (g2 _).trans ?_
          rw [if_pos rfl]
          exact b1
        · refine ob_in (gR_ok (x := pq p 5) (sp0 (by omega) (by omega) rfl) (rf_pq0 (by omega))) ?_
          exact ob_in (aS_ok (n := 12) (sp0 (by omega) (by omega) rfl) (lp0 (by omega) (by omega) rfl) (by omega) (by omega)) rfl
      · unfold fX12_bestFeed
        rw [isPrem_ok, ob_some, b01, if_pos hpy, isDimR_ok, ob_some, b01, if_pos hdy, li75, nI_addE, at1_ok, ob_some, s30 (AX_lt (by omega) (by omega)), ob_some, ra75 hP (by omega)]
        refine ob2_in (a := nI r) (b := N2) ?_ ?_
        · rw [fX12_bestFeed_L40, if_neg (by decide)]
          refine (g3 _ _ _ _).trans ?_
          rw [if_pos rfl, ob_some, if_neg (by decide), ob_some, if_neg (by decide)]
          exact b2
        · rw [ob_some, w30 (AX_lt (by omega) (by omega)), ob_some]
    · refine OK_er (r := -1) h ?_ ?_
      · unfold fX11_bestFeed
        rw [find_ok (by omega), ob_some, caseO_some, isDimmer_ok, ob_some, b01, if_neg h2]
      · unfold fX12_bestFeed
        rw [isPrem_ok, ob_some, b01, if_pos hpy, isDimR_ok, ob_some, b01, if_neg h2]
  · refine OK_er (r := -1) h ?_ ?_
    · unfold fX11_bestFeed
      rw [find_bad h1, ob_some, caseO_none]
    · unfold fX12_bestFeed
      rw [isPrem_ok, ob_some, b01, if_neg h1]
