/-! ifGo, safeTicks -/
theorem begin_ok {M N : Mem} {T : SA} {A : PA} {n p c t : Nat} (hL : Live M N T A) (hR : Rst M N n) (hp : p < 3) (hc : c < 8) : ∃ M', fX8_begin M (pq p 0) (nI c) (nI t) = some M' ∧ CI T M M' (st0 (A p) c t) := by
  have e718 : (718 : Nat) = pq 27 0 := rfl
  have k1 : ∀ y, KX y → ∀ o, o < 23 → y ≠ pq 27 o := fun y hy o ho z => by
    subst z
    unfold KX KM pq at hy
    omega
  obtain ⟨M2, a1, a2, a3⟩ := startCue_ok (M := cpP M 27 p) (q := 27) (t := t) (by omega) (CRel_cp (cr_live hL hp)) hc
  refine ⟨up2 (up2 (up2 (up2 M2 33 1 0) 33 2 (-6)) 33 3 0) 33 4 0, ?_, ?_, ?_, ?_, ?_, ?_, fun y hy => ?_⟩
  · unfold fX8_begin
    rw [e718, premCopy_ok (q := 27) (q' := p) (by omega) (by omega) (by omega), ob_some, a1, ob_some]
    refine ob_in (pI_ok (show shp 33 = 8 from rfl)) ?_
    refine ob_in (pI_ok (show shp 33 = 8 from rfl)) ?_
    refine ob_in (pI_ok (show shp 33 = 8 from rfl)) ?_
    exact ob_in (pI_ok (show shp 33 = 8 from rfl)) rfl
  · exact CRel_upNe (CRel_upNe (CRel_upNe (CRel_upNe a2 (fun o ho => by unfold pq; omega)) (fun o ho => by unfold pq; omega)) (fun o ho => by unfold pq; omega)) (fun o ho => by unfold pq; omega)
  · rw [up2_same, if_neg (by omega), up2_same, if_neg (by omega), up2_same, if_neg (by omega), up2_same, if_pos rfl]
    rfl
  · rw [up2_same, if_neg (by omega), up2_same, if_neg (by omega), up2_same, if_pos rfl]
    rfl
  · rw [up2_same, if_neg (by omega), up2_same, if_pos rfl]
    rfl
  · rw [up2_same, if_pos rfl]
    rfl
  · have := KX_hi hy
    rw [up2_ne (by omega), up2_ne (by omega), up2_ne (by omega), up2_ne (by omega), a3 y (k1 y hy), cpP_ne (k1 y hy)]
theorem op_ifGo {M N : Mem} (h : Rel M N) (a1 a2 a3 : Int32) : OK (fX11_ifGo M a1 a2 a3) (fX12_ifGo N a1 a2 a3) := by
  obtain ⟨⟨T, A, hL⟩, n, hR⟩ := id h
  have hWT := hL.2.2.1
  have htk := hWT.2.2.1
  rcases ic a1 2 2 rfl (by omega) with ⟨p, hp, rfl, hpy⟩ | h1
  · have hC := cr_live hL (p := p) (by omega)
    have hW := wa_live hL (p := p) (by omega)
    have hP := rp_live hL (p := p) (by omega)
    rcases ic a2 7 7 rfl (by omega) with ⟨c, hc, rfl, hcy⟩ | h2
    · have h50 := (hW.2.2.2.2.2.2.1 c (by omega)).1
      rcases ic a3 3 3 rfl (by omega) with ⟨k, hk, rfl, hky⟩ | h3
      · by_cases h0 : A p 6 c = 0
        · refine OK_er (r := -5) h ?_ ?_
          · unfold fX11_ifGo
            rw [find_ok (by omega), ob_some, caseO_some, isCue_ok, ob_some, b01, if_pos hcy, isIn_ok, ob_some, b01, if_pos hky, isRec_ok (by omega) hC (by omega) h50, ob_some, if_pos h0, if_pos rfl]
          · unfold fX12_ifGo
            rw [isCueR_ok, ob_some, b01, if_pos ⟨hpy, hcy⟩, in_ok, ob_some, b01, if_pos hky, ofCue_ok, ob_some, s30 (by have := CX_lt (p := p) (c := c) (i := 0) (by omega) (by omega) (by omega); omega), ob_some, rcT hP (by omega), h0]
            exact if_pos rfl
        · obtain ⟨M1, b1, b2⟩ := begin_ok (t := A p 6 c) hL hR (show p < 3 by omega) (show c < 8 by omega)
          obtain ⟨M2, c1, c2⟩ := playC_L (t := A p 6 c) hWT (ct_live hL) h50 (A p 6 c + T 1 2) 1 5000 M1 _ (by omega) (by omega) (VT_0 hWT hW (by omega) h50 (by omega)) b2
          obtain ⟨N2, g1, g2, g3, g4, g5, g6, g7⟩ := tryR_ok (t := A p 6 c) hL hR (show p < 3 by omega) (show c < 8 by omega) h50 (by omega)
          obtain ⟨i1, i2, i3, i4, i5, i6⟩ := c2
          obtain ⟨hL2, hR2⟩ := Live_KX g2 g3 i6
          have ep : fX8_playToTheEnd M 34 (pq p 0) (nI c) 23 = some M2 := by
            unfold fX8_playToTheEnd
            rw [isRec_ok (by omega) hC (by omega) h50, ob_some, if_neg h0]
            refine ob_in (v := nI (A p 6 c)) ?_ ?_
            · rw [if_neg (by decide)]
              refine ob_in (gR_ok (x := pq p 6) (sp0 (by omega) (by omega) rfl) (rf_pq0 (by omega))) ?_
              refine ob_in (aL_ok (n := 8) (sp0 (by omega) (by omega) rfl) (lp0 (by omega) (by omega) rfl) (by omega) (by omega)) ?_
              rw [cr6 hC (by omega)]
            · refine ob_in b1 ?_
              exact ob_in c1 rfl
          refine OK_in (r := if k = 0 then nI (run T (A p 6 c + T 1 2) 1 (st0 (A p) c (A p 6 c))).2.1 else if k = 1 then fI (run T (A p 6 c + T 1 2) 1 (st0 (A p) c (A p 6 c))).2.2.1 else if k = 2 then nI (run T (A p 6 c + T 1 2) 1 (st0 (A p) c (A p 6 c))).2.2.2.1 else nI (run T (A p 6 c + T 1 2) 1 (st0 (A p) c (A p 6 c))).2.2.2.2) (M := M2) (N := N2) ?_ ?_ ⟨hL2, hR2⟩
          · unfold fX11_ifGo
            rw [find_ok (by omega), ob_some, caseO_some, isCue_ok, ob_some, b01, if_pos hcy, isIn_ok, ob_some, b01, if_pos hky, isRec_ok (by omega) hC (by omega) h50, ob_some, if_neg h0, if_neg (by decide), ep, ob_some, gI_ok (show shp 33 = 8 from rfl), gI_ok (show shp 33 = 8 from rfl), gI_ok (show shp 33 = 8 from rfl), gI_ok (show shp 33 = 8 from rfl), i2, i3, i4, i5]
            rcases (show k = 0 ∨ k = 1 ∨ k = 2 ∨ k = 3 by omega) with rfl | rfl | rfl | rfl <;> rfl
          · unfold fX12_ifGo
            rw [isCueR_ok, ob_some, b01, if_pos ⟨hpy, hcy⟩, in_ok, ob_some, b01, if_pos hky, ofCue_ok, ob_some, s30 (by have := CX_lt (p := p) (c := c) (i := 0) (by omega) (by omega) (by omega); omega), ob_some, rcT hP (by omega), if_neg (nI_ne0 (by omega) (by omega)), ob_some, s30 (by have := CX_lt (p := p) (c := c) (i := 0) (by omega) (by omega) (by omega); omega), ob_some, rcT hP (by omega), g1, ob_some, n_gI, n_gI, n_gI, n_gI, ob_some, ob_some, ob_some, ob_some, g4, g5, g6, g7]
            rcases (show k = 0 ∨ k = 1 ∨ k = 2 ∨ k = 3 by omega) with rfl | rfl | rfl | rfl <;> rfl
      · refine OK_er (r := -2) h ?_ ?_
        · unfold fX11_ifGo
          rw [find_ok (by omega), ob_some, caseO_some, isCue_ok, ob_some, b01, if_pos hcy, isIn_ok, ob_some, b01, if_neg h3]
        · unfold fX12_ifGo
          rw [isCueR_ok, ob_some, b01, if_pos ⟨hpy, hcy⟩, in_ok, ob_some, b01, if_neg h3]
    · refine OK_er (r := -1) h ?_ ?_
      · unfold fX11_ifGo
        rw [find_ok (by omega), ob_some, caseO_some, isCue_ok, ob_some, b01, if_neg h2]
      · unfold fX12_ifGo
        rw [isCueR_ok, ob_some, b01, if_neg (fun z => h2 z.2)]
  · refine OK_er (r := -1) h ?_ ?_
    · unfold fX11_ifGo
      rw [find_bad h1, ob_some, caseO_none]
    · unfold fX12_ifGo
      rw [isCueR_ok, ob_some, b01, if_neg (fun z => h1 z.1)]
theorem run_mono {T : SA} : ∀ (e i : Nat) (x : TS), x.2.1 ≤ (run T e i x).2.1 := by
  intro e
  induction e with
  | zero => intro i x; exact Nat.le_refl _
  | succ e ih =>
    intro i x
    have h1 := ih (i + 1) (stp T i x)
    have h2 : (stp T i x).2.1 = x.2.1 + psR T x.1 := rfl
    show x.2.1 ≤ (run T e (i + 1) (stp T i x)).2.1
    omega
theorem safe_L {T : SA} {M0 : Mem} {t : Nat} (hWT : WT T) (hT0 : CT M0 0 T) (ht : t ≤ 50) : ∀ (e i F : Nat) (M : Mem) (x : TS), i + e = t + T 1 2 + 1 → e < F → VT T x e i → CRel M 27 x.1 → (∀ y, KX y → M y = M0 y) → ∃ M', (∀ y, KX y → M' y = M0 y) ∧ fX8_isSafe_L11 F M 34 (nI t) 23 (nI i) = some (if (run T e i x).2.1 = x.2.1 then .inl M' else .inr (0, M')) := by
  have htk := hWT.2.2.1
  intro e
  induction e with
  | zero =>
    intro i F M x hi hF hV hC hk
    obtain ⟨F, rfl⟩ : ∃ F', F = F' + 1 := ⟨F - 1, by omega⟩
    refine ⟨M, hk, ?_⟩
    rw [fX8_isSafe_L11]
    refine ob_in (gR_ok (x := 35) rfl rfl) ?_
    refine ob_in (c35_ok (j := 2) (by omega) (CT_KX hT0 hk)) ?_
    rw [nI_addE, if_pos (nI_lt (by omega) (by omega)), if_pos (show (run T 0 i x).2.1 = x.2.1 from rfl)]
  | succ e ih =>
    intro i F M x hi hF hV hC hk
    obtain ⟨F, rfl⟩ : ∃ F', F = F' + 1 := ⟨F - 1, by omega⟩
    have hT := CT_KX hT0 hk
    obtain ⟨M1, a1, a2, a3, a4⟩ := pass_ok (show 27 < 28 by omega) hC hT hWT hV.1
    have hr := psR_le (T := T) (A := x.1)
    have hVs := VT_stp hWT hV
    have hk1 : ∀ y, KX y → M1 y = M0 y := fun y hy => by rw [FrP_27 a2 y hy, hk y hy]
    have es : (stp T i x).2.1 = x.2.1 + psR T x.1 := rfl
    have hm := run_mono (T := T) e (i + 1) (stp T i x)
    have er : run T (e + 1) i x = run T e (i + 1) (stp T i x) := rfl
    have e0 : fX8_isSafe_L11 (F + 1) M 34 (nI t) 23 (nI i) = if nI (psR T x.1) ≤ 0 then fX8_isSafe_L11 F M1 34 (nI t) 23 (nI (i + 1)) else some (.inr (0, M1)) := by
      rw [fX8_isSafe_L11]
      refine ob_in (gR_ok (x := 35) rfl rfl) ?_
      refine ob_in (c35_ok (j := 2) (by omega) hT) ?_
      rw [nI_addE, if_neg (fun q => by have := (nI_ltE (by omega) (by omega)).mp q; omega)]
      refine ob2_in a1 ?_
      rw [li1, nI_addE]
    by_cases z : psR T x.1 = 0
    · obtain ⟨M', g1, g2⟩ := ih (i + 1) F M1 (stp T i x) (by omega) (by omega) hVs a3 hk1
      refine ⟨M', g1, ?_⟩
      rw [e0, if_pos (show nI (psR T x.1) ≤ 0 by rw [z]; decide), g2, er, es, z]
      rfl
    · refine ⟨M1, hk1, ?_⟩
      rw [e0, if_neg (show ¬ nI (psR T x.1) ≤ 0 from fun q => by rw [li0] at q; have := (nI_leE (by omega) (by omega)).mp q; omega), er, if_neg (by omega)]
theorem isSafe_ok {M N : Mem} {T : SA} {A : PA} {n p c t : Nat} (hL : Live M N T A) (hR : Rst M N n) (hp : p < 3) (hc : c < 8) (ht : t ≤ 50) (ht0 : 0 < t) : ∃ M', (∀ y, KX y → M' y = M y) ∧ fX8_isSafe M 34 (pq p 0) (nI c) (nI t) 23 = some (if (run T (t + T 1 2) 1 (st0 (A p) c t)).2.1 = 0 then 1 else 0, M') := by
  have hWT := hL.2.2.1
  have htk := hWT.2.2.1
  have hW := wa_live hL hp
  obtain ⟨M1, b1, b2⟩ := begin_ok (t := t) hL hR hp hc
  obtain ⟨M2, c1, c2⟩ := safe_L (t := t) hWT (ct_live hL) ht (t + T 1 2) 1 5000 M1 _ (by omega) (by omega) (VT_0 hWT hW hc ht ht0) b2.1 b2.2.2.2.2.2
  refine ⟨M2, c1, ?_⟩
  unfold fX8_isSafe
  refine ob_in b1 ?_
  refine ob_in c2 ?_
  have e0 : (st0 (A p) c t).2.1 = 0 := rfl
  rw [e0]
  by_cases h : (run T (t + T 1 2) 1 (st0 (A p) c t)).2.1 = 0
  · rw [if_pos h, if_pos h]
    rfl
  · rw [if_neg h, if_neg h]
    rfl
theorem run_bd {T : SA} (hWT : WT T) : ∀ (e i : Nat) (x : TS), VT T x e i → (run T e i x).2.1 ≤ 3000 := by
  intro e
  induction e with
  | zero => intro i x h; have := h.2.2.1; show x.2.1 ≤ 3000; omega
  | succ e ih => intro i x h; exact ih (i + 1) (stp T i x) (VT_stp hWT h)
theorem sfT_L {T : SA} {A : PA} {n p c : Nat} (hp : p < 3) (hc : c < 8) : ∀ (e t F : Nat) (M N : Mem), t + e = 51 → 0 < t → e < F → Live M N T A → Rst M N n → ∃ M' N', Live M' N' T A ∧ Rst M' N' n ∧ ((fX11_safeTicks_L36 F M (nI c) (pq p 0) (nI t) = some (.inl M') ∧ fX12_safeTicks_L16 F N (nI p) (nI c) (nI t) = some (.inl N')) ∨ ∃ r, fX11_safeTicks_L36 F M (nI c) (pq p 0) (nI t) = some (.inr (nI r, M')) ∧ fX12_safeTicks_L16 F N (nI p) (nI c) (nI t) = some (.inr (nI r, N'))) := by
  intro e
  induction e with
  | zero =>
    intro t F M N ht ht0 hF hL hR
    obtain ⟨F, rfl⟩ : ∃ F', F = F' + 1 := ⟨F - 1, by omega⟩
    have h51 : t = 51 := by omega
    subst h51
    exact ⟨M, N, hL, hR, Or.inl ⟨by rw [fX11_safeTicks_L36]; exact if_pos (by decide), by rw [fX12_safeTicks_L16]; exact if_pos (by decide)⟩⟩
  | succ e ih =>
    intro t F M N ht ht0 hF hL hR
    obtain ⟨F, rfl⟩ : ∃ F', F = F' + 1 := ⟨F - 1, by omega⟩
    have hWT := hL.2.2.1
    have hW := wa_live hL hp
    have hbd := run_bd hWT _ _ _ (VT_0 (t := t) hWT hW hc (by omega) ht0)
    obtain ⟨M1, a1, a2⟩ := isSafe_ok (t := t) hL hR hp hc (by omega) ht0
    obtain ⟨N1, b1, b2, b3, b4, -⟩ := tryR_ok (t := t) hL hR hp hc (by omega) ht0
    obtain ⟨hL1, hR1⟩ := Live_KX b2 b3 a1
    have g50 : ∀ t, t ≤ 50 → ¬ (50 : Int32) < nI t := fun t ht q => by
      have := (nI_ltE (a := 50) (b := t) (by omega) (by omega)).mp q
      omega
    by_cases h : (run T (t + T 1 2) 1 (st0 (A p) c t)).2.1 = 0
    · refine ⟨M1, N1, hL1, hR1, Or.inr ⟨t, ?_, ?_⟩⟩
      · rw [fX11_safeTicks_L36, if_neg (g50 t (by omega)), a2, ob2_some, if_pos h, if_neg (by decide)]
      · rw [fX12_safeTicks_L16, if_neg (g50 t (by omega)), b1, ob_some, n_gI, ob_some, b4, h, if_pos (show nI 0 = (0 : Int32) from rfl)]
    · obtain ⟨M', N', q1, q2, q3⟩ := ih (t + 1) F M1 N1 (by omega) (by omega) (by omega) hL1 hR1
      have s1 : fX11_safeTicks_L36 (F + 1) M (nI c) (pq p 0) (nI t) = fX11_safeTicks_L36 F M1 (nI c) (pq p 0) (nI (t + 1)) := by
        rw [fX11_safeTicks_L36, if_neg (g50 t (by omega)), a2, ob2_some, if_neg h, if_pos rfl, li1, nI_addE]
      have s2 : fX12_safeTicks_L16 (F + 1) N (nI p) (nI c) (nI t) = fX12_safeTicks_L16 F N1 (nI p) (nI c) (nI (t + 1)) := by
        rw [fX12_safeTicks_L16, if_neg (g50 t (by omega)), b1, ob_some, n_gI, ob_some, b4, if_neg (nI_ne0 (by omega) (by omega)), li1, nI_addE]
      exact ⟨M', N', q1, q2, by rw [s1, s2]; exact q3⟩
theorem op_safeTicks {M N : Mem} (h : Rel M N) (a1 a2 : Int32) : OK (fX11_safeTicks M a1 a2) (fX12_safeTicks N a1 a2) := by
  obtain ⟨⟨T, A, hL⟩, n, hR⟩ := id h
  rcases ic a1 2 2 rfl (by omega) with ⟨p, hp, rfl, hpy⟩ | h1
  · have hC := cr_live hL (p := p) (by omega)
    have hW := wa_live hL (p := p) (by omega)
    have hP := rp_live hL (p := p) (by omega)
    rcases ic a2 7 7 rfl (by omega) with ⟨c, hc, rfl, hcy⟩ | h2
    · have h50 := (hW.2.2.2.2.2.2.1 c (by omega)).1
      by_cases h0 : A p 6 c = 0
      · refine OK_er (r := -5) h ?_ ?_
        · unfold fX11_safeTicks
          rw [find_ok (by omega), ob_some, caseO_some, isCue_ok, ob_some, b01, if_pos hcy, isRec_ok (by omega) hC (by omega) h50, ob_some, if_pos h0, if_pos rfl]
        · unfold fX12_safeTicks
          rw [goFault_ok (by omega) (by omega) hP hW, ob_some, if_pos h0, if_neg (by decide)]
      · obtain ⟨M', N', q1, q2, q3⟩ := sfT_L (p := p) (c := c) (by omega) (by omega) 50 1 5000 M N (by omega) (by omega) (by omega) hL hR
        have eC : fX11_safeTicks M (nI p) (nI c) = ((fX11_safeTicks_L36 5000 M (nI c) (pq p 0) 1).bind fun z12 => caseS z12 (fun M10 => some (-6, M10)) (fun zr => caseP zr fun v14 M15 => some (v14, M15))) := by
          unfold fX11_safeTicks
          rw [find_ok (by omega), ob_some, caseO_some, isCue_ok, ob_some, b01, if_pos hcy, isRec_ok (by omega) hC (by omega) h50, ob_some, if_neg h0, if_neg (by decide)]
        have eR : fX12_safeTicks N (nI p) (nI c) = ((fX12_safeTicks_L16 5000 N (nI p) (nI c) 1).bind fun z6 => caseS z6 (fun M4 => some (-6, M4)) (fun zr => caseP zr fun v8 M9 => some (v8, M9))) := by
          unfold fX12_safeTicks
          rw [goFault_ok (by omega) (by omega) hP hW, ob_some, if_neg h0, if_pos (by decide)]
        rcases q3 with ⟨q3, q4⟩ | ⟨r, q3, q4⟩
        · exact OK_in (r := -6) (eC.trans (ob_in q3 rfl)) (eR.trans (ob_in q4 rfl)) ⟨q1, q2⟩
        · exact OK_in (r := nI r) (eC.trans (ob_in q3 rfl)) (eR.trans (ob_in q4 rfl)) ⟨q1, q2⟩
    · refine OK_er (r := -1) h ?_ ?_
      · unfold fX11_safeTicks
        rw [find_ok (by omega), ob_some, caseO_some, isCue_ok, ob_some, b01, if_neg h2]
      · unfold fX12_safeTicks
        rw [goFault_bad (fun z => h2 z.2), ob_some, if_neg (by decide)]
  · refine OK_er (r := -1) h ?_ ?_
    · unfold fX11_safeTicks
      rw [find_bad h1, ob_some, caseO_none]
    · unfold fX12_safeTicks
      rw [goFault_bad (fun z => h1 z.1), ob_some, if_neg (by decide)]
