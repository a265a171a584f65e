/-! the readers: lamp, inCue, cue, dimmer, phase, of -/
def OKv (x y : Option Int32) : Prop := ∃ r, x = some r ∧ y = some r
def OKm (x : Option (Int32 × Mem)) (y : Option Int32) (N : Mem) : Prop := ∃ r M', x = some (r, M') ∧ y = some r ∧ Rel M' N
theorem Rel_KX {M M' N : Mem} (h : Rel M N) (hk : ∀ x, KX x → M' x = M x) : Rel M' N := by
  obtain ⟨⟨T, A, hC, hS, hW⟩, n, hR⟩ := h
  exact ⟨⟨T, A, CS_congr hC (fun o ho => hk _ (Or.inr (Or.inl (by unfold st; omega)))) (fun p o hp ho => hk _ (Or.inr (Or.inr (by unfold pq; omega)))), hS, hW⟩, n, Rst_keep hR (fun x hx => hk x (Or.inl hx)) KeepN.rf⟩
theorem KX_hi {x : Nat} (h : KX x) : x < 17 ∨ 34 ≤ x := by
  unfold KX KM at h
  omega
theorem Rel_L {M M' N : Mem} {d g : Nat} (h : Rel M N) (hk : KeepL M M' d g) (hd : 24 ≤ d ∧ d ≤ 32) (hg : 24 ≤ g ∧ g ≤ 32) : Rel M' N := Rel_KX h (fun x hx => hk x (by have := KX_hi hx; omega) (by have := KX_hi hx; omega))
theorem Rel_W {M M' N : Mem} (h : Rel M N) (hk : KeepW M M') : Rel M' N := Rel_KX h (fun x hx => hk x (by have := KX_hi hx; omega))
theorem rt_live {M N : Mem} {T : SA} {A : PA} (h : Live M N T A) : RT (N 1) T := h.2.1.1
theorem op_lamp {M N : Mem} (h : Rel M N) (a1 a2 a3 : Int32) : OKv (fX11_lamp M a1 a2 a3) (fX12_lamp N a1 a2 a3) := by
  obtain ⟨⟨T, A, hL⟩, n, hR⟩ := id h
  have hWT := hL.2.2.1
  rcases ic a1 2 2 rfl (by omega) with ⟨p, hp, rfl, hpy⟩ | h1
  · have hC := cr_live hL (p := p) (by omega)
    have hW := wa_live hL (p := p) (by omega)
    have hP := rp_live hL (p := p) (by omega)
    have h12 : A p 0 2 ≤ 12 := hW.1.2.2
    rcases lamp_cases a2 hW.1.2.2 with ⟨i, hi, rfl⟩ | h2
    · have eC : fX11_lamp M (nI p) (nI i) a3 = (if a3 = 0 then some (nI (A p 1 i)) else if a3 = 1 then some (vI 2 (A p 2 i)) else if a3 = 2 then some (nI (A p 3 i)) else if a3 = 3 then some (nI (A p 4 i)) else if a3 = 4 then some (nI (ldL T (A p) i)) else some (-2)) := by
        unfold fX11_lamp
        rw [find_ok (by omega), ob_some, caseO_some, hasLamp_ok (by omega) (cr0 hC (by omega)) hW.1.2.2, ob_some, b01, if_pos (lamp_y hi hW.1.2.2)]
        have g1 : ((gR 6 3 (pq p 0)).bind fun x => (aL 20 M x (nI i)).bind fun v => some v) = some (nI (A p 1 i)) := by
          refine ob_in (gR_ok (x := pq p 1) (sp0 (by omega) (by omega) rfl) (rf_pq0 (by omega))) ?_
          refine ob_in (aL_ok (n := 12) (sp0 (by omega) (by omega) rfl) (lp0 (by omega) (by omega) rfl) (by omega) (by omega)) ?_
          rw [cr1 hC (by omega)]
        have g2 : ((gR 6 4 (pq p 0)).bind fun x => (aL 20 M x (nI i)).bind fun v => some v) = some (vI 2 (A p 2 i)) := by
          refine ob_in (gR_ok (x := pq p 2) (sp0 (by omega) (by omega) rfl) (rf_pq0 (by omega))) ?_
          refine ob_in (aL_ok (n := 12) (sp0 (by omega) (by omega) rfl) (lp0 (by omega) (by omega) rfl) (by omega) (by omega)) ?_
          rw [cr2 hC (by omega)]
        have g3 : ((gR 6 5 (pq p 0)).bind fun x => (aL 20 M x (nI i)).bind fun v => some v) = some (nI (A p 3 i)) := by
          refine ob_in (gR_ok (x := pq p 3) (sp0 (by omega) (by omega) rfl) (rf_pq0 (by omega))) ?_
          refine ob_in (aL_ok (n := 12) (sp0 (by omega) (by omega) rfl) (lp0 (by omega) (by omega) rfl) (by omega) (by omega)) ?_
          rw [cr3 hC (by omega)]
        have g4 : ((gR 6 6 (pq p 0)).bind fun x => (aL 20 M x (nI i)).bind fun v => some v) = some (nI (A p 4 i)) := by
          refine ob_in (gR_ok (x := pq p 4) (sp0 (by omega) (by omega) rfl) (rf_pq0 (by omega))) ?_
          refine ob_in (aL_ok (n := 12) (sp0 (by omega) (by omega) rfl) (lp0 (by omega) (by omega) rfl) (by omega) (by omega)) ?_
          rw [cr4 hC (by omega)]
        rw [g1, g2, g3, g4, ldL_ok (by omega) hC (ct_live hL) hWT hW hi, ob_some]
      have eR : ∀ k, k < 4 → fX12_lamp N (nI p) (nI i) (nI k) = some (N 1 (LX p i k)) := fun k hk => by
        unfold fX12_lamp
        rw [isLamp_ok (by omega) hP h12, ob_some, b01, if_pos (lamp_y hi h12), if_neg (fun z => by rw [li4] at z; have := (nI_eqE (by omega) (by omega)).mp z; omega), in_ok, ob_some, b01, li3, if_pos (isIn_y (by omega) (by omega)), ofLamp_ok, ob_some, s30 (LX_lt (by omega) (by omega) (by omega)), ob_some]
      rcases ic a3 4 4 rfl (by omega) with ⟨k, hk, rfl, hky⟩ | h3
      · rcases (show k = 0 ∨ k = 1 ∨ k = 2 ∨ k = 3 ∨ k = 4 by omega) with rfl | rfl | rfl | rfl | rfl
        · exact ⟨nI (A p 1 i), eC, by rw [eR 0 (by omega), rl0 hP hi]⟩
        · exact ⟨vI 2 (A p 2 i), eC, by rw [eR 1 (by omega), rl1 hP hi]⟩
        · exact ⟨nI (A p 3 i), eC, by rw [eR 2 (by omega), rl2 hP hi]⟩
        · exact ⟨nI (A p 4 i), eC, by rw [eR 3 (by omega), rl3 hP hi]⟩
        · refine ⟨nI (ldL T (A p) i), eC, ?_⟩
          unfold fX12_lamp
          rw [isLamp_ok (by omega) hP h12, ob_some, b01, if_pos (lamp_y hi h12), if_pos (show nI 4 = (4 : Int32) from rfl), ldR_ok (by omega) (rt_live hL) hP hWT hW hi, ob_some]
      · refine ⟨-2, ?_, ?_⟩
        · rw [eC, if_neg (fun z => h3 (by rw [z]; decide)), if_neg (fun z => h3 (by rw [z]; decide)), if_neg (fun z => h3 (by rw [z]; decide)), if_neg (fun z => h3 (by rw [z]; decide)), if_neg (fun z => h3 (by rw [z]; decide))]
        · unfold fX12_lamp
          rw [isLamp_ok (by omega) hP h12, ob_some, b01, if_pos (lamp_y hi h12), if_neg (fun z => h3 (by rw [z]; decide)), in_ok, ob_some, b01, if_neg (fun z => h3 ⟨z.1, Int32.le_trans z.2 (by decide)⟩)]
    · refine ⟨-1, ?_, ?_⟩
      · unfold fX11_lamp
        rw [find_ok (by omega), ob_some, caseO_some, hasLamp_ok (by omega) (cr0 hC (by omega)) hW.1.2.2, ob_some, b01, if_neg h2]
      · unfold fX12_lamp
        rw [isLamp_ok (by omega) hP h12, ob_some, b01, if_neg h2]
  · refine ⟨-1, ?_, ?_⟩
    · unfold fX11_lamp
      rw [find_bad h1, ob_some, caseO_none]
    · unfold fX12_lamp
      rw [isLamp_bad h1, ob_some, if_pos rfl]
theorem op_inCue {M N : Mem} (h : Rel M N) (a1 a2 a3 : Int32) : OKv (fX11_inCue M a1 a2 a3) (fX12_inCue N a1 a2 a3) := by
  obtain ⟨⟨T, A, hL⟩, n, hR⟩ := id h
  rcases ic a1 2 2 rfl (by omega) with ⟨p, hp, rfl, hpy⟩ | h1
  · have hC := cr_live hL (p := p) (by omega)
    have hW := wa_live hL (p := p) (by omega)
    have hP := rp_live hL (p := p) (by omega)
    have h12 : A p 0 2 ≤ 12 := hW.1.2.2
    rcases ic a2 7 7 rfl (by omega) with ⟨c, hc, rfl, hcy⟩ | h2
    · have h50 := (hW.2.2.2.2.2.2.1 c (by omega)).1
      rcases lamp_cases a3 hW.1.2.2 with ⟨i, hi, rfl⟩ | h3
      · by_cases h0 : A p 6 c = 0
        · refine ⟨-6, ?_, ?_⟩
          · unfold fX11_inCue
            rw [find_ok (by omega), ob_some, caseO_some, isCue_ok, ob_some, b01, if_pos hcy, hasLamp_ok (by omega) (cr0 hC (by omega)) h12, ob_some, b01, if_pos (lamp_y hi h12), isRec_ok (by omega) hC (by omega) h50, ob_some, if_pos h0, if_pos rfl]
          · unfold fX12_inCue
            rw [isCueR_ok, ob_some, b01, if_pos ⟨hpy, hcy⟩, isLamp_ok (by omega) hP h12, ob_some, b01, if_pos (lamp_y hi h12), ofCue_ok, ob_some, s30 (by have := CX_lt (p := p) (c := c) (i := 0) (by omega) (by omega) (by omega); omega), ob_some, rcT hP (by omega), h0]
            exact if_pos rfl
        · refine ⟨nI (A p (8 + c) i), ?_, ?_⟩
          · unfold fX11_inCue
            rw [find_ok (by omega), ob_some, caseO_some, isCue_ok, ob_some, b01, if_pos hcy, hasLamp_ok (by omega) (cr0 hC (by omega)) h12, ob_some, b01, if_pos (lamp_y hi h12), isRec_ok (by omega) hC (by omega) h50, ob_some, if_neg h0, if_neg (by decide)]
            refine ob_in (gR_ok (x := pq p 7) (sp0 (by omega) (by omega) rfl) (rf_pq0 (by omega))) ?_
            refine ob_in (aR_ok (n := 8) (sp0 (by omega) (by omega) rfl) (lp0 (by omega) (by omega) rfl) (by omega) (by omega) rf_pq7) ?_
            refine ob_in (aL_ok (n := 12) (sp0 (by omega) (by omega) (shP_c (by omega)).1) (lp0 (by omega) (by omega) (shP_c (by omega)).2) (by omega) (by omega)) ?_
            rw [cr8 hC (by omega) (by omega)]
          · unfold fX12_inCue
            rw [isCueR_ok, ob_some, b01, if_pos ⟨hpy, hcy⟩, isLamp_ok (by omega) hP h12, ob_some, b01, if_pos (lamp_y hi h12), ofCue_ok, ob_some, s30 (by have := CX_lt (p := p) (c := c) (i := 0) (by omega) (by omega) (by omega); omega), ob_some, rcT hP (by omega), if_neg (nI_ne0 (by omega) (by omega)), ob_some, li1, nI_addE, nI_addE, s30 (by have := CX_lt (p := p) (c := c) (i := 1 + i) (by omega) (by omega) (by omega); omega), ob_some, rcL hP (by omega) hi]
      · refine ⟨-1, ?_, ?_⟩
        · unfold fX11_inCue
          rw [find_ok (by omega), ob_some, caseO_some, isCue_ok, ob_some, b01, if_pos hcy, hasLamp_ok (by omega) (cr0 hC (by omega)) h12, ob_some, b01, if_neg h3]
        · unfold fX12_inCue
          rw [isCueR_ok, ob_some, b01, if_pos ⟨hpy, hcy⟩, isLamp_ok (by omega) hP h12, ob_some, b01, if_neg h3]
    · refine ⟨-1, ?_, ?_⟩
      · unfold fX11_inCue
        rw [find_ok (by omega), ob_some, caseO_some, isCue_ok, ob_some, b01, if_neg h2]
      · unfold fX12_inCue
        rw [isCueR_ok, ob_some, b01, if_neg (fun z => h2 z.2)]
  · refine ⟨-1, ?_, ?_⟩
    · unfold fX11_inCue
      rw [find_bad h1, ob_some, caseO_none]
    · unfold fX12_inCue
      rw [isCueR_ok, ob_some, b01, if_neg (fun z => h1 z.1)]
theorem byCue_ok {M N : Mem} {T : SA} {A : PA} {p c : Nat} (h : Rel M N) (hL : Live M N T A) (hp : p < 3) (hc : c < 8) : ∃ M', ((fX3_measureCue M 23 (pq p 0) (nI c) 36).bind fun M18 => (fX3_sumOfPhases M18 23).bind fun v20 => some (v20, M18)) = some (nI (cuL T (A p) c 15), M') ∧ Rel M' N ∧ KeepL M M' 24 25 := by
  have hC := cr_live hL hp
  have hW := wa_live hL hp
  obtain ⟨M1, n, e1, e2, e3, e4⟩ := mCueU_ok (L := 23) (d := 24) (g := 25) (Or.inl ⟨rfl, rfl, rfl⟩) (by omega) hc hL.2.2.1 hW hC (ct_live hL)
  refine ⟨M1, ?_, Rel_L h e2 (by omega) (by omega), e2⟩
  refine ob_in e1 ?_
  rw [← e4]
  exact ob_in (sumPh_ok (Or.inl ⟨rfl, rfl, rfl⟩) e3 hW.2.2.2.2.2.1) rfl
theorem op_cue {M N : Mem} (h : Rel M N) (a1 a2 a3 : Int32) : OKm (fX11_cue M a1 a2 a3) (fX12_cue N a1 a2 a3) N := by
  obtain ⟨⟨T, A, hL⟩, n, hR⟩ := id h
  rcases ic a1 2 2 rfl (by omega) with ⟨p, hp, rfl, hpy⟩ | h1
  · have hC := cr_live hL (p := p) (by omega)
    have hW := wa_live hL (p := p) (by omega)
    have hP := rp_live hL (p := p) (by omega)
    rcases ic a2 7 7 rfl (by omega) with ⟨c, hc, rfl, hcy⟩ | h2
    · have h50 := (hW.2.2.2.2.2.2.1 c (by omega)).1
      obtain ⟨M1, e1, e2, e3⟩ := byCue_ok (p := p) (c := c) h hL (by omega) (by omega)
      have eC : fX11_cue M (nI p) (nI c) a3 = (if a3 = 0 then some (if A p 6 c = 0 then 0 else 1, M) else if a3 = 1 then some (nI (A p 6 c), M) else if a3 = 2 then some (nI (cuL T (A p) c 15), M1) else some (-2, M)) := by
        unfold fX11_cue
        rw [find_ok (by omega), ob_some, caseO_some, isCue_ok, ob_some, b01, if_pos hcy, isRec_ok (by omega) hC (by omega) h50, ob_some, e1]
        have g1 : ((gR 6 8 (pq p 0)).bind fun x => (aL 20 M x (nI c)).bind fun v => some (v, M)) = some (nI (A p 6 c), M) := by
          refine ob_in (gR_ok (x := pq p 6) (sp0 (by omega) (by omega) rfl) (rf_pq0 (by omega))) ?_
          refine ob_in (aL_ok (n := 8) (sp0 (by omega) (by omega) rfl) (lp0 (by omega) (by omega) rfl) (by omega) (by omega)) ?_
          rw [cr6 hC (by omega)]
        rw [g1]
        congr 1
        by_cases h0 : A p 6 c = 0
        · rw [if_pos h0]
          exact if_pos rfl
        · rw [if_neg h0]
          exact if_neg (by decide)
      have eR : fX12_cue N (nI p) (nI c) a3 = (if a3 = 0 then some (if A p 6 c = 0 then 0 else 1) else if a3 = 1 then some (nI (A p 6 c)) else if a3 = 2 then some (nI (cuL T (A p) c 15)) else some (-2)) := by
        unfold fX12_cue
        rw [isCueR_ok, ob_some, b01, if_pos ⟨hpy, hcy⟩, ofCue_ok, ob_some, s30 (by have := CX_lt (p := p) (c := c) (i := 0) (by omega) (by omega) (by omega); omega), ob_some, rcT hP (by omega), show (15 : Int32) = nI 15 from rfl, loadBy_ok (by omega) (by omega) (by omega) (rt_live hL) hP hL.2.2.1 hW, ob_some]
        congr 1
        by_cases h0 : A p 6 c = 0
        · rw [if_pos h0, h0]
          exact if_pos (by decide)
        · rw [if_neg h0]
          exact if_neg (fun z => by rw [li0] at z; have := (nI_leE (by omega) (by omega)).mp z; omega)
      rw [eC, eR]
      by_cases z0 : a3 = 0
      · rw [if_pos z0, if_pos z0]
        exact ⟨_, _, rfl, rfl, h⟩
      · rw [if_neg z0, if_neg z0]
        by_cases z1 : a3 = 1
        · rw [if_pos z1, if_pos z1]
          exact ⟨_, _, rfl, rfl, h⟩
        · rw [if_neg z1, if_neg z1]
          by_cases z2 : a3 = 2
          · rw [if_pos z2, if_pos z2]
            exact ⟨_, _, rfl, rfl, e2⟩
          · rw [if_neg z2, if_neg z2]
            exact ⟨_, _, rfl, rfl, h⟩
    · refine ⟨-1, M, ?_, ?_, h⟩
      · unfold fX11_cue
        rw [find_ok (by omega), ob_some, caseO_some, isCue_ok, ob_some, b01, if_neg h2]
      · unfold fX12_cue
        rw [isCueR_ok, ob_some, b01, if_neg (fun z => h2 z.2)]
  · refine ⟨-1, M, ?_, ?_, h⟩
    · unfold fX11_cue
      rw [find_bad h1, ob_some, caseO_none]
    · unfold fX12_cue
      rw [isCueR_ok, ob_some, b01, if_neg (fun z => h1 z.1)]
