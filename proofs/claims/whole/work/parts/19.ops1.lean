/-! patch, feed, days, set, type -/
theorem ic (a b : Int32) (k : Nat) (hb : b = nI k) (hk : k < 2 ^ 31 - 1) : (∃ n, n ≤ k ∧ a = nI n ∧ (0 ≤ a ∧ a ≤ b)) ∨ ¬ (0 ≤ a ∧ a ≤ b) := by
  subst hb
  rcases i32_cases a k hk with ⟨n, h1, h2⟩ | h
  · exact Or.inl ⟨n, h1, h2, by rw [h2]; exact isIn_y h1 (by omega)⟩
  · exact Or.inr h
theorem lt1_eq {α β : Type} (x : α) (f : α → Option β) : lt1 x f = f x := rfl
theorem at1_0 (p : Nat) : fX12_at1 (nI p) 0 = some (nI (AX p 0)) := at1_ok p 0
theorem at1_1 (p : Nat) : fX12_at1 (nI p) 1 = some (nI (AX p 1)) := at1_ok p 1
theorem at1_2 (p : Nat) : fX12_at1 (nI p) 2 = some (nI (AX p 2)) := at1_ok p 2
theorem at1_221 (p : Nat) : fX12_at1 (nI p) 221 = some (nI (AX p 221)) := at1_ok p 221
theorem at1_222 (p : Nat) : fX12_at1 (nI p) 222 = some (nI (AX p 222)) := at1_ok p 222
theorem ol0 (p i : Nat) : fX12_ofLamp (nI p) (nI i) 0 = some (nI (LX p i 0)) := ofLamp_ok p i 0
theorem ol1 (p i : Nat) : fX12_ofLamp (nI p) (nI i) 1 = some (nI (LX p i 1)) := ofLamp_ok p i 1
theorem ol2 (p i : Nat) : fX12_ofLamp (nI p) (nI i) 2 = some (nI (LX p i 2)) := ofLamp_ok p i 2
theorem ol3 (p i : Nat) : fX12_ofLamp (nI p) (nI i) 3 = some (nI (LX p i 3)) := ofLamp_ok p i 3
theorem ol4 (p i : Nat) : fX12_ofLamp (nI p) (nI i) 4 = some (nI (LX p i 4)) := ofLamp_ok p i 4
theorem ol5 (p i : Nat) : fX12_ofLamp (nI p) (nI i) 5 = some (nI (LX p i 5)) := ofLamp_ok p i 5
theorem neg6_in {k : Nat} : ¬ ((0 : Int32) ≤ -6 ∧ (-6 : Int32) ≤ nI k) := fun z => absurd z.1 (by decide)
theorem nI_n6 {k : Nat} (h : k < 100) : ¬ nI k = -6 := by
  intro z
  have := congrArg Int32.toInt z
  rw [nI_toInt (by omega)] at this
  have e : (-6 : Int32).toInt = -6 := by decide
  rw [e] at this
  omega
theorem sp0 {p o : Nat} (hp : p < 28) (ho : o < 23) {t : Nat} (h : shP o = t) : shp (pq p o) = t := by rw [shp_pq hp ho]; exact h
theorem lp0 {p o : Nat} (hp : p < 28) (ho : o < 23) {t : Nat} (h : lnP o = t) : ln (pq p o) = t := by rw [ln_pq hp ho]; exact h
theorem op_patch {M N : Mem} (h : Rel M N) (a1 a2 a3 : Int32) : OK (fX11_patch M a1 a2 a3) (fX12_patch N a1 a2 a3) := by
  obtain ⟨⟨T, A, hL⟩, n, hR⟩ := id h
  rcases ic a1 2 2 rfl (by omega) with ⟨p, hp, rfl, hpy⟩ | h1
  · have hC := cr_live hL (p := p) (by omega)
    have hW := wa_live hL (p := p) (by omega)
    have hP := rp_live hL (p := p) (by omega)
    have h12 : A p 0 2 ≤ 12 := hW.1.2.2
    rcases lamp_cases a2 hW.1.2.2 with ⟨i, hi, rfl⟩ | h2
    · have key : (∃ v, v ≤ 12 ∧ a3 = vI 2 v ∧ (a3 = -6 ∨ (0 ≤ a3 ∧ a3 ≤ 11))) ∨ ¬ (a3 = -6 ∨ (0 ≤ a3 ∧ a3 ≤ 11)) := by
        by_cases h6 : a3 = -6
        · exact Or.inl ⟨12, by omega, by rw [vI_none, h6], Or.inl h6⟩
        · rcases ic a3 11 11 rfl (by omega) with ⟨d, hd, rfl, hdy⟩ | h3
          · exact Or.inl ⟨d, by omega, (vI_2 (by omega)).symm, Or.inr hdy⟩
          · exact Or.inr (fun z => z.elim h6 h3)
      rcases key with ⟨v, hv, hx, hok⟩ | h3
      · obtain ⟨M1, e1, e2, hL1, hR1⟩ := push_know hL hR
        have hC1 := cr_live hL1 (p := p) (by omega)
        have hP1 := rp_live hL1 (p := p) (by omega)
        refine OK_in (r := vI 2 (A p 2 i)) (M := up2 M1 (pq p 2) i a3) (N := up2 (knN N n) 1 (LX p i 1) a3) ?_ ?_ (fin_p hL1 hR1 (p := p) (B := upA (A p) 2 i v) (by omega) (fun x hx _ => up2_ne (hx 2 (by omega))) (CRel_up hC1 (by omega) hx) (fun k hk => N1_ne (by unfold LX; unfold PB at hk; omega)) KeepN_1 (by rw [up2_row]; exact RP_l1 hP1 hW.1.2.2 (by omega) hx) (WA_l hW hi (Or.inl ⟨rfl, hv⟩)))
        · unfold fX11_patch
          rw [find_ok (by omega), ob_some, caseO_some, hasLamp_ok (by omega) (cr0 hC (by omega)) hW.1.2.2, ob_some, b01, if_pos (lamp_y hi hW.1.2.2), dimOrNone_ok, ob_some, b01, if_pos hok, e1, ob_some]
          refine ob_in (gR_ok (x := pq p 2) (sp0 (by omega) (by omega) rfl) (rf_pq0 (by omega))) ?_
          refine ob_in (aL_ok (n := 12) (sp0 (by omega) (by omega) rfl) (lp0 (by omega) (by omega) rfl) (by omega) (by omega)) ?_
          refine ob_in (gR_ok (x := pq p 2) (sp0 (by omega) (by omega) rfl) (rf_pq0 (by omega))) ?_
          refine ob_in (aS_ok (n := 12) (sp0 (by omega) (by omega) rfl) (lp0 (by omega) (by omega) rfl) (by omega) (by omega)) ?_
          rw [cr2 hC1 (by omega)]
        · unfold fX12_patch
          rw [isLamp_ok (by omega) hP hW.1.2.2, ob_some, b01, if_pos (lamp_y hi hW.1.2.2)]
          have e3 : ∀ z : Option (Int32 × Mem), (fX12_know N).bind (fun M6 => (fX12_ofLamp (nI p) (nI i) 1).bind fun v8 => (aL 30 M6 1 v8).bind fun v9 => (fX12_ofLamp (nI p) (nI i) 1).bind fun v12 => (aS 30 M6 1 v12 a3).bind fun M13 => some (v9, M13)) = some (vI 2 (A p 2 i), up2 (knN N n) 1 (LX p i 1) a3) := fun _ => by
            rw [e2, ob_some, ol1, ob_some, s30 (LX_lt (by omega) (by omega) (by omega)), ob_some, ob_some, w30 (LX_lt (by omega) (by omega) (by omega)), ob_some, rl1 hP1 hi]
          by_cases h6 : a3 = -6
          · rw [if_pos h6, e3 none]
          · rw [if_neg h6, isDimR_ok, ob_some, b01, if_pos (hok.resolve_left h6), e3 none]
      · refine OK_er (r := -1) h ?_ ?_
        · unfold fX11_patch
          rw [find_ok (by omega), ob_some, caseO_some, hasLamp_ok (by omega) (cr0 hC (by omega)) hW.1.2.2, ob_some, b01, if_pos (lamp_y hi hW.1.2.2), dimOrNone_ok, ob_some, b01, if_neg h3]
        · unfold fX12_patch
          rw [isLamp_ok (by omega) hP hW.1.2.2, ob_some, b01, if_pos (lamp_y hi hW.1.2.2), if_neg (fun z => h3 (Or.inl z)), isDimR_ok, ob_some, b01, if_neg (fun z => h3 (Or.inr z))]
    · refine OK_er (r := -1) h ?_ ?_
      · unfold fX11_patch
        rw [find_ok (by omega), ob_some, caseO_some, hasLamp_ok (by omega) (cr0 hC (by omega)) hW.1.2.2, ob_some, b01, if_neg h2]
      · unfold fX12_patch
        rw [isLamp_ok (by omega) hP hW.1.2.2, ob_some, b01, if_neg h2]
  · refine OK_er (r := -1) h ?_ ?_
    · unfold fX11_patch
      rw [find_bad h1, ob_some, caseO_none]
    · unfold fX12_patch
      rw [isLamp_bad h1, ob_some, if_pos rfl]
theorem WA_5 {told d v : Nat} {A : SA} (h : WA told A) (hv : v < 3) : WA told (upA A 5 d v) := by
  obtain ⟨h1, h2, h3, h4, h5, h6, h7, h8, h9, h10, h11, h12, h13, h14⟩ := h
  refine ⟨by simpa [upA] using h1, by simpa [upA] using h2, by simpa [upA] using h3, by simpa [upA] using h4, fun j hj1 hj2 => ?_, fun j hj => ?_, fun c hc => ⟨by simpa [upA] using (h7 c hc).1, fun j hj => ?_⟩, by simpa [upA] using h8, by simpa [upA] using h9, by simpa [upA] using h10, by simpa [upA] using h11, by simpa [upA] using h12, by simpa [upA] using h13, by simpa [upA] using h14⟩
  · have := h5 j (by simpa [upA] using hj1) hj2
    refine ⟨by simpa [upA] using this.1, by simpa [upA] using this.2.1, by simpa [upA] using this.2.2.1, by simpa [upA] using this.2.2.2.1, fun c hc => ?_⟩
    unfold upA
    rw [if_neg (by omega)]
    exact this.2.2.2.2 c hc
  · unfold upA
    split
    · exact hv
    · exact h6 j hj
  · unfold upA
    rw [if_neg (by omega)]
    exact (h7 c hc).2 j hj
theorem op_feed {M N : Mem} (h : Rel M N) (a1 a2 a3 : Int32) : OK (fX11_feed M a1 a2 a3) (fX12_feed N a1 a2 a3) := by
  obtain ⟨⟨T, A, hL⟩, n, hR⟩ := id h
  rcases ic a1 2 2 rfl (by omega) with ⟨p, hp, rfl, hpy⟩ | h1
  · have hW := wa_live hL (p := p) (by omega)
    rcases ic a2 11 11 rfl (by omega) with ⟨d, hd, rfl, hdy⟩ | h2
    · rcases ic a3 2 2 rfl (by omega) with ⟨v, hv, rfl, hvy⟩ | h3
      · obtain ⟨M1, e1, e2, hL1, hR1⟩ := push_know hL hR
        have hC1 := cr_live hL1 (p := p) (by omega)
        have hP1 := rp_live hL1 (p := p) (by omega)
        refine OK_in (r := nI (A p 5 d)) (M := up2 M1 (pq p 5) d (nI v)) (N := up2 (knN N n) 1 (AX p (75 + d)) (nI v)) ?_ ?_ (fin_p hL1 hR1 (p := p) (B := upA (A p) 5 d v) (by omega) (fun x hx _ => up2_ne (hx 5 (by omega))) (CRel_up hC1 (by omega) (vI_n (by omega)).symm) (fun k hk => N1_ne (by unfold AX; unfold PB at hk; omega)) KeepN_1 (by rw [up2_row]; exact RP_ph hP1 hW.1.2.2 (by omega) rfl) (WA_5 hW (by omega)))
        · unfold fX11_feed
          rw [find_ok (by omega), ob_some, caseO_some, isDimmer_ok, ob_some, b01, if_pos hdy, isPhase_ok, ob_some, b01, if_pos hvy, e1, ob_some]
          refine ob_in (gR_ok (x := pq p 5) (sp0 (by omega) (by omega) rfl) (rf_pq0 (by omega))) ?_
          refine ob_in (aL_ok (n := 12) (sp0 (by omega) (by omega) rfl) (lp0 (by omega) (by omega) rfl) (by omega) (by omega)) ?_
          refine ob_in (gR_ok (x := pq p 5) (sp0 (by omega) (by omega) rfl) (rf_pq0 (by omega))) ?_
          refine ob_in (aS_ok (n := 12) (sp0 (by omega) (by omega) rfl) (lp0 (by omega) (by omega) rfl) (by omega) (by omega)) ?_
          rw [cr5 hC1 (by omega)]
        · unfold fX12_feed
          rw [isPrem_ok, ob_some, b01, if_pos hpy, isDimR_ok, ob_some, b01, if_pos hdy, in_ok, ob_some, b01, if_pos hvy, e2, ob_some, li75, nI_addE, at1_ok, ob_some, s30 (AX_lt (by omega) (by omega)), ob_some, ob_some, w30 (AX_lt (by omega) (by omega)), ob_some, ra75 hP1 (by omega)]
      · refine OK_er (r := -1) h ?_ ?_
        · unfold fX11_feed
          rw [find_ok (by omega), ob_some, caseO_some, isDimmer_ok, ob_some, b01, if_pos hdy, isPhase_ok, ob_some, b01, if_neg h3]
        · unfold fX12_feed
          rw [isPrem_ok, ob_some, b01, if_pos hpy, isDimR_ok, ob_some, b01, if_pos hdy, in_ok, ob_some, b01, if_neg h3]
    · refine OK_er (r := -1) h ?_ ?_
      · unfold fX11_feed
        rw [find_ok (by omega), ob_some, caseO_some, isDimmer_ok, ob_some, b01, if_neg h2]
      · unfold fX12_feed
        rw [isPrem_ok, ob_some, b01, if_pos hpy, isDimR_ok, ob_some, b01, if_neg h2]
  · refine OK_er (r := -1) h ?_ ?_
    · unfold fX11_feed
      rw [find_bad h1, ob_some, caseO_none]
    · unfold fX12_feed
      rw [isPrem_ok, ob_some, b01, if_neg h1]
theorem WA_0 {told d v : Nat} {A : SA} (h : WA told A) (hd : d < 2) (hv : v ≤ 6) : WA told (upA A 0 d v) := by
  obtain ⟨h1, h2, h3, h4, h5, h6, h7, h8, h9, h10, h11, h12, h13, h14⟩ := h
  have e : upA A 0 d v 0 2 = A 0 2 := by unfold upA; rw [if_neg (by omega)]
  refine ⟨⟨?_, ?_, by rw [e]; exact h1.2.2⟩, fun j hj => ?_, by simpa [upA] using h3, by simpa [upA] using h4, fun j hj1 hj2 => ?_, by simpa [upA] using h6, fun c hc => ⟨by simpa [upA] using (h7 c hc).1, fun j hj => ?_⟩, by simpa [upA] using h8, by simpa [upA] using h9, by simpa [upA] using h10, by simpa [upA] using h11, by simpa [upA] using h12, by simpa [upA] using h13, by simpa [upA] using h14⟩
  · unfold upA
    split
    · exact hv
    · exact h1.1
  · unfold upA
    split
    · exact hv
    · exact h1.2.1
  · rw [e] at hj
    simpa [upA] using h2 j hj
  · rw [e] at hj1
    have := h5 j hj1 hj2
    refine ⟨by simpa [upA] using this.1, by simpa [upA] using this.2.1, by simpa [upA] using this.2.2.1, by simpa [upA] using this.2.2.2.1, fun c hc => ?_⟩
    unfold upA
    rw [if_neg (by omega)]
    exact this.2.2.2.2 c hc
  · unfold upA
    rw [if_neg (by omega)]
    exact (h7 c hc).2 j hj
theorem areDays_ok (a b : Int32) : fX11_areDays a b = some (if (0 ≤ a ∧ a ≤ 6) ∧ (a ≤ b ∧ b ≤ 6) then 1 else 0) := by
  unfold fX11_areDays
  rw [isIn_ok, ob_some, b01]
  by_cases h : 0 ≤ a ∧ a ≤ 6
  · rw [if_pos h, isIn_ok, ob_some, b01]
    by_cases h2 : a ≤ b ∧ b ≤ 6
    · rw [if_pos h2, if_pos ⟨h, h2⟩]
    · rw [if_neg h2, if_neg (fun z => h2 z.2)]
  · rw [if_neg h, if_neg (fun z => h z.1)]
theorem days_cases (a b : Int32) : (∃ f g, f ≤ g ∧ g ≤ 6 ∧ a = nI f ∧ b = nI g) ∨ ¬ ((0 ≤ a ∧ a ≤ 6) ∧ (a ≤ b ∧ b ≤ 6)) := by
  rcases ic a 6 6 rfl (by omega) with ⟨f, hf, rfl, _⟩ | h1
  · rcases ic b 6 6 rfl (by omega) with ⟨g, hg, rfl, _⟩ | h2
    · by_cases hfg : f ≤ g
      · exact Or.inl ⟨f, g, hfg, hg, rfl, rfl⟩
      · exact Or.inr (fun z => hfg ((nI_leE (by omega) (by omega)).mp z.2.1))
    · exact Or.inr (fun z => h2 ⟨Int32.le_trans z.1.1 z.2.1, z.2.2⟩)
  · exact Or.inr (fun z => h1 z.1)
theorem days_y {f g : Nat} (h : f ≤ g) (hg : g ≤ 6) : ((0 : Int32) ≤ nI f ∧ nI f ≤ 6) ∧ (nI f ≤ nI g ∧ nI g ≤ 6) := ⟨isIn_y (k := 6) (by omega) (by omega), nI_le h (by omega), nI_le (b := 6) hg (by omega)⟩
theorem op_days {M N : Mem} (h : Rel M N) (a1 a2 a3 : Int32) : OK (fX11_days M a1 a2 a3) (fX12_days N a1 a2 a3) := by
  obtain ⟨⟨T, A, hL⟩, n, hR⟩ := id h
  rcases ic a1 2 2 rfl (by omega) with ⟨p, hp, rfl, hpy⟩ | h1
  · have hW := wa_live hL (p := p) (by omega)
    rcases days_cases a2 a3 with ⟨f, g, hfg, hg, rfl, rfl⟩ | h2
    · have hd := days_y hfg hg
      obtain ⟨M1, e1, e2, hL1, hR1⟩ := push_know hL hR
      have hC1 := cr_live hL1 (p := p) (by omega)
      have hP1 := rp_live hL1 (p := p) (by omega)
      have e12 : upA (A p) 0 0 f 0 2 ≤ 12 := hW.1.2.2
      refine OK_in (r := nI (A p 0 1) - nI (A p 0 0) + 1) (M := up2 (up2 M1 (pq p 0) 0 (nI f)) (pq p 0) 1 (nI g)) (N := up2 (up2 (knN N n) 1 (AX p 0) (nI f)) 1 (AX p 1) (nI g)) ?_ ?_ (fin_p hL1 hR1 (p := p) (B := upA (upA (A p) 0 0 f) 0 1 g) (by omega) (fun x hx _ => by rw [up2_ne (hx 0 (by omega)), up2_ne (hx 0 (by omega))]) (CRel_up (CRel_up hC1 (by omega) (vI_n (by omega)).symm) (by omega) (vI_n (by omega)).symm) (fun k hk => by rw [N1_ne (by unfold AX; unfold PB at hk; omega), N1_ne (by unfold AX; unfold PB at hk; omega)]) (KeepN_1.tr KeepN_1) (by rw [up2_row, up2_row]; exact RP_fl (RP_fl hP1 hW.1.2.2 (by omega) rfl) e12 (by omega) rfl) (WA_0 (WA_0 hW (by omega) (by omega)) (by omega) (by omega)))
      · unfold fX11_days
        rw [find_ok (by omega), ob_some, caseO_some, areDays_ok, ob_some, b01, if_pos hd, e1, ob_some]
        refine ob_in (gI_ok (sp0 (by omega) (by omega) rfl)) ?_
        refine ob_in (gI_ok (sp0 (by omega) (by omega) rfl)) ?_
        unfold lt1
        refine ob_in (pI_ok (sp0 (by omega) (by omega) rfl)) ?_
        refine ob_in (pI_ok (sp0 (by omega) (by omega) rfl)) ?_
        rw [cr0 hC1 (by omega), cr0 hC1 (by omega)]
      · unfold fX12_days
        rw [isPrem_ok, ob_some, b01, if_pos hpy, in_ok, ob_some, b01, if_pos hd.1, in_ok, ob_some, b01, if_pos hd.2, e2, ob_some, at1_1, ob_some, s30 (AX_lt (by omega) (by omega)), ob_some, at1_0, ob_some, s30 (AX_lt (by omega) (by omega)), ob_some, lt1_eq, ob_some, w30 (AX_lt (by omega) (by omega)), ob_some, ob_some, w30 (AX_lt (by omega) (by omega)), ob_some, ra0 hP1 (by omega), ra0 hP1 (by omega)]
    · refine OK_er (r := -2) h ?_ ?_
      · unfold fX11_days
        rw [find_ok (by omega), ob_some, caseO_some, areDays_ok, ob_some, b01, if_neg h2]
      · unfold fX12_days
        rw [isPrem_ok, ob_some, b01, if_pos hpy, in_ok, ob_some, b01]
        by_cases h3 : 0 ≤ a2 ∧ a2 ≤ 6
        · rw [if_pos h3, in_ok, ob_some, b01, if_neg (fun z => h2 ⟨h3, z⟩)]
        · rw [if_neg h3]
  · refine OK_er (r := -1) h ?_ ?_
    · unfold fX11_days
      rw [find_bad h1, ob_some, caseO_none]
    · unfold fX12_days
      rw [isPrem_ok, ob_some, b01, if_neg h1]
/-- the state's own numbers anew -/
theorem fin_t {M N M' N' : Mem} {T T' : SA} {A : PA} {n : Nat} (hL : Live M N T A) (hR : Rst M N n) (hM : ∀ x, (∀ o, o < 7 → x ≠ st 0 o) → KX x → M' x = M x) (hC : CT M' 0 T') (hN : ∀ k, 22 ≤ k → N' 1 k = N 1 k) (hK : KeepN N N') (hRT : RT (N' 1) T') (hW : WT T') (hW2 : T 2 0 ≤ T' 2 0) : Live M' N' T' A ∧ Rst M' N' n := by
  obtain ⟨⟨h1, h2⟩, ⟨h3, h4⟩, h5, h6⟩ := hL
  refine ⟨⟨⟨hC, fun p' hp' => CRel_congr (h2 p' hp') (fun o ho => hM _ (fun o' ho' => by unfold st pq; omega) (Or.inr (Or.inr (by unfold pq; omega))))⟩, ⟨hRT, fun p' hp' => RP_congr (h4 p' hp') (h6 p' hp').1.2.2 (fun k hk1 hk2 => hN k (by unfold PB at hk1; omega))⟩, hW, fun p' hp' => ?_⟩, Rst_keep hR (fun x hx => hM x (fun o ho z => (KM_st ho) (z ▸ hx)) (Or.inl hx)) hK⟩
  obtain ⟨a1, a2, a3⟩ := h6 p' hp'
  exact ⟨a1, fun i hi => by have := a2 i hi; omega, a3⟩
theorem CT_upNe {M : Mem} {b i j : Nat} {T : SA} {x : Int32} (h : CT M b T) (hi : ∀ o, o < 7 → st b o ≠ i) : CT (up2 M i j x) b T := CT_congr h (fun o ho => up2_ne (hi o ho))
theorem set_cases (a b : Int32) : (∃ k v, k < 3 ∧ a = nI k ∧ b = nI v ∧ sta 1 k ≤ b ∧ b ≤ sta 2 k ∧ ((k = 0 ∧ 500 ≤ v ∧ v ≤ 6000) ∨ (k = 1 ∧ 1000 ≤ v ∧ v ≤ 20000) ∨ (k = 2 ∧ 1 ≤ v ∧ v ≤ 20))) ∨ (∃ k, k < 3 ∧ a = nI k ∧ ¬ (sta 1 k ≤ b ∧ b ≤ sta 2 k)) ∨ ¬ (0 ≤ a ∧ a ≤ 2) := by
  rcases ic a 2 2 rfl (by omega) with ⟨k, hk, rfl, _⟩ | h1
  · by_cases h : sta 1 k ≤ b ∧ b ≤ sta 2 k
    · refine Or.inl ?_
      rcases (show k = 0 ∨ k = 1 ∨ k = 2 by omega) with rfl | rfl | rfl
      · obtain ⟨v, hv, rfl, hvy⟩ := (ic b 6000 6000 rfl (by omega)).resolve_right (fun z => z ⟨Int32.le_trans (by decide) h.1, h.2⟩)
        refine ⟨0, v, by omega, rfl, rfl, h.1, h.2, Or.inl ⟨rfl, ?_, hv⟩⟩
        exact (nI_leE (a := 500) (by omega) (by omega)).mp h.1
      · obtain ⟨v, hv, rfl, hvy⟩ := (ic b 20000 20000 rfl (by omega)).resolve_right (fun z => z ⟨Int32.le_trans (by decide) h.1, h.2⟩)
        refine ⟨1, v, by omega, rfl, rfl, h.1, h.2, Or.inr (Or.inl ⟨rfl, ?_, hv⟩)⟩
        exact (nI_leE (a := 1000) (by omega) (by omega)).mp h.1
      · obtain ⟨v, hv, rfl, hvy⟩ := (ic b 20 20 rfl (by omega)).resolve_right (fun z => z ⟨Int32.le_trans (by decide) h.1, h.2⟩)
        refine ⟨2, v, by omega, rfl, rfl, h.1, h.2, Or.inr (Or.inr ⟨rfl, ?_, hv⟩)⟩
        exact (nI_leE (a := 1) (by omega) (by omega)).mp h.1
    · exact Or.inr (Or.inl ⟨k, by omega, rfl, h⟩)
  · exact Or.inr (Or.inr h1)
theorem sL_ok2 {t k : Nat} (h : k < 3) : sL t (nI k) = some (sta t k) := by
  unfold sL
  rw [if_pos (oob_nI h (by omega)), nI_cl (by omega)]
theorem setR_lim {k : Nat} {α : Type} (h : k < 3) (f : Int32 → Int32 → Option α) : ((if nI k = 0 then some (500 : Int32) else if nI k = 1 then some (1000 : Int32) else some (1 : Int32)).bind fun v1 => (if nI k = 0 then some (6000 : Int32) else if nI k = 1 then some (20000 : Int32) else some (20 : Int32)).bind fun v4 => f v1 v4) = f (sta 1 k) (sta 2 k) := by
  rcases (show k = 0 ∨ k = 1 ∨ k = 2 by omega) with rfl | rfl | rfl <;> rfl
theorem op_set {M N : Mem} (h : Rel M N) (a1 a2 : Int32) : OK (fX11_set M a1 a2) (fX12_set N a1 a2) := by
  obtain ⟨⟨T, A, hL⟩, n, hR⟩ := id h
  have e31 : (3 - 1 : Int32) = 2 := by decide
  rcases set_cases a1 a2 with ⟨k, v, hk, rfl, rfl, l1, l2, hv⟩ | ⟨k, hk, rfl, h2⟩ | h1
  · have hky : (0 : Int32) ≤ nI k ∧ nI k ≤ 2 := isIn_y (k := 2) (by omega) (by omega)
    obtain ⟨M1, e1, e2, hL1, hR1⟩ := push_know hL hR
    have hT1 := ct_live hL1
    have hRT1 : RT (knN N n 1) T := hL1.2.1.1
    have hWT := hL.2.2.1
    refine OK_in (r := nI (T 1 k)) (M := up2 M1 (st 0 1) k (nI v)) (N := up2 (knN N n) 1 k (nI v)) ?_ ?_ (fin_t (T' := upA T 1 k v) hL1 hR1 (fun x hx _ => up2_ne (hx 1 (by omega))) (CT_up hT1 (by omega)) (fun q hq => N1_ne (by omega)) KeepN_1 ?_ ?_ ?_)
    · unfold fX11_set
      rw [isIn_ok, ob_some, b01, e31, if_pos hky, sL_ok2 hk, ob_some, sL_ok2 hk, ob_some, isIn_ok, ob_some, b01, if_pos ⟨l1, l2⟩, e1, ob_some]
      refine ob_in (aL_ok (n := 3) rfl rfl hk (by omega)) ?_
      refine ob_in (aS_ok (n := 3) rfl rfl hk (by omega)) ?_
      rw [show (35 : Nat) = st 0 1 from rfl, ct1 hT1 hk]
    · unfold fX12_set
      rw [setR_lim hk, in_ok, ob_some, b01, if_pos hky, in_ok, ob_some, b01, if_pos ⟨l1, l2⟩, e2, ob_some, li0, nI_addE, Nat.zero_add, s30 (by omega), ob_some, w30 (by omega), ob_some, hRT1.1 k hk]
    · rw [up2_row]
      obtain ⟨b1, b2, b3⟩ := hRT1
      refine ⟨fun j hj => ?_, ?_, fun t ht => ?_⟩
      · by_cases hjk : j = k
        · subst hjk
          rw [upd_eq]
          simp [upA]
        · rw [upd_ne hjk, b1 j hj]
          simp [upA, hjk]
      · rw [upd_ne (by omega), b2]
        simp [upA]
      · rw [upd_ne (by omega), upd_ne (by omega), upd_ne (by omega)]
        simpa [upA] using b3 t ht
    · obtain ⟨w1, w2, w3, w4, w5⟩ := hWT
      rcases hv with ⟨rfl, g1, g2⟩ | ⟨rfl, g1, g2⟩ | ⟨rfl, g1, g2⟩
      · exact ⟨by simp [upA]; omega, by simpa [upA] using w2, by simpa [upA] using w3, by simpa [upA] using w4, by simpa [upA] using w5⟩
      · exact ⟨by simpa [upA] using w1, by simp [upA]; omega, by simpa [upA] using w3, by simpa [upA] using w4, by simpa [upA] using w5⟩
      · exact ⟨by simpa [upA] using w1, by simpa [upA] using w2, by simp [upA]; omega, by simpa [upA] using w4, by simpa [upA] using w5⟩
    · simp [upA]
  · have hky : (0 : Int32) ≤ nI k ∧ nI k ≤ 2 := isIn_y (k := 2) (by omega) (by omega)
    refine OK_er (r := -2) h ?_ ?_
    · unfold fX11_set
      rw [isIn_ok, ob_some, b01, e31, if_pos hky, sL_ok2 hk, ob_some, sL_ok2 hk, ob_some, isIn_ok, ob_some, b01, if_neg h2]
    · unfold fX12_set
      rw [setR_lim hk, in_ok, ob_some, b01, if_pos hky, in_ok, ob_some, b01, if_neg h2]
  · refine OK_er (r := -2) h ?_ ?_
    · unfold fX11_set
      rw [isIn_ok, ob_some, b01, e31, if_neg h1]
    · unfold fX12_set
      have e : ∀ x : Option Int32, (∃ v, x = some v) → ∀ f : Int32 → Option (Int32 × Mem), (∀ v, f v = some (-2, N)) → x.bind f = some (-2, N) := fun x hx f hf => by
        obtain ⟨v, rfl⟩ := hx
        exact hf v
      refine e _ (by split; exact ⟨_, rfl⟩; split <;> exact ⟨_, rfl⟩) _ (fun v => ?_)
      refine e _ (by split; exact ⟨_, rfl⟩; split <;> exact ⟨_, rfl⟩) _ (fun w => ?_)
      rw [in_ok, ob_some, b01, if_neg h1]
theorem op_type {M N : Mem} (h : Rel M N) (a1 a2 a3 : Int32) : OK (fX11_type M a1 a2 a3) (fX12_type N a1 a2 a3) := by
  obtain ⟨⟨T, A, hL⟩, n, hR⟩ := id h
  have hWT := hL.2.2.1
  have hT := ct_live hL
  have hRT : RT (N 1) T := hL.2.1.1
  by_cases h1 : 100 ≤ a1 ∧ a1 ≤ 2000
  · obtain ⟨w, hw, rfl, _⟩ := (ic a1 2000 2000 rfl (by omega)).resolve_right (fun z => z ⟨Int32.le_trans (by decide) h1.1, h1.2⟩)
    rcases ic a2 20 20 rfl (by omega) with ⟨k, hk, rfl, hky⟩ | h2
    · rcases ic a3 50 50 rfl (by omega) with ⟨c, hc, rfl, hcy⟩ | h3
      · by_cases h6 : T 2 0 = 6
        · refine OK_er (r := -4) h ?_ ?_
          · unfold fX11_type
            rw [isIn_ok, ob_some, b01, if_pos h1, isIn_ok, ob_some, b01, if_pos hky, isIn_ok, ob_some, b01, if_pos hcy]
            have e : fX9_isFull M 36 = some 1 := by
              unfold fX9_isFull
              rw [if_pos (show shp 36 = 9 from rfl)]
              refine ob_in (gI_ok rfl) ?_
              rw [show (36 : Nat) = st 0 2 from rfl, ct2 hT, h6]
              rfl
            rw [e, ob_some]
            rfl
          · unfold fX12_type
            rw [in_ok, ob_some, b01, if_pos h1, in_ok, ob_some, b01, if_pos hky, in_ok, ob_some, b01, if_pos hcy, li3, s30 (by omega), ob_some, hRT.2.1, h6]
            rfl
        · obtain ⟨M1, e1, e2, hL1, hR1⟩ := push_know hL hR
          have hT1 := ct_live hL1
          have hRT1 : RT (knN N n 1) T := hL1.2.1.1
          have ht : T 2 0 < 6 := by have := hWT.2.2.2.1; omega
          have eF : ∀ M, CT M 0 T → fX9_isFull M 36 = some 0 := fun M hM => by
            unfold fX9_isFull
            rw [if_pos (show shp 36 = 9 from rfl)]
            refine ob_in (gI_ok rfl) ?_
            rw [show (36 : Nat) = st 0 2 from rfl, ct2 hM, li6, if_pos (nI_lt ht (by omega))]
          refine OK_in (r := nI (T 2 0)) (M := up2 (up2 (up2 (up2 M1 (st 0 2) 0 (nI (T 2 0 + 1))) (st 0 3) (T 2 0) (nI w)) (st 0 4) (T 2 0) (nI k)) (st 0 5) (T 2 0) (nI c)) (N := up2 (up2 (up2 (up2 (knN N n) 1 (4 + 3 * T 2 0) (nI w)) 1 (5 + 3 * T 2 0) (nI k)) 1 (6 + 3 * T 2 0) (nI c)) 1 3 (nI (T 2 0 + 1))) ?_ ?_
            (fin_t (T' := upA (upA (upA (upA T 2 0 (T 2 0 + 1)) 3 (T 2 0) w) 4 (T 2 0) k) 5 (T 2 0) c) hL1 hR1 (fun x hx _ => by rw [up2_ne (hx 5 (by omega)), up2_ne (hx 4 (by omega)), up2_ne (hx 3 (by omega)), up2_ne (hx 2 (by omega))]) (CT_up (CT_up (CT_up (CT_up hT1 (by omega)) (by omega)) (by omega)) (by omega)) (fun q hq => by rw [N1_ne (by omega), N1_ne (by omega), N1_ne (by omega), N1_ne (by omega)]) (((KeepN_1.tr KeepN_1).tr KeepN_1).tr KeepN_1) ?_ ?_ ?_)
          · unfold fX11_type
            rw [isIn_ok, ob_some, b01, if_pos h1, isIn_ok, ob_some, b01, if_pos hky, isIn_ok, ob_some, b01, if_pos hcy, eF M hT, ob_some, if_pos rfl, e1, ob_some]
            unfold fX9_add
            rw [if_pos (show shp 36 = 9 from rfl), eF M1 hT1, ob_some, if_pos rfl]
            refine ob2_in (a := nI (T 2 0)) (b := up2 (up2 (up2 (up2 M1 (st 0 2) 0 (nI (T 2 0 + 1))) (st 0 3) (T 2 0) (nI w)) (st 0 4) (T 2 0) (nI k)) (st 0 5) (T 2 0) (nI c)) ?_ rfl
            refine ob_in (gI_ok rfl) ?_
            refine ob_in (pI_ok rfl) ?_
            rw [show (36 : Nat) = st 0 2 from rfl, ct2 hT1, li1, nI_addE]
            refine ob_in (gR_ok (x := st 0 3) rfl rfl) ?_
            refine ob_in (aS_ok (n := 6) rfl rfl ht (by omega)) ?_
            refine ob_in (gR_ok (x := st 0 4) rfl rfl) ?_
            refine ob_in (aS_ok (n := 6) rfl rfl ht (by omega)) ?_
            refine ob_in (gR_ok (x := st 0 5) rfl rfl) ?_
            refine ob_in (aS_ok (n := 6) rfl rfl ht (by omega)) ?_
            rfl
          · unfold fX12_type
            rw [in_ok, ob_some, b01, if_pos h1, in_ok, ob_some, b01, if_pos hky, in_ok, ob_some, b01, if_pos hcy, li3, s30 (by omega), ob_some, hRT.2.1, li6, if_neg (fun z => h6 ((nI_eqE (by omega) (by omega)).mp z)), e2, ob_some, s30 (by omega), ob_some, hRT1.2.1, li4, nI_mulE, nI_addE, w30 (by omega), ob_some, li1, nI_addE, w30 (by omega), ob_some, li2, nI_addE, w30 (by omega), ob_some, s30 (by omega), ob_some, N1_ne (by omega), N1_ne (by omega), N1_ne (by omega), hRT1.2.1, nI_addE, w30 (by omega), ob_some]
            rw [show 4 + 3 * T 2 0 + 1 = 5 + 3 * T 2 0 by omega, show 4 + 3 * T 2 0 + 2 = 6 + 3 * T 2 0 by omega]
          · obtain ⟨b1, b2, b3⟩ := hRT1
            rw [up2_row, up2_row, up2_row, up2_row]
            refine ⟨fun j hj => ?_, ?_, fun t ht' => ?_⟩
            · rw [upd_ne (by omega), upd_ne (by omega), upd_ne (by omega), upd_ne (by omega), b1 j hj]
              simp [upA]
            · rw [upd_eq]
              simp [upA]
            · by_cases htt : t = T 2 0
              · rw [htt]
                refine ⟨?_, ?_, ?_⟩
                · rw [upd_ne (by omega), upd_ne (by omega), upd_ne (by omega), upd_eq]
                  simp [upA]
                · rw [upd_ne (by omega), upd_ne (by omega), upd_eq]
                  simp [upA]
                · rw [upd_ne (by omega), upd_eq]
                  simp [upA]
              · have b3' := b3 t ht'
                refine ⟨?_, ?_, ?_⟩
                · rw [upd_ne (by omega), upd_ne (by omega), upd_ne (by omega), upd_ne (by omega), b3'.1]
                  simp [upA, htt]
                · rw [upd_ne (by omega), upd_ne (by omega), upd_ne (by omega), upd_ne (by omega), b3'.2.1]
                  simp [upA, htt]
                · rw [upd_ne (by omega), upd_ne (by omega), upd_ne (by omega), upd_ne (by omega), b3'.2.2]
                  simp [upA, htt]
          · obtain ⟨w1, w2, w3, w4, w5⟩ := hWT
            refine ⟨by simpa [upA] using w1, by simpa [upA] using w2, by simpa [upA] using w3, by simp [upA]; omega, fun t ht' => ?_⟩
            have w5' := w5 t ht'
            by_cases htt : t = T 2 0
            · rw [htt]
              simp [upA]
              omega
            · simpa [upA, htt] using w5'
          · simp [upA]
      · refine OK_er (r := -2) h ?_ ?_
        · unfold fX11_type
          rw [isIn_ok, ob_some, b01, if_pos h1, isIn_ok, ob_some, b01, if_pos hky, isIn_ok, ob_some, b01, if_neg h3]
        · unfold fX12_type
          rw [in_ok, ob_some, b01, if_pos h1, in_ok, ob_some, b01, if_pos hky, in_ok, ob_some, b01, if_neg h3]
    · refine OK_er (r := -2) h ?_ ?_
      · unfold fX11_type
        rw [isIn_ok, ob_some, b01, if_pos h1, isIn_ok, ob_some, b01, if_neg h2]
      · unfold fX12_type
        rw [in_ok, ob_some, b01, if_pos h1, in_ok, ob_some, b01, if_neg h2]
  · refine OK_er (r := -2) h ?_ ?_
    · unfold fX11_type
      rw [isIn_ok, ob_some, b01, if_neg h1]
    · unfold fX12_type
      rw [in_ok, ob_some, b01, if_neg h1]
