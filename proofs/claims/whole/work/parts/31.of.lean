/-! of -/
theorem op_of {M N : Mem} (h : Rel M N) (a1 a2 : Int32) : OKm (fX11_of M a1 a2) (fX12_of N a1 a2) N := by
  obtain ⟨⟨T, A, hL⟩, n, hR⟩ := id h
  have hWT := hL.2.2.1
  rcases ic a1 2 2 rfl (by omega) with ⟨p, hp, rfl, hpy⟩ | h1
  · have hC := cr_live hL (p := p) (by omega)
    have hW := wa_live hL (p := p) (by omega)
    have hP := rp_live hL (p := p) (by omega)
    obtain ⟨M1, e1, e2, e3⟩ := mNow_ok (L := 23) (d := 24) (g := 25) (Or.inl ⟨rfl, rfl, rfl⟩) (show p < 28 by omega) hWT hW hC (ct_live hL)
    have b : ∀ u, sU (A p) (ldL T (A p)) (A p 0 2) u < 2 ^ 31 := fun u => by have := sN_le (u := u) hWT hW; omega
    have eC : fX11_of M (nI p) a2 = (if a2 = 0 then some (nI (A p 0 0), M) else if a2 = 1 then some (nI (A p 0 1), M) else if a2 = 2 then some (nI (A p 0 2), M) else if a2 = 3 then some (nI (rcm (A p) 8), M) else if a2 = 4 then some (nI (A p 16 0) - nI (A p 16 1), M) else if a2 = 5 then some (nI (sU (A p) (ldL T (A p)) (A p 0 2) 15), M1) else if a2 = 6 then some (nI (A p 19 1), M) else if a2 = 7 then some (nI (A p 21 1), M) else if a2 = 8 then some (nI (max (max (sU (A p) (ldL T (A p)) (A p 0 2) 12) (sU (A p) (ldL T (A p)) (A p 0 2) 13)) (sU (A p) (ldL T (A p)) (A p 0 2) 14)) - nI (min (min (sU (A p) (ldL T (A p)) (A p 0 2) 12) (sU (A p) (ldL T (A p)) (A p 0 2) 13)) (sU (A p) (ldL T (A p)) (A p 0 2) 14)), M1) else some (-2, M)) := by
      unfold fX11_of
      rw [find_ok (by omega), ob_some, caseO_some, recCues_ok (by omega) hC (fun c hc => (hW.2.2.2.2.2.2.1 c hc).1), ob_some, e1, ob_some, ob_some]
      have g0 : ∀ k, k < 3 → ((gI 6 k M (pq p 0)).bind fun v => some (v, M)) = some (nI (A p 0 k), M) := fun k hk => by
        refine ob_in (gI_ok (sp0 (by omega) (by omega) rfl)) ?_
        rw [cr0 hC hk]
      have g4 : ((gR 6 10 (pq p 0)).bind fun x => (fX1_ticksLeft M x).bind fun v => some (v, M)) = some (nI (A p 16 0) - nI (A p 16 1), M) := by
        refine ob_in (gR_ok (x := pq p 16) (sp0 (by omega) (by omega) rfl) (rf_pq0 (by omega))) ?_
        refine ob_in (v := nI (A p 16 0) - nI (A p 16 1)) ?_ rfl
        unfold fX1_ticksLeft
        rw [ifsp (o := 16) (t := 1) (by omega) (by omega) rfl]
        refine ob_in (gI_ok (sp0 (by omega) (by omega) rfl)) ?_
        refine ob_in (gI_ok (sp0 (by omega) (by omega) rfl)) ?_
        rw [cr16 hC (by omega), cr16 hC (by omega)]
      have g6 : ((gR 6 11 (pq p 0)).bind fun x => (gI 0 1 M x).bind fun v => some (v, M)) = some (nI (A p 19 1), M) := by
        refine ob_in (gR_ok (x := pq p 19) (sp0 (by omega) (by omega) rfl) (rf_pq0 (by omega))) ?_
        refine ob_in (gI_ok (sp0 (by omega) (by omega) rfl)) ?_
        rw [cr19 hC]
      have g7 : ((gR 6 12 (pq p 0)).bind fun x => (gI 0 1 M x).bind fun v => some (v, M)) = some (nI (A p 21 1), M) := by
        refine ob_in (gR_ok (x := pq p 21) (sp0 (by omega) (by omega) rfl) (rf_pq0 (by omega))) ?_
        refine ob_in (gI_ok (sp0 (by omega) (by omega) rfl)) ?_
        rw [cr21 hC]
      have g8 : ((fX11_greatest M1 25).bind fun v40 => (fX11_least M1 25).bind fun v42 => some (v40 - v42, M1)) = some (nI (max (max (sU (A p) (ldL T (A p)) (A p 0 2) 12) (sU (A p) (ldL T (A p)) (A p 0 2) 13)) (sU (A p) (ldL T (A p)) (A p 0 2) 14)) - nI (min (min (sU (A p) (ldL T (A p)) (A p 0 2) 12) (sU (A p) (ldL T (A p)) (A p 0 2) 13)) (sU (A p) (ldL T (A p)) (A p 0 2) 14)), M1) := by
        refine ob_in (greatest_ok (n := 3) rfl rfl (by omega)) ?_
        refine ob_in (least_ok (n := 3) rfl rfl (by omega) (by omega)) ?_
        have b0 := b 12
        have b1 := b 13
        have b2 := b 14
        have q0 : M1 25 0 = nI (sU (A p) (ldL T (A p)) (A p 0 2) 12) := e3.2 0 (by omega)
        have q1 : M1 25 1 = nI (sU (A p) (ldL T (A p)) (A p 0 2) 13) := e3.2 1 (by omega)
        have q2 : M1 25 2 = nI (sU (A p) (ldL T (A p)) (A p 0 2) 14) := e3.2 2 (by omega)
        show some (mx (mx (mx 0 (M1 25 0)) (M1 25 1)) (M1 25 2) - mnx (mnx (mnx (M1 25 0) (M1 25 0)) (M1 25 1)) (M1 25 2), M1) = _
        rw [q0, q1, q2, li0, mx_nI (by omega) b0, Nat.zero_max, mx_nI b0 b1, mx_nI (by omega) b2, mnx_nI b0 b0, Nat.min_self, mnx_nI b0 b1, mnx_nI (by omega) b2]
      rw [g0 0 (by omega), g0 1 (by omega), g0 2 (by omega), g4, g6, g7, g8, sumPh_ok (Or.inl ⟨rfl, rfl, rfl⟩) e3 hW.2.2.2.2.2.1, ob_some]
    have eR : fX12_of N (nI p) a2 = (if a2 = 0 then some (nI (A p 0 0)) else if a2 = 1 then some (nI (A p 0 1)) else if a2 = 2 then some (nI (A p 0 2)) else if a2 = 3 then some (nI (rcm (A p) 8)) else if a2 = 4 then some (nI (A p 16 0) - nI (A p 16 1)) else if a2 = 5 then some (nI (sU (A p) (ldL T (A p)) (A p 0 2) 15)) else if a2 = 6 then some (nI (A p 19 1)) else if a2 = 7 then some (nI (A p 21 1)) else if a2 = 8 then some (nI (max (max (sU (A p) (ldL T (A p)) (A p 0 2) 12) (sU (A p) (ldL T (A p)) (A p 0 2) 13)) (sU (A p) (ldL T (A p)) (A p 0 2) 14)) - nI (min (min (sU (A p) (ldL T (A p)) (A p 0 2) 12) (sU (A p) (ldL T (A p)) (A p 0 2) 13)) (sU (A p) (ldL T (A p)) (A p 0 2) 14))) else some (-2)) := by
      have f0 : ∀ k, k < 3 → ((fX12_at1 (nI p) (nI k)).bind fun v6 => (aL 30 N 1 v6).bind fun v7 => some v7) = some (nI (A p 0 k)) := fun k hk => by
        rw [at1_ok, ob_some, s30 (AX_lt (by omega) (by omega)), ob_some, ra0 hP hk]
      have f3 : fX12_recorded N (nI p) = some (nI (rcm (A p) 8)) := by
        unfold fX12_recorded
        exact ob_in (recR_L (by omega) hP hW 8 0 5000 (by omega) (by omega)) rfl
      have f4 : ((fX12_at1 (nI p) 221).bind fun v24 => (aL 30 N 1 v24).bind fun v25 => if v25 = 0 then some 0 else (fX12_at1 (nI p) 221).bind fun v29 => (aL 30 N 1 v29).bind fun v30 => (fX12_at1 (nI p) 222).bind fun v33 => (aL 30 N 1 v33).bind fun v34 => some (v30 - v34)) = some (nI (A p 16 0) - nI (A p 16 1)) := by
        have h50 := hW.2.2.2.2.2.2.2.2.2.2.2.1
        rw [at1_221, ob_some, s30 (AX_lt (by omega) (by omega)), ob_some, ra221 hP]
        by_cases z : A p 16 0 = 0
        · rw [hW.2.2.2.2.2.2.2.2.2.2.2.2.1 z, z]
          exact if_pos rfl
        · rw [if_neg (nI_ne0 (by omega) (by omega)), ob_some, s30 (AX_lt (by omega) (by omega)), ob_some, at1_222, ob_some, s30 (AX_lt (by omega) (by omega)), ob_some, ra221 hP, ra222 hP z]
      have f5 : fX12_loadOf N (nI p) = some (nI (sU (A p) (ldL T (A p)) (A p 0 2) 15)) := by
        unfold fX12_loadOf
        rw [li12, li13, li14, load_ok (by omega) (by omega) (rt_live hL) hP hWT hW, ob_some, load_ok (by omega) (by omega) (rt_live hL) hP hWT hW, ob_some, load_ok (by omega) (by omega) (rt_live hL) hP hWT hW, ob_some, nI_addE, nI_addE, sum15 hW.2.2.2.2.2.1]
      have m1 := hW.2.2.2.2.2.2.2.1
      have m2 := hW.2.2.2.2.2.2.2.2.1
      have f6 : fX12_tripped N (nI p) 0 12 = some (nI (A p 19 1)) := by
        unfold fX12_tripped
        have := trp_L (N := N) (p := p) (b := 0) (c := 12) (m := A p 19 1) (by omega) m1 (by omega) (by omega) (fun j hj => ra87 hP (by omega)) 12 0 5000 (by omega) (by omega)
        rw [Nat.mod_one, Nat.mod_eq_of_lt m1] at this
        exact ob_in this rfl
      have f7 : fX12_tripped N (nI p) 12 3 = some (nI (A p 21 1)) := by
        unfold fX12_tripped
        have := trp_L (N := N) (p := p) (b := 12) (c := 3) (m := A p 21 1) (by omega) (by omega) (by omega) (by omega) (fun j hj => ra99 hP (by omega)) 3 0 5000 (by omega) (by omega)
        rw [Nat.mod_one, Nat.mod_eq_of_lt m2] at this
        exact ob_in this rfl
      unfold fX12_of
      rw [isPrem_ok, ob_some, b01, if_pos hpy, f3, f4, f5, f6, f7, apart_ok (by omega) (rt_live hL) hP hWT hW, ob_some, ob_some, ob_some, ob_some, ob_some]
      by_cases z0 : a2 = 0
      · rw [if_pos z0, if_pos z0, z0]
        exact f0 0 (by omega)
      · rw [if_neg z0, if_neg z0]
        by_cases z1 : a2 = 1
        · rw [if_pos z1, if_pos z1, z1]
          exact f0 1 (by omega)
        · rw [if_neg z1, if_neg z1]
          by_cases z2 : a2 = 2
          · rw [if_pos z2, if_pos z2, z2]
            exact f0 2 (by omega)
          · rw [if_neg z2, if_neg z2]
    rw [eC, eR]
    have hL1 : Rel M1 N := Rel_L h e2 (by omega) (by omega)
    by_cases z0 : a2 = 0
    · rw [if_pos z0, if_pos z0]
      exact ⟨_, _, rfl, rfl, h⟩
    · rw [if_neg z0, if_neg z0]
      by_cases z0 : a2 = 1
      · rw [if_pos z0, if_pos z0]
        exact ⟨_, _, rfl, rfl, h⟩
      · rw [if_neg z0, if_neg z0]
        by_cases z0 : a2 = 2
        · rw [if_pos z0, if_pos z0]
          exact ⟨_, _, rfl, rfl, h⟩
        · rw [if_neg z0, if_neg z0]
          by_cases z0 : a2 = 3
          · rw [if_pos z0, if_pos z0]
            exact ⟨_, _, rfl, rfl, h⟩
          · rw [if_neg z0, if_neg z0]
            by_cases z0 : a2 = 4
            · rw [if_pos z0, if_pos z0]
              exact ⟨_, _, rfl, rfl, h⟩
            · rw [if_neg z0, if_neg z0]
              by_cases z0 : a2 = 5
              · rw [if_pos z0, if_pos z0]
                exact ⟨_, _, rfl, rfl, hL1⟩
              · rw [if_neg z0, if_neg z0]
                by_cases z0 : a2 = 6
                · rw [if_pos z0, if_pos z0]
                  exact ⟨_, _, rfl, rfl, h⟩
                · rw [if_neg z0, if_neg z0]
                  by_cases z0 : a2 = 7
                  · rw [if_pos z0, if_pos z0]
                    exact ⟨_, _, rfl, rfl, h⟩
                  · rw [if_neg z0, if_neg z0]
                    by_cases z0 : a2 = 8
                    · rw [if_pos z0, if_pos z0]
                      exact ⟨_, _, rfl, rfl, hL1⟩
                    · rw [if_neg z0, if_neg z0]
                      exact ⟨_, _, rfl, rfl, h⟩
  · refine ⟨-1, M, ?_, ?_, h⟩
    · unfold fX11_of
      rw [find_bad h1, ob_some, caseO_none]
    · unfold fX12_of
      rw [isPrem_ok, ob_some, b01, if_neg h1]
