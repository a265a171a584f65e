/-! undo, save, restore, wipe -/
theorem load_live {M N : Mem} {T' : SA} {A' : PA} {n b : Nat} {τ : Nat → Int32} (hR : Rst M N n) (hb1 : 1 ≤ b) (hb : b < 9) (hC : CS M b T' A') (hRS : RS τ T' A') (hW : WS1 T' A') : Live (cpS M 0 b) (setR N 1 0 691 τ) T' A' ∧ Rst (cpS M 0 b) (setR N 1 0 691 τ) n := by
  refine ⟨⟨CS_cp (by omega) hC, RS_congr hRS (fun k hk => ?_) (fun p hp => (hW.2 p hp).1.2.2), hW⟩, Rst_keep hR (fun x hx => cpS_ne (fun o ho z => (KM_st ho) (z ▸ hx)) (fun p o hp ho z => ?_)) ⟨?_, ?_, ?_, ?_, ?_, ?_⟩⟩
  · rw [setR_same, if_pos ⟨Nat.zero_le _, hk⟩]
  · rw [show 3 * 0 + p = p by omega] at z
    exact (KM_pq ho (Or.inl hp)) (z ▸ hx)
  · rw [setR_other (by omega)]
  · rw [setR_other (by omega)]
  · rw [setR_other (by omega)]
  · rw [setR_other (by omega)]
  · rw [setR_other (by omega)]
  · rw [setR_other (by omega)]
theorem op_undo {M N : Mem} (h : Rel M N) : OK (fX11_undo M) (fX12_undo N) := by
  obtain ⟨⟨T, A, hL⟩, n, hR⟩ := id h
  obtain ⟨⟨hh, hs, h1, h2, h3, h4, h5, h6⟩, ⟨m, sl, H2⟩, len, pd, H3⟩ := id hR
  by_cases h0 : n = 0
  · subst h0
    refine OK_er (r := -5) h ?_ ?_
    · unfold fX11_undo fX2_pop
      refine ob2_in (a := 0) (b := M) ?_ ?_
      · refine ob_in (gI_ok rfl) ?_
        rw [h2]
        exact if_neg (by decide)
      · rw [if_pos rfl]
    · unfold fX12_undo
      rw [n_gI, ob_some, h3]
      exact if_pos rfl
  · have hj := h6 (n - 1) (by omega)
    have hb := h4 (n - 1) (by omega)
    have u1 : ∀ x, x ≠ 12 → up2 M 12 1 (nI (n - 1)) x = M x := fun x hx => up2_ne hx
    have u0 : ∀ x, x ≠ 0 → up2 N 0 3 (nI (n - 1)) x = N x := fun x hx => up2_ne hx
    have cs : ∀ {b : Nat} {T : SA} {A : PA}, CS M b T A → CS (up2 M 12 1 (nI (n - 1))) b T A := fun hcs => CS_congr hcs (fun o ho => u1 _ (by unfold st; omega)) (fun p o _ _ => u1 _ (by unfold pq; omega))
    have hR1 : Rst (up2 M 12 1 (nI (n - 1))) (up2 N 0 3 (nI (n - 1))) (n - 1) := by
      refine ⟨⟨hh, hs, by omega, by rw [up2_same, if_pos rfl], by rw [up2_same, if_pos rfl], fun j hj => ⟨(h4 j hj).1, (h4 j hj).2.1, by rw [u1 13 (by omega)]; exact (h4 j hj).2.2⟩, h5, fun j hj => ⟨cs (h6 j (by omega)).1, by rw [u0 3 (by omega)]; exact (h6 j (by omega)).2.1, (h6 j (by omega)).2.2⟩⟩, ⟨m, sl, H2.1, by rw [u1 10 (by omega)]; exact H2.2.1, fun j hj => ⟨by rw [u1 11 (by omega)]; exact (H2.2.2 j hj).1, by rw [u0 5 (by omega)]; exact (H2.2.2 j hj).2.1, fun hm => ⟨cs ((H2.2.2 j hj).2.2 hm).1, by rw [u0 4 (by omega)]; exact ((H2.2.2 j hj).2.2 hm).2.1, ((H2.2.2 j hj).2.2 hm).2.2⟩⟩⟩, len, pd, H3.1, by rw [u1 15 (by omega)]; exact H3.2.1, by rw [up2_same, if_neg (by omega)]; exact H3.2.2.1, fun j hj => ⟨(H3.2.2.2 j hj).1, (H3.2.2.2 j hj).2.1, by rw [u1 16 (by omega)]; exact (H3.2.2.2 j hj).2.2.1, by rw [u0 6 (by omega)]; exact (H3.2.2.2 j hj).2.2.2⟩⟩
    have hl := load_live (b := hh (n - 1)) hR1 hb.1 (by omega) (cs hj.1) hj.2.1 hj.2.2
    refine OK_in (r := nI (n - 1)) ?_ ?_ hl
    · unfold fX11_undo fX2_pop
      refine ob2_in (a := 1) (b := cpS (up2 M 12 1 (nI (n - 1))) 0 (hh (n - 1))) ?_ ?_
      · refine ob_in (gI_ok rfl) ?_
        rw [h2, if_pos (show (0 : Int32) < nI n from nI_lt (a := 0) (by omega) (by omega))]
        refine ob_in (gI_ok rfl) ?_
        rw [h2, li1, nI_subE (by omega)]
        refine ob_in (pI_ok rfl) ?_
        refine ob_in (gI_ok rfl) ?_
        rw [up2_same, if_pos rfl]
        refine ob_in (aD_ok (n := 6) (x := st (hh (n - 1)) 0) rfl rfl (by omega) (by omega) (by rw [u1 13 (by omega)]; exact hb.2.2) (st_small (by omega) (by omega))) ?_
        exact ob_in (stateCopy_ok (b := 0) (b' := hh (n - 1)) (by omega) (by omega) (by omega)) rfl
      · rw [if_neg (by decide)]
        refine ob_in (gI_ok rfl) ?_
        rw [cpS_ne (fun o ho => by unfold st; omega) (fun p o _ _ => by unfold pq; omega), up2_same, if_pos rfl]
    · unfold fX12_undo
      rw [n_gI, ob_some, h3, if_neg (nI_ne0 (by omega) (by omega)), ob_some, li1, nI_subE (by omega), n_pI, ob_some]
      refine ob_in (un22 (v := n - 1) (by omega) 691 0 5000 _ (by omega) (by omega) (by rw [up2_same, if_pos rfl])) ?_
      rw [n_gI, ob_some, setR_other (by omega), up2_same, if_pos rfl, u0 3 (by omega)]
theorem all_L {M : Mem} {A : PA} (hC : ∀ p, p < 3 → M (pq p 0) 2 = nI (A p 0 2)) : fX7_allLamps M 34 = some (nI (A 0 0 2 + A 1 0 2 + A 2 0 2)) := by
  have r : ∀ j, j < 3 → rf 40 j = pq j 0 := fun j hj => by
    have := rf_st6 (b := 0) (j := j) (by omega)
    rw [Nat.mul_zero, Nat.zero_add] at this
    exact this
  unfold fX7_allLamps
  rw [if_pos (show shp 34 = 7 from rfl)]
  refine ob_in (gR_ok (x := 40) rfl rfl) ?_
  refine ob_in (aN_ok (n := 3) rfl rfl) ?_
  refine ob_in (v := nI (A 0 0 2 + A 1 0 2 + A 2 0 2)) ?_ rfl
  rw [li0, fX7_allLamps_L13, if_neg (fun h => by have := (nI_leE (by omega) (by omega)).mp h; omega)]
  refine ob_in (aR_ok (n := 3) (j := 0) (x := pq 0 0) rfl rfl (by omega) (by omega) (r 0 (by omega))) ?_
  refine ob_in (gI_ok (sp0 (by omega) (by omega) rfl)) ?_
  rw [hC 0 (by omega), lt1_eq, li1, nI_addE, nI_addE, fX7_allLamps_L13, if_neg (fun h => by have := (nI_leE (by omega) (by omega)).mp h; omega)]
  refine ob_in (aR_ok (n := 3) (j := 1) (x := pq 1 0) rfl rfl (by omega) (by omega) (r 1 (by omega))) ?_
  refine ob_in (gI_ok (sp0 (by omega) (by omega) rfl)) ?_
  rw [hC 1 (by omega), lt1_eq, li1, nI_addE, nI_addE, fX7_allLamps_L13, if_neg (fun h => by have := (nI_leE (by omega) (by omega)).mp h; omega)]
  refine ob_in (aR_ok (n := 3) (j := 2) (x := pq 2 0) rfl rfl (by omega) (by omega) (r 2 (by omega))) ?_
  refine ob_in (gI_ok (sp0 (by omega) (by omega) rfl)) ?_
  rw [hC 2 (by omega), lt1_eq, li1, nI_addE, nI_addE, fX7_allLamps_L13, if_pos ((nI_leE (by omega) (by omega)).mpr (by omega))]
  congr 2
  omega
theorem lamps_ok {N : Mem} {A : PA} (hP : ∀ p, p < 3 → N 1 (AX p 2) = nI (A p 0 2)) : fX12_lamps N = some (nI (A 0 0 2 + A 1 0 2 + A 2 0 2)) := by
  unfold fX12_lamps
  rw [li0, li1, li2, at1_ok, ob_some, s30 (AX_lt (by omega) (by omega)), ob_some, at1_ok, ob_some, s30 (AX_lt (by omega) (by omega)), ob_some, at1_ok, ob_some, s30 (AX_lt (by omega) (by omega)), ob_some, hP 0 (by omega), hP 1 (by omega), hP 2 (by omega), nI_addE, nI_addE]
theorem live_all {M N : Mem} {T : SA} {A : PA} (h : Live M N T A) : fX7_allLamps M 34 = some (nI (A 0 0 2 + A 1 0 2 + A 2 0 2)) ∧ fX12_lamps N = some (nI (A 0 0 2 + A 1 0 2 + A 2 0 2)) :=
  ⟨all_L (fun p hp => cr0 (cr_live h hp) (by omega)), lamps_ok (fun p hp => ra0 (rp_live h hp) (by omega))⟩
theorem or_slot : ∀ m, m < 4 → ∀ j, j < 2 → ∃ m', m' < 4 ∧ (nI m ||| (1 <<< (nI j &&& 31))) = nI m' ∧ ∀ i, i < 2 → m' / 2 ^ i % 2 = if i = j then 1 else m / 2 ^ i % 2 := by
  intro m hm j hj
  rcases (show j = 0 ∨ j = 1 by omega) with rfl | rfl <;> rcases (show m = 0 ∨ m = 1 ∨ m = 2 ∨ m = 3 by omega) with rfl | rfl | rfl | rfl
  · exact ⟨1, by decide +kernel⟩
  · exact ⟨1, by decide +kernel⟩
  · exact ⟨3, by decide +kernel⟩
  · exact ⟨3, by decide +kernel⟩
  · exact ⟨2, by decide +kernel⟩
  · exact ⟨3, by decide +kernel⟩
  · exact ⟨2, by decide +kernel⟩
  · exact ⟨3, by decide +kernel⟩
theorem op_save {M N : Mem} (h : Rel M N) (a1 : Int32) : OK (fX11_save M a1) (fX12_save N a1) := by
  obtain ⟨⟨T, A, hL⟩, n, hR⟩ := id h
  obtain ⟨⟨hh, hs, h1, h2, h3, h4, h5, h6⟩, ⟨m, sl, H2⟩, len, pd, H3⟩ := id hR
  rcases ic a1 1 1 rfl (by omega) with ⟨j, hj, rfl, hjy⟩ | hb
  · obtain ⟨m', g1, g2, g3⟩ := or_slot m H2.1 j (by omega)
    have hC := hL.1
    have keepM : ∀ x, x ≠ 10 → (∀ o, o < 7 → x ≠ st (7 + j) o) → (∀ p o, p < 3 → o < 23 → x ≠ pq (3 * (7 + j) + p) o) → up2 (cpS M (7 + j) 0) 10 3 (nI m') x = M x := fun x h1 h2 h3 => by rw [up2_ne h1, cpS_ne h2 h3]
    have lo : ∀ x, x < 34 → x ≠ 10 → up2 (cpS M (7 + j) 0) 10 3 (nI m') x = M x := fun x h1 h2 => keepM x h2 (fun o ho => by unfold st; omega) (fun p o _ _ => by unfold pq; omega)
    have keepC : ∀ {b : Nat} {T : SA} {A : PA}, b < 9 → b ≠ 7 + j → CS M b T A → CS (up2 (cpS M (7 + j) 0) 10 3 (nI m')) b T A := fun hb9 hne hcs =>
      CS_congr (CS_cpNe hb9 (by omega) hne hcs) (fun o ho => up2_ne (by unfold st; omega)) (fun p o _ _ => up2_ne (by unfold pq; omega))
    have keepN : ∀ x, x ≠ 4 → x ≠ 5 → up2 (setR N 4 (691 * j + 0) (691 * j + 691) (fun k => N 1 (k - 691 * j))) 5 j 1 x = N x := fun x h1 h2 => by rw [up2_ne h2, setR_other h1]
    have hA12 : ∀ p, p < 3 → A p 0 2 ≤ 12 := fun p hp => (hL.2.2.2 p hp).1.2.2
    have hL' : Live (up2 (cpS M (7 + j) 0) 10 3 (nI m')) (up2 (setR N 4 (691 * j + 0) (691 * j + 691) (fun k => N 1 (k - 691 * j))) 5 j 1) T A := ⟨keepC (by omega) (by omega) hL.1, by rw [keepN 1 (by omega) (by omega)]; exact hL.2.1, hL.2.2⟩
    refine OK_in (r := nI (A 0 0 2 + A 1 0 2 + A 2 0 2)) (M := up2 (cpS M (7 + j) 0) 10 3 (nI m')) (N := up2 (setR N 4 (691 * j + 0) (691 * j + 691) (fun k => N 1 (k - 691 * j))) 5 j 1) ?_ ?_ ⟨hL', ⟨hh, hs, h1, by rw [lo 12 (by omega) (by omega)]; exact h2, by rw [keepN 0 (by omega) (by omega)]; exact h3, fun i hi => ⟨(h4 i hi).1, (h4 i hi).2.1, by rw [lo 13 (by omega) (by omega)]; exact (h4 i hi).2.2⟩, h5, fun i hi => ⟨keepC (by have := (h4 i (by omega)).2.1; omega) (by have := (h4 i (by omega)).2.1; omega) (h6 i hi).1, by rw [keepN 3 (by omega) (by omega)]; exact (h6 i hi).2.1, (h6 i hi).2.2⟩⟩, ⟨m', fun i => if i = j then (T, A) else sl i, g1, by rw [up2_same, if_pos rfl], fun i hi => ⟨by rw [lo 11 (by omega) (by omega)]; exact (H2.2.2 i hi).1, ?_, fun hm => ?_⟩⟩, len, pd, H3.1, by rw [lo 15 (by omega) (by omega)]; exact H3.2.1, by rw [keepN 0 (by omega) (by omega)]; exact H3.2.2.1, fun i hi => ⟨(H3.2.2.2 i hi).1, (H3.2.2.2 i hi).2.1, by rw [lo 16 (by omega) (by omega)]; exact (H3.2.2.2 i hi).2.2.1, by rw [keepN 6 (by omega) (by omega)]; exact (H3.2.2.2 i hi).2.2.2⟩⟩
    · unfold fX11_save
      rw [isIn_ok, ob_some, b01, if_pos hjy]
      refine ob_in (aD_ok (n := 2) (x := st (7 + j) 0) rfl rfl (by omega) (by omega) (H2.2.2 j (by omega)).1 (st_small (by omega) (by omega))) ?_
      refine ob_in (stateCopy_ok (b := 7 + j) (b' := 0) (by omega) (by omega) (by omega)) ?_
      refine ob_in (gI_ok rfl) ?_
      rw [cpS_ne (fun o ho => by unfold st; omega) (fun p o _ _ => by unfold pq; omega), H2.2.1, g2]
      refine ob_in (pI_ok rfl) ?_
      exact ob_in (live_all hL').1 rfl
    · unfold fX12_save
      rw [in_ok, ob_some, b01, if_pos hjy]
      refine ob_in (sv14 (v := j) (by omega) 691 0 5000 N (by omega) (by omega)) ?_
      have z5 : ∀ N' : Mem, zS 31 N' 5 (nI j) 1 = some (up2 N' 5 j 1) := fun N' => by
        unfold zS
        rw [if_pos ⟨rfl, oob_nI (n := 2) (by omega) (by omega), Or.inr rfl⟩, nI_cl (by omega)]
      refine ob_in (z5 _) ?_
      exact ob_in (live_all hL').2 rfl
    · rw [g3 i hi, up2_same]
      by_cases hij : i = j
      · rw [if_pos hij, if_pos hij]
        rfl
      · rw [if_neg hij, if_neg hij, setR_other (by omega)]
        exact (H2.2.2 i hi).2.1
    · rw [g3 i hi] at hm
      by_cases hij : i = j
      · subst hij
        refine ⟨?_, ?_, ?_⟩
        · simp only [if_true]
          exact CS_congr (CS_cp (by omega) hC) (fun o ho => up2_ne (by unfold st; omega)) (fun p o _ _ => up2_ne (by unfold pq; omega))
        · simp only [if_true]
          refine RS_congr hL.2.1 (fun k hk => ?_) hA12
          rw [up2_ne (by omega), setR_same, if_pos (by omega)]
          exact congrArg (N 1) (by omega)
        · simp only [if_true]
          exact hL.2.2
      · rw [if_neg hij] at hm
        have hs' := (H2.2.2 i hi).2.2 hm
        refine ⟨?_, ?_, ?_⟩
        · simp only [if_neg hij]
          exact keepC (by omega) (by omega) hs'.1
        · simp only [if_neg hij]
          refine RS_congr hs'.2.1 (fun k hk => ?_) (fun p hp => (hs'.2.2.2 p hp).1.2.2)
          rw [up2_ne (by omega), setR_same, if_neg (by omega)]
        · simp only [if_neg hij]
          exact hs'.2.2
  · refine OK_er (r := -2) h ?_ ?_
    · unfold fX11_save
      rw [isIn_ok, ob_some, b01, if_neg hb]
    · unfold fX12_save
      rw [in_ok, ob_some, b01, if_neg hb]
theorem hasBit_ok {m d : Nat} (hm : m < 4096) (hd : d < 12) : fX11_hasBit (nI m) (nI d) = some (nI (m / 2 ^ d % 2)) := by
  unfold fX11_hasBit
  rw [bit_all hm hd]
  rcases (show m / 2 ^ d % 2 = 0 ∨ m / 2 ^ d % 2 = 1 by omega) with h | h <;> rw [h] <;> rfl
theorem op_restore {M N : Mem} (h : Rel M N) (a1 : Int32) : OK (fX11_restore M a1) (fX12_restore N a1) := by
  obtain ⟨⟨T, A, hL⟩, n, hR⟩ := id h
  obtain ⟨⟨hh, hs, H1⟩, ⟨m, sl, H2⟩, len, pd, H3⟩ := id hR
  rcases ic a1 1 1 rfl (by omega) with ⟨j, hj, rfl, hjy⟩ | hb
  · have z5 : ∀ N' : Mem, aL 31 N' 5 (nI j) = some (N' 5 j) := fun N' => aL_ok (n := 2) rfl rfl (by omega) (by omega)
    by_cases h0 : m / 2 ^ j % 2 = 0
    · refine OK_er (r := -5) h ?_ ?_
      · unfold fX11_restore
        rw [isIn_ok, ob_some, b01, if_pos hjy]
        refine ob_in (gI_ok rfl) ?_
        rw [H2.2.1, hasBit_ok (by have := H2.1; omega) (by omega), ob_some, h0]
        exact if_pos rfl
      · unfold fX12_restore
        rw [in_ok, ob_some, b01, if_pos hjy, z5, ob_some, (H2.2.2 j (by omega)).2.1, h0]
        exact if_pos rfl
    · obtain ⟨M1, e1, e2, hL1, hR1⟩ := push_know hL hR
      obtain ⟨⟨hh1, hs1, H11⟩, ⟨m1, sl1, H21⟩, len1, pd1, H31⟩ := id hR1
      have k5 : knN N n 5 = N 5 := by
        unfold knN
        split
        · rw [up2_ne (by omega), setR_other (by omega), up2_ne (by omega), setR_other (by omega)]
        · rw [up2_ne (by omega), setR_other (by omega)]
      have hm1 : m1 / 2 ^ j % 2 = 1 := by
        have q1 := (H21.2.2 j (by omega)).2.1
        rw [k5, (H2.2.2 j (by omega)).2.1] at q1
        have q2 := (nI_eqE (by omega) (by omega)).mp q1
        omega
      have hs' := (H21.2.2 j (by omega)).2.2 hm1
      have hl := load_live (b := 7 + j) hR1 (by omega) (by omega) hs'.1 hs'.2.1 hs'.2.2
      refine OK_in (r := nI ((sl1 j).2 0 0 2 + (sl1 j).2 1 0 2 + (sl1 j).2 2 0 2)) ?_ ?_ hl
      · unfold fX11_restore
        rw [isIn_ok, ob_some, b01, if_pos hjy]
        refine ob_in (gI_ok rfl) ?_
        rw [H2.2.1, hasBit_ok (by have := H2.1; omega) (by omega), ob_some, if_neg (nI_ne0 (by omega) (by omega)), e1, ob_some]
        refine ob_in (aD_ok (n := 2) (x := st (7 + j) 0) rfl rfl (by omega) (by omega) (H21.2.2 j (by omega)).1 (st_small (by omega) (by omega))) ?_
        refine ob_in (stateCopy_ok (b := 0) (b' := 7 + j) (by omega) (by omega) (by omega)) ?_
        exact ob_in (live_all hl.1).1 rfl
      · unfold fX12_restore
        rw [in_ok, ob_some, b01, if_pos hjy, z5, ob_some, (H2.2.2 j (by omega)).2.1, if_neg (nI_ne0 (by omega) (by omega)), e2, ob_some]
        refine ob_in (re30 (v := j) (by omega) 691 0 5000 _ (by omega) (by omega)) ?_
        exact ob_in (live_all hl.1).2 rfl
  · refine OK_er (r := -2) h ?_ ?_
    · unfold fX11_restore
      rw [isIn_ok, ob_some, b01, if_neg hb]
    · unfold fX12_restore
      rw [in_ok, ob_some, b01, if_neg hb]
theorem op_wipe {M N : Mem} (h : Rel M N) : OK (fX11_wipe M) (fX12_wipe N) := by
  obtain ⟨⟨T, A, hL⟩, n, hR⟩ := id h
  obtain ⟨⟨hh, hs, h1, h2, h3, h4, h5, h6⟩, ⟨m, sl, H2⟩, len, pd, H3⟩ := id hR
  have u1 : ∀ x, x ≠ 15 → up2 M 15 1 0 x = M x := fun x hx => up2_ne hx
  have u0 : ∀ x, x ≠ 0 → up2 N 0 7 0 x = N x := fun x hx => up2_ne hx
  have cs : ∀ {b : Nat} {T : SA} {A : PA}, CS M b T A → CS (up2 M 15 1 0) b T A := fun hcs => CS_congr hcs (fun o ho => u1 _ (by unfold st; omega)) (fun p o _ _ => u1 _ (by unfold pq; omega))
  refine OK_in (r := nI len) (M := up2 M 15 1 0) (N := up2 N 0 7 0) ?_ ?_ ⟨⟨cs hL.1, by rw [u0 1 (by omega)]; exact hL.2.1, hL.2.2⟩, ⟨hh, hs, h1, by rw [u1 12 (by omega)]; exact h2, by rw [up2_same, if_neg (by omega)]; exact h3, fun i hi => ⟨(h4 i hi).1, (h4 i hi).2.1, by rw [u1 13 (by omega)]; exact (h4 i hi).2.2⟩, h5, fun i hi => ⟨cs (h6 i hi).1, by rw [u0 3 (by omega)]; exact (h6 i hi).2.1, (h6 i hi).2.2⟩⟩, ⟨m, sl, H2.1, by rw [u1 10 (by omega)]; exact H2.2.1, fun i hi => ⟨by rw [u1 11 (by omega)]; exact (H2.2.2 i hi).1, by rw [u0 5 (by omega)]; exact (H2.2.2 i hi).2.1, fun hm => ⟨cs ((H2.2.2 i hi).2.2 hm).1, by rw [u0 4 (by omega)]; exact ((H2.2.2 i hi).2.2 hm).2.1, ((H2.2.2 i hi).2.2 hm).2.2⟩⟩⟩, 0, pd, by omega, by rw [up2_same, if_pos rfl]; rfl, by rw [up2_same, if_pos rfl]; rfl, fun i hi => by omega⟩
  · unfold fX11_wipe
    refine ob_in (gI_ok rfl) ?_
    refine ob_in (pI_ok rfl) ?_
    rw [H3.2.1]
  · unfold fX12_wipe
    rw [n_gI, ob_some, n_pI, ob_some, H3.2.2.1]
