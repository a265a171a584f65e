/-! the reference's trial -/
theorem n0_ne {N : Mem} {k q : Nat} {v : Int32} (h : q ≠ k) : up2 N 0 k v 0 q = N 0 q := by rw [up2_same, if_neg h]
theorem n0_eq {N : Mem} {k : Nat} {v : Int32} : up2 N 0 k v 0 k = v := by rw [up2_same, if_pos rfl]
theorem gm94_L {T B : SA} {p gd gp : Nat} {z3 z4 : Int32} (hp : p < 3) (hWT : WT T) (hW : WA (T 2 0) B) (h5 : gd ≤ 24000) (h6 : gp ≤ 24000) : ∀ (e u F : Nat) (N : Mem), u + e = 15 → e < F → RT (N 1) T → RP (N 1) p B → N 0 19 = nI (max gd (gm (lF T B) (min u 12))) → N 0 20 = nI (max gp (gm (fun k => lF T B (12 + k)) (u - 12))) → ∃ N', fX12_tryOut_L94 F N (nI p) z3 z4 (nI u) = some N' ∧ (∀ y, y ≠ 0 → N' y = N y) ∧ (∀ k, k ≠ 19 → k ≠ 20 → N' 0 k = N 0 k) ∧ N' 0 19 = nI (max gd (gm (lF T B) 12)) ∧ N' 0 20 = nI (max gp (gm (fun k => lF T B (12 + k)) 3)) := by
  intro e
  induction e with
  | zero =>
    intro u F N hu hF hT hP h19 h20
    obtain ⟨F, rfl⟩ : ∃ F', F = F' + 1 := ⟨F - 1, by omega⟩
    have hu15 : u = 15 := by omega
    subst hu15
    exact ⟨N, by rw [fX12_tryOut_L94, li15, if_pos (Int32.le_refl _)], fun _ _ => rfl, fun _ _ _ => rfl, h19, h20⟩
  | succ e ih =>
    intro u F N hu hF hT hP h19 h20
    obtain ⟨F, rfl⟩ : ∃ F', F = F' + 1 := ⟨F - 1, by omega⟩
    have ld : fX12_load N (nI p) (nI u) = some (nI (lF T B u)) := load_ok hp (by omega) hT hP hWT hW
    have bl := lF_le (u := u) hWT hW
    have b1 := gm_le (f := lF T B) (min u 12) (fun i _ => lF_le hWT hW)
    have b2 := gm_le (f := fun k => lF T B (12 + k)) (u - 12) (fun i _ => lF_le hWT hW)
    by_cases h12 : u < 12
    · have e1 : min u 12 = u := by omega
      have e2 : min (u + 1) 12 = u + 1 := by omega
      have e3 : u + 1 - 12 = u - 12 := by omega
      rw [e1] at h19 b1
      obtain ⟨N', g1, g2, g3, g4, g5⟩ := ih (u + 1) F (up2 (up2 N 0 19 (nI (max gd (gm (lF T B) (u + 1))))) 0 20 (N 0 20)) (by omega) (by omega) (by rw [up2_ne (by omega), up2_ne (by omega)]; exact hT) (by rw [up2_ne (by omega), up2_ne (by omega)]; exact hP) (by rw [n0_ne (by omega), n0_eq, e2]) (by rw [n0_eq, e3]; exact h20)
      refine ⟨N', ?_, fun y hy => by rw [g2 y hy, up2_ne hy, up2_ne hy], fun k h1 h2 => by rw [g3 k h1 h2, n0_ne h2, n0_ne h1], g4, g5⟩
      rw [fX12_tryOut_L94, li15, if_neg (fun q => by have := (nI_leE (by omega) (by omega)).mp q; omega), ld, ob_some, li12, if_neg (fun q => by have := (nI_leE (by omega) (by omega)).mp q; omega), n_gI, ob_some, h19]
      refine ob_in (v := nI (max gd (gm (lF T B) (u + 1)))) ?_ ?_
      · have e4 : max gd (gm (lF T B) (u + 1)) = max (max gd (gm (lF T B) u)) (lF T B u) := by
          show max gd (max (gm (lF T B) u) (lF T B u)) = _
          omega
        rw [e4]
        by_cases h : lF T B u ≤ max gd (gm (lF T B) u)
        · rw [if_pos ((nI_leE (by omega) (by omega)).mpr h), ob_some, Nat.max_eq_left h]
        · rw [if_neg (fun q => h ((nI_leE (by omega) (by omega)).mp q)), Nat.max_eq_right (by omega)]
      · rw [n_pI, ob_some, if_pos (nI_lt h12 (by omega)), n_gI, ob_some, n_pI, ob_some, n0_ne (by omega), li1, nI_addE]
        exact g1
    · have e1 : min u 12 = 12 := by omega
      have e2 : min (u + 1) 12 = 12 := by omega
      have e3 : u + 1 - 12 = u - 12 + 1 := by omega
      have e4 : max gp (gm (fun k => lF T B (12 + k)) (u - 12 + 1)) = max (max gp (gm (fun k => lF T B (12 + k)) (u - 12))) (lF T B u) := by
        show max gp (max (gm (fun k => lF T B (12 + k)) (u - 12)) (lF T B (12 + (u - 12)))) = _
        rw [show 12 + (u - 12) = u by omega]
        omega
      obtain ⟨N', g1, g2, g3, g4, g5⟩ := ih (u + 1) F (up2 (up2 N 0 19 (N 0 19)) 0 20 (nI (max gp (gm (fun k => lF T B (12 + k)) (u - 12 + 1))))) (by omega) (by omega) (by rw [up2_ne (by omega), up2_ne (by omega)]; exact hT) (by rw [up2_ne (by omega), up2_ne (by omega)]; exact hP) (by rw [n0_ne (by omega), n0_eq, e2, h19, e1]) (by rw [n0_eq, e3])
      refine ⟨N', ?_, fun y hy => by rw [g2 y hy, up2_ne hy, up2_ne hy], fun k h1 h2 => by rw [g3 k h1 h2, n0_ne h2, n0_ne h1], g4, g5⟩
      rw [fX12_tryOut_L94, li15, if_neg (fun q => by have := (nI_leE (by omega) (by omega)).mp q; omega), ld, ob_some, li12, if_pos ((nI_leE (by omega) (by omega)).mpr (by omega)), n_gI, ob_some, ob_some, n_pI, ob_some, if_neg (fun q => by have := (nI_ltE (by omega) (by omega)).mp q; omega), n_gI, ob_some, n0_ne (by omega), h20, li1, nI_addE]
      rw [e4] at g1
      by_cases h : lF T B u ≤ max gp (gm (fun k => lF T B (12 + k)) (u - 12))
      · rw [if_pos ((nI_leE (by omega) (by omega)).mpr h), ob_some, n_pI, ob_some]
        rw [Nat.max_eq_left h] at g1
        exact g1
      · rw [if_neg (fun q => h ((nI_leE (by omega) (by omega)).mp q)), n_pI, ob_some]
        rw [Nat.max_eq_right (by omega)] at g1
        exact g1
theorem playR_L {T : SA} {N0 : Mem} {p t : Nat} (hp : p < 3) (hWT : WT T) (ht : t ≤ 50) : ∀ (e i F : Nat) (N : Mem) (x : TS), i + e = t + T 1 2 + 1 → e < F → VT T x e i → RI T p N0 N x → ∃ N', fX12_tryOut_L35 F N (nI p) (nI t) (nI i) = some N' ∧ RI T p N0 N' (run T e i x) := by
  have htk := hWT.2.2.1
  intro e
  induction e with
  | zero =>
    intro i F N x hi hF hV hI
    obtain ⟨F, rfl⟩ : ∃ F', F = F' + 1 := ⟨F - 1, by omega⟩
    have r2 : aL 30 N 1 2 = some (nI (T 1 2)) := (s30 (k := 2) (by omega)).trans (by rw [hI.1.1 2 (by omega)])
    refine ⟨N, ?_, hI⟩
    rw [fX12_tryOut_L35, r2, ob_some, nI_addE, if_pos (nI_lt (by omega) (by omega))]
  | succ e ih =>
    intro i F N x hi hF hV hI
    obtain ⟨F, rfl⟩ : ∃ F', F = F' + 1 := ⟨F - 1, by omega⟩
    obtain ⟨i1, i2, i3, i4, i5, i6, i7, i8⟩ := hI
    have r2 : aL 30 N 1 2 = some (nI (T 1 2)) := (s30 (k := 2) (by omega)).trans (by rw [i1.1 2 (by omega)])
    obtain ⟨N1, a1, a2, a3⟩ := turn_ok hp i1 i2 hWT hV.1
    have hr := psR_le (T := T) (A := x.1)
    have hVs := VT_stp hWT hV
    have hW := WA_ps hWT hV.1
    have v5 := hV.2.2.2.2.1
    have v6 := hV.2.2.2.2.2.1
    have hs3 := hV.2.2.1
    have z0 : ∀ k, N1 0 k = N 0 k := fun k => by rw [a2.1 0 (by omega)]
    obtain ⟨N2, hN2⟩ : ∃ N2, N2 = up2 (up2 N1 0 18 (fI (stp T i x).2.2.1)) 0 17 (nI (x.2.1 + psR T x.1)) := ⟨_, rfl⟩
    have y2 : ∀ y, y ≠ 0 → N2 y = N1 y := fun y hy => by rw [hN2, up2_ne hy, up2_ne hy]
    obtain ⟨N3, g1, g2, g3, g4, g5⟩ := gm94_L (B := psA T x.1) (gd := x.2.2.2.1) (gp := x.2.2.2.2) (z3 := nI t) (z4 := nI i) hp hWT hW v5 v6 15 0 5000 N2 (by omega) (by omega) (by rw [y2 1 (by omega)]; exact RT_FrN i1 a2) (by rw [y2 1 (by omega)]; exact a3) (by rw [hN2, n0_ne (by omega), n0_ne (by omega), z0, i5, Nat.zero_min]; show nI x.2.2.2.1 = nI (max x.2.2.2.1 0); rw [Nat.max_zero]) (by rw [hN2, n0_ne (by omega), n0_ne (by omega), z0, i6]; show nI x.2.2.2.2 = nI (max x.2.2.2.2 0); rw [Nat.max_zero])
    have hI' : RI T p N0 N3 (stp T i x) := by
      refine ⟨by rw [g2 1 (by omega), y2 1 (by omega)]; exact RT_FrN i1 a2, by rw [g2 1 (by omega), y2 1 (by omega)]; exact a3, by rw [g3 17 (by omega) (by omega), hN2, n0_eq]; rfl, by rw [g3 18 (by omega) (by omega), hN2, n0_ne (by omega), n0_eq], g4, g5, fun y h1 h2 => by rw [g2 y h1, y2 y h1, a2.1 y h2, i7 y h1 h2], fun k hk => by rw [g3 k (by omega) (by omega), hN2, n0_ne (by omega), n0_ne (by omega), z0, i8 k hk]⟩
    obtain ⟨N', k1, k2⟩ := ih (i + 1) F N3 (stp T i x) (by omega) (by omega) hVs hI'
    refine ⟨N', ?_, k2⟩
    rw [fX12_tryOut_L35, r2, ob_some, nI_addE, if_neg (fun q => by have := (nI_ltE (by omega) (by omega)).mp q; omega), a1, ob2_some]
    refine ob_in (v := fI (stp T i x).2.2.1) ?_ ?_
    · have es : (stp T i x).2.2.1 = if psR T x.1 = 0 then x.2.2.1 else if x.2.1 = 0 then i else x.2.2.1 := rfl
      rw [es, n_gI, n_gI, ob_some, ob_some, z0, z0, i4, i3]
      by_cases z : psR T x.1 = 0
      · rw [z, if_pos (show nI 0 ≤ (0 : Int32) by decide), if_pos rfl]
      · rw [if_neg z, if_neg (show ¬ nI (psR T x.1) ≤ 0 from fun q => by rw [li0] at q; have := (nI_leE (by omega) (by omega)).mp q; omega)]
        by_cases z2 : x.2.1 = 0
        · rw [z2, if_pos (show nI 0 = (0 : Int32) from rfl), if_pos rfl]
          have hi0 : fI i = nI i := if_neg (by have := hV.2.2.2.2.2.2.1; omega)
          rw [hi0]
        · rw [if_neg z2, if_neg (nI_ne0 (by omega) (by omega))]
    · rw [n_pI, ob_some, n_gI, ob_some, n0_ne (by omega), z0, i3, n_pI, ob_some, nI_addE, ← hN2]
      refine ob_in g1 ?_
      rw [li1, nI_addE]
      exact k1
def st0 (A : SA) (c t : Nat) : TS := (staA A c t, 0, 0, 0, 0)
theorem VT_0 {T A : SA} {c t : Nat} (hWT : WT T) (hW : WA (T 2 0) A) (hc : c < 8) (ht : t ≤ 50) (ht0 : 0 < t) : VT T (st0 A c t) (t + T 1 2) 1 := by
  have htk := hWT.2.2.1
  exact ⟨WA_sta hW hc ht ht0, ⟨fun _ => rfl, fun _ => rfl⟩, by show 0 + 15 * (t + T 1 2) ≤ 3000; omega, Nat.zero_le _, Nat.zero_le _, Nat.zero_le _, Nat.le_refl _, by omega⟩
theorem tryR_ok {M N : Mem} {T : SA} {A : PA} {n p c t : Nat} (hL : Live M N T A) (hR : Rst M N n) (hp : p < 3) (hc : c < 8) (ht : t ≤ 50) (ht0 : 0 < t) : ∃ N', fX12_tryOut N (nI p) (nI c) (nI t) = some N' ∧ Live M N' T A ∧ Rst M N' n ∧ N' 0 17 = nI (run T (t + T 1 2) 1 (st0 (A p) c t)).2.1 ∧ N' 0 18 = fI (run T (t + T 1 2) 1 (st0 (A p) c t)).2.2.1 ∧ N' 0 19 = nI (run T (t + T 1 2) 1 (st0 (A p) c t)).2.2.2.1 ∧ N' 0 20 = nI (run T (t + T 1 2) 1 (st0 (A p) c t)).2.2.2.2 := by
  have hWT := hL.2.2.1
  have htk := hWT.2.2.1
  have hW := wa_live hL hp
  obtain ⟨N1, hN1⟩ : ∃ N1, N1 = setR N 2 0 691 (fun j => N 1 j) := ⟨_, rfl⟩
  obtain ⟨N2, hN2⟩ : ∃ N2, N2 = up2 (up2 (up2 (up2 N1 0 17 0) 0 18 (-6)) 0 19 0) 0 20 0 := ⟨_, rfl⟩
  have y2 : ∀ y, y ≠ 0 → N2 y = N1 y := fun y hy => by rw [hN2, up2_ne hy, up2_ne hy, up2_ne hy, up2_ne hy]
  have y1 : ∀ y, y ≠ 2 → N1 y = N y := fun y hy => by rw [hN1, setR_other hy]
  have e1 : N2 1 = N 1 := by rw [y2 1 (by omega), y1 1 (by omega)]
  obtain ⟨N3, a1, a2, a3⟩ := start_ok (N := N2) (t := t) hp hc (by rw [e1]; exact rp_live hL hp) hW.1.2.2
  have hI : RI T p N2 N3 (st0 (A p) c t) := ⟨RT_FrN (by rw [e1]; exact rt_live hL) a3, a2, by rw [a3.1 0 (by omega), hN2, n0_ne (by omega), n0_ne (by omega), n0_ne (by omega), n0_eq]; rfl, by rw [a3.1 0 (by omega), hN2, n0_ne (by omega), n0_ne (by omega), n0_eq]; rfl, by rw [a3.1 0 (by omega), hN2, n0_ne (by omega), n0_eq]; rfl, by rw [a3.1 0 (by omega), hN2, n0_eq]; rfl, fun y _ h => a3.1 y h, fun k _ => by rw [a3.1 0 (by omega)]⟩
  obtain ⟨N4, b1, b2⟩ := playR_L (p := p) (t := t) hp hWT ht (t + T 1 2) 1 5000 N3 _ (by omega) (by omega) (VT_0 hWT hW hc ht ht0) hI
  obtain ⟨i1, i2, i3, i4, i5, i6, i7, i8⟩ := b2
  obtain ⟨N5, hN5⟩ : ∃ N5, N5 = setR N4 1 0 691 (fun j => N4 2 j) := ⟨_, rfl⟩
  have o5 : ∀ y, y ≠ 1 → N5 y = N4 y := fun y hy => by rw [hN5, setR_other hy]
  have s1 : ∀ k, k < 691 → N5 1 k = N 1 k := fun k hk => by
    rw [hN5, setR_same, if_pos ⟨Nat.zero_le _, hk⟩, i7 2 (by omega) (by omega), y2 2 (by omega), hN1, setR_same, if_pos ⟨Nat.zero_le _, hk⟩]
  have lo : ∀ k, k < 17 → N5 0 k = N 0 k := fun k hk => by
    rw [o5 0 (by omega), i8 k hk, hN2, n0_ne (by omega), n0_ne (by omega), n0_ne (by omega), n0_ne (by omega), y1 0 (by omega)]
  have kp : ∀ y, 3 ≤ y → N5 y = N y := fun y hy => by rw [o5 y (by omega), i7 y (by omega) (by omega), y2 y (by omega), y1 y (by omega)]
  refine ⟨N5, ?_, ⟨hL.1, RS_congr hL.2.1 s1 (fun p hp => (hL.2.2.2 p hp).1.2.2), hL.2.2⟩, Rst_keep hR Keep.rf ⟨lo 3 (by omega), lo 7 (by omega), kp 3 (by omega), kp 4 (by omega), kp 5 (by omega), kp 6 (by omega)⟩, by rw [o5 0 (by omega)]; exact i3, by rw [o5 0 (by omega)]; exact i4, by rw [o5 0 (by omega)]; exact i5, by rw [o5 0 (by omega)]; exact i6⟩
  unfold fX12_tryOut fX12_putAside fX12_putBack
  refine ob_in (v := N1) (ob_in (pa2 691 0 5000 N (by omega) (by omega)) (by rw [hN1])) ?_
  rw [n_pI, ob_some, n_pI, ob_some, n_pI, ob_some, n_pI, ob_some, ← hN2, a1, ob_some]
  refine ob_in b1 ?_
  refine ob_in (v := N5) (ob_in (pb2 691 0 5000 N4 (by omega) (by omega)) (by rw [hN5])) rfl
