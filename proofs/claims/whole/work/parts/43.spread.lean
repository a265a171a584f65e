/-! spread -/
/-- the loads that are left: minus one where the dimmer's turn is over -/
def eL (w : Nat → Nat) (m d : Nat) : Int32 := if m / 2 ^ d % 2 = 1 then -1 else nI (w d)
def am (e : Nat → Int32) : Nat → Nat
  | 0 => 0
  | k + 1 => if e (k + 1) ≤ e (am e k) then am e k else k + 1
theorem am_le (e : Nat → Int32) : ∀ k, am e k ≤ k := by
  intro k
  induction k with
  | zero => exact Nat.le_refl _
  | succ k ih =>
    show (if e (k + 1) ≤ e (am e k) then am e k else k + 1) ≤ k + 1
    split <;> omega
theorem am_max (e : Nat → Int32) : ∀ k d, d ≤ k → e d ≤ e (am e k) := by
  intro k
  induction k with
  | zero =>
    intro d hd
    rw [show d = 0 by omega]
    exact Int32.le_refl _
  | succ k ih =>
    intro d hd
    show e d ≤ e (if e (k + 1) ≤ e (am e k) then am e k else k + 1)
    by_cases h : e (k + 1) ≤ e (am e k)
    · rw [if_pos h]
      by_cases hd1 : d = k + 1
      · rw [hd1]
        exact h
      · exact ih d (by omega)
    · rw [if_neg h]
      by_cases hd1 : d = k + 1
      · rw [hd1]
        exact Int32.le_refl _
      · exact Int32.le_trans (ih d (by omega)) (Int32.le_of_lt (Int32.not_le.mp h))
theorem eL_neg {w : Nat → Nat} {m d : Nat} (hw : w d < 2 ^ 31) : -1 ≤ eL w m d := by
  unfold eL
  split
  · exact Int32.le_refl _
  · rw [Int32.le_iff_toInt_le, nI_toInt hw]
    have : (-1 : Int32).toInt = -1 := by decide
    rw [this]
    omega
theorem nI_ltneg {x : Nat} (hx : x < 2 ^ 31) : ¬ nI x ≤ -1 := fun z => by
  rw [Int32.le_iff_toInt_le, nI_toInt hx] at z
  have : (-1 : Int32).toInt = -1 := by decide
  rw [this] at z
  omega
theorem heavy_L {M : Mem} {a m : Nat} {w : Nat → Nat} (sa : shp a = 20) (la : ln a = 12) (hm : m < 4096) (hM : ∀ d, d < 12 → M a d = nI (w d)) (hw : ∀ d, w d < 2 ^ 31) : ∀ (e k F : Nat), k + e = 11 → e + 1 < F → fX6_heaviestLeft_L7 F M a (nI m) (nI (am (eL w m) k)) (eL w m (am (eL w m) k)) (nI (k + 1)) = some (nI (am (eL w m) 11)) := by
  intro e
  induction e with
  | zero =>
    intro k F hk hF
    obtain ⟨F, rfl⟩ : ∃ F', F = F' + 1 := ⟨F - 1, by omega⟩
    have hk11 : k = 11 := by omega
    subst hk11
    rw [fX6_heaviestLeft_L7]
    refine ob_in (aN_ok sa la) ?_
    rw [if_pos (Int32.le_refl _)]
  | succ e ih =>
    intro k F hk hF
    obtain ⟨F, rfl⟩ : ∃ F', F = F' + 1 := ⟨F - 1, by omega⟩
    have := ih (k + 1) F (by omega) (by omega)
    have es : am (eL w m) (k + 1) = if eL w m (k + 1) ≤ eL w m (am (eL w m) k) then am (eL w m) k else k + 1 := rfl
    rw [es] at this
    rw [fX6_heaviestLeft_L7]
    refine ob_in (aN_ok sa la) ?_
    rw [if_neg (fun q => by have := (nI_leE (by omega) (by omega)).mp q; omega), hasBit_ok hm (by omega), ob_some]
    by_cases hb : m / 2 ^ (k + 1) % 2 = 1
    · have e1 : eL w m (k + 1) = -1 := if_pos hb
      rw [if_neg (show ¬ nI (m / 2 ^ (k + 1) % 2) = 0 by rw [hb]; decide), li1, nI_addE]
      rw [e1, if_pos (eL_neg (hw _))] at this
      exact this
    · have e1 : eL w m (k + 1) = nI (w (k + 1)) := if_neg hb
      rw [if_pos (show nI (m / 2 ^ (k + 1) % 2) = 0 by rw [show m / 2 ^ (k + 1) % 2 = 0 by omega]; rfl)]
      refine ob_in (aL_ok sa la (by omega) (by omega)) ?_
      rw [hM _ (by omega)]
      rw [e1] at this
      by_cases h : nI (w (k + 1)) ≤ eL w m (am (eL w m) k)
      · rw [if_pos h, li1, nI_addE]
        rw [if_pos h] at this
        exact this
      · rw [if_neg h]
        refine ob_in (aL_ok sa la (by omega) (by omega)) ?_
        rw [hM _ (by omega), li1, nI_addE]
        rw [if_neg h, e1] at this
        exact this
theorem heavy_ok {M : Mem} {a m : Nat} {w : Nat → Nat} (sa : shp a = 20) (la : ln a = 12) (hm : m < 4096) (hM : ∀ d, d < 12 → M a d = nI (w d)) (hw : ∀ d, w d < 2 ^ 31) : fX6_heaviestLeft M a (nI m) = some (nI (am (eL w m) 11)) := by
  unfold fX6_heaviestLeft
  refine ob_in (v := nI (am (eL w m) 11)) ?_ rfl
  have h1 := heavy_L sa la hm hM hw 11 0 4999 (by omega) (by omega)
  rw [li0, fX6_heaviestLeft_L7]
  refine ob_in (aN_ok sa la) ?_
  rw [if_neg (fun q => by have := (nI_leE (by omega) (by omega)).mp q; omega), hasBit_ok hm (by omega), ob_some]
  have ea : am (eL w m) 0 = 0 := rfl
  rw [ea] at h1
  by_cases hb : m / 2 ^ 0 % 2 = 1
  · have e1 : eL w m 0 = -1 := if_pos hb
    rw [if_neg (show ¬ nI (m / 2 ^ 0 % 2) = 0 by rw [hb]; decide), li1, nI_addE]
    rw [e1] at h1
    exact h1
  · have e1 : eL w m 0 = nI (w 0) := if_neg hb
    rw [if_pos (show nI (m / 2 ^ 0 % 2) = 0 by rw [show m / 2 ^ 0 % 2 = 0 by omega]; rfl)]
    refine ob_in (aL_ok sa la (by omega) (by omega)) ?_
    rw [hM _ (by omega), if_neg (nI_ltneg (hw 0))]
    refine ob_in (aL_ok sa la (by omega) (by omega)) ?_
    rw [hM _ (by omega), li1, nI_addE]
    rw [e1] at h1
    exact h1
theorem heavyR_L {N : Mem} {e : Nat → Int32} {z1 z2 z3 : Int32} (hN : ∀ d, d < 12 → N 7 d = e d) : ∀ (x k F : Nat), k + x = 11 → x < F → fX12_spread_L76 F N z1 z2 z3 (nI (am e k)) (nI (k + 1)) = some (nI (am e 11)) := by
  intro x
  induction x with
  | zero =>
    intro k F hk hF
    obtain ⟨F, rfl⟩ : ∃ F', F = F' + 1 := ⟨F - 1, by omega⟩
    have hk11 : k = 11 := by omega
    subst hk11
    rw [fX12_spread_L76, li12, if_pos (Int32.le_refl _)]
  | succ x ih =>
    intro k F hk hF
    obtain ⟨F, rfl⟩ : ∃ F', F = F' + 1 := ⟨F - 1, by omega⟩
    have := ih (k + 1) F (by omega) (by omega)
    have hle := am_le e k
    have es : am e (k + 1) = if e (k + 1) ≤ e (am e k) then am e k else k + 1 := rfl
    rw [es] at this
    rw [fX12_spread_L76, li12, if_neg (fun q => by have := (nI_leE (by omega) (by omega)).mp q; omega)]
    refine ob_in (aL_ok (n := 12) rfl rfl (by omega) (by omega)) ?_
    refine ob_in (aL_ok (n := 12) rfl rfl (by omega) (by omega)) ?_
    rw [hN _ (by omega), hN _ (by omega), li1, nI_addE]
    by_cases h : e (k + 1) ≤ e (am e k)
    · rw [if_pos h]
      rw [if_pos h] at this
      exact this
    · rw [if_neg h]
      rw [if_neg h] at this
      exact this
/-- the lightest of three -/
def lt3 (s : Nat → Nat) : Nat := if s (if s 0 ≤ s 1 then 0 else 1) ≤ s 2 then (if s 0 ≤ s 1 then 0 else 1) else 2
theorem lt3_lt (s : Nat → Nat) : lt3 s < 3 := by
  have hb1 : (if s 0 ≤ s 1 then 0 else 1) < 3 := by split <;> omega
  unfold lt3
  by_cases h : s (if s 0 ≤ s 1 then 0 else 1) ≤ s 2
  · rw [if_pos h]
    exact hb1
  · rw [if_neg h]
    omega
theorem light_ok {M : Mem} {a : Nat} {s : Nat → Nat} (sa : shp a = 20) (la : ln a = 3) (hM : ∀ d, d < 3 → M a d = nI (s d)) (hs : ∀ d, d < 3 → s d < 2 ^ 31) : fX6_lightest M a = some (nI (lt3 s)) := by
  have h0 := hs 0 (by omega)
  have h1 := hs 1 (by omega)
  have h2 := hs 2 (by omega)
  have st : ∀ (F b k : Nat), b < 3 → k < 3 → fX6_lightest_L4 (F + 1) M a (nI b) (nI k) = fX6_lightest_L4 F M a (nI (if s b ≤ s k then b else k)) (nI (k + 1)) := fun F b k hb hk => by
    rw [fX6_lightest_L4]
    refine ob_in (aN_ok sa la) ?_
    rw [if_neg (fun q => by have := (nI_leE (by omega) (by omega)).mp q; omega)]
    refine ob_in (aL_ok sa la hk (by omega)) ?_
    refine ob_in (aL_ok sa la hb (by omega)) ?_
    rw [hM _ hk, hM _ hb, li1, nI_addE]
    by_cases h : s b ≤ s k
    · rw [if_pos ((nI_leE (hs b hb) (hs k hk)).mpr h), if_pos h]
    · rw [if_neg (fun q => h ((nI_leE (hs b hb) (hs k hk)).mp q)), if_neg h]
  have hb1 : (if s 0 ≤ s 1 then 0 else 1) < 3 := by split <;> omega
  unfold fX6_lightest
  refine ob_in (v := nI (lt3 s)) ?_ rfl
  rw [li0, li1, st 4999 0 1 (by omega) (by omega), st 4998 _ (1 + 1) hb1 (by omega), fX6_lightest_L4]
  refine ob_in (aN_ok sa la) ?_
  rw [if_pos (Int32.le_refl _)]
  rfl
theorem bsum_orb {m v : Nat} (h : m / 2 ^ v % 2 = 0) : ∀ k, bsum (orb m v) k = bsum m k + if v < k then 1 else 0 := by
  intro k
  induction k with
  | zero => rfl
  | succ k ih =>
    show bsum (orb m v) k + orb m v / 2 ^ k % 2 = bsum m k + m / 2 ^ k % 2 + if v < k + 1 then 1 else 0
    rw [ih]
    rcases Nat.lt_trichotomy k v with hk | hk | hk
    · rw [orb_lt hk, if_neg (by omega), if_neg (by omega)]
      omega
    · subst hk
      rw [orb_self, h, if_neg (by omega), if_pos (by omega)]
    · rw [orb_gt hk, if_pos hk, if_pos (by omega)]
      omega
theorem bsum_ex {m : Nat} : ∀ k, bsum m k < k → ∃ d, d < k ∧ m / 2 ^ d % 2 = 0 := by
  intro k
  induction k with
  | zero => intro h; omega
  | succ k ih =>
    intro h
    have h' : bsum m k + m / 2 ^ k % 2 < k + 1 := h
    by_cases h0 : m / 2 ^ k % 2 = 0
    · exact ⟨k, by omega, h0⟩
    · obtain ⟨d, hd, h1⟩ := ih (by omega)
      exact ⟨d, by omega, h1⟩
theorem am_free {w : Nat → Nat} {m : Nat} (hw : ∀ d, w d < 2 ^ 31) (hb : bsum m 12 < 12) : m / 2 ^ am (eL w m) 11 % 2 = 0 := by
  obtain ⟨d, hd, h0⟩ := bsum_ex 12 hb
  have h1 := am_max (eL w m) 11 d (by omega)
  have e1 : eL w m d = nI (w d) := if_neg (by omega)
  rw [e1] at h1
  by_cases h2 : m / 2 ^ am (eL w m) 11 % 2 = 1
  · have e2 : eL w m (am (eL w m) 11) = -1 := if_pos h2
    rw [e2] at h1
    exact absurd h1 (nI_ltneg (hw d))
  · omega
theorem eL_up {w : Nat → Nat} {m v d : Nat} : eL w (orb m v) d = if d = v then -1 else eL w m d := by
  unfold eL
  rcases Nat.lt_trichotomy d v with hk | hk | hk
  · rw [orb_lt hk, if_neg (c := d = v) (by omega)]
  · subst hk
    rw [orb_self, if_pos rfl, if_pos rfl]
  · rw [orb_gt hk, if_neg (c := d = v) (by omega)]
theorem spr_L {T : SA} {w : Nat → Nat} {n p : Nat} (hp : p < 3) (hw : ∀ d, w d ≤ 24000) : ∀ (e r F m x : Nat) (s : Nat → Nat) (M N : Mem) (A : PA), r + e = 12 → e < F → m < 4096 → bsum m 12 = r → (∀ j, j < 3 → s j ≤ 24000 * r) → Live M N T A → Rst M N n → (∀ d, d < 12 → M 28 d = nI (w d)) → (∀ j, j < 3 → M 29 j = nI (s j)) → (∀ d, d < 12 → N 7 d = eL w m d) → (∀ j, j < 3 → N 8 j = nI (s j)) → ∃ M' N' A' x', fX6_spreadDimmers_L12 F M (pq p 0) 28 29 (nI m) (nI x) (nI r) = some (nI x', M') ∧ fX12_spread_L64 F N (nI p) (nI x) (nI r) = some (nI x', N') ∧ Live M' N' T A' ∧ Rst M' N' n := by
  intro e
  induction e with
  | zero =>
    intro r F m x s M N A hr hF hm hb hs hL hR h28 h29 h7 h8
    obtain ⟨F, rfl⟩ : ∃ F', F = F' + 1 := ⟨F - 1, by omega⟩
    have hr12 : r = 12 := by omega
    subst hr12
    exact ⟨M, N, A, x, by rw [fX6_spreadDimmers_L12, li12, if_pos (Int32.le_refl _)], by rw [fX12_spread_L64, li12, if_pos (Int32.le_refl _)], hL, hR⟩
  | succ e ih =>
    intro r F m x s M N A hr hF hm hb hs hL hR h28 h29 h7 h8
    obtain ⟨F, rfl⟩ : ∃ F', F = F' + 1 := ⟨F - 1, by omega⟩
    have hw31 : ∀ d, w d < 2 ^ 31 := fun d => by have := hw d; omega
    have hs31 : ∀ j, j < 3 → s j < 2 ^ 31 := fun j hj => by have := hs j hj; omega
    have s0 := hs31 0 (by omega)
    have s1 := hs31 1 (by omega)
    have s2 := hs31 2 (by omega)
    obtain ⟨v, hv⟩ : ∃ v, v = am (eL w m) 11 := ⟨_, rfl⟩
    have hv12 : v < 12 := by have := am_le (eL w m) 11; omega
    have hfree : m / 2 ^ v % 2 = 0 := by rw [hv]; exact am_free hw31 (by omega)
    have hk3 := lt3_lt s
    have hC := cr_live hL hp
    have hW := wa_live hL hp
    have hP := rp_live hL hp
    have h5 := hW.2.2.2.2.2.1 v hv12
    have eV : eL w m v = nI (w v) := if_neg (by omega)
    obtain ⟨hL1, hR1⟩ := feed_put (p := p) (d := v) (v := lt3 s) hL hR hp hv12 hk3
    have hL2 := Live_KX (M' := up2 (up2 M (pq p 5) v (nI (lt3 s))) 29 (lt3 s) (nI (s (lt3 s) + w v))) hL1 hR1 (fun y hy => up2_ne (by have := KX_hi hy; omega))
    have hN3 : Live (up2 (up2 M (pq p 5) v (nI (lt3 s))) 29 (lt3 s) (nI (s (lt3 s) + w v))) (up2 (up2 (up2 N 8 (lt3 s) (nI (s (lt3 s) + w v))) 1 (AX p (75 + v)) (nI (lt3 s))) 7 v (-1)) T (upP A p (upA (A p) 5 v (lt3 s))) ∧ Rst (up2 (up2 M (pq p 5) v (nI (lt3 s))) 29 (lt3 s) (nI (s (lt3 s) + w v))) (up2 (up2 (up2 N 8 (lt3 s) (nI (s (lt3 s) + w v))) 1 (AX p (75 + v)) (nI (lt3 s))) 7 v (-1)) n := by
      refine ⟨⟨hL2.1.1, ?_, hL2.1.2.2⟩, Rst_keep hL2.2 Keep.rf ⟨?_, ?_, ?_, ?_, ?_, ?_⟩⟩
      · have e1 : up2 (up2 (up2 N 8 (lt3 s) (nI (s (lt3 s) + w v))) 1 (AX p (75 + v)) (nI (lt3 s))) 7 v (-1) 1 = up2 N 1 (AX p (75 + v)) (nI (lt3 s)) 1 := by
          rw [up2_ne (by omega)]
          funext q
          rw [up2_same, up2_same, up2_ne (by omega)]
        rw [e1]
        exact hL2.1.2.1
      · rw [up2_ne (by omega), up2_ne (by omega), up2_ne (by omega), up2_ne (by omega)]
      · rw [up2_ne (by omega), up2_ne (by omega), up2_ne (by omega), up2_ne (by omega)]
      · rw [up2_ne (by omega), up2_ne (by omega), up2_ne (by omega), up2_ne (by omega)]
      · rw [up2_ne (by omega), up2_ne (by omega), up2_ne (by omega), up2_ne (by omega)]
      · rw [up2_ne (by omega), up2_ne (by omega), up2_ne (by omega), up2_ne (by omega)]
      · rw [up2_ne (by omega), up2_ne (by omega), up2_ne (by omega), up2_ne (by omega)]
    have hbs : bsum (orb m v) 12 = r + 1 := by rw [bsum_orb hfree, hb, if_pos hv12]
    obtain ⟨M', N', A', x', g1, g2, g3, g4⟩ := ih (r + 1) F (orb m v) (if A p 5 v = lt3 s then x else x + 1) (fun j => if j = lt3 s then s (lt3 s) + w v else s j) _ _ _ (by omega) (by omega) (orb_bd (n := 12) hm hv12) hbs (fun j hj => by
      have a1 := hs j hj
      have a2 := hs (lt3 s) hk3
      have a3 := hw v
      show (if j = lt3 s then s (lt3 s) + w v else s j) ≤ 24000 * (r + 1)
      split <;> omega) hN3.1 hN3.2 (fun d hd => by rw [up2_ne (by omega), up2_ne (by unfold pq; omega)]; exact h28 d hd) (fun j hj => by
      rw [up2_same, up2_ne (by unfold pq; omega), h29 j hj]
      show (if j = lt3 s then nI (s (lt3 s) + w v) else nI (s j)) = nI (if j = lt3 s then s (lt3 s) + w v else s j)
      split <;> rfl) (fun d hd => by
      rw [up2_same, up2_ne (by omega), up2_ne (by omega), h7 d hd, eL_up]) (fun j hj => by
      rw [up2_ne (by omega), up2_ne (by omega), up2_same, h8 j hj]
      show (if j = lt3 s then nI (s (lt3 s) + w v) else nI (s j)) = nI (if j = lt3 s then s (lt3 s) + w v else s j)
      split <;> rfl)
    refine ⟨M', N', A', x', ?_, ?_, g3, g4⟩
    · rw [fX6_spreadDimmers_L12, li12, if_neg (fun q => by have := (nI_leE (by omega) (by omega)).mp q; omega), heavy_ok rfl rfl hm h28 hw31, ob_some, light_ok rfl rfl h29 hs31, ob_some, ← hv]
      refine ob_in (gR_ok (x := pq p 5) (sp0 (by omega) (by omega) rfl) (rf_pq0 (by omega))) ?_
      refine ob_in (aL_ok (n := 12) (sp0 (by omega) (by omega) rfl) (lp0 (by omega) (by omega) rfl) (by omega) (by omega)) ?_
      rw [cr5 hC hv12]
      refine ob_in (v := nI (if A p 5 v = lt3 s then x else x + 1)) ?_ ?_
      · by_cases h : A p 5 v = lt3 s
        · rw [if_pos (by rw [h]), if_pos h]
        · rw [if_neg (fun q => h ((nI_eqE (by omega) (by omega)).mp q)), if_neg h, li1, nI_addE]
      · refine ob_in (gR_ok (x := pq p 5) (sp0 (by omega) (by omega) rfl) (rf_pq0 (by omega))) ?_
        refine ob_in (aS_ok (n := 12) (sp0 (by omega) (by omega) rfl) (lp0 (by omega) (by omega) rfl) (by omega) (by omega)) ?_
        refine ob_in (aL_ok (n := 3) rfl rfl hk3 (by omega)) ?_
        refine ob_in (aL_ok (n := 12) rfl rfl hv12 (by omega)) ?_
        refine ob_in (aS_ok (n := 3) rfl rfl hk3 (by omega)) ?_
        rw [up2_ne (by unfold pq; omega), up2_ne (by unfold pq; omega), h29 _ hk3, h28 _ hv12, nI_addE, lt1_eq, orb_ok hv12 hm, li1, nI_addE]
        exact g1
    · have a80 : aL 30 N 8 0 = some (nI (s 0)) := (aL_ok (n := 3) (j := 0) rfl rfl (by omega) (by omega)).trans (by rw [h8 0 (by omega)])
      have a81 : aL 30 N 8 1 = some (nI (s 1)) := (aL_ok (n := 3) (j := 1) rfl rfl (by omega) (by omega)).trans (by rw [h8 1 (by omega)])
      have a82 : aL 30 N 8 2 = some (nI (s 2)) := (aL_ok (n := 3) (j := 2) rfl rfl (by omega) (by omega)).trans (by rw [h8 2 (by omega)])
      have hb1 : (if s 0 ≤ s 1 then 0 else 1) < 3 := by split <;> omega
      rw [fX12_spread_L64, li12, if_neg (fun q => by have := (nI_leE (by omega) (by omega)).mp q; omega)]
      refine ob_in (heavyR_L (e := eL w m) h7 11 0 5000 (by omega) (by omega)) ?_
      rw [← hv, a81, ob_some, a80, ob_some]
      refine ob_in (v := nI (if s 0 ≤ s 1 then 0 else 1)) ?_ ?_
      · by_cases h : s 0 ≤ s 1
        · rw [if_pos ((nI_leE s0 s1).mpr h), if_pos h]
          rfl
        · rw [if_neg (fun q => h ((nI_leE s0 s1).mp q)), if_neg h]
          rfl
      · rw [a82, ob_some]
        refine ob_in (aL_ok (n := 3) rfl rfl hb1 (by omega)) ?_
        rw [h8 _ hb1]
        refine ob_in (v := nI (lt3 s)) ?_ ?_
        · have hsb := hs31 _ hb1
          unfold lt3
          by_cases h : s (if s 0 ≤ s 1 then 0 else 1) ≤ s 2
          · rw [if_pos ((nI_leE hsb s2).mpr h), if_pos h]
          · rw [if_neg (fun q => h ((nI_leE hsb s2).mp q)), if_neg h]
            rfl
        · refine ob_in (aL_ok (n := 3) rfl rfl hk3 (by omega)) ?_
          refine ob_in (aL_ok (n := 12) rfl rfl hv12 (by omega)) ?_
          rw [h8 _ hk3, h7 _ hv12, eV, nI_addE]
          refine ob_in (aS_ok (n := 3) rfl rfl hk3 (by omega)) ?_
          rw [li75, nI_addE, at1_ok, ob_some, s30 (AX_lt hp (by omega)), ob_some, up2_ne (by omega), ra75 hP hv12]
          refine ob_in (v := if A p 5 v = lt3 s then (0 : Int32) else 1) ?_ ?_
          · by_cases h : A p 5 v = lt3 s
            · rw [if_pos (by rw [h]), if_pos h]
            · rw [if_neg (fun q => h ((nI_eqE (by omega) (by omega)).mp q)), if_neg h]
          · rw [lt1_eq, ob_some, w30 (AX_lt hp (by omega)), ob_some]
            refine ob_in (aS_ok (n := 12) rfl rfl hv12 (by omega)) ?_
            rw [li1, nI_addE]
            have ex : nI x + (if A p 5 v = lt3 s then (0 : Int32) else nI 1) = nI (if A p 5 v = lt3 s then x else x + 1) := by
              by_cases h : A p 5 v = lt3 s
              · rw [if_pos h, if_pos h, Int32.add_zero]
              · rw [if_neg h, if_neg h, nI_addE]
            rw [ex]
            exact g2
theorem worstRow_L {p : Nat} {T A : SA} {w : Nat → Nat} (hp : p < 3) (hWT : WT T) (hW : WA (T 2 0) A) (hw : ∀ d, d < 12 → w d = wst T A 8 d) : ∀ (e k F : Nat) (N : Mem), k + e = 12 → e < F → RT (N 1) T → RP (N 1) p A → ∃ N', fX12_spread_L15 F N (nI p) (nI k) = some N' ∧ (∀ y, y ≠ 7 → N' y = N y) ∧ ∀ d, N' 7 d = if k ≤ d ∧ d < 12 then nI (w d) else N 7 d := by
  intro e
  induction e with
  | zero =>
    intro k F N hk hF hT hP
    obtain ⟨F, rfl⟩ : ∃ F', F = F' + 1 := ⟨F - 1, by omega⟩
    exact ⟨N, by rw [fX12_spread_L15, li12, if_pos ((nI_leE (by omega) (by omega)).mpr (by omega))], fun _ _ => rfl, fun d => by rw [if_neg (by omega)]⟩
  | succ e ih =>
    intro k F N hk hF hT hP
    obtain ⟨F, rfl⟩ : ∃ F', F = F' + 1 := ⟨F - 1, by omega⟩
    obtain ⟨N', e1, e2, e3⟩ := ih (k + 1) F (up2 N 7 k (nI (w k))) (by omega) (by omega) (by rw [up2_ne (by omega)]; exact hT) (by rw [up2_ne (by omega)]; exact hP)
    refine ⟨N', ?_, fun y hy => by rw [e2 y hy, up2_ne hy], fun d => ?_⟩
    · rw [fX12_spread_L15, li12, if_neg (fun q => by have := (nI_leE (by omega) (by omega)).mp q; omega), worstR_ok hp (by omega) hT hP hWT hW, ob_some, ← hw k (by omega)]
      refine ob_in (aS_ok (n := 12) rfl rfl (by omega) (by omega)) ?_
      rw [li1, nI_addE]
      exact e1
    · rw [e3, up2_same]
      by_cases h1 : k + 1 ≤ d ∧ d < 12
      · rw [if_pos h1, if_pos (by omega)]
      · rw [if_neg h1]
        by_cases h2 : d = k
        · rw [if_pos h2, if_pos (by omega), h2]
        · rw [if_neg h2, if_neg (by omega)]
theorem op_spread {M N : Mem} (h : Rel M N) (a1 : Int32) : OK (fX11_spread M a1) (fX12_spread N a1) := by
  obtain ⟨⟨T, A, hL⟩, n, hR⟩ := id h
  rcases ic a1 2 2 rfl (by omega) with ⟨p, hp, rfl, hpy⟩ | h1
  · obtain ⟨M1, e1, e2, hL1, hR1⟩ := push_know hL hR
    have hWT := hL1.2.2.1
    have hW := wa_live hL1 (p := p) (by omega)
    obtain ⟨w, hw⟩ : ∃ w : Nat → Nat, w = fun d => if d < 12 then wst T (A p) 8 d else 0 := ⟨_, rfl⟩
    have hw1 : ∀ d, d < 12 → w d = wst T (A p) 8 d := fun d hd => by
      rw [hw]
      exact if_pos hd
    have hw2 : ∀ d, w d ≤ 24000 := fun d => by
      rw [hw]
      show (if d < 12 then wst T (A p) 8 d else 0) ≤ 24000
      split
      · exact wst_le hWT hW 8 (by omega)
      · omega
    obtain ⟨M2, f1, f2, f3, f4⟩ := worstC_ok (show p < 28 by omega) hWT hW (cr_live hL1 (by omega)) (ct_live hL1)
    obtain ⟨N2, g1, g2, g3⟩ := worstRow_L (p := p) (w := w) (by omega) hWT hW hw1 12 0 5000 (knN N n) (by omega) (by omega) (rt_live hL1) (rp_live hL1 (by omega))
    obtain ⟨M3, hM3⟩ : ∃ M3, M3 = setR M2 29 0 3 (fun _ => 0) := ⟨_, rfl⟩
    obtain ⟨N3, hN3⟩ : ∃ N3, N3 = up2 (up2 (up2 N2 8 0 0) 8 1 0) 8 2 0 := ⟨_, rfl⟩
    have n3 : ∀ y, y ≠ 7 → y ≠ 8 → N3 y = knN N n y := fun y h7 h8 => by rw [hN3, up2_ne h8, up2_ne h8, up2_ne h8, g2 y h7]
    have m3 : ∀ y, KX y → M3 y = M1 y := fun y hy => by
      have := KX_hi hy
      rw [hM3, setR_other (by omega), f2 y (by omega)]
    obtain ⟨hL2, hR2⟩ := Live_KX hL1 hR1 m3
    have hL3 : Live M3 N3 T A := ⟨hL2.1, by rw [n3 1 (by omega) (by omega)]; exact hL2.2.1, hL2.2.2⟩
    have hR3 : Rst M3 N3 (pushN n) := Rst_keep hR2 Keep.rf ⟨by rw [n3 0 (by omega) (by omega)], by rw [n3 0 (by omega) (by omega)], n3 3 (by omega) (by omega), n3 4 (by omega) (by omega), n3 5 (by omega) (by omega), n3 6 (by omega) (by omega)⟩
    obtain ⟨M', N', A', x', k1, k2, k3, k4⟩ := spr_L (w := w) (p := p) (by omega) hw2 12 0 5000 0 0 (fun _ => 0) M3 N3 A (by omega) (by omega) (by omega) rfl (fun j hj => Nat.zero_le _) hL3 hR3 (fun d hd => by rw [hM3, setR_other (by omega), f3 d hd, hw1 d hd]) (fun j hj => by rw [hM3, setR_same, if_pos ⟨Nat.zero_le _, hj⟩]; rfl) (fun d hd => by
      rw [hN3, up2_ne (by omega), up2_ne (by omega), up2_ne (by omega), g3, if_pos ⟨Nat.zero_le _, hd⟩]
      unfold eL
      rw [Nat.zero_div, if_neg (by omega)]) (fun j hj => by
      rw [hN3, up2_same, up2_same, up2_same]
      rcases (show j = 0 ∨ j = 1 ∨ j = 2 by omega) with rfl | rfl | rfl <;> rfl)
    refine OK_in (r := nI x') ?_ ?_ ⟨k3, k4⟩
    · unfold fX11_spread fX6_spreadDimmers
      rw [find_ok (by omega), ob_some, caseO_some, e1, ob_some, f1, ob_some, ifsp (o := 0) (t := 6) (by omega) (by omega) rfl]
      refine ob2_in (a := nI x') (b := M') ?_ rfl
      refine ob_in (clear_ok (n := 3) rfl rfl (by omega)) ?_
      rw [← hM3]
      exact ob2_in k1 rfl
    · unfold fX12_spread
      rw [isPrem_ok, ob_some, b01, if_pos hpy, e2, ob_some]
      refine ob_in g1 ?_
      refine ob_in (aS_ok (n := 3) (j := 0) rfl rfl (by omega) (by omega)) ?_
      refine ob_in (aS_ok (n := 3) (j := 1) rfl rfl (by omega) (by omega)) ?_
      refine ob_in (aS_ok (n := 3) (j := 2) rfl rfl (by omega) (by omega)) ?_
      rw [← hN3]
      exact ob2_in k2 rfl
  · refine OK_er (r := -1) h ?_ ?_
    · unfold fX11_spread
      rw [find_bad h1, ob_some, caseO_none]
    · unfold fX12_spread
      rw [isPrem_ok, ob_some, b01, if_neg h1]
