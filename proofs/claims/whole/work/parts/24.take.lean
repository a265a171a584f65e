/-! take down -/
abbrev isRw (o : Nat) : Prop := (1 ≤ o ∧ o ≤ 4) ∨ (8 ≤ o ∧ o ≤ 15) ∨ o = 17 ∨ o = 18
def tkA (A : SA) (g : Nat) : SA := fun o j => if o = 0 ∧ j = 2 then A 0 2 - 1 else if isRw o ∧ g ≤ j ∧ j < 12 then (if j + 1 < 12 then A o (j + 1) else 0) else A o j
theorem tkA_o {A : SA} {g o j : Nat} (h1 : ¬ (o = 0 ∧ j = 2)) (h2 : ¬ isRw o) : tkA A g o j = A o j := by
  unfold tkA
  rw [if_neg h1, if_neg (fun z => h2 z.1)]
theorem tkA_n {A : SA} {g : Nat} : tkA A g 0 2 = A 0 2 - 1 := if_pos ⟨rfl, rfl⟩
theorem tkA_r {A : SA} {g o j : Nat} (h1 : isRw o) : tkA A g o j = if g ≤ j ∧ j < 12 then (if j + 1 < 12 then A o (j + 1) else 0) else A o j := by
  unfold tkA
  rw [if_neg (by unfold isRw at h1; omega)]
  by_cases h : g ≤ j ∧ j < 12
  · rw [if_pos ⟨h1, h⟩, if_pos h]
  · rw [if_neg (fun z => h z.2), if_neg h]
theorem WA_tk {told g : Nat} {A : SA} (h : WA told A) (hg : g < A 0 2) : WA told (tkA A g) := by
  obtain ⟨h1, h2, h3, h4, h5, h6, h7, h8, h9, h10, h11, h12, h13, h14⟩ := h
  have e : ∀ o j, ¬ (o = 0 ∧ j = 2) → ¬ isRw o → tkA A g o j = A o j := fun o j h0 h1 => tkA_o h0 h1
  have b : ∀ o K, isRw o → (∀ i, i < 12 → A o i ≤ K) → ∀ i, i < 12 → tkA A g o i ≤ K := fun o K ho hb i hi => by
    rw [tkA_r ho]
    by_cases hh : g ≤ i ∧ i < 12
    · rw [if_pos hh]
      by_cases h : i + 1 < 12
      · rw [if_pos h]; exact hb _ h
      · rw [if_neg h]; exact Nat.zero_le _
    · rw [if_neg hh]; exact hb i hi
  have z : ∀ o, isRw o → (∀ i, A 0 2 ≤ i → i < 12 → A o i = 0) → ∀ i, A 0 2 - 1 ≤ i → i < 12 → tkA A g o i = 0 := fun o ho hb i hi1 hi2 => by
    rw [tkA_r ho, if_pos ⟨by omega, hi2⟩]
    by_cases h : i + 1 < 12
    · rw [if_pos h]; exact hb _ (by omega) h
    · rw [if_neg h]
  refine ⟨⟨by rw [e 0 0 (by omega) (by unfold isRw; omega)]; exact h1.1, by rw [e 0 1 (by omega) (by unfold isRw; omega)]; exact h1.2.1, by rw [tkA_n]; omega⟩, fun i hi => ?_, b 2 12 (by unfold isRw; omega) h3, fun i hi => ⟨b 3 100 (by unfold isRw; omega) (fun i hi => (h4 i hi).1) i hi, b 4 100 (by unfold isRw; omega) (fun i hi => (h4 i hi).2.1) i hi, b 17 100 (by unfold isRw; omega) (fun i hi => (h4 i hi).2.2.1) i hi, b 18 100 (by unfold isRw; omega) (fun i hi => (h4 i hi).2.2.2) i hi⟩, fun i hi1 hi2 => ?_, fun d hd => by rw [e 5 d (by omega) (by unfold isRw; omega)]; exact h6 d hd, fun c hc => ⟨by rw [e 6 c (by omega) (by unfold isRw; omega)]; exact (h7 c hc).1, fun i hi => b (8 + c) 100 (by unfold isRw; omega) (h7 c hc).2 i hi⟩, by rw [e 19 1 (by omega) (by unfold isRw; omega)]; exact h8, by rw [e 21 1 (by omega) (by unfold isRw; omega)]; exact h9, fun d hd => by rw [e 20 d (by omega) (by unfold isRw; omega)]; exact h10 d hd, fun d hd => by rw [e 22 d (by omega) (by unfold isRw; omega)]; exact h11 d hd, by rw [e 16 0 (by omega) (by unfold isRw; omega)]; exact h12, by rw [e 16 0 (by omega) (by unfold isRw; omega), e 16 1 (by omega) (by unfold isRw; omega)]; exact h13, by rw [e 16 0 (by omega) (by unfold isRw; omega), e 16 1 (by omega) (by unfold isRw; omega)]; exact h14⟩
  · rw [tkA_n] at hi
    rw [tkA_r (by unfold isRw; omega)]
    by_cases hh : g ≤ i ∧ i < 12
    · rw [if_pos hh]
      rw [if_pos (by omega)]
      exact h2 _ (by omega)
    · rw [if_neg hh]; exact h2 i (by omega)
  · rw [tkA_n] at hi1
    exact ⟨z 3 (by unfold isRw; omega) (fun i a b => (h5 i a b).1) i hi1 hi2, z 4 (by unfold isRw; omega) (fun i a b => (h5 i a b).2.1) i hi1 hi2, z 17 (by unfold isRw; omega) (fun i a b => (h5 i a b).2.2.1) i hi1 hi2, z 18 (by unfold isRw; omega) (fun i a b => (h5 i a b).2.2.2.1) i hi1 hi2, fun c hc => z (8 + c) (by unfold isRw; omega) (fun i a b => (h5 i a b).2.2.2.2 c hc) i hi1 hi2⟩
def nx (f : Nat → Int32) (j : Nat) : Int32 := if j + 1 < 12 then f (j + 1) else 0
theorem nx_c {f f' : Nat → Int32} {j : Nat} (h : f (j + 1) = f' (j + 1)) : nx f j = nx f' j := by
  unfold nx
  rw [h]
def gpR (M : Mem) (x g : Nat) : Mem := setR M x g 12 (nx (M x))
theorem gpR_ap {M : Mem} {x g y j : Nat} : gpR M x g y j = if y = x ∧ g ≤ j ∧ j < 12 then nx (M x) j else M y j := rfl
theorem gpR_ok {M : Mem} {q o g : Nat} (hq : q < 28) (ho : o < 23) (h1 : shP o = 20) (h2 : lnP o = 12) (hg : g < 12) : fX11_closeGap M (pq q o) (nI g) = some (gpR M (pq q o) g) :=
  gap_ok (n := 12) (sp0 hq ho h1) (lp0 hq ho h2) (by omega) hg
theorem takeL_ok {q g : Nat} (hq : q < 28) (hg : g < 12) : ∀ (d k F : Nat) (M : Mem), k + d = 8 → d < F → ∃ M', fX6_removeLamp_L56 F M (pq q 0) (nI g) (pq q 7) (nI 8) (nI k) = some M' ∧ ∀ x j, M' x j = if pq q (8 + k) ≤ x ∧ x < pq q 16 ∧ g ≤ j ∧ j < 12 then nx (M x) j else M x j := by
  intro d
  induction d with
  | zero =>
    intro k F M hk hF
    obtain ⟨F, rfl⟩ : ∃ F', F = F' + 1 := ⟨F - 1, by omega⟩
    refine ⟨M, ?_, fun x j => ?_⟩
    · rw [fX6_removeLamp_L56, if_pos ((nI_leE (by omega) (by omega)).mpr (by omega))]
    · rw [if_neg (by unfold pq; omega)]
  | succ d ih =>
    intro k F M hk hF
    obtain ⟨F, rfl⟩ : ∃ F', F = F' + 1 := ⟨F - 1, by omega⟩
    obtain ⟨M', e1, e2⟩ := ih (k + 1) F (gpR M (pq q (8 + k)) g) (by omega) (by omega)
    refine ⟨M', ?_, fun x j => ?_⟩
    · rw [fX6_removeLamp_L56, if_neg (fun h => by have := (nI_leE (by omega) (by omega)).mp h; omega)]
      refine ob_in (aR_ok (n := 8) (sp0 hq (by omega) rfl) (lp0 hq (by omega) rfl) (by omega) (by omega) rf_pq7) ?_
      refine ob_in (gpR_ok hq (by omega) (shP_c (by omega)).1 (shP_c (by omega)).2 hg) ?_
      rw [li1, nI_addE]
      exact e1
    · rw [e2]
      by_cases h0 : x = pq q (8 + k)
      · subst h0
        rw [if_neg (by unfold pq; omega), gpR_ap]
        by_cases h4 : g ≤ j ∧ j < 12
        · rw [if_pos ⟨rfl, h4⟩, if_pos ⟨Nat.le_refl _, by unfold pq; omega, h4⟩]
        · rw [if_neg (fun z => h4 z.2), if_neg (fun z => h4 z.2.2)]
      · by_cases h1 : pq q (8 + k) ≤ x ∧ x < pq q 16 ∧ g ≤ j ∧ j < 12
        · rw [if_pos h1, if_pos (by unfold pq at h0 h1 ⊢; omega)]
          exact nx_c (by rw [gpR_ap, if_neg (fun z => h0 z.1)])
        · rw [if_neg h1, if_neg (by unfold pq at h0 h1 ⊢; omega), gpR_ap, if_neg (fun z => h0 z.1)]
theorem gp_at {M : Mem} {q o g o' j : Nat} (ho : o < 23) (ho' : o' < 23) : gpR M (pq q o) g (pq q o') j = if o' = o ∧ g ≤ j ∧ j < 12 then nx (M (pq q o)) j else M (pq q o') j := by
  rw [gpR_ap]
  by_cases h : o' = o ∧ g ≤ j ∧ j < 12
  · rw [if_pos ⟨by rw [h.1], h.2⟩, if_pos h]
  · rw [if_neg (fun z => h ⟨by unfold pq at z; omega, z.2⟩), if_neg h]
theorem FrC.gp {M : Mem} {q o g : Nat} (ho : o < 23) : FrC M (gpR M (pq q o) g) q := FrC.set ho
theorem takeC_ok {M : Mem} {q g : Nat} {A : SA} (hq : q < 28) (hC : CRel M q A) (hn : A 0 2 ≤ 12) (hg : g < A 0 2) : ∃ M', fX6_removeLamp M (pq q 0) (nI g) = some (nI (A 0 2 - 1), M') ∧ FrC M M' q ∧ CRel M' q (tkA A g) := by
  obtain ⟨Ma, hMa⟩ : ∃ Ma, Ma = gpR (gpR (gpR (gpR M (pq q 1) g) (pq q 2) g) (pq q 3) g) (pq q 4) g := ⟨_, rfl⟩
  obtain ⟨Mb, b1, b2⟩ := takeL_ok hq (g := g) (by omega) 8 0 5000 Ma (by omega) (by omega)
  obtain ⟨Mc, hMc⟩ : ∃ Mc, Mc = gpR (gpR Mb (pq q 17) g) (pq q 18) g := ⟨_, rfl⟩
  have aV : ∀ o j, o < 23 → Ma (pq q o) j = if (1 ≤ o ∧ o ≤ 4) ∧ g ≤ j ∧ j < 12 then nx (M (pq q o)) j else M (pq q o) j := fun o j ho => by
    rw [hMa]
    by_cases h : (1 ≤ o ∧ o ≤ 4) ∧ g ≤ j ∧ j < 12
    · rw [if_pos h]
      rcases (show o = 1 ∨ o = 2 ∨ o = 3 ∨ o = 4 by omega) with rfl | rfl | rfl | rfl <;> simp [gp_at, nx, h.2.1, h.2.2]
    · rw [if_neg h, gp_at (by omega) ho, if_neg (by omega), gp_at (by omega) ho, if_neg (by omega), gp_at (by omega) ho, if_neg (by omega), gp_at (by omega) ho, if_neg (by omega)]
  have bV : ∀ o j, o < 23 → Mb (pq q o) j = if ((1 ≤ o ∧ o ≤ 4) ∨ (8 ≤ o ∧ o ≤ 15)) ∧ g ≤ j ∧ j < 12 then nx (M (pq q o)) j else M (pq q o) j := fun o j ho => by
    rw [b2]
    by_cases h : pq q (8 + 0) ≤ pq q o ∧ pq q o < pq q 16 ∧ g ≤ j ∧ j < 12
    · rw [if_pos h, if_pos (c := ((1 ≤ o ∧ o ≤ 4) ∨ (8 ≤ o ∧ o ≤ 15)) ∧ g ≤ j ∧ j < 12) (by unfold pq at h; omega), nx_c (by rw [aV o (j + 1) ho, if_neg (c := (1 ≤ o ∧ o ≤ 4) ∧ g ≤ j + 1 ∧ j + 1 < 12) (by unfold pq at h; omega)])]
    · rw [if_neg h, aV _ _ ho]
      by_cases h' : (1 ≤ o ∧ o ≤ 4) ∧ g ≤ j ∧ j < 12
      · rw [if_pos h', if_pos ⟨Or.inl h'.1, h'.2⟩]
      · rw [if_neg h', if_neg (by unfold pq at h; omega)]
  have cV : ∀ o j, o < 23 → Mc (pq q o) j = if isRw o ∧ g ≤ j ∧ j < 12 then nx (M (pq q o)) j else M (pq q o) j := fun o j ho => by
    rw [hMc, gp_at (by omega) ho]
    by_cases h : o = 18 ∧ g ≤ j ∧ j < 12
    · obtain ⟨rfl, h⟩ := h
      rw [if_pos ⟨rfl, h⟩, if_pos ⟨by unfold isRw; omega, h⟩]
      exact nx_c (by rw [gp_at (by omega) (by omega), if_neg (by omega), bV _ _ (by omega), if_neg (by omega)])
    · rw [if_neg h, gp_at (by omega) ho]
      by_cases h' : o = 17 ∧ g ≤ j ∧ j < 12
      · obtain ⟨rfl, h'⟩ := h'
        rw [if_pos ⟨rfl, h'⟩, if_pos ⟨by unfold isRw; omega, h'⟩]
        exact nx_c (by rw [bV _ _ (by omega), if_neg (by omega)])
      · rw [if_neg h', bV _ _ ho]
        by_cases h2 : ((1 ≤ o ∧ o ≤ 4) ∨ (8 ≤ o ∧ o ≤ 15)) ∧ g ≤ j ∧ j < 12
        · rw [if_pos h2, if_pos ⟨by unfold isRw; omega, h2.2⟩]
        · rw [if_neg h2, if_neg (by unfold isRw; omega)]
  have n0 : Mc (pq q 0) 2 = nI (A 0 2) := by
    rw [cV 0 2 (by omega), if_neg (by unfold isRw; omega), cr0 hC (by omega)]
  have bf : FrC Ma Mb q := fun x hx => by
    funext j
    rw [b2, if_neg]
    rintro ⟨h1, h2, -⟩
    exact hx (x - pq q 0) (by unfold pq at *; omega) (by unfold pq at *; omega)
  have af : FrC M Ma q := by
    rw [hMa]
    exact (((FrC.gp (by omega)).tr (FrC.gp (by omega))).tr (FrC.gp (by omega))).tr (FrC.gp (by omega))
  have cf : FrC Mb Mc q := by
    rw [hMc]
    exact (FrC.gp (by omega)).tr (FrC.gp (by omega))
  refine ⟨up2 Mc (pq q 0) 2 (nI (A 0 2 - 1)), ?_, (af.tr (bf.tr cf)).tr (FrC.up (by omega)), fun o j ho hv => ?_⟩
  · unfold fX6_removeLamp
    rw [ifsp (o := 0) (t := 6) hq (by omega) rfl, hasLamp_ok hq (cr0 hC (by omega)) hn, ob_some, b01, if_pos (lamp_y hg hn)]
    refine ob_in (gR_ok (x := pq q 1) (sp0 hq (by omega) rfl) (rf_pq0 (by omega))) ?_
    refine ob_in (gpR_ok hq (by omega) rfl rfl (by omega)) ?_
    refine ob_in (gR_ok (x := pq q 2) (sp0 hq (by omega) rfl) (rf_pq0 (by omega))) ?_
    refine ob_in (gpR_ok hq (by omega) rfl rfl (by omega)) ?_
    refine ob_in (gR_ok (x := pq q 3) (sp0 hq (by omega) rfl) (rf_pq0 (by omega))) ?_
    refine ob_in (gpR_ok hq (by omega) rfl rfl (by omega)) ?_
    refine ob_in (gR_ok (x := pq q 4) (sp0 hq (by omega) rfl) (rf_pq0 (by omega))) ?_
    refine ob_in (gpR_ok hq (by omega) rfl rfl (by omega)) ?_
    rw [← hMa]
    refine ob_in (gR_ok (x := pq q 7) (sp0 hq (by omega) rfl) (rf_pq0 (by omega))) ?_
    refine ob_in (aN_ok (n := 8) (sp0 hq (by omega) rfl) (lp0 hq (by omega) rfl)) ?_
    refine ob_in b1 ?_
    refine ob_in (gR_ok (x := pq q 16) (sp0 hq (by omega) rfl) (rf_pq0 (by omega))) ?_
    refine ob_in (v := Mc) ?_ ?_
    · unfold fX1_removeLamp
      rw [ifsp (o := 16) (t := 1) hq (by omega) rfl]
      refine ob_in (gR_ok (x := pq q 17) (sp0 hq (by omega) rfl) rf_pq16a) ?_
      refine ob_in (gpR_ok hq (by omega) rfl rfl (by omega)) ?_
      refine ob_in (gR_ok (x := pq q 18) (sp0 hq (by omega) rfl) rf_pq16b) ?_
      refine ob_in (gpR_ok hq (by omega) rfl rfl (by omega)) ?_
      rw [hMc]
    refine ob_in (gI_ok (sp0 hq (by omega) rfl)) ?_
    refine ob_in (pI_ok (sp0 hq (by omega) rfl)) ?_
    refine ob_in (gI_ok (sp0 hq (by omega) rfl)) ?_
    rw [n0, li1, nI_subE (by omega), up2_same, if_pos rfl]
  · by_cases h02 : o = 0 ∧ j = 2
    · obtain ⟨rfl, rfl⟩ := h02
      rw [up2_same, if_pos rfl, tkA_n, vI_n (by omega)]
    · have e1 : up2 Mc (pq q 0) 2 (nI (A 0 2 - 1)) (pq q o) j = Mc (pq q o) j := by
        rw [up2_ap]
        by_cases h0 : pq q o = pq q 0
        · rw [if_pos h0, if_neg (fun z => h02 ⟨by rw [pq_eq ho (by omega)] at h0; exact h0.2, z⟩), h0]
        · rw [if_neg h0]
      rw [e1, cV o j ho]
      by_cases hr : isRw o
      · rw [tkA_r hr]
        have hv12 : ∀ i, i < 12 → valP o i = true := fun i hi => by
          unfold isRw at hr
          rcases (show o = 1 ∨ o = 2 ∨ o = 3 ∨ o = 4 ∨ o = 8 ∨ o = 9 ∨ o = 10 ∨ o = 11 ∨ o = 12 ∨ o = 13 ∨ o = 14 ∨ o = 15 ∨ o = 17 ∨ o = 18 by omega) with rfl | rfl | rfl | rfl | rfl | rfl | rfl | rfl | rfl | rfl | rfl | rfl | rfl | rfl <;> exact decide_eq_true hi
        by_cases h : g ≤ j ∧ j < 12
        · rw [if_pos ⟨hr, h⟩, if_pos h]
          unfold nx
          by_cases h2 : j + 1 < 12
          · rw [if_pos h2, if_pos h2, hC o (j + 1) ho (hv12 _ h2)]
          · rw [if_neg h2, if_neg h2]
            unfold vI
            rw [if_neg (by omega)]
            rfl
        · rw [if_neg (fun z => h z.2), if_neg h, hC o j ho hv]
      · rw [if_neg (fun z => hr z.1), tkA_o h02 hr, hC o j ho hv]
theorem takeA_L {p g m : Nat} (hp : p < 3) (hm : m < 12) : ∀ (d k F : Nat) (N : Mem), k + d = LX p m 0 → d < F → ∃ N', fX12_takeDown_L48 F N (nI p) (nI g) (nI m) (nI k) = some N' ∧ (∀ x, x ≠ 1 → N' x = N x) ∧ ∀ q, N' 1 q = if k ≤ q ∧ q < LX p m 0 then N 1 (q + 6) else N 1 q := by
  intro d
  induction d with
  | zero =>
    intro k F N hk hF
    obtain ⟨F, rfl⟩ : ∃ F', F = F' + 1 := ⟨F - 1, by omega⟩
    refine ⟨N, ?_, fun _ _ => rfl, fun q => ?_⟩
    · rw [fX12_takeDown_L48, ol0, ob_some, if_pos ((nI_leE (by unfold LX; omega) (by unfold LX at hk; omega)).mpr (by omega))]
    · rw [if_neg (by omega)]
  | succ d ih =>
    intro k F N hk hF
    obtain ⟨F, rfl⟩ : ∃ F', F = F' + 1 := ⟨F - 1, by omega⟩
    have hb : LX p m 0 + 6 ≤ 691 := by unfold LX; omega
    obtain ⟨N', e1, e2, e3⟩ := ih (k + 1) F (up2 N 1 k (N 1 (k + 6))) (by omega) (by omega)
    refine ⟨N', ?_, fun x hx => by rw [e2 x hx, up2_ne hx], fun q => ?_⟩
    · rw [fX12_takeDown_L48, ol0, ob_some, if_neg (fun h => by have := (nI_leE (by omega) (by omega)).mp h; omega), li6, nI_addE, s30 (by omega), ob_some, w30 (by omega), ob_some, li1, nI_addE, e1]
    · rw [e3]
      by_cases h1 : q = k
      · subst h1
        rw [if_neg (by omega), up2_same, if_pos rfl, if_pos (by omega)]
      · rw [N1_ne h1]
        by_cases h2 : k ≤ q ∧ q < LX p m 0
        · rw [if_pos h2, if_pos (by omega), N1_ne (by omega)]
        · rw [if_neg h2, if_neg (by omega)]
theorem takeB_L {p g m c : Nat} (hp : p < 3) (hm : m < 12) (hc : c < 8) : ∀ (d k F : Nat) (N : Mem), k + d = m → d < F → ∃ N', fX12_takeDown_L95 F N (nI p) (nI g) (nI m) (nI c) (nI k) = some N' ∧ (∀ x, x ≠ 1 → N' x = N x) ∧ ∀ q, N' 1 q = if CX p c + 1 + k ≤ q ∧ q < CX p c + 1 + m then N 1 (q + 1) else N 1 q := by
  intro d
  induction d with
  | zero =>
    intro k F N hk hF
    obtain ⟨F, rfl⟩ : ∃ F', F = F' + 1 := ⟨F - 1, by omega⟩
    refine ⟨N, ?_, fun _ _ => rfl, fun q => ?_⟩
    · rw [fX12_takeDown_L95, if_pos ((nI_leE (by omega) (by omega)).mpr (by omega))]
    · rw [if_neg (by omega)]
  | succ d ih =>
    intro k F N hk hF
    obtain ⟨F, rfl⟩ : ∃ F', F = F' + 1 := ⟨F - 1, by omega⟩
    obtain ⟨N', e1, e2, e3⟩ := ih (k + 1) F (up2 N 1 (CX p c + 1 + k) (N 1 (CX p c + 2 + k))) (by omega) (by omega)
    have hb := CX_lt (i := 12) hp hc (by omega)
    refine ⟨N', ?_, fun x hx => by rw [e2 x hx, up2_ne hx], fun q => ?_⟩
    · rw [fX12_takeDown_L95, if_neg (fun h => by have := (nI_leE (by omega) (by omega)).mp h; omega), ofCue_ok, ob_some, ob_some, li1, li2, nI_addE, nI_addE, s30 (by omega), ob_some, nI_addE, nI_addE, w30 (by omega), ob_some, nI_addE, e1]
    · rw [e3]
      by_cases h1 : q = CX p c + 1 + k
      · subst h1
        rw [if_neg (by omega), up2_same, if_pos rfl, if_pos (by omega)]
        exact congrArg (N 1) (by omega)
      · rw [N1_ne h1]
        by_cases h2 : CX p c + 1 + k ≤ q ∧ q < CX p c + 1 + m
        · rw [if_pos h2, if_pos (by omega), N1_ne (by omega)]
        · rw [if_neg h2, if_neg (by omega)]
theorem takeD_L {p g m : Nat} (hp : p < 3) (hm : m < 12) (hg : g ≤ m) : ∀ (d k F : Nat) (N : Mem), k + d = 8 → d < F → ∃ N', fX12_takeDown_L85 F N (nI p) (nI g) (nI m) (nI k) = some N' ∧ (∀ x, x ≠ 1 → N' x = N x) ∧ ∀ q, N' 1 q = if CX p k ≤ q ∧ q < CX p 8 ∧ g + 1 ≤ (q - CX p 0) % 13 ∧ (q - CX p 0) % 13 < m + 1 then N 1 (q + 1) else N 1 q := by
  intro d
  induction d with
  | zero =>
    intro k F N hk hF
    obtain ⟨F, rfl⟩ : ∃ F', F = F' + 1 := ⟨F - 1, by omega⟩
    refine ⟨N, ?_, fun _ _ => rfl, fun q => ?_⟩
    · rw [fX12_takeDown_L85, li8, if_pos ((nI_leE (by omega) (by omega)).mpr (by omega))]
    · rw [if_neg (by unfold CX; omega)]
  | succ d ih =>
    intro k F N hk hF
    obtain ⟨F, rfl⟩ : ∃ F', F = F' + 1 := ⟨F - 1, by omega⟩
    obtain ⟨N1, f1, f2, f3⟩ := takeB_L (g := g) hp hm (c := k) (by omega) (m - g) g 5000 N (by omega) (by omega)
    obtain ⟨N', e1, e2, e3⟩ := ih (k + 1) F N1 (by omega) (by omega)
    refine ⟨N', ?_, fun x hx => by rw [e2 x hx, f2 x hx], fun q => ?_⟩
    · rw [fX12_takeDown_L85, li8, if_neg (fun h => by have := (nI_leE (by omega) (by omega)).mp h; omega)]
      refine ob_in f1 ?_
      rw [li1, nI_addE]
      exact e1
    · rw [e3]
      by_cases h1 : CX p (k + 1) ≤ q ∧ q < CX p 8 ∧ g + 1 ≤ (q - CX p 0) % 13 ∧ (q - CX p 0) % 13 < m + 1
      · rw [if_pos h1, if_pos (by unfold CX at h1 ⊢; omega), f3, if_neg (by unfold CX at h1 ⊢; omega)]
      · rw [if_neg h1, f3]
        by_cases h2 : CX p k + 1 + g ≤ q ∧ q < CX p k + 1 + m
        · rw [if_pos h2, if_pos (by unfold CX at h1 h2 ⊢; omega)]
        · rw [if_neg h2, if_neg (by unfold CX at h1 h2 ⊢; omega)]
theorem RP_tk {σ σ' : Nat → Int32} {p g : Nat} {A : SA} (h : RP σ p A) (hn : A 0 2 ≤ 12) (hg : g < A 0 2)
    (e : ∀ q, σ' q = if CX p 0 ≤ q ∧ q < CX p 8 ∧ g + 1 ≤ (q - CX p 0) % 13 ∧ (q - CX p 0) % 13 < A 0 2 - 1 + 1 then σ (q + 1) else if LX p g 0 ≤ q ∧ q < LX p (A 0 2 - 1) 0 then σ (q + 6) else if q = AX p 2 then nI (A 0 2 - 1) else σ q) : RP σ' p (tkA A g) := by
  obtain ⟨a1, b2, b3, b4, b5, b6, b7, b8, b9, b10⟩ := h
  have o : ∀ q, q ≠ AX p 2 → ¬ (CX p 0 ≤ q ∧ q < CX p 8 ∧ g + 1 ≤ (q - CX p 0) % 13 ∧ (q - CX p 0) % 13 < A 0 2 - 1 + 1) → ¬ (LX p g 0 ≤ q ∧ q < LX p (A 0 2 - 1) 0) → σ' q = σ q := fun q h1 h2 h3 => by
    rw [e, if_neg h2, if_neg h3, if_neg h1]
  have gg : ∀ o j, ¬ (o = 0 ∧ j = 2) → ¬ isRw o → tkA A g o j = A o j := fun o j h0 h1 => tkA_o h0 h1
  refine ⟨fun j hj => ?_, fun i hi => ?_, fun d hd => ?_, fun d hd => ?_, fun d hd => ?_, fun d hd => ?_, fun d hd => ?_, fun c hc => ⟨?_, fun i hi => ?_⟩, ?_, fun h0 => ?_⟩
  · by_cases h2 : j = 2
    · subst h2
      rw [tkA_n, e, if_neg (by unfold CX PB; omega), if_neg (by unfold LX PB; omega), if_pos (by unfold AX PB; omega)]
    · rw [o _ (by unfold AX PB; omega) (by unfold CX PB; omega) (by unfold LX PB; omega), gg _ _ (by omega) (by unfold isRw; omega)]
      exact a1 j hj
  · rw [tkA_n] at hi
    rw [tkA_r (o := 1) (by unfold isRw; omega), tkA_r (o := 2) (by unfold isRw; omega), tkA_r (o := 3) (by unfold isRw; omega), tkA_r (o := 4) (by unfold isRw; omega), tkA_r (o := 17) (by unfold isRw; omega), tkA_r (o := 18) (by unfold isRw; omega)]
    by_cases hgi : g ≤ i ∧ i < 12
    · rw [if_pos hgi, if_pos hgi, if_pos hgi, if_pos hgi, if_pos hgi, if_pos hgi]
      have h13 : i + 1 < 12 := by omega
      rw [if_pos h13, if_pos h13, if_pos h13, if_pos h13, if_pos h13, if_pos h13]
      have w : ∀ k, k < 6 → σ' (PB p + 3 + 6 * i + k) = σ (PB p + 3 + 6 * (i + 1) + k) := fun k hk => by
        rw [e, if_neg (by unfold CX PB; omega), if_pos (by unfold LX PB; omega)]
        exact congrArg σ (by omega)
      have w0 : σ' (PB p + 3 + 6 * i) = σ (PB p + 3 + 6 * (i + 1)) := w 0 (by omega)
      rw [w0, w 1 (by omega), w 2 (by omega), w 3 (by omega), w 4 (by omega), w 5 (by omega)]
      exact b2 (i + 1) (by omega)
    · rw [if_neg hgi, if_neg hgi, if_neg hgi, if_neg hgi, if_neg hgi, if_neg hgi]
      rw [o _ (by unfold AX PB; omega) (by unfold CX PB; omega) (by unfold LX PB; omega), o _ (by unfold AX PB; omega) (by unfold CX PB; omega) (by unfold LX PB; omega), o _ (by unfold AX PB; omega) (by unfold CX PB; omega) (by unfold LX PB; omega), o _ (by unfold AX PB; omega) (by unfold CX PB; omega) (by unfold LX PB; omega), o _ (by unfold AX PB; omega) (by unfold CX PB; omega) (by unfold LX PB; omega), o _ (by unfold AX PB; omega) (by unfold CX PB; omega) (by unfold LX PB; omega)]
      exact b2 i (by omega)
  · rw [gg 5 d (by omega) (by unfold isRw; omega), o _ (by unfold AX PB; omega) (by unfold CX PB; omega) (by unfold LX PB; omega)]; exact b3 d hd
  · rw [gg 19 1 (by omega) (by unfold isRw; omega), o _ (by unfold AX PB; omega) (by unfold CX PB; omega) (by unfold LX PB; omega)]; exact b4 d hd
  · rw [gg 21 1 (by omega) (by unfold isRw; omega), o _ (by unfold AX PB; omega) (by unfold CX PB; omega) (by unfold LX PB; omega)]; exact b5 d hd
  · rw [gg 20 d (by omega) (by unfold isRw; omega), o _ (by unfold AX PB; omega) (by unfold CX PB; omega) (by unfold LX PB; omega)]; exact b6 d hd
  · rw [gg 22 d (by omega) (by unfold isRw; omega), o _ (by unfold AX PB; omega) (by unfold CX PB; omega) (by unfold LX PB; omega)]; exact b7 d hd
  · rw [gg 6 c (by omega) (by unfold isRw; omega), o _ (by unfold AX PB; omega) (by unfold CX PB; omega) (by unfold LX PB; omega)]; exact (b8 c hc).1
  · rw [tkA_n] at hi
    rw [tkA_r (o := 8 + c) (by unfold isRw; omega)]
    by_cases hgi : g ≤ i ∧ i < 12
    · rw [if_pos hgi, if_pos (by omega), e, if_pos (by unfold CX PB; omega)]
      exact (b8 c hc).2 (i + 1) (by omega)
    · rw [if_neg hgi, o _ (by unfold AX PB; omega) (by unfold CX PB; omega) (by unfold LX PB; omega)]; exact (b8 c hc).2 i (by omega)
  · rw [gg 16 0 (by omega) (by unfold isRw; omega), o _ (by unfold AX PB; omega) (by unfold CX PB; omega) (by unfold LX PB; omega)]; exact b9
  · rw [gg 16 0 (by omega) (by unfold isRw; omega)] at h0
    rw [gg 16 1 (by omega) (by unfold isRw; omega), o _ (by unfold AX PB; omega) (by unfold CX PB; omega) (by unfold LX PB; omega)]; exact b10 h0
theorem op_take {M N : Mem} (h : Rel M N) (a1 a2 : Int32) : OK (fX11_takeDown M a1 a2) (fX12_takeDown N a1 a2) := by
  obtain ⟨⟨T, A, hL⟩, n, hR⟩ := id h
  rcases ic a1 2 2 rfl (by omega) with ⟨p, hp, rfl, hpy⟩ | h1
  · have hC := cr_live hL (p := p) (by omega)
    have hW := wa_live hL (p := p) (by omega)
    have hP := rp_live hL (p := p) (by omega)
    have h12 : A p 0 2 ≤ 12 := hW.1.2.2
    rcases lamp_cases a2 hW.1.2.2 with ⟨g, hg, rfl⟩ | h2
    · obtain ⟨M1, e1, e2, hL1, hR1⟩ := push_know hL hR
      have hC1 := cr_live hL1 (p := p) (by omega)
      have hP1 := rp_live hL1 (p := p) (by omega)
      obtain ⟨M2, c1, c2, c3⟩ := takeC_ok (by omega) hC1 h12 hg
      obtain ⟨N2, f1, f2, f3⟩ := takeA_L (p := p) (g := g) (m := A p 0 2 - 1) (by omega) (by omega) (LX p (A p 0 2 - 1) 0 - LX p g 0) (LX p g 0) 5000 (up2 (knN N n) 1 (AX p 2) (nI (A p 0 2 - 1))) (by unfold LX; omega) (by unfold LX; omega)
      obtain ⟨N3, k1, k2, k3⟩ := takeD_L (p := p) (g := g) (m := A p 0 2 - 1) (by omega) (by omega) (by omega) 8 0 5000 N2 (by omega) (by omega)
      have e : ∀ q, N3 1 q = if CX p 0 ≤ q ∧ q < CX p 8 ∧ g + 1 ≤ (q - CX p 0) % 13 ∧ (q - CX p 0) % 13 < A p 0 2 - 1 + 1 then knN N n 1 (q + 1) else if LX p g 0 ≤ q ∧ q < LX p (A p 0 2 - 1) 0 then knN N n 1 (q + 6) else if q = AX p 2 then nI (A p 0 2 - 1) else knN N n 1 q := fun q => by
        rw [k3]
        by_cases h1 : CX p 0 ≤ q ∧ q < CX p 8 ∧ g + 1 ≤ (q - CX p 0) % 13 ∧ (q - CX p 0) % 13 < A p 0 2 - 1 + 1
        · rw [if_pos h1, if_pos h1, f3, if_neg (by unfold CX at h1; unfold LX; omega), N1_ne (by unfold CX at h1; unfold AX; omega)]
        · rw [if_neg h1, if_neg h1, f3]
          by_cases h2 : LX p g 0 ≤ q ∧ q < LX p (A p 0 2 - 1) 0
          · rw [if_pos h2, if_pos h2, N1_ne (by unfold LX at h2; unfold AX; omega)]
          · rw [if_neg h2, if_neg h2, up2_same]
      refine OK_in (r := nI (A p 0 2 - 1)) (M := M2) (N := N3) ?_ ?_ (fin_f hL1 hR1 (p := p) (by omega) c2 c3 ⟨fun x hx => by rw [k2 x hx, f2 x hx, up2_ne hx], fun k hk => ?_⟩ (RP_tk hP1 h12 hg e) (WA_tk hW hg))
      · unfold fX11_takeDown
        rw [find_ok (by omega), ob_some, caseO_some, hasLamp_ok (by omega) (cr0 hC (by omega)) hW.1.2.2, ob_some, b01, if_pos (lamp_y hg hW.1.2.2), e1, ob_some, c1, ob2_some]
      · unfold fX12_takeDown
        rw [isLamp_ok (by omega) hP hW.1.2.2, ob_some, b01, if_pos (lamp_y hg hW.1.2.2), e2, ob_some, at1_2, ob_some, s30 (AX_lt (by omega) (by omega)), ob_some, ra0 hP1 (by omega), li1, nI_subE (by omega), w30 (AX_lt (by omega) (by omega)), ob_some, ob_some, s30 (AX_lt (by omega) (by omega)), ob_some, up2_same, if_pos rfl, ol0, ob_some]
        refine ob_in f1 ?_
        exact ob_in k1 rfl
      · rw [e, if_neg (by unfold CX; unfold PB at hk; omega), if_neg (by unfold LX; unfold PB at hk; omega), if_neg (by unfold AX; unfold PB at hk; omega)]
    · refine OK_er (r := -1) h ?_ ?_
      · unfold fX11_takeDown
        rw [find_ok (by omega), ob_some, caseO_some, hasLamp_ok (by omega) (cr0 hC (by omega)) hW.1.2.2, ob_some, b01, if_neg h2]
      · unfold fX12_takeDown
        rw [isLamp_ok (by omega) hP hW.1.2.2, ob_some, b01, if_neg h2]
  · refine OK_er (r := -1) h ?_ ?_
    · unfold fX11_takeDown
      rw [find_bad h1, ob_some, caseO_none]
    · unfold fX12_takeDown
      rw [isLamp_bad h1, ob_some, if_pos rfl]
