/-! a fade's step -/
def lvl (f t g T : Nat) : Nat := if f ≤ t then f + (t - f) * g / T else f - (f - t) * g / T
theorem nI_neg {x : Nat} (h : x < 2 ^ 31) : (-nI x : Int32).toInt = -(x : Int) := by
  rw [Int32.toInt_neg, nI_toInt h, Int.bmod_def]
  omega
theorem neg_div {x T : Nat} (hx : x < 2 ^ 31) (hT0 : 0 < T) (hT : T < 2 ^ 31) : (-nI x : Int32) / nI T = -nI (x / T) := by
  refine Int32.toInt_inj.mp ?_
  have hq : x / T ≤ x := Nat.div_le_self _ _
  have e : (Int.tdiv (x : Int) (T : Int)) = ((x / T : Nat) : Int) := rfl
  rw [Int32.toInt_div, nI_neg hx, nI_toInt hT, Int.neg_tdiv, e, nI_neg (by omega)]
  generalize x / T = c at hq
  rw [Int.bmod_def]
  omega
theorem lvl_le {f t g T : Nat} (hf : f ≤ 100) (ht : t ≤ 100) (hg : g ≤ T) : lvl f t g T ≤ 100 := by
  unfold lvl
  by_cases h : f ≤ t
  · rw [if_pos h]
    have h1 : (t - f) * g / T ≤ t - f := Nat.div_le_of_le_mul (by rw [Nat.mul_comm]; exact Nat.mul_le_mul_right _ hg)
    omega
  · rw [if_neg h]
    exact Nat.le_trans (Nat.sub_le _ _) hf
theorem lvl_ok {f t g T : Nat} (hf : f ≤ 100) (ht : t ≤ 100) (hg : g ≤ T) (hT0 : 0 < T) (hT : T ≤ 50) : ∃ x, dv ((nI t - nI f) * nI g) (nI T) = some x ∧ nI f + x = nI (lvl f t g T) := by
  unfold lvl dv
  rw [if_neg (nI_ne0 hT0 (by omega))]
  by_cases h : f ≤ t
  · have hm : (t - f) * g ≤ 100 * 50 := Nat.mul_le_mul (by omega) (by omega)
    refine ⟨nI ((t - f) * g / T), ?_, ?_⟩
    · rw [nI_subE h, nI_mulE, nI_divE (by omega) hT0 (by omega)]
    · rw [nI_addE, if_pos h]
  · have hm : (f - t) * g ≤ 100 * 50 := Nat.mul_le_mul (by omega) (by omega)
    have h1 : (f - t) * g / T ≤ f - t := Nat.div_le_of_le_mul (by rw [Nat.mul_comm]; exact Nat.mul_le_mul_right _ hg)
    refine ⟨-nI ((f - t) * g / T), ?_, ?_⟩
    · rw [show (nI t - nI f : Int32) = -(nI f - nI t) from (Int32.neg_sub).symm, nI_subE (by omega), Int32.neg_mul, nI_mulE, neg_div (by omega) hT0 (by omega)]
    · rw [if_neg h, ← Int32.sub_eq_add_neg, nI_subE (by omega)]
def stepA (A : SA) : SA := fun o j => if A 16 0 = 0 then A o j else if o = 4 ∧ j < 12 then lvl (A 17 j) (A 18 j) (A 16 1 + 1) (A 16 0) else if o = 16 ∧ j = 0 then (if A 16 1 + 1 < A 16 0 then A 16 0 else 0) else if o = 16 ∧ j = 1 then (if A 16 1 + 1 < A 16 0 then A 16 1 + 1 else 0) else A o j
theorem stepA_o {A : SA} {o j : Nat} (h4 : o ≠ 4) (h16 : o ≠ 16) : stepA A o j = A o j := by
  unfold stepA
  by_cases h : A 16 0 = 0
  · rw [if_pos h]
  · rw [if_neg h, if_neg (fun z => h4 z.1), if_neg (fun z => h16 z.1), if_neg (fun z => h16 z.1)]
theorem stepA_0 {A : SA} (h : A 16 0 = 0) : stepA A = A := by
  funext o j
  exact if_pos h
theorem stepA_4 {A : SA} {j : Nat} (h : A 16 0 ≠ 0) (hj : j < 12) : stepA A 4 j = lvl (A 17 j) (A 18 j) (A 16 1 + 1) (A 16 0) := by
  unfold stepA
  rw [if_neg h, if_pos ⟨rfl, hj⟩]
theorem stepA_T {A : SA} (h : A 16 0 ≠ 0) : stepA A 16 0 = if A 16 1 + 1 < A 16 0 then A 16 0 else 0 := by
  unfold stepA
  rw [if_neg h, if_neg (by omega), if_pos ⟨rfl, rfl⟩]
theorem stepA_g {A : SA} (h : A 16 0 ≠ 0) : stepA A 16 1 = if A 16 1 + 1 < A 16 0 then A 16 1 + 1 else 0 := by
  unfold stepA
  rw [if_neg h, if_neg (by omega), if_neg (by omega), if_pos ⟨rfl, rfl⟩]
theorem lvl_zero {g T : Nat} : lvl 0 0 g T = 0 := by
  unfold lvl
  rw [if_pos (Nat.le_refl _), Nat.sub_zero, Nat.zero_mul, Nat.zero_div]
theorem WA_step {K told : Nat} {A : SA} (h : WG K told A) : WG K told (stepA A) := by
  by_cases h0 : A 16 0 = 0
  · rw [stepA_0 h0]
    exact h
  · obtain ⟨h1, h2, h3, h4, h5, h6, h7, h8, h9, h10, h11, h12, h13, h14⟩ := h
    have e : ∀ o j, o ≠ 4 → o ≠ 16 → stepA A o j = A o j := fun o j a b => stepA_o a b
    have hg := h14 h0
    refine ⟨by rw [e 0 0 (by omega) (by omega), e 0 1 (by omega) (by omega), e 0 2 (by omega) (by omega)]; exact h1, fun i hi => by rw [e 0 2 (by omega) (by omega)] at hi; rw [e 1 i (by omega) (by omega)]; exact h2 i hi, fun i hi => by rw [e 2 i (by omega) (by omega)]; exact h3 i hi, fun i hi => ⟨by rw [e 3 i (by omega) (by omega)]; exact (h4 i hi).1, by rw [stepA_4 h0 hi]; exact lvl_le (h4 i hi).2.2.1 (h4 i hi).2.2.2 (by omega), by rw [e 17 i (by omega) (by omega)]; exact (h4 i hi).2.2.1, by rw [e 18 i (by omega) (by omega)]; exact (h4 i hi).2.2.2⟩, fun i hi1 hi2 => ?_, fun d hd => by rw [e 5 d (by omega) (by omega)]; exact h6 d hd, fun c hc => ⟨by rw [e 6 c (by omega) (by omega)]; exact (h7 c hc).1, fun i hi => by rw [e (8 + c) i (by omega) (by omega)]; exact (h7 c hc).2 i hi⟩, by rw [e 19 1 (by omega) (by omega)]; exact h8, by rw [e 21 1 (by omega) (by omega)]; exact h9, fun d hd => by rw [e 20 d (by omega) (by omega)]; exact h10 d hd, fun d hd => by rw [e 22 d (by omega) (by omega)]; exact h11 d hd, ?_, ?_, ?_⟩
    · rw [e 0 2 (by omega) (by omega)] at hi1
      have g := h5 i hi1 hi2
      refine ⟨by rw [e 3 i (by omega) (by omega)]; exact g.1, by rw [stepA_4 h0 hi2, g.2.2.1, g.2.2.2.1, lvl_zero], by rw [e 17 i (by omega) (by omega)]; exact g.2.2.1, by rw [e 18 i (by omega) (by omega)]; exact g.2.2.2.1, fun c hc => by rw [e (8 + c) i (by omega) (by omega)]; exact g.2.2.2.2 c hc⟩
    · rw [stepA_T h0]
      split <;> omega
    · rw [stepA_T h0, stepA_g h0]
      split <;> omega
    · rw [stepA_T h0, stepA_g h0]
      split <;> omega
theorem stepC_L {M0 : Mem} {q : Nat} {A : SA} {K told g T : Nat} (hq : q < 28) (hC : CRel M0 q A) (hW : WG K told A) (hg : g ≤ T) (hT0 : 0 < T) (hT : T ≤ 50) : ∀ (d k F : Nat) (M : Mem), k + d = 12 → d < F → (∀ x, x ≠ pq q 16 → x ≠ pq q 4 → M x = M0 x) → M (pq q 16) 0 = nI T → M (pq q 16) 1 = nI g → ∃ M', fX1_step_L20 F M (pq q 16) (pq q 4) (nI k) = some M' ∧ ∀ x j, M' x j = if x = pq q 4 ∧ k ≤ j ∧ j < 12 then nI (lvl (A 17 j) (A 18 j) g T) else M x j := by
  intro d
  induction d with
  | zero =>
    intro k F M hk hF hM hM1 hM2
    obtain ⟨F, rfl⟩ : ∃ F', F = F' + 1 := ⟨F - 1, by omega⟩
    refine ⟨M, ?_, fun x j => by rw [if_neg (by omega)]⟩
    rw [fX1_step_L20, li12, if_pos ((nI_leE (by omega) (by omega)).mpr (by omega))]
  | succ d ih =>
    intro k F M hk hF hM hM1 hM2
    obtain ⟨F, rfl⟩ : ∃ F', F = F' + 1 := ⟨F - 1, by omega⟩
    have hk12 := (hW.2.2.2.1 k (by omega)).2.2
    obtain ⟨x, x1, x2⟩ := lvl_ok (f := A 17 k) (t := A 18 k) hk12.1 hk12.2 hg hT0 hT
    have m17 : M (pq q 17) k = nI (A 17 k) := by rw [hM _ (by unfold pq; omega) (by unfold pq; omega), cr17 hC (by omega)]
    have m18 : M (pq q 18) k = nI (A 18 k) := by rw [hM _ (by unfold pq; omega) (by unfold pq; omega), cr18 hC (by omega)]
    obtain ⟨M', e1, e2⟩ := ih (k + 1) F (up2 M (pq q 4) k (nI (lvl (A 17 k) (A 18 k) g T))) (by omega) (by omega) (fun x h1 h2 => by rw [up2_ne h2]; exact hM x h1 h2) (by rw [up2_ne (by unfold pq; omega)]; exact hM1) (by rw [up2_ne (by unfold pq; omega)]; exact hM2)
    refine ⟨M', ?_, fun y j => ?_⟩
    · rw [fX1_step_L20, li12, if_neg (fun z => by have := (nI_leE (by omega) (by omega)).mp z; omega)]
      refine ob_in (aN_ok (n := 12) (sp0 hq (by omega) rfl) (lp0 hq (by omega) rfl)) ?_
      rw [if_neg (fun z => by have := (nI_leE (by omega) (by omega)).mp z; omega)]
      refine ob_in (gR_ok (x := pq q 17) (sp0 hq (by omega) rfl) rf_pq16a) ?_
      refine ob_in (aL_ok (n := 12) (sp0 hq (by omega) rfl) (lp0 hq (by omega) rfl) (by omega) (by omega)) ?_
      refine ob_in (gR_ok (x := pq q 18) (sp0 hq (by omega) rfl) rf_pq16b) ?_
      refine ob_in (aL_ok (n := 12) (sp0 hq (by omega) rfl) (lp0 hq (by omega) rfl) (by omega) (by omega)) ?_
      refine ob_in (gR_ok (x := pq q 17) (sp0 hq (by omega) rfl) rf_pq16a) ?_
      refine ob_in (aL_ok (n := 12) (sp0 hq (by omega) rfl) (lp0 hq (by omega) rfl) (by omega) (by omega)) ?_
      refine ob_in (gI_ok (sp0 hq (by omega) rfl)) ?_
      refine ob_in (gI_ok (sp0 hq (by omega) rfl)) ?_
      rw [m17, m18, hM1, hM2]
      refine ob_in x1 ?_
      refine ob_in (aS_ok (n := 12) (sp0 hq (by omega) rfl) (lp0 hq (by omega) rfl) (by omega) (by omega)) ?_
      rw [x2, li1, nI_addE]
      exact e1
    · rw [e2]
      by_cases h1 : y = pq q 4 ∧ k + 1 ≤ j ∧ j < 12
      · rw [if_pos h1, if_pos ⟨h1.1, by omega, h1.2.2⟩]
      · rw [if_neg h1, up2_ap]
        by_cases h2 : y = pq q 4
        · rw [if_pos h2]
          by_cases h3 : j = k
          · rw [if_pos h3, if_pos ⟨h2, by omega, by omega⟩, h3]
          · rw [if_neg h3, if_neg (by omega)]
        · rw [if_neg h2, if_neg (fun z => h2 z.1)]
theorem stepC_ok {M : Mem} {q K told : Nat} {A : SA} (hq : q < 28) (hC : CRel M q A) (hW : WG K told A) : ∃ M', fX1_step M (pq q 16) (pq q 4) = some M' ∧ FrC M M' q ∧ CRel M' q (stepA A) := by
  have h50 := hW.2.2.2.2.2.2.2.2.2.2.2.1
  by_cases h0 : A 16 0 = 0
  · refine ⟨M, ?_, fun _ _ => rfl, by rw [stepA_0 h0]; exact hC⟩
    unfold fX1_step
    rw [ifsp (o := 16) (t := 1) hq (by omega) rfl]
    refine ob_in (gI_ok (sp0 hq (by omega) rfl)) ?_
    rw [cr16 hC (by omega), h0]
    exact if_neg (by decide)
  · have hg := hW.2.2.2.2.2.2.2.2.2.2.2.2.2 h0
    obtain ⟨M1, hM1⟩ : ∃ M1, M1 = up2 M (pq q 16) 1 (nI (A 16 1 + 1)) := ⟨_, rfl⟩
    have o1 : ∀ x, x ≠ pq q 16 → M1 x = M x := fun x hx => by rw [hM1, up2_ne hx]
    have o2 : M1 (pq q 16) 0 = nI (A 16 0) := by rw [hM1, up2_same, if_neg (by omega), cr16 hC (by omega)]
    have o3 : M1 (pq q 16) 1 = nI (A 16 1 + 1) := by rw [hM1, up2_same, if_pos rfl]
    obtain ⟨M2, e1, e2⟩ := stepC_L (g := A 16 1 + 1) (T := A 16 0) hq hC hW (by omega) (by omega) h50 12 0 5000 M1 (by omega) (by omega) (fun x h1 _ => o1 x h1) o2 o3
    have p2 : M2 (pq q 16) 0 = nI (A 16 0) := by rw [e2, if_neg (by unfold pq; omega), o2]
    have p3 : M2 (pq q 16) 1 = nI (A 16 1 + 1) := by rw [e2, if_neg (by unfold pq; omega), o3]
    obtain ⟨M3, hM3⟩ : ∃ M3, M3 = if A 16 1 + 1 < A 16 0 then M2 else up2 (up2 M2 (pq q 16) 0 0) (pq q 16) 1 0 := ⟨_, rfl⟩
    have r1 : ∀ x, x ≠ pq q 16 → M3 x = M2 x := fun x hx => by
      rw [hM3]
      split
      · rfl
      · rw [up2_ne hx, up2_ne hx]
    have r2 : M3 (pq q 16) 0 = nI (stepA A 16 0) := by
      rw [hM3, stepA_T h0]
      split
      · exact p2
      · rw [up2_same, if_neg (by omega), up2_same, if_pos rfl]
        rfl
    have r3 : M3 (pq q 16) 1 = nI (stepA A 16 1) := by
      rw [hM3, stepA_g h0]
      split
      · exact p3
      · rw [up2_same, if_pos rfl]
        rfl
    refine ⟨M3, ?_, fun x hx => ?_, fun o j ho hv => ?_⟩
    · unfold fX1_step
      rw [ifsp (o := 16) (t := 1) hq (by omega) rfl]
      refine ob_in (gI_ok (sp0 hq (by omega) rfl)) ?_
      rw [cr16 hC (by omega), if_pos (show (0 : Int32) < nI (A 16 0) from nI_lt (a := 0) (by omega) (by omega))]
      refine ob_in (gI_ok (sp0 hq (by omega) rfl)) ?_
      refine ob_in (pI_ok (sp0 hq (by omega) rfl)) ?_
      rw [cr16 hC (by omega), li1, nI_addE, ← hM1]
      refine ob_in e1 ?_
      refine ob_in (gI_ok (sp0 hq (by omega) rfl)) ?_
      refine ob_in (gI_ok (sp0 hq (by omega) rfl)) ?_
      rw [p2, p3, hM3]
      by_cases hlt : A 16 1 + 1 < A 16 0
      · rw [if_pos (nI_lt hlt (by omega)), if_pos hlt]
      · rw [if_neg (nI_nlt (by omega) (by omega)), if_neg hlt]
        refine ob_in (pI_ok (sp0 hq (by omega) rfl)) ?_
        exact ob_in (pI_ok (sp0 hq (by omega) rfl)) rfl
    · rw [r1 x (hx 16 (by omega))]
      funext j
      rw [e2, if_neg (fun z => hx 4 (by omega) z.1), o1 x (hx 16 (by omega))]
    · by_cases h16 : o = 16
      · subst h16
        have hj2 : j < 2 := of_decide_eq_true hv
        rw [vI_n (by omega)]
        rcases (show j = 0 ∨ j = 1 by omega) with rfl | rfl
        · exact r2
        · exact r3
      · rw [r1 _ (by unfold pq; omega), e2]
        by_cases h4 : o = 4
        · subst h4
          have hj : j < 12 := of_decide_eq_true hv
          rw [if_pos ⟨rfl, by omega, hj⟩, stepA_4 h0 hj, vI_n (by omega)]
        · rw [if_neg (fun z => h4 (by have := z.1; rw [pq_eq ho (by omega)] at this; exact this.2)), o1 _ (by unfold pq; omega), stepA_o h4 h16]
          exact hC o j ho hv
theorem stepR_L {p n g T K told : Nat} {A : SA} (hp : p < 3) (hn : n ≤ 12) (hW : WG K told A) (hg : g ≤ T) (hT0 : 0 < T) (hT : T ≤ 50) : ∀ (d k F : Nat) (N : Mem), k + d = n → d < F → N 1 (AX p 2) = nI n → (∀ i, k ≤ i → i < n → N 1 (LX p i 4) = nI (A 17 i) ∧ N 1 (LX p i 5) = nI (A 18 i)) → ∃ N', fX12_turn_L49 F N (nI p) (nI T) (nI g) (nI k) = some N' ∧ (∀ x, x ≠ 1 → N' x = N x) ∧ (∀ i, k ≤ i → i < n → N' 1 (LX p i 3) = nI (lvl (A 17 i) (A 18 i) g T)) ∧ ∀ q, (∀ i, k ≤ i → i < n → q ≠ LX p i 3) → N' 1 q = N 1 q := by
  intro d
  induction d with
  | zero =>
    intro k F N hk hF hN hL
    obtain ⟨F, rfl⟩ : ∃ F', F = F' + 1 := ⟨F - 1, by omega⟩
    refine ⟨N, ?_, fun _ _ => rfl, fun i h1 h2 => by omega, fun _ _ => rfl⟩
    rw [fX12_turn_L49, at1_2, ob_some, s30 (AX_lt hp (by omega)), ob_some, hN, if_pos ((nI_leE (by omega) (by omega)).mpr (by omega))]
  | succ d ih =>
    intro k F N hk hF hN hL
    obtain ⟨F, rfl⟩ : ∃ F', F = F' + 1 := ⟨F - 1, by omega⟩
    have hk12 := (hW.2.2.2.1 k (by omega)).2.2
    obtain ⟨x, x1, x2⟩ := lvl_ok (f := A 17 k) (t := A 18 k) hk12.1 hk12.2 hg hT0 hT
    obtain ⟨N', e1, e2, e3, e4⟩ := ih (k + 1) F (up2 N 1 (LX p k 3) (nI (lvl (A 17 k) (A 18 k) g T))) (by omega) (by omega) (by rw [N1_ne (by unfold AX LX; omega)]; exact hN) (fun i h1 h2 => by rw [N1_ne (by unfold LX; omega), N1_ne (by unfold LX; omega)]; exact hL i (by omega) h2)
    refine ⟨N', ?_, fun x hx => by rw [e2 x hx, up2_ne hx], fun i h1 h2 => ?_, fun q hq => ?_⟩
    · rw [fX12_turn_L49, at1_2, ob_some, s30 (AX_lt hp (by omega)), ob_some, hN, if_neg (fun z => by have := (nI_leE (by omega) (by omega)).mp z; omega), ol4, ob_some, s30 (LX_lt hp (by omega) (by omega)), ob_some, ol3, ob_some, ol5, ob_some, s30 (LX_lt hp (by omega) (by omega)), ob_some, (hL k (by omega) (by omega)).1, (hL k (by omega) (by omega)).2, x1, ob_some, w30 (LX_lt hp (by omega) (by omega)), ob_some, x2, li1, nI_addE]
      exact e1
    · by_cases hik : i = k
      · subst hik
        rw [e4 _ (fun i' h1' h2' => by unfold LX; omega), up2_same, if_pos rfl]
      · exact e3 i (by omega) h2
    · rw [e4 q (fun i h1 h2 => hq i (by omega) h2), N1_ne (hq k (by omega) (by omega))]
theorem stepR_ok {N : Mem} {p K told : Nat} {A : SA} (hp : p < 3) (hP : RP (N 1) p A) (hW : WG K told A) : ∃ N', (∀ f : Mem → Option (Int32 × Mem), ((fX12_at1 (nI p) 221).bind fun v2 => (aL 30 N 1 v2).bind fun v3 => (if v3 ≤ 0 then some N else (fX12_at1 (nI p) 222).bind fun v20 => (aL 30 N 1 v20).bind fun v21 => (aS 30 N 1 v20 (v21 + 1)).bind fun M23 => (fX12_at1 (nI p) 222).bind fun v26 => (aL 30 M23 1 v26).bind fun v27 => (fX12_turn_L49 5000 M23 (nI p) v3 v27 0).bind fun M29 => (fX12_at1 (nI p) 221).bind fun v32 => if v27 = v3 then (aS 30 M29 1 v32 0).bind fun M36 => some M36 else (aS 30 M29 1 v32 v3).bind fun M34 => some M34).bind f) = f N') ∧ FrN N N' p ∧ RP (N' 1) p (stepA A) := by
  have h12 := hW.1.2.2
  have h50 := hW.2.2.2.2.2.2.2.2.2.2.2.1
  by_cases h0 : A 16 0 = 0
  · refine ⟨N, fun f => ?_, FrN.rf, by rw [stepA_0 h0]; exact hP⟩
    rw [at1_221, ob_some, s30 (AX_lt hp (by omega)), ob_some, ra221 hP, h0, if_pos (show nI 0 ≤ (0 : Int32) by decide), ob_some]
  · have hg := hW.2.2.2.2.2.2.2.2.2.2.2.2.2 h0
    obtain ⟨N1, f1, f2, f3, f4⟩ := stepR_L (n := A 0 2) (g := A 16 1 + 1) (T := A 16 0) hp h12 hW (by omega) (by omega) h50 (A 0 2) 0 5000 (up2 N 1 (AX p 222) (nI (A 16 1 + 1))) (by omega) (by omega) (by rw [N1_ne (by unfold AX; omega)]; exact ra0 hP (by omega)) (fun i h1 h2 => by rw [N1_ne (by unfold AX LX; omega), N1_ne (by unfold AX LX; omega)]; exact ⟨rl4 hP h2, rl5 hP h2⟩)
    obtain ⟨N2, hN2⟩ : ∃ N2, N2 = up2 N1 1 (AX p 221) (nI (stepA A 16 0)) := ⟨_, rfl⟩
    have e : ∀ q, q ≠ AX p 221 → q ≠ AX p 222 → (∀ i, i < A 0 2 → q ≠ LX p i 3) → N2 1 q = N 1 q := fun q h1 h2 h3 => by
      rw [hN2, N1_ne h1, f4 q (fun i _ hi => h3 i hi), N1_ne h2]
    have g : ∀ o j, o ≠ 4 → o ≠ 16 → stepA A o j = A o j := fun o j a b => stepA_o a b
    refine ⟨N2, fun f => ?_, ⟨fun x hx => by rw [hN2, up2_ne hx, f2 x hx, up2_ne hx], fun k hk => e k (by unfold AX; unfold PB at hk; omega) (by unfold AX; unfold PB at hk; omega) (fun i hi => by unfold LX; unfold PB at hk; omega)⟩, ?_⟩
    · rw [at1_221, ob_some, s30 (AX_lt hp (by omega)), ob_some, ra221 hP, if_neg (show ¬ nI (A 16 0) ≤ 0 from fun z => by rw [li0] at z; have := (nI_leE (by omega) (by omega)).mp z; omega), at1_222, ob_some, s30 (AX_lt hp (by omega)), ob_some, ra222 hP h0, li1, nI_addE, w30 (AX_lt hp (by omega)), ob_some, ob_some, s30 (AX_lt hp (by omega)), ob_some, up2_same, if_pos rfl]
      have f1' : fX12_turn_L49 5000 (up2 N 1 (AX p 222) (nI (A 16 1 + 1))) (nI p) (nI (A 16 0)) (nI (A 16 1 + 1)) 0 = some N1 := f1
      rw [f1', ob_some, ob_some]
      by_cases he : A 16 1 + 1 = A 16 0
      · have e0 : stepA A 16 0 = 0 := by rw [stepA_T h0, if_neg (by omega)]
        rw [if_pos (by rw [he]), w30 (AX_lt hp (by omega)), ob_some, ob_some, hN2, e0]
        rfl
      · have e0 : stepA A 16 0 = A 16 0 := by rw [stepA_T h0, if_pos (by omega)]
        rw [if_neg (fun z => he ((nI_eqE (by omega) (by omega)).mp z)), w30 (AX_lt hp (by omega)), ob_some, ob_some, hN2, e0]
    · obtain ⟨a1, b2, b3, b4, b5, b6, b7, b8, b9, b10⟩ := hP
      refine ⟨fun j hj => ?_, fun i hi => ?_, fun d hd => ?_, fun d hd => ?_, fun d hd => ?_, fun d hd => ?_, fun d hd => ?_, fun c hc => ⟨?_, fun i hi => ?_⟩, ?_, fun hh => ?_⟩
      · rw [g 0 j (by omega) (by omega), e _ (by unfold AX PB; omega) (by unfold AX PB; omega) (fun i hi => by unfold LX PB; omega)]; exact a1 j hj
      · rw [g 0 2 (by omega) (by omega)] at hi
        have b := b2 i hi
        rw [g 1 i (by omega) (by omega), g 2 i (by omega) (by omega), g 3 i (by omega) (by omega), g 17 i (by omega) (by omega), g 18 i (by omega) (by omega), stepA_4 h0 (by omega)]
        refine ⟨by rw [e _ (by unfold AX PB; omega) (by unfold AX PB; omega) (fun i hi => by unfold LX PB; omega)]; exact b.1, by rw [e _ (by unfold AX PB; omega) (by unfold AX PB; omega) (fun i hi => by unfold LX PB; omega)]; exact b.2.1, by rw [e _ (by unfold AX PB; omega) (by unfold AX PB; omega) (fun i hi => by unfold LX PB; omega)]; exact b.2.2.1, ?_, by rw [e _ (by unfold AX PB; omega) (by unfold AX PB; omega) (fun i hi => by unfold LX PB; omega)]; exact b.2.2.2.2.1, by rw [e _ (by unfold AX PB; omega) (by unfold AX PB; omega) (fun i hi => by unfold LX PB; omega)]; exact b.2.2.2.2.2⟩
        rw [show PB p + 3 + 6 * i + 3 = LX p i 3 by unfold PB LX; omega, hN2, N1_ne (by unfold AX LX; omega), f3 i (by omega) hi]
      · rw [g 5 d (by omega) (by omega), e _ (by unfold AX PB; omega) (by unfold AX PB; omega) (fun i hi => by unfold LX PB; omega)]; exact b3 d hd
      · rw [g 19 1 (by omega) (by omega), e _ (by unfold AX PB; omega) (by unfold AX PB; omega) (fun i hi => by unfold LX PB; omega)]; exact b4 d hd
      · rw [g 21 1 (by omega) (by omega), e _ (by unfold AX PB; omega) (by unfold AX PB; omega) (fun i hi => by unfold LX PB; omega)]; exact b5 d hd
      · rw [g 20 d (by omega) (by omega), e _ (by unfold AX PB; omega) (by unfold AX PB; omega) (fun i hi => by unfold LX PB; omega)]; exact b6 d hd
      · rw [g 22 d (by omega) (by omega), e _ (by unfold AX PB; omega) (by unfold AX PB; omega) (fun i hi => by unfold LX PB; omega)]; exact b7 d hd
      · rw [g 6 c (by omega) (by omega), e _ (by unfold AX PB; omega) (by unfold AX PB; omega) (fun i hi => by unfold LX PB; omega)]; exact (b8 c hc).1
      · rw [g 0 2 (by omega) (by omega)] at hi
        rw [g (8 + c) i (by omega) (by omega), e _ (by unfold AX PB; omega) (by unfold AX PB; omega) (fun i hi => by unfold LX PB; omega)]; exact (b8 c hc).2 i hi
      · rw [show PB p + 221 = AX p 221 by unfold AX PB; omega, hN2, up2_same, if_pos rfl]
      · rw [show PB p + 222 = AX p 222 by unfold AX PB; omega, hN2, N1_ne (by unfold AX; omega), f4 _ (fun i _ _ => by unfold AX LX; omega), up2_same, if_pos rfl, stepA_g h0]
        rw [stepA_T h0] at hh
        by_cases hlt : A 16 1 + 1 < A 16 0
        · rw [if_pos hlt]
        · rw [if_neg hlt] at hh
          exact absurd rfl hh
