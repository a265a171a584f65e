/-! hang -/
theorem le_pred {n : Nat} (hn : n < 2 ^ 31) (a : Int32) : (0 ≤ a ∧ a ≤ nI n - 1) ↔ (0 ≤ a ∧ a < nI n) := by
  rw [Int32.le_iff_toInt_le, Int32.le_iff_toInt_le, Int32.lt_iff_toInt_lt, Int32.toInt_zero, nI_toInt hn]
  have e2 : (nI n - 1 : Int32).toInt = (n : Int) - 1 := by
    rw [Int32.toInt_sub, nI_toInt hn]
    have e3 : (1 : Int32).toInt = 1 := by decide
    rw [e3, Int.bmod_def]
    omega
  rw [e2]
  omega
theorem has_ok {M : Mem} {b n : Nat} {T : SA} (hb : b < 9) (hC : CT M b T) (hn : T 2 0 = n) (hn6 : n ≤ 6) (a : Int32) : fX9_has M (st b 2) a = some (if 0 ≤ a ∧ a < nI n then 1 else 0) := by
  unfold fX9_has
  rw [if_pos (by rw [shp_st hb (by omega)]; rfl)]
  by_cases h1 : a < 0
  · rw [if_pos h1, if_neg (fun z => Int32.not_le.mpr h1 z.1)]
  · rw [if_neg h1]
    refine ob_in (gI_ok (by rw [shp_st hb (by omega)]; rfl)) ?_
    rw [ct2 hC, hn]
    by_cases h2 : nI n ≤ a
    · rw [if_pos h2, if_neg (fun z => Int32.not_le.mpr z.2 h2)]
    · rw [if_neg h2, if_neg, if_pos ⟨Int32.not_lt.mp h1, Int32.not_le.mp h2⟩]
      intro z
      have h3 := Int32.not_le.mp h2
      rw [Int32.lt_iff_toInt_lt, nI_toInt (by omega)] at h3
      rw [li6, Int32.le_iff_toInt_le, nI_toInt (by omega)] at z
      omega
theorem full_ok {M : Mem} {q n : Nat} (hq : q < 28) (hn : M (pq q 0) 2 = nI n) (hn2 : n < 2 ^ 31) : fX6_isFull M (pq q 0) = some (if n < 12 then 0 else 1) := by
  unfold fX6_isFull
  rw [if_pos (by rw [shp_pq hq (by omega)]; rfl)]
  refine ob_in (gI_ok (by rw [shp_pq hq (by omega)]; rfl)) ?_
  rw [hn, li12]
  by_cases h : n < 12
  · rw [if_pos (nI_lt h (by omega)), if_pos h]
  · rw [if_neg (nI_nlt (by omega) (by omega)), if_neg h]
def hngA (A : SA) (t v : Nat) : SA := upA (upA (upA A 0 2 (A 0 2 + 1)) 1 (A 0 2) t) 2 (A 0 2) v
theorem hngA_o {A : SA} {t v o j : Nat} (h0 : ¬ (o = 0 ∧ j = 2)) (h1 : o ≠ 1) (h2 : o ≠ 2) : hngA A t v o j = A o j := by
  unfold hngA upA
  rw [if_neg (fun z => h2 z.1), if_neg (fun z => h1 z.1), if_neg h0]
theorem hngA_n {A : SA} {t v : Nat} : hngA A t v 0 2 = A 0 2 + 1 := by
  unfold hngA upA
  rw [if_neg (by omega), if_neg (by omega), if_pos ⟨rfl, rfl⟩]
theorem hngA_1 {A : SA} {t v j : Nat} : hngA A t v 1 j = if j = A 0 2 then t else A 1 j := by
  unfold hngA upA
  rw [if_neg (by omega)]
  by_cases h : j = A 0 2
  · rw [if_pos ⟨rfl, h⟩, if_pos h]
  · rw [if_neg (fun z => h z.2), if_neg (by omega), if_neg h]
theorem hngA_2 {A : SA} {t v j : Nat} : hngA A t v 2 j = if j = A 0 2 then v else A 2 j := by
  unfold hngA upA
  by_cases h : j = A 0 2
  · rw [if_pos ⟨rfl, h⟩, if_pos h]
  · rw [if_neg (fun z => h z.2), if_neg (by omega), if_neg (by omega), if_neg h]
theorem WA_hng {told t v : Nat} {A : SA} (h : WA told A) (hn : A 0 2 < 12) (ht : t < told) (hv : v ≤ 12) : WA told (hngA A t v) := by
  obtain ⟨h1, h2, h3, h4, h5, h6, h7, h8, h9, h10, h11, h12, h13, h14⟩ := h
  have e : ∀ o j, o ≠ 0 → o ≠ 1 → o ≠ 2 → hngA A t v o j = A o j := fun o j h0 h1 h2 => hngA_o (by omega) h1 h2
  refine ⟨⟨by rw [hngA_o (by omega) (by omega) (by omega)]; exact h1.1, by rw [hngA_o (by omega) (by omega) (by omega)]; exact h1.2.1, by rw [hngA_n]; omega⟩, fun i hi => ?_, fun i hi => ?_, fun i hi => by rw [e 3 i (by omega) (by omega) (by omega), e 4 i (by omega) (by omega) (by omega), e 17 i (by omega) (by omega) (by omega), e 18 i (by omega) (by omega) (by omega)]; exact h4 i hi, fun i hi1 hi2 => ?_, fun d hd => by rw [e 5 d (by omega) (by omega) (by omega)]; exact h6 d hd, fun c hc => ⟨by rw [e 6 c (by omega) (by omega) (by omega)]; exact (h7 c hc).1, fun i hi => by rw [e (8 + c) i (by omega) (by omega) (by omega)]; exact (h7 c hc).2 i hi⟩, by rw [e 19 1 (by omega) (by omega) (by omega)]; exact h8, by rw [e 21 1 (by omega) (by omega) (by omega)]; exact h9, fun d hd => by rw [e 20 d (by omega) (by omega) (by omega)]; exact h10 d hd, fun d hd => by rw [e 22 d (by omega) (by omega) (by omega)]; exact h11 d hd, by rw [e 16 0 (by omega) (by omega) (by omega)]; exact h12, by rw [e 16 0 (by omega) (by omega) (by omega), e 16 1 (by omega) (by omega) (by omega)]; exact h13, by rw [e 16 0 (by omega) (by omega) (by omega), e 16 1 (by omega) (by omega) (by omega)]; exact h14⟩
  · rw [hngA_n] at hi
    rw [hngA_1]
    by_cases h : i = A 0 2
    · rw [if_pos h]; exact ht
    · rw [if_neg h]; exact h2 i (by omega)
  · rw [hngA_2]
    by_cases h : i = A 0 2
    · rw [if_pos h]; exact hv
    · rw [if_neg h]; exact h3 i hi
  · rw [hngA_n] at hi1
    rw [e 3 i (by omega) (by omega) (by omega), e 4 i (by omega) (by omega) (by omega), e 17 i (by omega) (by omega) (by omega), e 18 i (by omega) (by omega) (by omega)]
    have g := h5 i (by omega) hi2
    exact ⟨g.1, g.2.1, g.2.2.1, g.2.2.2.1, fun c hc => by rw [e (8 + c) i (by omega) (by omega) (by omega)]; exact g.2.2.2.2 c hc⟩
theorem addLamp_ok {M : Mem} {q n : Nat} {a2 a3 : Int32} (hq : q < 28) (hn : M (pq q 0) 2 = nI n) (hn2 : n < 12) : fX6_addLamp M (pq q 0) a2 a3 = some (nI n, up2 (up2 (up2 M (pq q 0) 2 (nI (n + 1))) (pq q 1) n a2) (pq q 2) n a3) := by
  unfold fX6_addLamp
  rw [if_pos (by rw [shp_pq hq (by omega)]; rfl), full_ok hq hn (by omega), if_pos hn2, ob_some, if_pos rfl]
  refine ob_in (gI_ok (by rw [shp_pq hq (by omega)]; rfl)) ?_
  refine ob_in (pI_ok (by rw [shp_pq hq (by omega)]; rfl)) ?_
  rw [hn, li1, nI_addE]
  refine ob_in (gR_ok (x := pq q 1) (sp0 hq (by omega) rfl) (rf_pq0 (by omega))) ?_
  refine ob_in (aS_ok (n := 12) (sp0 hq (by omega) rfl) (lp0 hq (by omega) rfl) (by omega) (by omega)) ?_
  refine ob_in (gR_ok (x := pq q 2) (sp0 hq (by omega) rfl) (rf_pq0 (by omega))) ?_
  exact ob_in (aS_ok (n := 12) (sp0 hq (by omega) rfl) (lp0 hq (by omega) rfl) (by omega) (by omega)) rfl
theorem hangZ_L {p n : Nat} {a2 a3 : Int32} (hp : p < 3) (hn : n < 12) : ∀ (d k F : Nat) (N : Mem), k + d = 6 → d < F → ∃ N', fX12_hang_L67 F N (nI p) a2 a3 (nI n) (nI k) = some N' ∧ (∀ x, x ≠ 1 → N' x = N x) ∧ ∀ q, N' 1 q = if LX p n k ≤ q ∧ q < LX p n 6 then 0 else N 1 q := by
  intro d
  induction d with
  | zero =>
    intro k F N hk hF
    obtain ⟨F, rfl⟩ : ∃ F', F = F' + 1 := ⟨F - 1, by omega⟩
    refine ⟨N, ?_, fun _ _ => rfl, fun q => ?_⟩
    · rw [fX12_hang_L67, li6, if_pos ((nI_leE (by omega) (by omega)).mpr (by omega))]
    · rw [if_neg (by unfold LX; omega)]
  | succ d ih =>
    intro k F N hk hF
    obtain ⟨F, rfl⟩ : ∃ F', F = F' + 1 := ⟨F - 1, by omega⟩
    obtain ⟨N', e1, e2, e3⟩ := ih (k + 1) F (up2 N 1 (LX p n k) 0) (by omega) (by omega)
    refine ⟨N', ?_, fun x hx => by rw [e2 x hx, up2_ne hx], fun q => ?_⟩
    · rw [fX12_hang_L67, li6, if_neg (fun h => by have := (nI_leE (by omega) (by omega)).mp h; omega), ofLamp_ok, ob_some, w30 (LX_lt hp hn (by omega)), ob_some, li1, nI_addE, e1]
    · rw [e3]
      by_cases h1 : q = LX p n k
      · subst h1
        rw [if_neg (by unfold LX; omega), up2_same, if_pos rfl, if_pos (by unfold LX; omega)]
      · rw [N1_ne h1]
        by_cases h2 : LX p n k ≤ q ∧ q < LX p n 6
        · rw [if_pos h2, if_pos (by unfold LX at h1 h2 ⊢; omega)]
        · rw [if_neg h2, if_neg (by unfold LX at h1 h2 ⊢; omega)]
theorem hangC_L {p n : Nat} (hp : p < 3) (hn : n < 12) : ∀ (d k F : Nat) (N : Mem), k + d = 8 → d < F → ∃ N', fX12_hang_L123 F N (nI p) (nI n) (nI k) = some N' ∧ (∀ x, x ≠ 1 → N' x = N x) ∧ ∀ q, N' 1 q = if CX p k + 1 + n ≤ q ∧ q < CX p 8 + 1 + n ∧ (q - (CX p 0 + 1 + n)) % 13 = 0 then 0 else N 1 q := by
  intro d
  induction d with
  | zero =>
    intro k F N hk hF
    obtain ⟨F, rfl⟩ : ∃ F', F = F' + 1 := ⟨F - 1, by omega⟩
    refine ⟨N, ?_, fun _ _ => rfl, fun q => ?_⟩
    · rw [fX12_hang_L123, li8, if_pos ((nI_leE (by omega) (by omega)).mpr (by omega))]
    · rw [if_neg (by unfold CX; omega)]
  | succ d ih =>
    intro k F N hk hF
    obtain ⟨F, rfl⟩ : ∃ F', F = F' + 1 := ⟨F - 1, by omega⟩
    obtain ⟨N', e1, e2, e3⟩ := ih (k + 1) F (up2 N 1 (CX p k + 1 + n) 0) (by omega) (by omega)
    refine ⟨N', ?_, fun x hx => by rw [e2 x hx, up2_ne hx], fun q => ?_⟩
    · rw [fX12_hang_L123, li8, if_neg (fun h => by have := (nI_leE (by omega) (by omega)).mp h; omega), ofCue_ok, ob_some, li1, nI_addE, nI_addE, w30 (by have := CX_lt (i := 1 + n) hp (c := k) (by omega) (by omega); omega), ob_some, nI_addE, e1]
    · rw [e3]
      by_cases h1 : q = CX p k + 1 + n
      · subst h1
        rw [if_neg (by unfold CX; omega), up2_same, if_pos rfl, if_pos (by unfold CX; omega)]
      · rw [N1_ne h1]
        by_cases h2 : CX p k + 1 + n ≤ q ∧ q < CX p 8 + 1 + n ∧ (q - (CX p 0 + 1 + n)) % 13 = 0
        · rw [if_pos h2, if_pos (by unfold CX at h1 h2 ⊢; omega)]
        · rw [if_neg h2, if_neg (by unfold CX at h1 h2 ⊢; omega)]
theorem RP_hng {σ σ' : Nat → Int32} {p t v : Nat} {A : SA} {a2 a3 : Int32} (h : RP σ p A) (hn : A 0 2 < 12) (ht : a2 = nI t) (hv : a3 = vI 2 v) (hz : A 3 (A 0 2) = 0 ∧ A 4 (A 0 2) = 0 ∧ A 17 (A 0 2) = 0 ∧ A 18 (A 0 2) = 0 ∧ ∀ c, c < 8 → A (8 + c) (A 0 2) = 0)
    (e : ∀ q, σ' q = if q = AX p 2 then nI (A 0 2 + 1) else if CX p 0 + 1 + A 0 2 ≤ q ∧ q < CX p 8 + 1 + A 0 2 ∧ (q - (CX p 0 + 1 + A 0 2)) % 13 = 0 then 0 else if q = LX p (A 0 2) 1 then a3 else if q = LX p (A 0 2) 0 then a2 else if LX p (A 0 2) 0 ≤ q ∧ q < LX p (A 0 2) 6 then 0 else σ q) : RP σ' p (hngA A t v) := by
  obtain ⟨a1, b2, b3, b4, b5, b6, b7, b8, b9, b10⟩ := h
  have o : ∀ q, q ≠ AX p 2 → ¬ (CX p 0 + 1 + A 0 2 ≤ q ∧ q < CX p 8 + 1 + A 0 2 ∧ (q - (CX p 0 + 1 + A 0 2)) % 13 = 0) → ¬ (LX p (A 0 2) 0 ≤ q ∧ q < LX p (A 0 2) 6) → σ' q = σ q := fun q h1 h2 h3 => by
    rw [e, if_neg h1, if_neg h2, if_neg (by unfold LX at h3 ⊢; omega), if_neg (by unfold LX at h3 ⊢; omega), if_neg h3]
  have g : ∀ o j, o ≠ 0 → o ≠ 1 → o ≠ 2 → hngA A t v o j = A o j := fun o j h0 h1 h2 => hngA_o (by omega) h1 h2
  refine ⟨fun j hj => ?_, fun i hi => ?_, fun d hd => ?_, fun d hd => ?_, fun d hd => ?_, fun d hd => ?_, fun d hd => ?_, fun c hc => ⟨?_, fun i hi => ?_⟩, ?_, fun h0 => ?_⟩
  · by_cases h2 : j = 2
    · subst h2
      rw [hngA_n, e, if_pos (by unfold AX PB; omega)]
    · rw [o _ (by unfold AX PB; omega) (by unfold CX PB; omega) (by unfold LX PB; omega), hngA_o (by omega) (by omega) (by omega)]
      exact a1 j hj
  · rw [hngA_n] at hi
    rw [hngA_1, hngA_2, g 3 i (by omega) (by omega) (by omega), g 4 i (by omega) (by omega) (by omega), g 17 i (by omega) (by omega) (by omega), g 18 i (by omega) (by omega) (by omega)]
    by_cases hin : i = A 0 2
    · have z : ∀ k, 2 ≤ k → k < 6 → σ' (LX p (A 0 2) k) = 0 := fun k hk hk2 => by
        rw [e, if_neg (by unfold AX LX; omega), if_neg (by unfold CX LX; omega), if_neg (by unfold LX; omega), if_neg (by unfold LX; omega), if_pos (by unfold LX; omega)]
      rw [if_pos hin, if_pos hin, hin, hz.1, hz.2.1, hz.2.2.1, hz.2.2.2.1]
      have q : ∀ k, PB p + 3 + 6 * A 0 2 + k = LX p (A 0 2) k := fun k => by unfold PB LX; omega
      have q0 : PB p + 3 + 6 * A 0 2 = LX p (A 0 2) 0 := q 0
      refine ⟨?_, ?_, ?_, ?_, ?_, ?_⟩
      · rw [q0, e, if_neg (by unfold AX LX; omega), if_neg (by unfold CX LX; omega), if_neg (by unfold LX; omega), if_pos rfl, ht]
      · rw [q 1, e, if_neg (by unfold AX LX; omega), if_neg (by unfold CX LX; omega), if_pos rfl, hv]
      · rw [q 2, z 2 (by omega) (by omega)]; rfl
      · rw [q 3, z 3 (by omega) (by omega)]; rfl
      · rw [q 4, z 4 (by omega) (by omega)]; rfl
      · rw [q 5, z 5 (by omega) (by omega)]; rfl
    · rw [if_neg hin, if_neg hin]
      have hi' : i < A 0 2 := by omega
      rw [o _ (by unfold AX PB; omega) (by unfold CX PB; omega) (by unfold LX PB; omega), o _ (by unfold AX PB; omega) (by unfold CX PB; omega) (by unfold LX PB; omega), o _ (by unfold AX PB; omega) (by unfold CX PB; omega) (by unfold LX PB; omega), o _ (by unfold AX PB; omega) (by unfold CX PB; omega) (by unfold LX PB; omega), o _ (by unfold AX PB; omega) (by unfold CX PB; omega) (by unfold LX PB; omega), o _ (by unfold AX PB; omega) (by unfold CX PB; omega) (by unfold LX PB; omega)]
      exact b2 i hi'
  · rw [g 5 d (by omega) (by omega) (by omega), o _ (by unfold AX PB; omega) (by unfold CX PB; omega) (by unfold LX PB; omega)]; exact b3 d hd
  · rw [g 19 1 (by omega) (by omega) (by omega), o _ (by unfold AX PB; omega) (by unfold CX PB; omega) (by unfold LX PB; omega)]; exact b4 d hd
  · rw [g 21 1 (by omega) (by omega) (by omega), o _ (by unfold AX PB; omega) (by unfold CX PB; omega) (by unfold LX PB; omega)]; exact b5 d hd
  · rw [g 20 d (by omega) (by omega) (by omega), o _ (by unfold AX PB; omega) (by unfold CX PB; omega) (by unfold LX PB; omega)]; exact b6 d hd
  · rw [g 22 d (by omega) (by omega) (by omega), o _ (by unfold AX PB; omega) (by unfold CX PB; omega) (by unfold LX PB; omega)]; exact b7 d hd
  · rw [g 6 c (by omega) (by omega) (by omega), o _ (by unfold AX PB; omega) (by unfold CX PB; omega) (by unfold LX PB; omega)]; exact (b8 c hc).1
  · rw [hngA_n] at hi
    rw [g (8 + c) i (by omega) (by omega) (by omega)]
    by_cases hin : i = A 0 2
    · rw [e, if_neg (by unfold AX PB; omega), if_pos (by unfold CX PB; omega), hin, hz.2.2.2.2 c hc]
      rfl
    · rw [o _ (by unfold AX PB; omega) (by unfold CX PB; omega) (by unfold LX PB; omega)]; exact (b8 c hc).2 i (by omega)
  · rw [g 16 0 (by omega) (by omega) (by omega), o _ (by unfold AX PB; omega) (by unfold CX PB; omega) (by unfold LX PB; omega)]; exact b9
  · rw [g 16 0 (by omega) (by omega) (by omega)] at h0
    rw [g 16 1 (by omega) (by omega) (by omega), o _ (by unfold AX PB; omega) (by unfold CX PB; omega) (by unfold LX PB; omega)]; exact b10 h0
/-- the reference's part behind the checks -/
theorem hangR_ok {N : Mem} {p n t v : Nat} {A : SA} {a2 a3 : Int32} (hp : p < 3) (hP : RP (knN N n 1) p A) (hN1 : knN N n 1 = N 1) (e2 : fX12_know N = some (knN N n)) (hn : A 0 2 < 12) (ht : a2 = nI t) (hv : a3 = vI 2 v) (hz : A 3 (A 0 2) = 0 ∧ A 4 (A 0 2) = 0 ∧ A 17 (A 0 2) = 0 ∧ A 18 (A 0 2) = 0 ∧ ∀ c, c < 8 → A (8 + c) (A 0 2) = 0) :
    ∃ N', ((fX12_at1 (nI p) 2).bind fun v11 => (aL 30 N 1 v11).bind fun v12 => if v12 = 12 then some ((-4), N) else (fX12_know N).bind fun M16 => (fX12_hang_L67 5000 M16 (nI p) a2 a3 v12 0).bind fun M17 => (fX12_ofLamp (nI p) v12 0).bind fun v20 => (aS 30 M17 1 v20 a2).bind fun M21 => (fX12_ofLamp (nI p) v12 1).bind fun v24 => (aS 30 M21 1 v24 a3).bind fun M25 => (fX12_hang_L123 5000 M25 (nI p) v12 0).bind fun M27 => (fX12_at1 (nI p) 2).bind fun v30 => (aL 30 M27 1 v30).bind fun v31 => (aS 30 M27 1 v30 (v31 + 1)).bind fun M33 => some (v12, M33)) = some (nI (A 0 2), N') ∧ FrN (knN N n) N' p ∧ RP (N' 1) p (hngA A t v) := by
  obtain ⟨N1, f1, f2, f3⟩ := hangZ_L (p := p) (n := A 0 2) (a2 := a2) (a3 := a3) hp hn 6 0 5000 (knN N n) (by omega) (by omega)
  obtain ⟨N2, k1, k2, k3⟩ := hangC_L (p := p) (n := A 0 2) hp hn 8 0 5000 (up2 (up2 N1 1 (LX p (A 0 2) 0) a2) 1 (LX p (A 0 2) 1) a3) (by omega) (by omega)
  have ea : N2 1 (AX p 2) = nI (A 0 2) := by
    rw [k3, if_neg (by unfold AX CX; omega), N1_ne (by unfold AX LX; omega), N1_ne (by unfold AX LX; omega), f3, if_neg (by unfold AX LX; omega)]
    exact ra0 hP (by omega)
  refine ⟨up2 N2 1 (AX p 2) (nI (A 0 2 + 1)), ?_, ⟨fun x hx => by rw [up2_ne hx, k2 x hx, up2_ne hx, up2_ne hx, f2 x hx], fun k hk => ?_⟩, RP_hng hP hn ht hv hz (fun q => ?_)⟩
  · rw [at1_2, ob_some, s30 (AX_lt hp (by omega)), ob_some, ← hN1, ra0 hP (by omega), if_neg (fun z => by rw [li12, nI_eqE (by omega) (by omega)] at z; omega), e2, ob_some]
    refine ob_in f1 ?_
    rw [ol0, ob_some, w30 (LX_lt hp hn (by omega)), ob_some, ol1, ob_some, w30 (LX_lt hp hn (by omega)), ob_some]
    refine ob_in k1 ?_
    rw [ob_some, s30 (AX_lt hp (by omega)), ob_some, ea, li1, nI_addE, w30 (AX_lt hp (by omega)), ob_some]
  · rw [N1_ne (by unfold AX; unfold PB at hk; omega), k3, if_neg (by unfold CX; unfold PB at hk; omega), N1_ne (by unfold LX; unfold PB at hk; omega), N1_ne (by unfold LX; unfold PB at hk; omega), f3, if_neg (by unfold LX; unfold PB at hk; omega)]
  · rw [up2_same]
    by_cases h1 : q = AX p 2
    · rw [if_pos h1, if_pos h1]
    · rw [if_neg h1, if_neg h1, k3]
      by_cases h2 : CX p 0 + 1 + A 0 2 ≤ q ∧ q < CX p 8 + 1 + A 0 2 ∧ (q - (CX p 0 + 1 + A 0 2)) % 13 = 0
      · rw [if_pos h2, if_pos h2]
      · rw [if_neg h2, if_neg h2, up2_same]
        by_cases h3 : q = LX p (A 0 2) 1
        · rw [if_pos h3, if_pos h3]
        · rw [if_neg h3, if_neg h3, up2_same]
          by_cases h4 : q = LX p (A 0 2) 0
          · rw [if_pos h4, if_pos h4]
          · rw [if_neg h4, if_neg h4, f3]
theorem hangR_full {N : Mem} {p : Nat} {A : SA} {f : Int32 → Option (Int32 × Mem)} (hp : p < 3) (hP : RP (N 1) p A) (hn : A 0 2 = 12) : ((fX12_at1 (nI p) 2).bind fun v11 => (aL 30 N 1 v11).bind fun v12 => if v12 = 12 then some ((-4), N) else f v12) = some (-4, N) := by
  rw [at1_2, ob_some, s30 (AX_lt hp (by omega)), ob_some, ra0 hP (by omega), hn]
  rfl
theorem op_hang {M N : Mem} (h : Rel M N) (a1 a2 a3 : Int32) : OK (fX11_hang M a1 a2 a3) (fX12_hang N a1 a2 a3) := by
  obtain ⟨⟨T, A, hL⟩, n, hR⟩ := id h
  have hCT := ct_live hL
  have hWT := hL.2.2.1
  have hT6 : T 2 0 ≤ 6 := hWT.2.2.2.1
  have e36 : (36 : Nat) = st 0 2 := rfl
  have e3r : N 1 3 = nI (T 2 0) := hL.2.1.1.2.1
  have s3 : aL 30 N 1 3 = some (N 1 3) := s30 (k := 3) (by omega)
  rcases ic a1 2 2 rfl (by omega) with ⟨p, hp, rfl, hpy⟩ | h1
  · have hC := cr_live hL (p := p) (by omega)
    have hW := wa_live hL (p := p) (by omega)
    have hP := rp_live hL (p := p) (by omega)
    have h12 : A p 0 2 ≤ 12 := hW.1.2.2
    by_cases h2 : 0 ≤ a2 ∧ a2 < nI (T 2 0)
    · obtain ⟨t, ht, rfl⟩ := i32_nat h2.1 h2.2 (by omega)
      have key : (∃ v, v ≤ 12 ∧ a3 = vI 2 v ∧ (a3 = -6 ∨ (0 ≤ a3 ∧ a3 ≤ 11))) ∨ ¬ (a3 = -6 ∨ (0 ≤ a3 ∧ a3 ≤ 11)) := by
        by_cases h6 : a3 = -6
        · exact Or.inl ⟨12, by omega, by rw [vI_none, h6], Or.inl h6⟩
        · rcases ic a3 11 11 rfl (by omega) with ⟨d, hd, rfl, hdy⟩ | h3
          · exact Or.inl ⟨d, by omega, (vI_2 (by omega)).symm, Or.inr hdy⟩
          · exact Or.inr (fun z => z.elim h6 h3)
      rcases key with ⟨v, hv, hx, hok⟩ | h3
      · by_cases hf : A p 0 2 < 12
        · obtain ⟨M1, e1, e2, hL1, hR1⟩ := push_know hL hR
          have hC1 := cr_live hL1 (p := p) (by omega)
          have hP1 := rp_live hL1 (p := p) (by omega)
          have hN1 : knN N n 1 = N 1 := by
            unfold knN
            split
            · rw [up2_ne (by omega), setR_other (by omega), up2_ne (by omega), setR_other (by omega)]
            · rw [up2_ne (by omega), setR_other (by omega)]
          obtain ⟨N2, g1, g2, g3⟩ := hangR_ok (t := t) (v := v) (by omega) hP1 hN1 e2 hf rfl hx (hW.2.2.2.2.1 _ (Nat.le_refl _) hf)
          refine OK_in (r := nI (A p 0 2)) (M := up2 (up2 (up2 M1 (pq p 0) 2 (nI (A p 0 2 + 1))) (pq p 1) (A p 0 2) (nI t)) (pq p 2) (A p 0 2) a3) (N := N2) ?_ ?_ (fin_f hL1 hR1 (p := p) (by omega) ((FrC.up (by omega)).tr ((FrC.up (by omega)).tr (FrC.up (by omega)))) (CRel_up (CRel_up (CRel_up hC1 (by omega) (vI_n (by omega)).symm) (by omega) (vI_n (by omega)).symm) (by omega) hx) g2 g3 (WA_hng hW hf ht hv))
          · unfold fX11_hang
            rw [find_ok (by omega), ob_some, caseO_some, e36, has_ok (by omega) hCT rfl hT6, ob_some, b01, if_pos h2, dimOrNone_ok, ob_some, b01, if_pos hok, full_ok (by omega) (cr0 hC (by omega)) (by omega), ob_some, if_pos hf, if_pos rfl, e1, ob_some, addLamp_ok (by omega) (cr0 hC1 (by omega)) hf, ob2_some]
          · unfold fX12_hang
            rw [isPrem_ok, ob_some, b01, if_pos hpy, s3, ob_some, e3r, in_ok, ob_some, b01, if_pos ((le_pred (by omega) _).mpr h2)]
            by_cases h6 : a3 = -6
            · rw [if_pos h6]
              exact g1
            · rw [if_neg h6, isDimR_ok, ob_some, b01, if_pos (hok.resolve_left h6)]
              exact g1
        · refine OK_er (r := -4) h ?_ ?_
          · unfold fX11_hang
            rw [find_ok (by omega), ob_some, caseO_some, e36, has_ok (by omega) hCT rfl hT6, ob_some, b01, if_pos h2, dimOrNone_ok, ob_some, b01, if_pos hok, full_ok (by omega) (cr0 hC (by omega)) (by omega), ob_some, if_neg hf, if_neg (by decide)]
          · unfold fX12_hang
            rw [isPrem_ok, ob_some, b01, if_pos hpy, s3, ob_some, e3r, in_ok, ob_some, b01, if_pos ((le_pred (by omega) _).mpr h2)]
            by_cases h6 : a3 = -6
            · rw [if_pos h6]
              exact hangR_full (by omega) hP (by omega)
            · rw [if_neg h6, isDimR_ok, ob_some, b01, if_pos (hok.resolve_left h6)]
              exact hangR_full (by omega) hP (by omega)
      · refine OK_er (r := -1) h ?_ ?_
        · unfold fX11_hang
          rw [find_ok (by omega), ob_some, caseO_some, e36, has_ok (by omega) hCT rfl hT6, ob_some, b01, if_pos h2, dimOrNone_ok, ob_some, b01, if_neg h3]
        · unfold fX12_hang
          rw [isPrem_ok, ob_some, b01, if_pos hpy, s3, ob_some, e3r, in_ok, ob_some, b01, if_pos ((le_pred (by omega) _).mpr h2), if_neg (fun z => h3 (Or.inl z)), isDimR_ok, ob_some, b01, if_neg (fun z => h3 (Or.inr z))]
    · refine OK_er (r := -1) h ?_ ?_
      · unfold fX11_hang
        rw [find_ok (by omega), ob_some, caseO_some, e36, has_ok (by omega) hCT rfl hT6, ob_some, b01, if_neg h2]
      · unfold fX12_hang
        rw [isPrem_ok, ob_some, b01, if_pos hpy, s3, ob_some, e3r, in_ok, ob_some, b01, if_neg (fun z => h2 ((le_pred (by omega) _).mp z))]
  · refine OK_er (r := -1) h ?_ ?_
    · unfold fX11_hang
      rw [find_bad h1, ob_some, caseO_none]
    · unfold fX12_hang
      rw [isPrem_ok, ob_some, b01, if_neg h1]
