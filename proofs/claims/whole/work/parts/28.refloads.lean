/-! the reference's loads -/
theorem rt_w {σ : Nat → Int32} {T : SA} (h : RT σ T) {t : Nat} (ht : t < 6) : σ (4 + 3 * t) = nI (T 3 t) := (h.2.2 t ht).1
theorem watts_ok {K : Nat} {N : Mem} {p i v : Nat} {T A : SA} (hp : p < 3) (hT : RT (N 1) T) (hP : RP (N 1) p A) (hWT : WT T) (hW : WG K (T 2 0) A) (hi : i < A 0 2) (hv : v ≤ 100) : fX12_watts N (nI p) (nI i) (nI v) = some (nI (T 3 (A 1 i) * v / 100)) := by
  have h12 := hW.1.2.2
  have ht := hW.2.1 i hi
  have ht6 := hWT.2.2.2.1
  have hw := (hWT.2.2.2.2 (A 1 i) (by omega)).1
  have hm : T 3 (A 1 i) * v ≤ 2000 * 100 := Nat.mul_le_mul hw hv
  unfold fX12_watts
  rw [ol0, ob_some, s30 (LX_lt hp (by omega) (by omega)), ob_some, rl0 hP hi, li3, li4, nI_mulE, nI_addE, s30 (by omega), ob_some, rt_w hT (by omega), nI_mulE, li100, dv_ok (by omega) (by omega) (by omega), ob_some]
theorem ldR_ok {K : Nat} {N : Mem} {p i : Nat} {T A : SA} (hp : p < 3) (hT : RT (N 1) T) (hP : RP (N 1) p A) (hWT : WT T) (hW : WG K (T 2 0) A) (hi : i < A 0 2) : fX12_loadOfLamp N (nI p) (nI i) = some (nI (ldL T A i)) := by
  have h12 := hW.1.2.2
  have h2 := hW.2.2.1 i (by omega)
  unfold fX12_loadOfLamp ldL
  rw [ol1, ob_some, s30 (LX_lt hp (by omega) (by omega)), ob_some, rl1 hP hi]
  by_cases hd : A 2 i = 12
  · rw [if_pos ((vI_6 h2).mpr hd), if_neg (fun z => by have := z.1; omega)]
    rfl
  · rw [if_neg (fun z => hd ((vI_6 h2).mp z)), vI_2 (by omega)]
    have h5 := hW.2.2.2.2.2.1 (A 2 i) (by omega)
    rw [li87, nI_addE, at1_ok, ob_some, s30 (AX_lt hp (by omega)), ob_some, ra87 hP (by omega)]
    rcases (show A 19 1 / 2 ^ A 2 i % 2 = 0 ∨ A 19 1 / 2 ^ A 2 i % 2 = 1 by omega) with h | h
    · rw [if_neg (show ¬ nI (A 19 1 / 2 ^ A 2 i % 2) = 1 by rw [h]; decide), li75, nI_addE, at1_ok, ob_some, s30 (AX_lt hp (by omega)), ob_some, ra75 hP (by omega), li99, nI_addE, at1_ok, ob_some, s30 (AX_lt hp (by omega)), ob_some, ra99 hP h5]
      rcases (show A 21 1 / 2 ^ A 5 (A 2 i) % 2 = 0 ∨ A 21 1 / 2 ^ A 5 (A 2 i) % 2 = 1 by omega) with h' | h'
      · rw [if_neg (show ¬ nI (A 21 1 / 2 ^ A 5 (A 2 i) % 2) = 1 by rw [h']; decide), if_pos (show fed A i from ⟨by omega, h, h'⟩), ol3, ob_some, s30 (LX_lt hp (by omega) (by omega)), ob_some, rl3 hP hi, watts_ok hp hT hP hWT hW hi (hW.2.2.2.1 i (by omega)).2.1, ob_some]
        rfl
      · rw [if_pos (show nI (A 21 1 / 2 ^ A 5 (A 2 i) % 2) = 1 by rw [h']; rfl), if_neg (fun z => by have := z.2.2; omega)]
        rfl
    · rw [if_pos (show nI (A 19 1 / 2 ^ A 2 i % 2) = 1 by rw [h]; rfl), if_neg (fun z => by have := z.2.1; omega)]
      rfl
theorem sU_succ {A : SA} {w : Nat → Nat} {n u : Nat} : sU A w (n + 1) u = sU A w n u + if mt A u n then w n else 0 := rfl
theorem load_L {K : Nat} {N : Mem} {p u : Nat} {T A : SA} (hp : p < 3) (hu : u < 15) (hT : RT (N 1) T) (hP : RP (N 1) p A) (hWT : WT T) (hW : WG K (T 2 0) A) : ∀ (d k F : Nat), k + d = A 0 2 → d < F → fX12_load_L5 F N (nI p) (nI u) (nI (sU A (ldL T A) k u)) (nI k) = some (nI (sU A (ldL T A) (A 0 2) u)) := by
  have h12 := hW.1.2.2
  intro d
  induction d with
  | zero =>
    intro k F hk hF
    obtain ⟨F, rfl⟩ : ∃ F', F = F' + 1 := ⟨F - 1, by omega⟩
    rw [fX12_load_L5, at1_2, ob_some, s30 (AX_lt hp (by omega)), ob_some, ra0 hP (by omega), if_pos ((nI_leE (by omega) (by omega)).mpr (by omega)), show k = A 0 2 by omega]
  | succ d ih =>
    intro k F hk hF
    obtain ⟨F, rfl⟩ : ∃ F', F = F' + 1 := ⟨F - 1, by omega⟩
    have h2 := hW.2.2.1 k (by omega)
    have e0 : fX12_load_L5 (F + 1) N (nI p) (nI u) (nI (sU A (ldL T A) k u)) (nI k) = (if (if mt A u k then (1 : Int32) else 0) = 0 then fX12_load_L5 F N (nI p) (nI u) (nI (sU A (ldL T A) k u)) (nI (k + 1)) else (fX12_loadOfLamp N (nI p) (nI k)).bind fun v17 => fX12_load_L5 F N (nI p) (nI u) (nI (sU A (ldL T A) k u) + v17) (nI (k + 1))) := by
      rw [fX12_load_L5, at1_2, ob_some, s30 (AX_lt hp (by omega)), ob_some, ra0 hP (by omega), if_neg (fun h => by have := (nI_leE (by omega) (by omega)).mp h; omega), ol1, ob_some, s30 (LX_lt hp (by omega) (by omega)), ob_some, rl1 hP (by omega)]
      refine ob_in (v := if mt A u k then (1 : Int32) else 0) ?_ ?_
      · by_cases hd : A 2 k = 12
        · rw [if_pos ((vI_6 h2).mpr hd), if_neg (fun z => by have := z.1; omega)]
        · have h5 := hW.2.2.2.2.2.1 (A 2 k) (by omega)
          rw [if_neg (fun z => hd ((vI_6 h2).mp z)), vI_2 (by omega)]
          by_cases h1 : u = A 2 k
          · rw [if_pos (by rw [h1]), if_pos ⟨by omega, Or.inl h1⟩]
          · rw [if_neg (fun z => h1 ((nI_eqE (by omega) (by omega)).mp z)), li75, nI_addE, at1_ok, ob_some, s30 (AX_lt hp (by omega)), ob_some, ra75 hP (by omega), li12, nI_addE]
            by_cases h3 : u = 12 + A 5 (A 2 k)
            · rw [if_pos (by rw [← h3]), if_pos ⟨by omega, Or.inr (Or.inr h3)⟩]
            · rw [if_neg (fun z => h3 ((nI_eqE (by omega) (by omega)).mp z)), if_neg (fun z => by have := z.2; omega)]
      · simp only [lt1_eq, Int32.add_zero, li1, nI_addE]
        rfl
    rw [e0, b01]
    by_cases hm : mt A u k
    · rw [if_pos hm, ldR_ok hp hT hP hWT hW (by omega), ob_some, nI_addE]
      have := ih (k + 1) F (by omega) (by omega)
      rw [sU_succ, if_pos hm] at this
      exact this
    · rw [if_neg hm]
      have := ih (k + 1) F (by omega) (by omega)
      rw [sU_succ, if_neg hm, Nat.add_zero] at this
      exact this
theorem load_ok {K : Nat} {N : Mem} {p u : Nat} {T A : SA} (hp : p < 3) (hu : u < 15) (hT : RT (N 1) T) (hP : RP (N 1) p A) (hWT : WT T) (hW : WG K (T 2 0) A) : fX12_load N (nI p) (nI u) = some (nI (sU A (ldL T A) (A 0 2) u)) := by
  have h12 := hW.1.2.2
  unfold fX12_load
  exact ob_in (load_L hp hu hT hP hWT hW (A 0 2) 0 5000 (by omega) (by omega)) rfl
theorem loadBy_L {K : Nat} {N : Mem} {p u c : Nat} {T A : SA} (hp : p < 3) (hu : u ≤ 15) (hc : c < 8) (h0 : A 6 c ≠ 0) (hT : RT (N 1) T) (hP : RP (N 1) p A) (hWT : WT T) (hW : WG K (T 2 0) A) : ∀ (d k F : Nat), k + d = A 0 2 → d < F → fX12_loadBy_L6 F N (nI p) (nI u) (nI c) (nI (sU A (wtt T A (8 + c)) k u)) (nI k) = some (nI (sU A (wtt T A (8 + c)) (A 0 2) u)) := by
  have h12 := hW.1.2.2
  have h50 := (hW.2.2.2.2.2.2.1 c hc).1
  intro d
  induction d with
  | zero =>
    intro k F hk hF
    obtain ⟨F, rfl⟩ : ∃ F', F = F' + 1 := ⟨F - 1, by omega⟩
    rw [fX12_loadBy_L6, at1_2, ob_some, s30 (AX_lt hp (by omega)), ob_some, ra0 hP (by omega), if_pos ((nI_leE (by omega) (by omega)).mpr (by omega)), show k = A 0 2 by omega]
  | succ d ih =>
    intro k F hk hF
    obtain ⟨F, rfl⟩ : ∃ F', F = F' + 1 := ⟨F - 1, by omega⟩
    have h2 := hW.2.2.1 k (by omega)
    have e0 : fX12_loadBy_L6 (F + 1) N (nI p) (nI u) (nI c) (nI (sU A (wtt T A (8 + c)) k u)) (nI k) = (if (if mt A u k then (1 : Int32) else 0) = 0 then fX12_loadBy_L6 F N (nI p) (nI u) (nI c) (nI (sU A (wtt T A (8 + c)) k u)) (nI (k + 1)) else fX12_loadBy_L6 F N (nI p) (nI u) (nI c) (nI (sU A (wtt T A (8 + c)) k u + wtt T A (8 + c) k)) (nI (k + 1))) := by
      rw [fX12_loadBy_L6, at1_2, ob_some, s30 (AX_lt hp (by omega)), ob_some, ra0 hP (by omega), if_neg (fun h => by have := (nI_leE (by omega) (by omega)).mp h; omega), ofCue_ok, ob_some, s30 (by have := CX_lt (i := 0) hp hc (by omega); omega), ob_some, rcT hP hc, if_neg (show ¬ nI (A 6 c) ≤ 0 from fun z => by rw [li0] at z; have := (nI_leE (by omega) (by omega)).mp z; omega), ol1, ob_some, s30 (LX_lt hp (by omega) (by omega)), ob_some, rl1 hP (by omega)]
      refine ob_in (v := if mt A u k then (1 : Int32) else 0) ?_ ?_
      · by_cases hd : A 2 k = 12
        · rw [if_pos ((vI_6 h2).mpr hd), if_neg (fun z => by have := z.1; omega)]
        · have h5 := hW.2.2.2.2.2.1 (A 2 k) (by omega)
          rw [if_neg (fun z => hd ((vI_6 h2).mp z)), vI_2 (by omega)]
          by_cases h1 : u = A 2 k
          · rw [if_pos (by rw [h1]), if_pos ⟨by omega, Or.inl h1⟩]
          · rw [if_neg (fun z => h1 ((nI_eqE (by omega) (by omega)).mp z))]
            by_cases h15 : u = 15
            · rw [if_pos (show nI u = 15 by rw [h15]; rfl), if_pos ⟨by omega, Or.inr (Or.inl h15)⟩]
            · rw [if_neg (show ¬ nI u = 15 from fun z => h15 (by rw [li15] at z; exact (nI_eqE (by omega) (by omega)).mp z)), li75, nI_addE, at1_ok, ob_some, s30 (AX_lt hp (by omega)), ob_some, ra75 hP (by omega), li12, nI_addE]
              by_cases h3 : u = 12 + A 5 (A 2 k)
              · rw [if_pos (by rw [← h3]), if_pos ⟨by omega, Or.inr (Or.inr h3)⟩]
              · rw [if_neg (fun z => h3 ((nI_eqE (by omega) (by omega)).mp z)), if_neg (fun z => by have := z.2; omega)]
      · rw [b01, b01]
        by_cases hm : mt A u k
        · rw [if_pos hm, if_pos hm, ob_some, li1, nI_addE, nI_addE, s30 (by have := CX_lt (i := 1 + k) hp hc (by omega); omega), ob_some, rcL hP hc (by omega), watts_ok hp hT hP hWT hW (by omega) ((hW.2.2.2.2.2.2.1 c hc).2 k (by omega)), ob_some, lt1_eq, nI_addE, nI_addE]
          rfl
        · rw [if_neg hm, if_neg hm, lt1_eq, Int32.add_zero, li1, nI_addE]
    rw [e0, b01]
    by_cases hm : mt A u k
    · rw [if_pos hm]
      have := ih (k + 1) F (by omega) (by omega)
      rw [sU_succ, if_pos hm] at this
      exact this
    · rw [if_neg hm]
      have := ih (k + 1) F (by omega) (by omega)
      rw [sU_succ, if_neg hm, Nat.add_zero] at this
      exact this
theorem loadBy_ok {K : Nat} {N : Mem} {p u c : Nat} {T A : SA} (hp : p < 3) (hu : u ≤ 15) (hc : c < 8) (hT : RT (N 1) T) (hP : RP (N 1) p A) (hWT : WT T) (hW : WG K (T 2 0) A) : fX12_loadBy N (nI p) (nI u) (nI c) = some (nI (cuL T A c u)) := by
  have h12 := hW.1.2.2
  unfold fX12_loadBy cuL
  by_cases h0 : A 6 c = 0
  · rw [if_pos h0]
    refine ob_in (v := nI 0) ?_ rfl
    rw [fX12_loadBy_L6, at1_2, ob_some, s30 (AX_lt hp (by omega)), ob_some, ofCue_ok, ob_some, s30 (by have := CX_lt (i := 0) hp hc (by omega); omega), ob_some, rcT hP hc, h0]
    by_cases h : nI (A 0 2) ≤ 0
    · rw [ra0 hP (by omega)]
      exact if_pos h
    · rw [ra0 hP (by omega), if_neg h]
      exact if_pos (by decide)
  · rw [if_neg h0]
    exact ob_in (loadBy_L hp hu hc h0 hT hP hWT hW (A 0 2) 0 5000 (by omega) (by omega)) rfl
theorem worstR_L {K : Nat} {N : Mem} {p u : Nat} {T A : SA} (hp : p < 3) (hu : u ≤ 15) (hT : RT (N 1) T) (hP : RP (N 1) p A) (hWT : WT T) (hW : WG K (T 2 0) A) : ∀ (d k F : Nat), k + d = 8 → d < F → fX12_worst_L5 F N (nI p) (nI u) (nI (wst T A k u)) (nI k) = some (nI (wst T A 8 u)) := by
  intro d
  induction d with
  | zero =>
    intro k F hk hF
    obtain ⟨F, rfl⟩ : ∃ F', F = F' + 1 := ⟨F - 1, by omega⟩
    rw [fX12_worst_L5, li8, if_pos ((nI_leE (by omega) (by omega)).mpr (by omega)), show k = 8 by omega]
  | succ d ih =>
    intro k F hk hF
    obtain ⟨F, rfl⟩ : ∃ F', F = F' + 1 := ⟨F - 1, by omega⟩
    have b1 := cuL_le (u := u) hWT hW (show k < 8 by omega)
    have b2 := wst_le (u := u) hWT hW k (by omega)
    have e : wst T A (k + 1) u = max (wst T A k u) (cuL T A k u) := rfl
    have := ih (k + 1) F (by omega) (by omega)
    rw [fX12_worst_L5, li8, if_neg (fun h => by have := (nI_leE (by omega) (by omega)).mp h; omega), loadBy_ok hp hu (by omega) hT hP hWT hW, ob_some, li1, nI_addE]
    by_cases h : cuL T A k u ≤ wst T A k u
    · rw [if_pos ((nI_leE (by omega) (by omega)).mpr h)]
      rw [e, Nat.max_eq_left h] at this
      exact this
    · rw [if_neg (fun z => h ((nI_leE (by omega) (by omega)).mp z))]
      rw [e, Nat.max_eq_right (by omega)] at this
      exact this
theorem worstR_ok {K : Nat} {N : Mem} {p u : Nat} {T A : SA} (hp : p < 3) (hu : u ≤ 15) (hT : RT (N 1) T) (hP : RP (N 1) p A) (hWT : WT T) (hW : WG K (T 2 0) A) : fX12_worst N (nI p) (nI u) = some (nI (wst T A 8 u)) := by
  unfold fX12_worst
  exact ob_in (worstR_L hp hu hT hP hWT hW 8 0 5000 (by omega) (by omega)) rfl
