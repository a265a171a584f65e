/-! the reference's trips -/
def cU (A : SA) (u : Nat) : Nat := if u < 12 then A 20 u else A 22 (u - 12)
def lF (T A : SA) (u : Nat) : Nat := sU A (ldL T A) (A 0 2) u
theorem raU {σ : Nat → Int32} {p u : Nat} {A : SA} (h : RP σ p A) (hu : u < 15) : σ (AX p (87 + u)) = nI (bitU A u) := by
  unfold bitU
  by_cases h12 : u < 12
  · rw [if_pos h12]
    exact ra87 h h12
  · rw [if_neg h12, ← ra99 h (d := u - 12) (by omega)]
    exact congrArg σ (by unfold AX; omega)
theorem raC {σ : Nat → Int32} {p u : Nat} {A : SA} (h : RP σ p A) (hu : u < 15) : σ (AX p (102 + u)) = nI (cU A u) := by
  unfold cU
  by_cases h12 : u < 12
  · rw [if_pos h12]
    exact ra102 h h12
  · rw [if_neg h12, ← ra114 h (d := u - 12) (by omega)]
    exact congrArg σ (by unfold AX; omega)
theorem RP_tr {σ σ' : Nat → Int32} {p : Nat} {A A' : SA} (h : RP σ p A) (hn : A 0 2 ≤ 12) (he : ∀ q, ¬ (AX p 87 ≤ q ∧ q < AX p 117) → σ' q = σ q) (hb : ∀ u, u < 15 → σ' (AX p (87 + u)) = nI (bitU A' u)) (hc : ∀ u, u < 15 → σ' (AX p (102 + u)) = nI (cU A' u)) (hA : ∀ o j, ¬ (19 ≤ o ∧ o ≤ 22) → A' o j = A o j) : RP σ' p A' := by
  obtain ⟨a1, b2, b3, b4, b5, b6, b7, b8, b9, b10⟩ := h
  refine ⟨fun j hj => ?_, fun i hi => ?_, fun d hd => ?_, fun d hd => ?_, fun d hd => ?_, fun d hd => ?_, fun d hd => ?_, fun c hc => ⟨?_, fun i hi => ?_⟩, ?_, fun hh => ?_⟩
  · rw [hA 0 j (by omega), he _ (by unfold AX PB; omega)]; exact a1 j hj
  · rw [hA 0 2 (by omega)] at hi
    rw [hA 1 i (by omega), hA 2 i (by omega), hA 3 i (by omega), hA 4 i (by omega), hA 17 i (by omega), hA 18 i (by omega), he _ (by unfold AX PB; omega), he _ (by unfold AX PB; omega), he _ (by unfold AX PB; omega), he _ (by unfold AX PB; omega), he _ (by unfold AX PB; omega), he _ (by unfold AX PB; omega)]
    exact b2 i hi
  · rw [hA 5 d (by omega), he _ (by unfold AX PB; omega)]; exact b3 d hd
  · have := hb d (by omega)
    unfold bitU at this
    rw [if_pos hd] at this
    rw [← this]
    exact congrArg σ' (by unfold AX PB; omega)
  · have := hb (12 + d) (by omega)
    unfold bitU at this
    rw [if_neg (by omega), show 12 + d - 12 = d by omega] at this
    rw [← this]
    exact congrArg σ' (by unfold AX PB; omega)
  · have := hc d (by omega)
    unfold cU at this
    rw [if_pos hd] at this
    rw [← this]
    exact congrArg σ' (by unfold AX PB; omega)
  · have := hc (12 + d) (by omega)
    unfold cU at this
    rw [if_neg (by omega), show 12 + d - 12 = d by omega] at this
    rw [← this]
    exact congrArg σ' (by unfold AX PB; omega)
  · rw [hA 6 c (by omega), he _ (by unfold AX PB; omega)]; exact (b8 c hc).1
  · rw [hA 0 2 (by omega)] at hi
    rw [hA (8 + c) i (by omega), he _ (by unfold AX PB; omega)]; exact (b8 c hc).2 i hi
  · rw [hA 16 0 (by omega), he _ (by unfold AX PB; omega)]; exact b9
  · rw [hA 16 0 (by omega)] at hh
    rw [hA 16 1 (by omega), he _ (by unfold AX PB; omega)]; exact b10 hh
theorem sU_congr {A B : SA} {w : Nat → Nat} {u : Nat} (h2 : ∀ i, B 2 i = A 2 i) (h5 : ∀ i, B 5 i = A 5 i) : ∀ n, sU B w n u = sU A w n u := by
  intro n
  induction n with
  | zero => rfl
  | succ n ih =>
    rw [sU_succ, sU_succ, ih]
    congr 1
    by_cases h : mt A u n
    · rw [if_pos h, if_pos (show mt B u n from ⟨by rw [h2]; exact h.1, by rw [h2, h5]; exact h.2⟩)]
    · rw [if_neg h, if_neg (show ¬ mt B u n from fun z => h ⟨by have := z.1; rw [h2] at this; exact this, by have := z.2; rw [h2, h5] at this; exact this⟩)]
theorem lF_congr {T A B : SA} {u : Nat} (h : ∀ o j, o ≠ 20 → o ≠ 22 → B o j = A o j) : lF T B u = lF T A u := by
  unfold lF
  have e : ldL T B = ldL T A := by
    funext i
    unfold ldL wtt
    have e1 : fed B i = fed A i := by
      unfold fed
      rw [h 2 i (by omega) (by omega), h 19 1 (by omega) (by omega), h 21 1 (by omega) (by omega), h 5 _ (by omega) (by omega)]
    simp only [e1]
    rw [h 1 i (by omega) (by omega), h 4 i (by omega) (by omega)]
  rw [e, h 0 2 (by omega) (by omega)]
  exact sU_congr (fun i => h 2 i (by omega) (by omega)) (fun i => h 5 i (by omega) (by omega)) _
theorem WG_cnt {K K' told : Nat} {A B : SA} (h : WG K told A) (hB : ∀ o j, o ≠ 20 → o ≠ 22 → B o j = A o j) (h1 : ∀ d, d < 12 → B 20 d < K') (h2 : ∀ k, k < 3 → B 22 k < K') : WG K' told B := by
  obtain ⟨a1, a2, a3, a4, a5, a6, a7, a8, a9, a10, a11, a12, a13, a14⟩ := h
  have e : ∀ o j, o ≠ 20 → o ≠ 22 → B o j = A o j := hB
  refine ⟨by rw [e 0 0 (by omega) (by omega), e 0 1 (by omega) (by omega), e 0 2 (by omega) (by omega)]; exact a1, fun i hi => by rw [e 0 2 (by omega) (by omega)] at hi; rw [e 1 i (by omega) (by omega)]; exact a2 i hi, fun i hi => by rw [e 2 i (by omega) (by omega)]; exact a3 i hi, fun i hi => by rw [e 3 i (by omega) (by omega), e 4 i (by omega) (by omega), e 17 i (by omega) (by omega), e 18 i (by omega) (by omega)]; exact a4 i hi, fun i hi1 hi2 => ?_, fun d hd => by rw [e 5 d (by omega) (by omega)]; exact a6 d hd, fun c hc => ⟨by rw [e 6 c (by omega) (by omega)]; exact (a7 c hc).1, fun i hi => by rw [e (8 + c) i (by omega) (by omega)]; exact (a7 c hc).2 i hi⟩, by rw [e 19 1 (by omega) (by omega)]; exact a8, by rw [e 21 1 (by omega) (by omega)]; exact a9, h1, h2, by rw [e 16 0 (by omega) (by omega)]; exact a12, by rw [e 16 0 (by omega) (by omega), e 16 1 (by omega) (by omega)]; exact a13, by rw [e 16 0 (by omega) (by omega), e 16 1 (by omega) (by omega)]; exact a14⟩
  rw [e 0 2 (by omega) (by omega)] at hi1
  rw [e 3 i (by omega) (by omega), e 4 i (by omega) (by omega), e 17 i (by omega) (by omega), e 18 i (by omega) (by omega)]
  have g := a5 i hi1 hi2
  exact ⟨g.1, g.2.1, g.2.2.1, g.2.2.2.1, fun c hc => by rw [e (8 + c) i (by omega) (by omega)]; exact g.2.2.2.2 c hc⟩
/-- the counts while places b .. b + k - 1 are done -/
def ctA (A : SA) (b k : Nat) (g : Nat → Nat) : SA := fun o j => if o = 20 ∧ j < 12 ∧ b ≤ j ∧ j < b + k then g (j - b) else if o = 22 ∧ b ≤ 12 + j ∧ 12 + j < b + k then g (12 + j - b) else A o j
theorem ctA_o {A : SA} {b k : Nat} {g : Nat → Nat} : ∀ o j, o ≠ 20 → o ≠ 22 → ctA A b k g o j = A o j := fun o j h1 h2 => by
  unfold ctA
  rw [if_neg (fun z => h1 z.1), if_neg (fun z => h2 z.1)]
theorem ctA_U {A : SA} {b k u : Nat} {g : Nat → Nat} : cU (ctA A b k g) u = if b ≤ u ∧ u < b + k then g (u - b) else cU A u := by
  unfold cU ctA
  by_cases h12 : u < 12
  · rw [if_pos h12, if_pos h12]
    by_cases h : b ≤ u ∧ u < b + k
    · rw [if_pos ⟨rfl, h12, h⟩, if_pos h]
    · rw [if_neg (fun z => h z.2.2), if_neg (by omega), if_neg h]
  · rw [if_neg h12, if_neg h12, if_neg (by omega)]
    by_cases h : b ≤ u ∧ u < b + k
    · rw [if_pos ⟨rfl, by omega, by omega⟩, if_pos h, show 12 + (u - 12) - b = u - b by omega]
    · rw [if_neg (by omega), if_neg h]
theorem WG_ct {told b k : Nat} {A : SA} {g : Nat → Nat} (hW : WA told A) (hg : ∀ d, g d < 100) : WG 100 told (ctA A b k g) := by
  refine WG_cnt hW ctA_o (fun d hd => ?_) (fun d hd => ?_)
  · have := hW.2.2.2.2.2.2.2.2.2.1 d hd
    unfold ctA
    by_cases h : (20 : Nat) = 20 ∧ d < 12 ∧ b ≤ d ∧ d < b + k
    · rw [if_pos h]
      exact hg _
    · rw [if_neg h, if_neg (by omega)]
      omega
  · have := hW.2.2.2.2.2.2.2.2.2.2.1 d hd
    unfold ctA
    rw [if_neg (by omega)]
    by_cases h : (22 : Nat) = 22 ∧ b ≤ 12 + d ∧ 12 + d < b + k
    · rw [if_pos h]
      exact hg _
    · rw [if_neg h]
      omega
theorem trA_L {N0 : Mem} {p b n lim : Nat} {T A : SA} (hp : p < 3) (hbn : b + n ≤ 15) (hT : RT (N0 1) T) (hP : RP (N0 1) p A) (hWT : WT T) (hW : WA (T 2 0) A) (hlim : lim < 2 ^ 31) : ∀ (e k F : Nat) (N : Mem), k + e = n → e < F → (∀ q, N 1 q = if AX p (102 + b) ≤ q ∧ q < AX p (102 + b + k) then nI (cc (fun d => cU A (b + d)) (fun d => lF T A (b + d)) lim (q - AX p (102 + b))) else N0 1 q) → ∃ N', fX12_trip_L6 F N (nI p) (nI b) (nI (b + n)) (nI lim) 0 (nI (b + k)) = some N' ∧ (∀ x, x ≠ 1 → N' x = N x) ∧ ∀ q, N' 1 q = if AX p (102 + b) ≤ q ∧ q < AX p (102 + b + n) then nI (cc (fun d => cU A (b + d)) (fun d => lF T A (b + d)) lim (q - AX p (102 + b))) else N0 1 q := by
  have h12 := hW.1.2.2
  have hcu : ∀ u, u < 15 → cU A u < 20 := fun u hu => by
    unfold cU
    split
    · exact hW.2.2.2.2.2.2.2.2.2.1 u (by omega)
    · exact hW.2.2.2.2.2.2.2.2.2.2.1 (u - 12) (by omega)
  intro e
  induction e with
  | zero =>
    intro k F N hk hF hN
    obtain ⟨F, rfl⟩ : ∃ F', F = F' + 1 := ⟨F - 1, by omega⟩
    have hkn : k = n := by omega
    subst hkn
    exact ⟨N, by rw [fX12_trip_L6, if_pos (Int32.le_refl _)], fun _ _ => rfl, hN⟩
  | succ e ih =>
    intro k F N hk hF hN
    obtain ⟨F, rfl⟩ : ∃ F', F = F' + 1 := ⟨F - 1, by omega⟩
    obtain ⟨g, hg⟩ : ∃ g : Nat → Nat, g = fun d => if d < n then cc (fun d => cU A (b + d)) (fun d => lF T A (b + d)) lim d else 0 := ⟨_, rfl⟩
    have hg100 : ∀ d, g d < 100 := fun d => by
      rw [hg]
      show (if d < n then cc (fun d => cU A (b + d)) (fun d => lF T A (b + d)) lim d else 0) < 100
      by_cases h : d < n
      · rw [if_pos h]
        have := hcu (b + d) (by omega)
        show (if lF T A (b + d) ≤ lim then 0 else cU A (b + d) + 1) < 100
        split <;> omega
      · rw [if_neg h]
        omega
    have hWB : WG 100 (T 2 0) (ctA A b k g) := WG_ct hW hg100
    have hPB : RP (N 1) p (ctA A b k g) := RP_tr hP h12 (fun q hq => by rw [hN, if_neg (by unfold AX at hq ⊢; omega)]) (fun u hu => by
      rw [hN, if_neg (by unfold AX; omega), raU hP hu]
      unfold bitU
      rw [ctA_o 19 1 (by omega) (by omega), ctA_o 21 1 (by omega) (by omega)]) (fun u hu => by
      rw [hN, ctA_U]
      by_cases h : b ≤ u ∧ u < b + k
      · rw [if_pos h, if_pos (by unfold AX; omega), hg]
        show _ = nI (if u - b < n then cc (fun d => cU A (b + d)) (fun d => lF T A (b + d)) lim (u - b) else 0)
        rw [if_pos (by omega), show AX p (102 + u) - AX p (102 + b) = u - b by unfold AX; omega]
      · rw [if_neg h, if_neg (by unfold AX; omega)]
        exact raC hP hu) (fun o j ho => ctA_o o j (by omega) (by omega))
    have hTB : RT (N 1) T := by
      have e : ∀ q, q < 22 → N 1 q = N0 1 q := fun q hq => by rw [hN, if_neg (by unfold AX; omega)]
      exact ⟨fun j hj => by rw [e _ (by omega)]; exact hT.1 j hj, by rw [e _ (by omega)]; exact hT.2.1, fun t ht => by rw [e _ (by omega), e _ (by omega), e _ (by omega)]; exact hT.2.2 t ht⟩
    have ld : fX12_load N (nI p) (nI (b + k)) = some (nI (lF T A (b + k))) := by
      have := load_ok (u := b + k) hp (by omega) hTB hPB hWT hWB
      rw [this]
      congr 2
      exact lF_congr ctA_o
    have hld : lF T A (b + k) < 2 ^ 31 := by
      have := sN_le (u := b + k) hWT hW
      unfold lF
      omega
    have own : N 1 (AX p (102 + (b + k))) = nI (cU A (b + k)) := by
      rw [hN, if_neg (by unfold AX; omega)]
      exact raC hP (by omega)
    obtain ⟨N', e1, e2, e3⟩ := ih (k + 1) F (up2 N 1 (AX p (102 + (b + k))) (nI (cc (fun d => cU A (b + d)) (fun d => lF T A (b + d)) lim k))) (by omega) (by omega) (fun q => by
      rw [up2_same]
      by_cases h : q = AX p (102 + (b + k))
      · rw [if_pos h, if_pos (by unfold AX at h ⊢; omega), show q - AX p (102 + b) = k by unfold AX at h ⊢; omega]
      · rw [if_neg h, hN]
        by_cases h2 : AX p (102 + b) ≤ q ∧ q < AX p (102 + b + k)
        · rw [if_pos h2, if_pos (by unfold AX at h2 ⊢; omega)]
        · rw [if_neg h2, if_neg (by unfold AX at h h2 ⊢; omega)])
    refine ⟨N', ?_, fun x hx => by rw [e2 x hx, up2_ne hx], e3⟩
    rw [fX12_trip_L6, if_neg (fun z => by have := (nI_leE (by omega) (by omega)).mp z; omega), li102, nI_addE, at1_ok, ob_some, ld, ob_some]
    have ek : b + k + 1 = b + (k + 1) := by omega
    by_cases h : lF T A (b + k) ≤ lim
    · have ec : cc (fun d => cU A (b + d)) (fun d => lF T A (b + d)) lim k = 0 := if_pos h
      rw [if_pos ((nI_leE hld hlim).mpr h), w30 (AX_lt hp (by omega)), ob_some, li1, nI_addE, ek]
      rw [ec] at e1
      exact e1
    · have ec : cc (fun d => cU A (b + d)) (fun d => lF T A (b + d)) lim k = cU A (b + k) + 1 := if_neg h
      rw [if_neg (fun z => h ((nI_leE hld hlim).mp z)), s30 (AX_lt hp (by omega)), ob_some, w30 (AX_lt hp (by omega)), ob_some, own, li1, nI_addE, nI_addE, ek]
      rw [ec] at e1
      exact e1
theorem trB_L {p b n lim tk : Nat} {c f : Nat → Nat} (hp : p < 3) (hbn : b + n ≤ 15) (htk : tk < 2 ^ 31) (hcc : ∀ d, d < n → cc c f lim d < 2 ^ 31) : ∀ (e k F : Nat) (N : Mem), k + e = n → e < F → N 1 2 = nI tk → (∀ d, k ≤ d → d < n → N 1 (AX p (102 + (b + d))) = nI (cc c f lim d)) → ∃ N', fX12_trip_L64 F N (nI p) (nI (b + n)) (nI (trs c f lim tk k)) (nI (b + k)) = some (nI (trs c f lim tk n), N') ∧ (∀ x, x ≠ 1 → N' x = N x) ∧ ∀ q, N' 1 q = if AX p (102 + b + k) ≤ q ∧ q < AX p (102 + b + n) ∧ tk ≤ cc c f lim (q - AX p (102 + b)) then 0 else if AX p (87 + b + k) ≤ q ∧ q < AX p (87 + b + n) ∧ tk ≤ cc c f lim (q - AX p (87 + b)) then 1 else N 1 q := by
  intro e
  induction e with
  | zero =>
    intro k F N hk hF hN hL
    obtain ⟨F, rfl⟩ : ∃ F', F = F' + 1 := ⟨F - 1, by omega⟩
    have hkn : k = n := by omega
    subst hkn
    exact ⟨N, by rw [fX12_trip_L64, if_pos (Int32.le_refl _)], fun _ _ => rfl, fun q => by rw [if_neg (by omega), if_neg (by omega)]⟩
  | succ e ih =>
    intro k F N hk hF hN hL
    obtain ⟨F, rfl⟩ : ∃ F', F = F' + 1 := ⟨F - 1, by omega⟩
    have ek : b + k + 1 = b + (k + 1) := by omega
    have hck := hcc k (by omega)
    have s2 : aL 30 N 1 2 = some (nI tk) := (s30 (k := 2) (by omega)).trans (by rw [hN])
    by_cases ht : tk ≤ cc c f lim k
    · have et : trs c f lim tk (k + 1) = trs c f lim tk k + 1 := by
        show trs c f lim tk k + (if tk ≤ cc c f lim k then 1 else 0) = _
        rw [if_pos ht]
      obtain ⟨N', e1, e2, e3⟩ := ih (k + 1) F (up2 (up2 N 1 (AX p (87 + (b + k))) 1) 1 (AX p (102 + (b + k))) 0) (by omega) (by omega) (by rw [N1_ne (by unfold AX; omega), N1_ne (by unfold AX; omega)]; exact hN) (fun d h1 h2 => by rw [N1_ne (by unfold AX; omega), N1_ne (by unfold AX; omega)]; exact hL d (by omega) h2)
      refine ⟨N', ?_, fun x hx => by rw [e2 x hx, up2_ne hx, up2_ne hx], fun q => ?_⟩
      · rw [fX12_trip_L64, if_neg (fun z => by have := (nI_leE (by omega) (by omega)).mp z; omega), li102, nI_addE, at1_ok, ob_some, s30 (AX_lt hp (by omega)), ob_some, hL k (Nat.le_refl _) (by omega), s2, ob_some, if_neg (fun z => by have := (nI_ltE hck htk).mp z; omega), li87, nI_addE, at1_ok, ob_some, w30 (AX_lt hp (by omega)), ob_some, w30 (AX_lt hp (by omega)), ob_some, li1, nI_addE, nI_addE, ek]
        rw [et] at e1
        exact e1
      · rw [e3]
        by_cases h1 : AX p (102 + b + (k + 1)) ≤ q ∧ q < AX p (102 + b + n) ∧ tk ≤ cc c f lim (q - AX p (102 + b))
        · rw [if_pos h1, if_pos ⟨by have := h1.1; unfold AX at this ⊢; omega, h1.2⟩]
        · rw [if_neg h1]
          by_cases h2 : AX p (87 + b + (k + 1)) ≤ q ∧ q < AX p (87 + b + n) ∧ tk ≤ cc c f lim (q - AX p (87 + b))
          · rw [if_pos h2, if_neg (by have a1 := h2.1; have a2 := h2.2.1; unfold AX at a1 a2 ⊢; omega), if_pos ⟨by have := h2.1; unfold AX at this ⊢; omega, h2.2⟩]
          · rw [if_neg h2, up2_same]
            by_cases h3 : q = AX p (102 + (b + k))
            · have e4 : q - AX p (102 + b) = k := by unfold AX at h3 ⊢; omega
              rw [if_pos h3, if_pos ⟨by unfold AX at h3 ⊢; omega, by unfold AX at h3 ⊢; omega, by rw [e4]; exact ht⟩]
            · rw [if_neg h3, up2_same]
              by_cases h4 : q = AX p (87 + (b + k))
              · have e4 : q - AX p (87 + b) = k := by unfold AX at h4 ⊢; omega
                rw [if_pos h4, if_neg (by unfold AX at h4 ⊢; omega), if_pos ⟨by unfold AX at h4 ⊢; omega, by unfold AX at h4 ⊢; omega, by rw [e4]; exact ht⟩]
              · rw [if_neg h4, if_neg (fun z => h1 ⟨by have := z.1; unfold AX at this h3 ⊢; omega, z.2⟩), if_neg (fun z => h2 ⟨by have := z.1; unfold AX at this h4 ⊢; omega, z.2⟩)]
    · have et : trs c f lim tk (k + 1) = trs c f lim tk k := by
        show trs c f lim tk k + (if tk ≤ cc c f lim k then 1 else 0) = _
        rw [if_neg ht]
        rfl
      obtain ⟨N', e1, e2, e3⟩ := ih (k + 1) F N (by omega) (by omega) hN (fun d h1 h2 => hL d (by omega) h2)
      refine ⟨N', ?_, e2, fun q => ?_⟩
      · rw [fX12_trip_L64, if_neg (fun z => by have := (nI_leE (by omega) (by omega)).mp z; omega), li102, nI_addE, at1_ok, ob_some, s30 (AX_lt hp (by omega)), ob_some, hL k (Nat.le_refl _) (by omega), s2, ob_some, if_pos (nI_lt (by omega) htk), li1, nI_addE, ek]
        rw [et] at e1
        exact e1
      · rw [e3]
        by_cases h1 : AX p (102 + b + (k + 1)) ≤ q ∧ q < AX p (102 + b + n) ∧ tk ≤ cc c f lim (q - AX p (102 + b))
        · rw [if_pos h1, if_pos ⟨by have := h1.1; unfold AX at this ⊢; omega, h1.2⟩]
        · rw [if_neg h1]
          by_cases h2 : AX p (87 + b + (k + 1)) ≤ q ∧ q < AX p (87 + b + n) ∧ tk ≤ cc c f lim (q - AX p (87 + b))
          · rw [if_pos h2, if_neg (by have a1 := h2.1; have a2 := h2.2.1; unfold AX at a1 a2 ⊢; omega), if_pos ⟨by have := h2.1; unfold AX at this ⊢; omega, h2.2⟩]
          · rw [if_neg h2]
            have n1 : ¬ (AX p (102 + b + k) ≤ q ∧ q < AX p (102 + b + n) ∧ tk ≤ cc c f lim (q - AX p (102 + b))) := fun z => by
              by_cases h3 : q = AX p (102 + (b + k))
              · have e4 : q - AX p (102 + b) = k := by unfold AX at h3 ⊢; omega
                have := z.2.2
                rw [e4] at this
                exact ht this
              · exact h1 ⟨by have := z.1; unfold AX at this h3 ⊢; omega, z.2⟩
            have n2 : ¬ (AX p (87 + b + k) ≤ q ∧ q < AX p (87 + b + n) ∧ tk ≤ cc c f lim (q - AX p (87 + b))) := fun z => by
              by_cases h3 : q = AX p (87 + (b + k))
              · have e4 : q - AX p (87 + b) = k := by unfold AX at h3 ⊢; omega
                have := z.2.2
                rw [e4] at this
                exact ht this
              · exact h2 ⟨by have := z.1; unfold AX at this h3 ⊢; omega, z.2⟩
            rw [if_neg n1, if_neg n2]
