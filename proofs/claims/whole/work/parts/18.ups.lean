/-! one entry of the reference's row anew -/
theorem upd_ne {σ : Nat → Int32} {k q : Nat} {x : Int32} (h : q ≠ k) : upd σ k x q = σ q := if_neg h
theorem upd_eq {σ : Nat → Int32} {k : Nat} {x : Int32} : upd σ k x k = x := if_pos rfl
theorem RP_l0 {σ : Nat → Int32} {p i v : Nat} {A : SA} {x : Int32} (h : RP σ p A) (hm : A 0 2 ≤ 12) (hi : i < 12) (hx : x = vI 1 v) : RP (upd σ (LX p i 0) x) p (upA A 1 i v) := by
  obtain ⟨a1, a2, a3, a4, a5, a6, a7, a8, a9, a10⟩ := h
  have hs : ∀ k, k ≠ LX p i 0 → upd σ (LX p i 0) x k = σ k := fun k hk => if_neg hk
  refine ⟨fun j hj => ?_, fun i' hi' => ?_, fun d hd => ?_, fun d hd => ?_, fun d hd => ?_, fun d hd => ?_, fun d hd => ?_, fun c hc => ⟨?_, fun i' hi' => ?_⟩, ?_, fun h0 => ?_⟩
  · rw [hs _ (by unfold LX PB; omega)]; simpa [upA] using a1 j hj
  · have hn : i' < A 0 2 := by simpa [upA] using hi'
    obtain ⟨b0, b1, b2, b3, b4, b5⟩ := a2 i' hn
    by_cases e : i' = i
    · subst e
      refine ⟨?_, ?_, ?_, ?_, ?_, ?_⟩
      all_goals first | (rw [hs _ (by unfold LX PB; omega)]; simpa [upA] using b0) | (rw [hs _ (by unfold LX PB; omega)]; simpa [upA] using b1) | (rw [hs _ (by unfold LX PB; omega)]; simpa [upA] using b2) | (rw [hs _ (by unfold LX PB; omega)]; simpa [upA] using b3) | (rw [hs _ (by unfold LX PB; omega)]; simpa [upA] using b4) | (rw [hs _ (by unfold LX PB; omega)]; simpa [upA] using b5) | skip
      rw [show PB p + 3 + 6 * i' = LX p i' 0 by unfold LX PB; omega, upd_eq, hx]
      simp [upA, vI]
    · rw [hs _ (by unfold LX PB; omega), hs _ (by unfold LX PB; omega), hs _ (by unfold LX PB; omega), hs _ (by unfold LX PB; omega), hs _ (by unfold LX PB; omega), hs _ (by unfold LX PB; omega)]
      simpa [upA, e] using a2 i' hn
  · rw [hs _ (by unfold LX PB; omega)]; simpa [upA] using a3 d hd
  · rw [hs _ (by unfold LX PB; omega)]; simpa [upA] using a4 d hd
  · rw [hs _ (by unfold LX PB; omega)]; simpa [upA] using a5 d hd
  · rw [hs _ (by unfold LX PB; omega)]; simpa [upA] using a6 d hd
  · rw [hs _ (by unfold LX PB; omega)]; simpa [upA] using a7 d hd
  · rw [hs _ (by unfold LX PB; omega)]; simpa [upA] using (a8 c hc).1
  · have hn : i' < A 0 2 := by simpa [upA] using hi'
    rw [hs _ (by unfold LX PB; omega)]
    have e : ∀ o j, o < 23 → (8 + c = o → False) → upA A o j v (8 + c) i' = A (8 + c) i' := fun o j _ h => by unfold upA; rw [if_neg (fun z => h z.1)]
    rw [e _ _ (by omega) (by omega)]
    exact (a8 c hc).2 i' hn
  · rw [hs _ (by unfold LX PB; omega)]; simpa [upA] using a9
  · rw [hs _ (by unfold LX PB; omega)]; simpa [upA] using a10 (by simpa [upA] using h0)
theorem RP_l1 {σ : Nat → Int32} {p i v : Nat} {A : SA} {x : Int32} (h : RP σ p A) (hm : A 0 2 ≤ 12) (hi : i < 12) (hx : x = vI 2 v) : RP (upd σ (LX p i 1) x) p (upA A 2 i v) := by
  obtain ⟨a1, a2, a3, a4, a5, a6, a7, a8, a9, a10⟩ := h
  have hs : ∀ k, k ≠ LX p i 1 → upd σ (LX p i 1) x k = σ k := fun k hk => if_neg hk
  refine ⟨fun j hj => ?_, fun i' hi' => ?_, fun d hd => ?_, fun d hd => ?_, fun d hd => ?_, fun d hd => ?_, fun d hd => ?_, fun c hc => ⟨?_, fun i' hi' => ?_⟩, ?_, fun h0 => ?_⟩
  · rw [hs _ (by unfold LX PB; omega)]; simpa [upA] using a1 j hj
  · have hn : i' < A 0 2 := by simpa [upA] using hi'
    obtain ⟨b0, b1, b2, b3, b4, b5⟩ := a2 i' hn
    by_cases e : i' = i
    · subst e
      refine ⟨?_, ?_, ?_, ?_, ?_, ?_⟩
      all_goals first | (rw [hs _ (by unfold LX PB; omega)]; simpa [upA] using b0) | (rw [hs _ (by unfold LX PB; omega)]; simpa [upA] using b1) | (rw [hs _ (by unfold LX PB; omega)]; simpa [upA] using b2) | (rw [hs _ (by unfold LX PB; omega)]; simpa [upA] using b3) | (rw [hs _ (by unfold LX PB; omega)]; simpa [upA] using b4) | (rw [hs _ (by unfold LX PB; omega)]; simpa [upA] using b5) | skip
      rw [show PB p + 3 + 6 * i' + 1 = LX p i' 1 by unfold LX PB; omega, upd_eq, hx]
      simp [upA]
    · rw [hs _ (by unfold LX PB; omega), hs _ (by unfold LX PB; omega), hs _ (by unfold LX PB; omega), hs _ (by unfold LX PB; omega), hs _ (by unfold LX PB; omega), hs _ (by unfold LX PB; omega)]
      simpa [upA, e] using a2 i' hn
  · rw [hs _ (by unfold LX PB; omega)]; simpa [upA] using a3 d hd
  · rw [hs _ (by unfold LX PB; omega)]; simpa [upA] using a4 d hd
  · rw [hs _ (by unfold LX PB; omega)]; simpa [upA] using a5 d hd
  · rw [hs _ (by unfold LX PB; omega)]; simpa [upA] using a6 d hd
  · rw [hs _ (by unfold LX PB; omega)]; simpa [upA] using a7 d hd
  · rw [hs _ (by unfold LX PB; omega)]; simpa [upA] using (a8 c hc).1
  · have hn : i' < A 0 2 := by simpa [upA] using hi'
    rw [hs _ (by unfold LX PB; omega)]
    have e : ∀ o j, o < 23 → (8 + c = o → False) → upA A o j v (8 + c) i' = A (8 + c) i' := fun o j _ h => by unfold upA; rw [if_neg (fun z => h z.1)]
    rw [e _ _ (by omega) (by omega)]
    exact (a8 c hc).2 i' hn
  · rw [hs _ (by unfold LX PB; omega)]; simpa [upA] using a9
  · rw [hs _ (by unfold LX PB; omega)]; simpa [upA] using a10 (by simpa [upA] using h0)
theorem RP_l2 {σ : Nat → Int32} {p i v : Nat} {A : SA} {x : Int32} (h : RP σ p A) (hm : A 0 2 ≤ 12) (hi : i < 12) (hx : x = vI 3 v) : RP (upd σ (LX p i 2) x) p (upA A 3 i v) := by
  obtain ⟨a1, a2, a3, a4, a5, a6, a7, a8, a9, a10⟩ := h
  have hs : ∀ k, k ≠ LX p i 2 → upd σ (LX p i 2) x k = σ k := fun k hk => if_neg hk
  refine ⟨fun j hj => ?_, fun i' hi' => ?_, fun d hd => ?_, fun d hd => ?_, fun d hd => ?_, fun d hd => ?_, fun d hd => ?_, fun c hc => ⟨?_, fun i' hi' => ?_⟩, ?_, fun h0 => ?_⟩
  · rw [hs _ (by unfold LX PB; omega)]; simpa [upA] using a1 j hj
  · have hn : i' < A 0 2 := by simpa [upA] using hi'
    obtain ⟨b0, b1, b2, b3, b4, b5⟩ := a2 i' hn
    by_cases e : i' = i
    · subst e
      refine ⟨?_, ?_, ?_, ?_, ?_, ?_⟩
      all_goals first | (rw [hs _ (by unfold LX PB; omega)]; simpa [upA] using b0) | (rw [hs _ (by unfold LX PB; omega)]; simpa [upA] using b1) | (rw [hs _ (by unfold LX PB; omega)]; simpa [upA] using b2) | (rw [hs _ (by unfold LX PB; omega)]; simpa [upA] using b3) | (rw [hs _ (by unfold LX PB; omega)]; simpa [upA] using b4) | (rw [hs _ (by unfold LX PB; omega)]; simpa [upA] using b5) | skip
      rw [show PB p + 3 + 6 * i' + 2 = LX p i' 2 by unfold LX PB; omega, upd_eq, hx]
      simp [upA, vI]
    · rw [hs _ (by unfold LX PB; omega), hs _ (by unfold LX PB; omega), hs _ (by unfold LX PB; omega), hs _ (by unfold LX PB; omega), hs _ (by unfold LX PB; omega), hs _ (by unfold LX PB; omega)]
      simpa [upA, e] using a2 i' hn
  · rw [hs _ (by unfold LX PB; omega)]; simpa [upA] using a3 d hd
  · rw [hs _ (by unfold LX PB; omega)]; simpa [upA] using a4 d hd
  · rw [hs _ (by unfold LX PB; omega)]; simpa [upA] using a5 d hd
  · rw [hs _ (by unfold LX PB; omega)]; simpa [upA] using a6 d hd
  · rw [hs _ (by unfold LX PB; omega)]; simpa [upA] using a7 d hd
  · rw [hs _ (by unfold LX PB; omega)]; simpa [upA] using (a8 c hc).1
  · have hn : i' < A 0 2 := by simpa [upA] using hi'
    rw [hs _ (by unfold LX PB; omega)]
    have e : ∀ o j, o < 23 → (8 + c = o → False) → upA A o j v (8 + c) i' = A (8 + c) i' := fun o j _ h => by unfold upA; rw [if_neg (fun z => h z.1)]
    rw [e _ _ (by omega) (by omega)]
    exact (a8 c hc).2 i' hn
  · rw [hs _ (by unfold LX PB; omega)]; simpa [upA] using a9
  · rw [hs _ (by unfold LX PB; omega)]; simpa [upA] using a10 (by simpa [upA] using h0)
theorem RP_l3 {σ : Nat → Int32} {p i v : Nat} {A : SA} {x : Int32} (h : RP σ p A) (hm : A 0 2 ≤ 12) (hi : i < 12) (hx : x = vI 4 v) : RP (upd σ (LX p i 3) x) p (upA A 4 i v) := by
  obtain ⟨a1, a2, a3, a4, a5, a6, a7, a8, a9, a10⟩ := h
  have hs : ∀ k, k ≠ LX p i 3 → upd σ (LX p i 3) x k = σ k := fun k hk => if_neg hk
  refine ⟨fun j hj => ?_, fun i' hi' => ?_, fun d hd => ?_, fun d hd => ?_, fun d hd => ?_, fun d hd => ?_, fun d hd => ?_, fun c hc => ⟨?_, fun i' hi' => ?_⟩, ?_, fun h0 => ?_⟩
  · rw [hs _ (by unfold LX PB; omega)]; simpa [upA] using a1 j hj
  · have hn : i' < A 0 2 := by simpa [upA] using hi'
    obtain ⟨b0, b1, b2, b3, b4, b5⟩ := a2 i' hn
    by_cases e : i' = i
    · subst e
      refine ⟨?_, ?_, ?_, ?_, ?_, ?_⟩
      all_goals first | (rw [hs _ (by unfold LX PB; omega)]; simpa [upA] using b0) | (rw [hs _ (by unfold LX PB; omega)]; simpa [upA] using b1) | (rw [hs _ (by unfold LX PB; omega)]; simpa [upA] using b2) | (rw [hs _ (by unfold LX PB; omega)]; simpa [upA] using b3) | (rw [hs _ (by unfold LX PB; omega)]; simpa [upA] using b4) | (rw [hs _ (by unfold LX PB; omega)]; simpa [upA] using b5) | skip
      rw [show PB p + 3 + 6 * i' + 3 = LX p i' 3 by unfold LX PB; omega, upd_eq, hx]
      simp [upA, vI]
    · rw [hs _ (by unfold LX PB; omega), hs _ (by unfold LX PB; omega), hs _ (by unfold LX PB; omega), hs _ (by unfold LX PB; omega), hs _ (by unfold LX PB; omega), hs _ (by unfold LX PB; omega)]
      simpa [upA, e] using a2 i' hn
  · rw [hs _ (by unfold LX PB; omega)]; simpa [upA] using a3 d hd
  · rw [hs _ (by unfold LX PB; omega)]; simpa [upA] using a4 d hd
  · rw [hs _ (by unfold LX PB; omega)]; simpa [upA] using a5 d hd
  · rw [hs _ (by unfold LX PB; omega)]; simpa [upA] using a6 d hd
  · rw [hs _ (by unfold LX PB; omega)]; simpa [upA] using a7 d hd
  · rw [hs _ (by unfold LX PB; omega)]; simpa [upA] using (a8 c hc).1
  · have hn : i' < A 0 2 := by simpa [upA] using hi'
    rw [hs _ (by unfold LX PB; omega)]
    have e : ∀ o j, o < 23 → (8 + c = o → False) → upA A o j v (8 + c) i' = A (8 + c) i' := fun o j _ h => by unfold upA; rw [if_neg (fun z => h z.1)]
    rw [e _ _ (by omega) (by omega)]
    exact (a8 c hc).2 i' hn
  · rw [hs _ (by unfold LX PB; omega)]; simpa [upA] using a9
  · rw [hs _ (by unfold LX PB; omega)]; simpa [upA] using a10 (by simpa [upA] using h0)
theorem RP_l4 {σ : Nat → Int32} {p i v : Nat} {A : SA} {x : Int32} (h : RP σ p A) (hm : A 0 2 ≤ 12) (hi : i < 12) (hx : x = vI 17 v) : RP (upd σ (LX p i 4) x) p (upA A 17 i v) := by
  obtain ⟨a1, a2, a3, a4, a5, a6, a7, a8, a9, a10⟩ := h
  have hs : ∀ k, k ≠ LX p i 4 → upd σ (LX p i 4) x k = σ k := fun k hk => if_neg hk
  refine ⟨fun j hj => ?_, fun i' hi' => ?_, fun d hd => ?_, fun d hd => ?_, fun d hd => ?_, fun d hd => ?_, fun d hd => ?_, fun c hc => ⟨?_, fun i' hi' => ?_⟩, ?_, fun h0 => ?_⟩
  · rw [hs _ (by unfold LX PB; omega)]; simpa [upA] using a1 j hj
  · have hn : i' < A 0 2 := by simpa [upA] using hi'
    obtain ⟨b0, b1, b2, b3, b4, b5⟩ := a2 i' hn
    by_cases e : i' = i
    · subst e
      refine ⟨?_, ?_, ?_, ?_, ?_, ?_⟩
      all_goals first | (rw [hs _ (by unfold LX PB; omega)]; simpa [upA] using b0) | (rw [hs _ (by unfold LX PB; omega)]; simpa [upA] using b1) | (rw [hs _ (by unfold LX PB; omega)]; simpa [upA] using b2) | (rw [hs _ (by unfold LX PB; omega)]; simpa [upA] using b3) | (rw [hs _ (by unfold LX PB; omega)]; simpa [upA] using b4) | (rw [hs _ (by unfold LX PB; omega)]; simpa [upA] using b5) | skip
      rw [show PB p + 3 + 6 * i' + 4 = LX p i' 4 by unfold LX PB; omega, upd_eq, hx]
      simp [upA, vI]
    · rw [hs _ (by unfold LX PB; omega), hs _ (by unfold LX PB; omega), hs _ (by unfold LX PB; omega), hs _ (by unfold LX PB; omega), hs _ (by unfold LX PB; omega), hs _ (by unfold LX PB; omega)]
      simpa [upA, e] using a2 i' hn
  · rw [hs _ (by unfold LX PB; omega)]; simpa [upA] using a3 d hd
  · rw [hs _ (by unfold LX PB; omega)]; simpa [upA] using a4 d hd
  · rw [hs _ (by unfold LX PB; omega)]; simpa [upA] using a5 d hd
  · rw [hs _ (by unfold LX PB; omega)]; simpa [upA] using a6 d hd
  · rw [hs _ (by unfold LX PB; omega)]; simpa [upA] using a7 d hd
  · rw [hs _ (by unfold LX PB; omega)]; simpa [upA] using (a8 c hc).1
  · have hn : i' < A 0 2 := by simpa [upA] using hi'
    rw [hs _ (by unfold LX PB; omega)]
    have e : ∀ o j, o < 23 → (8 + c = o → False) → upA A o j v (8 + c) i' = A (8 + c) i' := fun o j _ h => by unfold upA; rw [if_neg (fun z => h z.1)]
    rw [e _ _ (by omega) (by omega)]
    exact (a8 c hc).2 i' hn
  · rw [hs _ (by unfold LX PB; omega)]; simpa [upA] using a9
  · rw [hs _ (by unfold LX PB; omega)]; simpa [upA] using a10 (by simpa [upA] using h0)
theorem RP_l5 {σ : Nat → Int32} {p i v : Nat} {A : SA} {x : Int32} (h : RP σ p A) (hm : A 0 2 ≤ 12) (hi : i < 12) (hx : x = vI 18 v) : RP (upd σ (LX p i 5) x) p (upA A 18 i v) := by
  obtain ⟨a1, a2, a3, a4, a5, a6, a7, a8, a9, a10⟩ := h
  have hs : ∀ k, k ≠ LX p i 5 → upd σ (LX p i 5) x k = σ k := fun k hk => if_neg hk
  refine ⟨fun j hj => ?_, fun i' hi' => ?_, fun d hd => ?_, fun d hd => ?_, fun d hd => ?_, fun d hd => ?_, fun d hd => ?_, fun c hc => ⟨?_, fun i' hi' => ?_⟩, ?_, fun h0 => ?_⟩
  · rw [hs _ (by unfold LX PB; omega)]; simpa [upA] using a1 j hj
  · have hn : i' < A 0 2 := by simpa [upA] using hi'
    obtain ⟨b0, b1, b2, b3, b4, b5⟩ := a2 i' hn
    by_cases e : i' = i
    · subst e
      refine ⟨?_, ?_, ?_, ?_, ?_, ?_⟩
      all_goals first | (rw [hs _ (by unfold LX PB; omega)]; simpa [upA] using b0) | (rw [hs _ (by unfold LX PB; omega)]; simpa [upA] using b1) | (rw [hs _ (by unfold LX PB; omega)]; simpa [upA] using b2) | (rw [hs _ (by unfold LX PB; omega)]; simpa [upA] using b3) | (rw [hs _ (by unfold LX PB; omega)]; simpa [upA] using b4) | (rw [hs _ (by unfold LX PB; omega)]; simpa [upA] using b5) | skip
      rw [show PB p + 3 + 6 * i' + 5 = LX p i' 5 by unfold LX PB; omega, upd_eq, hx]
      simp [upA, vI]
    · rw [hs _ (by unfold LX PB; omega), hs _ (by unfold LX PB; omega), hs _ (by unfold LX PB; omega), hs _ (by unfold LX PB; omega), hs _ (by unfold LX PB; omega), hs _ (by unfold LX PB; omega)]
      simpa [upA, e] using a2 i' hn
  · rw [hs _ (by unfold LX PB; omega)]; simpa [upA] using a3 d hd
  · rw [hs _ (by unfold LX PB; omega)]; simpa [upA] using a4 d hd
  · rw [hs _ (by unfold LX PB; omega)]; simpa [upA] using a5 d hd
  · rw [hs _ (by unfold LX PB; omega)]; simpa [upA] using a6 d hd
  · rw [hs _ (by unfold LX PB; omega)]; simpa [upA] using a7 d hd
  · rw [hs _ (by unfold LX PB; omega)]; simpa [upA] using (a8 c hc).1
  · have hn : i' < A 0 2 := by simpa [upA] using hi'
    rw [hs _ (by unfold LX PB; omega)]
    have e : ∀ o j, o < 23 → (8 + c = o → False) → upA A o j v (8 + c) i' = A (8 + c) i' := fun o j _ h => by unfold upA; rw [if_neg (fun z => h z.1)]
    rw [e _ _ (by omega) (by omega)]
    exact (a8 c hc).2 i' hn
  · rw [hs _ (by unfold LX PB; omega)]; simpa [upA] using a9
  · rw [hs _ (by unfold LX PB; omega)]; simpa [upA] using a10 (by simpa [upA] using h0)
theorem RP_ph {σ : Nat → Int32} {p d0 v : Nat} {A : SA} {x : Int32} (h : RP σ p A) (hm : A 0 2 ≤ 12) (h12 : d0 < 12) (hx : x = nI v) : RP (upd σ (AX p (75 + d0)) x) p (upA A 5 d0 v) := by
  obtain ⟨a1, a2, a3, a4, a5, a6, a7, a8, a9, a10⟩ := h
  have hs : ∀ k, k ≠ AX p (75 + d0) → upd σ (AX p (75 + d0)) x k = σ k := fun k hk => if_neg hk
  refine ⟨fun j hj => ?_, fun i' hi' => ?_, fun d hd => ?_, fun d hd => ?_, fun d hd => ?_, fun d hd => ?_, fun d hd => ?_, fun c hc => ⟨?_, fun i' hi' => ?_⟩, ?_, fun h0 => ?_⟩
  · rw [hs _ (by unfold AX PB; omega)]; simpa [upA] using a1 j hj
  · have hn : i' < A 0 2 := by simpa [upA] using hi'
    rw [hs _ (by unfold AX PB; omega), hs _ (by unfold AX PB; omega), hs _ (by unfold AX PB; omega), hs _ (by unfold AX PB; omega), hs _ (by unfold AX PB; omega), hs _ (by unfold AX PB; omega)]
    simpa [upA] using a2 i' hn
  · by_cases e : d = d0
    · subst e
      rw [show PB p + 75 + d = AX p (75 + d) by unfold AX PB; omega, upd_eq, hx]
      simp [upA]
    · rw [hs _ (by unfold AX PB; omega)]; simpa [upA, e] using a3 d hd
  · rw [hs _ (by unfold AX PB; omega)]; simpa [upA] using a4 d hd
  · rw [hs _ (by unfold AX PB; omega)]; simpa [upA] using a5 d hd
  · rw [hs _ (by unfold AX PB; omega)]; simpa [upA] using a6 d hd
  · rw [hs _ (by unfold AX PB; omega)]; simpa [upA] using a7 d hd
  · rw [hs _ (by unfold AX PB; omega)]; simpa [upA] using (a8 c hc).1
  · have hn : i' < A 0 2 := by simpa [upA] using hi'
    rw [hs _ (by unfold AX PB; omega)]
    have e : ∀ o j, o < 23 → (8 + c = o → False) → upA A o j v (8 + c) i' = A (8 + c) i' := fun o j _ h => by unfold upA; rw [if_neg (fun z => h z.1)]
    rw [e _ _ (by omega) (by omega)]
    exact (a8 c hc).2 i' hn
  · rw [hs _ (by unfold AX PB; omega)]; simpa [upA] using a9
  · rw [hs _ (by unfold AX PB; omega)]; simpa [upA] using a10 (by simpa [upA] using h0)
theorem RP_fl {σ : Nat → Int32} {p d0 v : Nat} {A : SA} {x : Int32} (h : RP σ p A) (hm : A 0 2 ≤ 12) (h2 : d0 < 2) (hx : x = nI v) : RP (upd σ (AX p d0) x) p (upA A 0 d0 v) := by
  obtain ⟨a1, a2, a3, a4, a5, a6, a7, a8, a9, a10⟩ := h
  have hs : ∀ k, k ≠ AX p d0 → upd σ (AX p d0) x k = σ k := fun k hk => if_neg hk
  refine ⟨fun j hj => ?_, fun i' hi' => ?_, fun d hd => ?_, fun d hd => ?_, fun d hd => ?_, fun d hd => ?_, fun d hd => ?_, fun c hc => ⟨?_, fun i' hi' => ?_⟩, ?_, fun h0 => ?_⟩
  · by_cases e : j = d0
    · subst e
      rw [show PB p + j = AX p j by unfold AX PB; omega, upd_eq, hx]
      simp [upA]
    · rw [hs _ (by unfold AX PB; omega)]; simpa [upA, e] using a1 j hj
  · have hn : i' < A 0 2 := by simpa [upA, show ¬ 2 = d0 by omega] using hi'
    rw [hs _ (by unfold AX PB; omega), hs _ (by unfold AX PB; omega), hs _ (by unfold AX PB; omega), hs _ (by unfold AX PB; omega), hs _ (by unfold AX PB; omega), hs _ (by unfold AX PB; omega)]
    simpa [upA] using a2 i' hn
  · rw [hs _ (by unfold AX PB; omega)]; simpa [upA] using a3 d hd
  · rw [hs _ (by unfold AX PB; omega)]; simpa [upA] using a4 d hd
  · rw [hs _ (by unfold AX PB; omega)]; simpa [upA] using a5 d hd
  · rw [hs _ (by unfold AX PB; omega)]; simpa [upA] using a6 d hd
  · rw [hs _ (by unfold AX PB; omega)]; simpa [upA] using a7 d hd
  · rw [hs _ (by unfold AX PB; omega)]; simpa [upA] using (a8 c hc).1
  · have hn : i' < A 0 2 := by simpa [upA, show ¬ 2 = d0 by omega] using hi'
    rw [hs _ (by unfold AX PB; omega)]
    have e : upA A 0 d0 v (8 + c) i' = A (8 + c) i' := by unfold upA; rw [if_neg (by omega)]
    rw [e]
    exact (a8 c hc).2 i' hn
  · rw [hs _ (by unfold AX PB; omega)]; simpa [upA] using a9
  · rw [hs _ (by unfold AX PB; omega)]; simpa [upA] using a10 (by simpa [upA] using h0)
/-- the class's cells of the live state, and of the rest -/
def KX (x : Nat) : Prop := KM x ∨ (34 ≤ x ∧ x < 41) ∨ (97 ≤ x ∧ x < 166)
theorem RP_congr {σ σ' : Nat → Int32} {p : Nat} {A : SA} (h : RP σ p A) (hn : A 0 2 ≤ 12) (he : ∀ k, PB p ≤ k → k < PB p + 223 → σ' k = σ k) : RP σ' p A := by
  obtain ⟨a1, a2, a3, a4, a5, a6, a7, a8, a9, a10⟩ := h
  refine ⟨fun j hj => by rw [he _ (by omega) (by omega)]; exact a1 j hj, fun i hi => ?_, fun d hd => by rw [he _ (by omega) (by omega)]; exact a3 d hd, fun d hd => by rw [he _ (by omega) (by omega)]; exact a4 d hd, fun d hd => by rw [he _ (by omega) (by omega)]; exact a5 d hd, fun d hd => by rw [he _ (by omega) (by omega)]; exact a6 d hd, fun d hd => by rw [he _ (by omega) (by omega)]; exact a7 d hd, fun c hc => ⟨by rw [he _ (by omega) (by omega)]; exact (a8 c hc).1, fun i hi => by rw [he _ (by omega) (by omega)]; exact (a8 c hc).2 i hi⟩, by rw [he _ (by omega) (by omega)]; exact a9, fun z => by rw [he _ (by omega) (by omega)]; exact a10 z⟩
  rw [he _ (by omega) (by omega), he _ (by omega) (by omega), he _ (by omega) (by omega), he _ (by omega) (by omega), he _ (by omega) (by omega), he _ (by omega) (by omega)]
  exact a2 i hi
/-- a premiere of the live state anew, all else as it was -/
theorem fin_p {M N M' N' : Mem} {T : SA} {A : PA} {n p : Nat} {B : SA} (hL : Live M N T A) (hR : Rst M N n) (hp : p < 3) (hM : ∀ x, (∀ o, o < 23 → x ≠ pq p o) → KX x → M' x = M x) (hC : CRel M' p B) (hN : ∀ k, ¬ (PB p ≤ k ∧ k < PB p + 223) → N' 1 k = N 1 k) (hK : KeepN N N') (hRP : RP (N' 1) p B) (hW : WA (T 2 0) B) : Live M' N' T (upP A p B) ∧ Rst M' N' n := by
  obtain ⟨⟨h1, h2⟩, ⟨h3, h4⟩, h5, h6⟩ := hL
  have e0 : ∀ p', 3 * 0 + p' = p' := fun p' => by omega
  refine ⟨⟨⟨CT_congr h1 (fun o ho => hM _ (fun o' ho' => by unfold st pq; omega) (Or.inr (Or.inl (by unfold st; omega)))), fun p' hp' => ?_⟩, ⟨?_, fun p' hp' => ?_⟩, h5, fun p' hp' => ?_⟩, Rst_keep hR (fun x hx => hM x (fun o ho z => (KM_pq ho (Or.inl hp)) (z ▸ hx)) (Or.inl hx)) hK⟩
  · rw [e0]
    by_cases hpp : p' = p
    · subst hpp
      rw [upP_same]
      exact hC
    · rw [upP_ne hpp]
      have := h2 p' hp'
      rw [e0] at this
      exact CRel_congr this (fun o ho => hM _ (fun o' ho' z => by rw [pq_eq ho ho'] at z; exact hpp z.1) (Or.inr (Or.inr (by unfold pq; omega))))
  · exact ⟨fun j hj => by rw [hN _ (by unfold PB; omega)]; exact h3.1 j hj, by rw [hN _ (by unfold PB; omega)]; exact h3.2.1, fun t ht => by rw [hN _ (by unfold PB; omega), hN _ (by unfold PB; omega), hN _ (by unfold PB; omega)]; exact h3.2.2 t ht⟩
  · by_cases hpp : p' = p
    · subst hpp
      rw [upP_same]
      exact hRP
    · rw [upP_ne hpp]
      exact RP_congr (h4 p' hp') (h6 p' hp').1.2.2 (fun k hk1 hk2 => hN k (by unfold PB at hk1 hk2 ⊢; omega))
  · by_cases hpp : p' = p
    · subst hpp
      rw [upP_same]
      exact hW
    · rw [upP_ne hpp]
      exact h6 p' hp'
def OK (x y : Option (Int32 × Mem)) : Prop := ∃ r M' N', x = some (r, M') ∧ y = some (r, N') ∧ Rel M' N'
theorem OK_in {x y : Option (Int32 × Mem)} {r : Int32} {M N : Mem} {T : SA} {A : PA} {n : Nat} (h1 : x = some (r, M)) (h2 : y = some (r, N)) (h : Live M N T A ∧ Rst M N n) : OK x y := ⟨r, M, N, h1, h2, ⟨T, A, h.1⟩, n, h.2⟩
theorem OK_er {x y : Option (Int32 × Mem)} {r : Int32} {M N : Mem} (h : Rel M N) (h1 : x = some (r, M)) (h2 : y = some (r, N)) : OK x y := ⟨r, M, N, h1, h2, h⟩
theorem KeepN_1 {N : Mem} {k : Nat} {v : Int32} : KeepN N (up2 N 1 k v) := ⟨by rw [up2_ne (by omega)], by rw [up2_ne (by omega)], up2_ne (by omega), up2_ne (by omega), up2_ne (by omega), up2_ne (by omega)⟩
theorem N1_ne {N : Mem} {k q : Nat} {v : Int32} (h : q ≠ k) : up2 N 1 k v 1 q = N 1 q := by rw [up2_same, if_neg h]
theorem cr_live {M N : Mem} {T : SA} {A : PA} {p : Nat} (h : Live M N T A) (hp : p < 3) : CRel M p (A p) := by
  have := h.1.2 p hp
  rw [show 3 * 0 + p = p by omega] at this
  exact this
theorem ct_live {M N : Mem} {T : SA} {A : PA} (h : Live M N T A) : CT M 0 T := h.1.1
theorem rp_live {M N : Mem} {T : SA} {A : PA} {p : Nat} (h : Live M N T A) (hp : p < 3) : RP (N 1) p (A p) := h.2.1.2 p hp
theorem wa_live {M N : Mem} {T : SA} {A : PA} {p : Nat} (h : Live M N T A) (hp : p < 3) : WA (T 2 0) (A p) := h.2.2.2 p hp
theorem caseO_none {γ : Type} (a : Option γ) (f : Nat → Option γ) : caseO none a f = a := rfl
theorem caseO_some {γ : Type} (x : Nat) (a : Option γ) (f : Nat → Option γ) : caseO (some x) a f = f x := rfl
theorem WA_l {told i v o : Nat} {A : SA} (h : WA told A) (hi : i < A 0 2) (ho : (o = 2 ∧ v ≤ 12) ∨ (o = 3 ∧ v ≤ 100)) : WA told (upA A o i v) := by
  obtain ⟨h1, h2, h3, h4, h5, h6, h7, h8, h9, h10, h11, h12, h13, h14⟩ := h
  rcases ho with ⟨rfl, hv⟩ | ⟨rfl, hv⟩
  · refine ⟨by simpa [upA] using h1, by simpa [upA] using h2, fun j hj => ?_, by simpa [upA] using h4, fun j hj1 hj2 => ?_, by simpa [upA] using h6, fun c hc => ⟨by simpa [upA] using (h7 c hc).1, fun j hj => ?_⟩, by simpa [upA] using h8, by simpa [upA] using h9, by simpa [upA] using h10, by simpa [upA] using h11, by simpa [upA] using h12, by simpa [upA] using h13, by simpa [upA] using h14⟩
    · unfold upA
      split
      · exact hv
      · exact h3 j hj
    · have := h5 j (by simpa [upA] using hj1) hj2
      refine ⟨by simpa [upA] using this.1, by simpa [upA] using this.2.1, by simpa [upA] using this.2.2.1, by simpa [upA] using this.2.2.2.1, fun c hc => ?_⟩
      unfold upA
      rw [if_neg (by omega)]
      exact this.2.2.2.2 c hc
    · unfold upA
      rw [if_neg (by omega)]
      exact (h7 c hc).2 j hj
  · refine ⟨by simpa [upA] using h1, by simpa [upA] using h2, by simpa [upA] using h3, fun j hj => ⟨?_, by simpa [upA] using (h4 j hj).2⟩, fun j hj1 hj2 => ?_, by simpa [upA] using h6, fun c hc => ⟨by simpa [upA] using (h7 c hc).1, fun j hj => ?_⟩, by simpa [upA] using h8, by simpa [upA] using h9, by simpa [upA] using h10, by simpa [upA] using h11, by simpa [upA] using h12, by simpa [upA] using h13, by simpa [upA] using h14⟩
    · unfold upA
      split
      · exact hv
      · exact (h4 j hj).1
    · have hj1' : A 0 2 ≤ j := by simpa [upA] using hj1
      have := h5 j hj1' hj2
      refine ⟨?_, by simpa [upA] using this.2.1, by simpa [upA] using this.2.2.1, by simpa [upA] using this.2.2.2.1, fun c hc => ?_⟩
      · unfold upA
        rw [if_neg (by omega)]
        exact this.1
      · unfold upA
        rw [if_neg (by omega)]
        exact this.2.2.2.2 c hc
    · unfold upA
      rw [if_neg (by omega)]
      exact (h7 c hc).2 j hj
theorem op_at {M N : Mem} (h : Rel M N) (a1 a2 a3 : Int32) : OK (fX11_at M a1 a2 a3) (fX12_at N a1 a2 a3) := by
  obtain ⟨⟨T, A, hL⟩, n, hR⟩ := id h
  rcases i32_cases a1 2 (by omega) with ⟨p, hp, rfl⟩ | h1
  · have hC := cr_live hL (p := p) (by omega)
    have hW := wa_live hL (p := p) (by omega)
    have hP := rp_live hL (p := p) (by omega)
    have h12 : A p 0 2 ≤ 12 := hW.1.2.2
    rcases lamp_cases a2 hW.1.2.2 with ⟨i, hi, rfl⟩ | h2
    · rcases i32_cases a3 100 (by omega) with ⟨v, hv, rfl⟩ | h3
      · obtain ⟨M1, e1, e2, hL1, hR1⟩ := push_know hL hR
        have hC1 := cr_live hL1 (p := p) (by omega)
        have hP1 := rp_live hL1 (p := p) (by omega)
        refine OK_in (r := nI (A p 3 i)) (M := up2 M1 (pq p 3) i (nI v)) (N := up2 (knN N n) 1 (LX p i 2) (nI v)) ?_ ?_ (fin_p hL1 hR1 (p := p) (B := upA (A p) 3 i v) (by omega) (fun x hx _ => up2_ne (hx 3 (by omega))) (CRel_up hC1 (by omega) (vI_n (by omega)).symm) (fun k hk => N1_ne (by unfold LX; unfold PB at hk; omega)) KeepN_1 (by rw [up2_row]; exact RP_l2 hP1 hW.1.2.2 (by omega) (vI_n (by omega)).symm) (WA_l hW hi (Or.inr ⟨rfl, hv⟩)))
        · unfold fX11_at
          rw [find_ok (by omega), ob_some, caseO_some, hasLamp_ok (by omega) (cr0 hC (by omega)) hW.1.2.2, ob_some, b01, if_pos (lamp_y hi hW.1.2.2), isIn_ok, ob_some, b01, li100, if_pos (isIn_y hv (by omega)), e1, ob_some]
          refine ob_in (gR_ok (x := pq p 3) (by rw [shp_pq (by omega) (by omega)]; rfl) (rf_pq0 (by omega))) ?_
          refine ob_in (aL_ok (n := 12) (by rw [shp_pq (by omega) (by omega)]; rfl) (by rw [ln_pq (by omega) (by omega)]; rfl) (by omega) (by omega)) ?_
          refine ob_in (gR_ok (x := pq p 3) (by rw [shp_pq (by omega) (by omega)]; rfl) (rf_pq0 (by omega))) ?_
          refine ob_in (aS_ok (n := 12) (by rw [shp_pq (by omega) (by omega)]; rfl) (by rw [ln_pq (by omega) (by omega)]; rfl) (by omega) (by omega)) ?_
          rw [cr3 hC1 (by omega)]
        · unfold fX12_at fX12_atFault
          rw [isLamp_ok (by omega) hP hW.1.2.2, ob_some, b01, if_pos (lamp_y hi hW.1.2.2), in_ok, ob_some, b01, li100, if_pos (isIn_y hv (by omega)), ob_some, if_pos (by decide), e2, ob_some, li2, ofLamp_ok, ob_some, s30 (LX_lt (by omega) (by omega) (by omega)), ob_some, ob_some, w30 (LX_lt (by omega) (by omega) (by omega)), ob_some, rl2 hP1 hi]
      · refine OK_er (r := -2) h ?_ ?_
        · unfold fX11_at
          rw [find_ok (by omega), ob_some, caseO_some, hasLamp_ok (by omega) (cr0 hC (by omega)) hW.1.2.2, ob_some, b01, if_pos (lamp_y hi hW.1.2.2), isIn_ok, ob_some, b01]
          exact if_neg h3
        · unfold fX12_at fX12_atFault
          rw [isLamp_ok (by omega) hP hW.1.2.2, ob_some, b01, if_pos (lamp_y hi hW.1.2.2), in_ok, ob_some, b01, if_neg (c := (0 : Int32) ≤ a3 ∧ a3 ≤ 100) h3, ob_some, if_neg (by decide)]
    · refine OK_er (r := -1) h ?_ ?_
      · unfold fX11_at
        rw [find_ok (by omega), ob_some, caseO_some, hasLamp_ok (by omega) (cr0 hC (by omega)) hW.1.2.2, ob_some, b01, if_neg h2]
      · unfold fX12_at fX12_atFault
        rw [isLamp_ok (by omega) hP hW.1.2.2, ob_some, b01, if_neg h2, ob_some, if_neg (by decide)]
  · refine OK_er (r := -1) h ?_ ?_
    · unfold fX11_at
      rw [find_bad h1, ob_some, caseO_none]
    · unfold fX12_at fX12_atFault
      rw [isLamp_bad h1, ob_some, if_pos rfl, ob_some, if_neg (by decide)]
