/-! what a state is: numbers T of its own cells, A p of its premieres' cells; how the class's blocks and the reference's row hold it -/
abbrev SA : Type := Nat → Nat → Nat
abbrev PA : Type := Nat → Nat → Nat → Nat
/-- an entry of a premiere's cell o as an int: no dimmer is 12 -/
def vI (o x : Nat) : Int32 := if o = 2 ∧ x = 12 then -6 else nI x
def CRel (M : Mem) (q : Nat) (A : SA) : Prop := ∀ o j, o < 23 → valP o j = true → M (pq q o) j = vI o (A o j)
def CT (M : Mem) (b : Nat) (T : SA) : Prop := ∀ o j, o < 7 → valT o j = true → M (st b o) j = nI (T o j)
def CS (M : Mem) (b : Nat) (T : SA) (A : PA) : Prop := CT M b T ∧ ∀ p, p < 3 → CRel M (3 * b + p) (A p)
def PB (p : Nat) : Nat := 22 + 223 * p
/-- the reference's row holds a premiere -/
def RP (σ : Nat → Int32) (p : Nat) (A : SA) : Prop :=
  (∀ j, j < 3 → σ (PB p + j) = nI (A 0 j)) ∧
  (∀ i, i < A 0 2 → σ (PB p + 3 + 6 * i) = nI (A 1 i) ∧ σ (PB p + 3 + 6 * i + 1) = vI 2 (A 2 i) ∧ σ (PB p + 3 + 6 * i + 2) = nI (A 3 i) ∧ σ (PB p + 3 + 6 * i + 3) = nI (A 4 i) ∧ σ (PB p + 3 + 6 * i + 4) = nI (A 17 i) ∧ σ (PB p + 3 + 6 * i + 5) = nI (A 18 i)) ∧
  (∀ d, d < 12 → σ (PB p + 75 + d) = nI (A 5 d)) ∧
  (∀ d, d < 12 → σ (PB p + 87 + d) = nI (A 19 1 / 2 ^ d % 2)) ∧
  (∀ k, k < 3 → σ (PB p + 99 + k) = nI (A 21 1 / 2 ^ k % 2)) ∧
  (∀ d, d < 12 → σ (PB p + 102 + d) = nI (A 20 d)) ∧
  (∀ k, k < 3 → σ (PB p + 114 + k) = nI (A 22 k)) ∧
  (∀ c, c < 8 → σ (PB p + 117 + 13 * c) = nI (A 6 c) ∧ ∀ i, i < A 0 2 → σ (PB p + 117 + 13 * c + 1 + i) = nI (A (8 + c) i)) ∧
  σ (PB p + 221) = nI (A 16 0) ∧ (A 16 0 ≠ 0 → σ (PB p + 222) = nI (A 16 1))
def RT (σ : Nat → Int32) (T : SA) : Prop := (∀ j, j < 3 → σ j = nI (T 1 j)) ∧ σ 3 = nI (T 2 0) ∧ ∀ t, t < 6 → σ (4 + 3 * t) = nI (T 3 t) ∧ σ (5 + 3 * t) = nI (T 4 t) ∧ σ (6 + 3 * t) = nI (T 5 t)
def RS (σ : Nat → Int32) (T : SA) (A : PA) : Prop := RT σ T ∧ ∀ p, p < 3 → RP σ p (A p)
/-- what holds of every state that can be -/
def WT (T : SA) : Prop := (500 ≤ T 1 0 ∧ T 1 0 ≤ 6000) ∧ (1000 ≤ T 1 1 ∧ T 1 1 ≤ 20000) ∧ (1 ≤ T 1 2 ∧ T 1 2 ≤ 20) ∧ T 2 0 ≤ 6 ∧ ∀ t, t < 6 → T 3 t ≤ 2000 ∧ T 4 t ≤ 20 ∧ T 5 t ≤ 50
def WG (K told : Nat) (A : SA) : Prop :=
  (A 0 0 ≤ 6 ∧ A 0 1 ≤ 6 ∧ A 0 2 ≤ 12) ∧
  (∀ i, i < A 0 2 → A 1 i < told) ∧ (∀ i, i < 12 → A 2 i ≤ 12) ∧ (∀ i, i < 12 → A 3 i ≤ 100 ∧ A 4 i ≤ 100 ∧ A 17 i ≤ 100 ∧ A 18 i ≤ 100) ∧
  (∀ i, A 0 2 ≤ i → i < 12 → A 3 i = 0 ∧ A 4 i = 0 ∧ A 17 i = 0 ∧ A 18 i = 0 ∧ ∀ c, c < 8 → A (8 + c) i = 0) ∧
  (∀ d, d < 12 → A 5 d < 3) ∧ (∀ c, c < 8 → A 6 c ≤ 50 ∧ ∀ i, i < 12 → A (8 + c) i ≤ 100) ∧
  A 19 1 < 4096 ∧ A 21 1 < 8 ∧ (∀ d, d < 12 → A 20 d < K) ∧ (∀ k, k < 3 → A 22 k < K) ∧
  A 16 0 ≤ 50 ∧ (A 16 0 = 0 → A 16 1 = 0) ∧ (A 16 0 ≠ 0 → A 16 1 < A 16 0)
abbrev WA (told : Nat) (A : SA) : Prop := WG 20 told A
def WS1 (T : SA) (A : PA) : Prop := WT T ∧ ∀ p, p < 3 → WA (T 2 0) (A p)
def upA (A : SA) (o j v : Nat) : SA := fun o' j' => if o' = o ∧ j' = j then v else A o' j'
def upP (A : PA) (p : Nat) (B : SA) : PA := fun p' => if p' = p then B else A p'
theorem upP_same (A : PA) (p : Nat) (B : SA) : upP A p B p = B := if_pos rfl
theorem upP_ne {A : PA} {p p' : Nat} {B : SA} (h : p' ≠ p) : upP A p B p' = A p' := if_neg h
theorem vI_n {o x : Nat} (h : o ≠ 2) : vI o x = nI x := by
  unfold vI
  rw [if_neg (fun z => h z.1)]
theorem vI_2 {x : Nat} (h : x < 12) : vI 2 x = nI x := by
  unfold vI
  rw [if_neg (by omega)]
theorem vI_none : vI 2 12 = -6 := if_pos ⟨rfl, rfl⟩
section CR
variable {M : Mem} {q j c : Nat} {A : SA}
theorem cr0 (h : CRel M q A) (hj : j < 3) : M (pq q 0) j = nI (A 0 j) := by rw [h 0 j (by omega) (decide_eq_true hj), vI_n (by omega)]
theorem cr1 (h : CRel M q A) (hj : j < 12) : M (pq q 1) j = nI (A 1 j) := by rw [h 1 j (by omega) (decide_eq_true hj), vI_n (by omega)]
theorem cr2 (h : CRel M q A) (hj : j < 12) : M (pq q 2) j = vI 2 (A 2 j) := by rw [h 2 j (by omega) (decide_eq_true hj)]
theorem cr3 (h : CRel M q A) (hj : j < 12) : M (pq q 3) j = nI (A 3 j) := by rw [h 3 j (by omega) (decide_eq_true hj), vI_n (by omega)]
theorem cr4 (h : CRel M q A) (hj : j < 12) : M (pq q 4) j = nI (A 4 j) := by rw [h 4 j (by omega) (decide_eq_true hj), vI_n (by omega)]
theorem cr5 (h : CRel M q A) (hj : j < 12) : M (pq q 5) j = nI (A 5 j) := by rw [h 5 j (by omega) (decide_eq_true hj), vI_n (by omega)]
theorem cr6 (h : CRel M q A) (hj : j < 8) : M (pq q 6) j = nI (A 6 j) := by rw [h 6 j (by omega) (decide_eq_true hj), vI_n (by omega)]
theorem valP_c {c j : Nat} (hc : c < 8) : valP (8 + c) j = decide (j < 12) := by
  rcases (show c = 0 ∨ c = 1 ∨ c = 2 ∨ c = 3 ∨ c = 4 ∨ c = 5 ∨ c = 6 ∨ c = 7 by omega) with rfl | rfl | rfl | rfl | rfl | rfl | rfl | rfl <;> rfl
theorem cr8 (h : CRel M q A) (hc : c < 8) (hj : j < 12) : M (pq q (8 + c)) j = nI (A (8 + c) j) := by rw [h (8 + c) j (by omega) (by rw [valP_c hc]; exact decide_eq_true hj), vI_n (by omega)]
theorem cr16 (h : CRel M q A) (hj : j < 2) : M (pq q 16) j = nI (A 16 j) := by rw [h 16 j (by omega) (decide_eq_true hj), vI_n (by omega)]
theorem cr17 (h : CRel M q A) (hj : j < 12) : M (pq q 17) j = nI (A 17 j) := by rw [h 17 j (by omega) (decide_eq_true hj), vI_n (by omega)]
theorem cr18 (h : CRel M q A) (hj : j < 12) : M (pq q 18) j = nI (A 18 j) := by rw [h 18 j (by omega) (decide_eq_true hj), vI_n (by omega)]
theorem cr19 (h : CRel M q A) : M (pq q 19) 1 = nI (A 19 1) := by rw [h 19 1 (by omega) rfl, vI_n (by omega)]
theorem cr20 (h : CRel M q A) (hj : j < 12) : M (pq q 20) j = nI (A 20 j) := by rw [h 20 j (by omega) (decide_eq_true hj), vI_n (by omega)]
theorem cr21 (h : CRel M q A) : M (pq q 21) 1 = nI (A 21 1) := by rw [h 21 1 (by omega) rfl, vI_n (by omega)]
theorem cr22 (h : CRel M q A) (hj : j < 3) : M (pq q 22) j = nI (A 22 j) := by rw [h 22 j (by omega) (decide_eq_true hj), vI_n (by omega)]
theorem ct1 {b : Nat} {T : SA} (h : CT M b T) (hj : j < 3) : M (st b 1) j = nI (T 1 j) := h 1 j (by omega) (decide_eq_true hj)
theorem ct2 {b : Nat} {T : SA} (h : CT M b T) : M (st b 2) 0 = nI (T 2 0) := h 2 0 (by omega) rfl
theorem ct3 {b : Nat} {T : SA} (h : CT M b T) (hj : j < 6) : M (st b 3) j = nI (T 3 j) := h 3 j (by omega) (decide_eq_true hj)
theorem ct4 {b : Nat} {T : SA} (h : CT M b T) (hj : j < 6) : M (st b 4) j = nI (T 4 j) := h 4 j (by omega) (decide_eq_true hj)
theorem ct5 {b : Nat} {T : SA} (h : CT M b T) (hj : j < 6) : M (st b 5) j = nI (T 5 j) := h 5 j (by omega) (decide_eq_true hj)
end CR
theorem CRel_congr {M M' : Mem} {q : Nat} {A : SA} (h : CRel M q A) (he : ∀ o, o < 23 → M' (pq q o) = M (pq q o)) : CRel M' q A := fun o j ho hv => by rw [he o ho, h o j ho hv]
theorem CT_congr {M M' : Mem} {b : Nat} {T : SA} (h : CT M b T) (he : ∀ o, o < 7 → M' (st b o) = M (st b o)) : CT M' b T := fun o j ho hv => by rw [he o ho, h o j ho hv]
theorem CRel_up {M : Mem} {q o j v : Nat} {A : SA} {x : Int32} (h : CRel M q A) (ho : o < 23) (hx : x = vI o v) : CRel (up2 M (pq q o) j x) q (upA A o j v) := by
  intro o' j' ho' hv
  unfold upA
  by_cases h1 : o' = o
  · subst h1
    rw [up2_same]
    by_cases h2 : j' = j
    · rw [if_pos h2, if_pos ⟨rfl, h2⟩, hx]
    · rw [if_neg h2, if_neg (fun z => h2 z.2), h o' j' ho' hv]
  · rw [up2_ne (fun z => by rw [pq_eq ho' ho] at z; exact h1 z.2), if_neg (fun z => h1 z.1), h o' j' ho' hv]
theorem CRel_upNe {M : Mem} {q i j : Nat} {A : SA} {x : Int32} (h : CRel M q A) (hi : ∀ o, o < 23 → pq q o ≠ i) : CRel (up2 M i j x) q A := CRel_congr h (fun o ho => up2_ne (hi o ho))
theorem CT_up {M : Mem} {b o j v : Nat} {T : SA} (h : CT M b T) (ho : o < 7) : CT (up2 M (st b o) j (nI v)) b (upA T o j v) := by
  intro o' j' ho' hv
  unfold upA
  by_cases h1 : o' = o
  · subst h1
    rw [up2_same]
    by_cases h2 : j' = j
    · rw [if_pos h2, if_pos ⟨rfl, h2⟩]
    · rw [if_neg h2, if_neg (fun z => h2 z.2), h o' j' ho' hv]
  · rw [up2_ne (fun z => by rw [st_eq ho' ho] at z; exact h1 z.2), if_neg (fun z => h1 z.1), h o' j' ho' hv]
/-- a row of a premiere anew -/
def upR (A : SA) (o k m : Nat) (f : Nat → Nat) : SA := fun o' j' => if o' = o ∧ k ≤ j' ∧ j' < m then f j' else A o' j'
theorem CRel_setR {M : Mem} {q o k m : Nat} {A : SA} {f : Nat → Int32} {g : Nat → Nat} (h : CRel M q A) (ho : o < 23) (hf : ∀ j, k ≤ j → j < m → valP o j = true → f j = vI o (g j)) : CRel (setR M (pq q o) k m f) q (upR A o k m g) := by
  intro o' j' ho' hv
  unfold upR
  by_cases h1 : o' = o
  · subst h1
    rw [setR_same]
    by_cases h2 : k ≤ j' ∧ j' < m
    · rw [if_pos h2, if_pos ⟨rfl, h2⟩, hf j' h2.1 h2.2 hv]
    · rw [if_neg h2, if_neg (fun z => h2 z.2), h o' j' ho' hv]
  · rw [setR_other (fun z => by rw [pq_eq ho' ho] at z; exact h1 z.2), if_neg (fun z => h1 z.1), h o' j' ho' hv]
theorem CRel_setRNe {M : Mem} {q i k m : Nat} {A : SA} {f : Nat → Int32} (h : CRel M q A) (hi : ∀ o, o < 23 → pq q o ≠ i) : CRel (setR M i k m f) q A := CRel_congr h (fun o ho => setR_other (hi o ho))
theorem CRel_cp {M : Mem} {q q' : Nat} {A : SA} (h : CRel M q' A) : CRel (cpP M q q') q A := fun o j ho hv => by rw [cpP_at ho, if_pos hv, h o j ho hv]
theorem CS_cp {M : Mem} {b b' : Nat} {T : SA} {A : PA} (hb : b < 9) (h : CS M b' T A) : CS (cpS M b b') b T A :=
  ⟨fun o j ho hv => by rw [cpS_st hb ho, if_pos hv, h.1 o j ho hv], fun p hp o j ho hv => by rw [cpS_pq hb hp ho, if_pos hv, h.2 p hp o j ho hv]⟩
theorem CS_cpNe {M : Mem} {b b' b2 : Nat} {T : SA} {A : PA} (hb2 : b2 < 9) (hb : b < 9) (hne : b2 ≠ b) (h : CS M b2 T A) : CS (cpS M b b') b2 T A :=
  ⟨CT_congr h.1 (fun o ho => cpS_ne (fun o' ho' => by unfold st; omega) (fun p o' _ _ => by unfold st pq; omega)), fun p hp => CRel_congr (h.2 p hp) (fun o ho => cpS_ne (fun o' ho' => by unfold pq st; omega) (fun p' o' _ _ => by unfold pq; omega))⟩
theorem CS_congr {M M' : Mem} {b : Nat} {T : SA} {A : PA} (h : CS M b T A) (h1 : ∀ o, o < 7 → M' (st b o) = M (st b o)) (h2 : ∀ p o, p < 3 → o < 23 → M' (pq (3 * b + p) o) = M (pq (3 * b + p) o)) : CS M' b T A :=
  ⟨CT_congr h.1 h1, fun p hp => CRel_congr (h.2 p hp) (fun o ho => h2 p o hp ho)⟩
