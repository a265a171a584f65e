/-! levels wanted for spans of lamps: the class's and the reference's -/
def lamA (f l i : Nat) : Nat := if l < f then f - i else f + i
def far (f l : Nat) : Nat := if l < f then f - l else l - f
def stpF (f l : Nat) : Int32 := if l < f then -1 else 1
def wsp (f l v : Nat) : Nat → Nat → SA → SA × Bool
  | 0, _, B => (B, true)
  | d + 1, i, B => if lamA f l i < B 0 2 then wsp f l v d (i + 1) (upA B 3 (lamA f l i) v) else (B, false)
def bI (b : Bool) : Int32 := if b = true then 1 else 0
theorem bz_bI {b : Bool} : bz (bI b) = some (bI b) := by cases b <;> rfl
theorem lam_c1 : ∀ f, f < 12 → ∀ i, i < 12 → i ≤ f → nI f + nI i * (-1) = nI (f - i) := by decide +kernel
theorem lam_c2 : ∀ f, f < 12 → ∀ i, i < 12 → (nI f + nI i * (-1)) + (-1) = nI f + nI (i + 1) * (-1) := by decide +kernel
theorem lam_c3 : ∀ f, f < 12 → ∀ l, l < f → ∀ i, i < 13 → (nI f + nI i * (-1) = nI l + (-1) ↔ i = f - l + 1) := by decide +kernel
theorem lam_c4 : ∀ f, f < 12 → ∀ l, l < 12 → (if (0 : Int32) ≤ nI l - nI f then nI l - nI f else 0 - (nI l - nI f)) = nI (far f l) := by decide +kernel
theorem lamI {f l i : Nat} (hf : f ≤ 11) (hl : l ≤ 11) (hi : i ≤ far f l) : nI f + nI i * stpF f l = nI (lamA f l i) := by
  unfold far at hi
  unfold lamA stpF
  by_cases h : l < f
  · rw [if_pos h] at hi
    rw [if_pos h, if_pos h]
    exact lam_c1 f (by omega) i (by omega) (by omega)
  · rw [if_neg h, if_neg h, Int32.mul_one, nI_addE]
theorem lamI_s {f l i : Nat} (hf : f ≤ 11) (hi : i ≤ 11) : (nI f + nI i * stpF f l) + stpF f l = nI f + nI (i + 1) * stpF f l := by
  unfold stpF
  by_cases h : l < f
  · rw [if_pos h]
    exact lam_c2 f (by omega) i (by omega)
  · rw [if_neg h, Int32.mul_one, Int32.mul_one, li1, nI_addE, nI_addE, nI_addE, Nat.add_assoc]
theorem lamI_e {f l i : Nat} (hf : f ≤ 11) (hl : l ≤ 11) (hi : i ≤ far f l + 1) : (nI f + nI i * stpF f l = nI l + stpF f l) ↔ i = far f l + 1 := by
  unfold far at hi ⊢
  unfold stpF
  by_cases h : l < f
  · rw [if_pos h] at hi
    rw [if_pos h, if_pos h]
    exact lam_c3 f (by omega) l h i (by omega)
  · rw [if_neg h] at hi
    rw [if_neg h, if_neg h, Int32.mul_one, li1, nI_addE, nI_addE, nI_eqE (by omega) (by omega)]
    omega
theorem far_le {f l : Nat} (hf : f ≤ 11) (hl : l ≤ 11) : far f l ≤ 11 := by
  unfold far
  split <;> omega
theorem lamA_le {f l i : Nat} (hf : f ≤ 11) (hl : l ≤ 11) (hi : i ≤ far f l) : lamA f l i ≤ 11 := by
  unfold far at hi
  unfold lamA
  split at hi
  · rw [if_pos (by assumption)]
    omega
  · rw [if_neg (by assumption)]
    omega
theorem csp_L {f l v q told : Nat} (hq : q < 28) (hf : f ≤ 11) (hl : l ≤ 11) (hv : v ≤ 100) : ∀ (d i F : Nat) (M : Mem) (B : SA), i + d = far f l + 1 → d < F → CRel M q B → WA told B → ∃ M', (((wsp f l v d i B).2 = true ∧ fX4_changeSpan_L23 F M (pq q 0) (nI f) (nI v) (stpF f l) (nI (far f l)) (nI i) = some (.inl M')) ∨ ((wsp f l v d i B).2 = false ∧ fX4_changeSpan_L23 F M (pq q 0) (nI f) (nI v) (stpF f l) (nI (far f l)) (nI i) = some (.inr (0, M')))) ∧ CRel M' q (wsp f l v d i B).1 ∧ FrC M M' q ∧ WA told (wsp f l v d i B).1 := by
  have h11 := far_le hf hl
  intro d
  induction d with
  | zero =>
    intro i F M B hd hF hC hW
    obtain ⟨F, rfl⟩ : ∃ F', F = F' + 1 := ⟨F - 1, by omega⟩
    refine ⟨M, Or.inl ⟨rfl, ?_⟩, hC, FrC.rf, hW⟩
    rw [fX4_changeSpan_L23, if_pos (nI_lt (by omega) (by omega))]
  | succ d ih =>
    intro i F M B hd hF hC hW
    obtain ⟨F, rfl⟩ : ∃ F', F = F' + 1 := ⟨F - 1, by omega⟩
    have hla := lamA_le hf hl (i := i) (by omega)
    have e0 : fX4_changeSpan_L23 (F + 1) M (pq q 0) (nI f) (nI v) (stpF f l) (nI (far f l)) (nI i) = (if lamA f l i < B 0 2 then fX4_changeSpan_L23 F (up2 M (pq q 3) (lamA f l i) (nI v)) (pq q 0) (nI f) (nI v) (stpF f l) (nI (far f l)) (nI (i + 1)) else some (.inr (0, M))) := by
      rw [fX4_changeSpan_L23, if_neg (nI_nlt (by omega) (by omega)), li12, if_neg (fun z => by have := (nI_leE (by omega) (by omega)).mp z; omega), lt1_eq, lamI hf hl (by omega), hasLamp_ok hq (cr0 hC (by omega)) hW.1.2.2, ob_some, b01]
      by_cases h2 : lamA f l i < B 0 2
      · rw [if_pos h2, if_pos (lamp_y h2 hW.1.2.2)]
        refine ob_in (gR_ok (x := pq q 3) (sp0 hq (by omega) rfl) (rf_pq0 (by omega))) ?_
        refine ob_in (aS_ok (n := 12) (sp0 hq (by omega) rfl) (lp0 hq (by omega) rfl) (by omega) (by omega)) ?_
        rw [li1, nI_addE]
      · rw [if_neg h2, if_neg (fun z => h2 ((nI_ltE (by omega) (by have := hW.1.2.2; omega)).mp z.2))]
    rw [wsp]
    by_cases h2 : lamA f l i < B 0 2
    · rw [if_pos h2] at e0 ⊢
      obtain ⟨M', a1, a2, a3, a4⟩ := ih (i + 1) F (up2 M (pq q 3) (lamA f l i) (nI v)) (upA B 3 (lamA f l i) v) (by omega) (by omega) (CRel_up hC (by omega) (vI_n (by omega)).symm) (WA_l hW h2 (Or.inr ⟨rfl, hv⟩))
      exact ⟨M', by rw [e0]; exact a1, a2, (FrC.up (by omega)).tr a3, a4⟩
    · rw [if_neg h2] at e0 ⊢
      exact ⟨M, Or.inr ⟨rfl, e0⟩, hC, FrC.rf, hW⟩
theorem csp_ok {f l v q told : Nat} {M : Mem} {B : SA} (hq : q < 28) (hf : f ≤ 11) (hl : l ≤ 11) (hv : v ≤ 100) (hC : CRel M q B) (hW : WA told B) : ∃ M', fX4_changeSpan M (pq q 0) (nI f) (nI l) (nI v) = some (bI (wsp f l v (far f l + 1) 0 B).2, M') ∧ CRel M' q (wsp f l v (far f l + 1) 0 B).1 ∧ FrC M M' q ∧ WA told (wsp f l v (far f l + 1) 0 B).1 := by
  have h11 := far_le hf hl
  obtain ⟨M', a1, a2, a3, a4⟩ := csp_L (told := told) hq hf hl hv (far f l + 1) 0 5000 M B (by omega) (by omega) hC hW
  refine ⟨M', ?_, a2, a3, a4⟩
  have es : (if nI f ≤ nI l then some (1 : Int32) else some (-1)) = some (stpF f l) := by
    unfold stpF
    by_cases h : l < f
    · rw [if_neg (fun z => by have := (nI_leE (by omega) (by omega)).mp z; omega), if_pos h]
    · rw [if_pos ((nI_leE (by omega) (by omega)).mpr (by omega)), if_neg h]
  unfold fX4_changeSpan
  refine ob_in es ?_
  rw [lt1_eq, lam_c4 f (by omega) l (by omega)]
  rcases a1 with ⟨b1, b2⟩ | ⟨b1, b2⟩
  · rw [b1]
    refine ob_in b2 ?_
    rfl
  · rw [b1]
    refine ob_in b2 ?_
    rfl
theorem rsp_L {f l v p told : Nat} {a2 : Int32} (hp : p < 3) (hf : f ≤ 11) (hl : l ≤ 11) (hv : v ≤ 100) : ∀ (d i F : Nat) (N : Mem) (B : SA), i + d = far f l + 1 → d < F → N 0 15 = nI v → RP (N 1) p B → WA told B → ∃ N', (((wsp f l v d i B).2 = true ∧ fX12_wants_L50 F N (nI p) a2 (nI l) (stpF f l) (nI f + nI i * stpF f l) = some (.inl N')) ∨ ((wsp f l v d i B).2 = false ∧ fX12_wants_L50 F N (nI p) a2 (nI l) (stpF f l) (nI f + nI i * stpF f l) = some (.inr (0, N')))) ∧ RP (N' 1) p (wsp f l v d i B).1 ∧ FrN N N' p := by
  have h11 := far_le hf hl
  intro d
  induction d with
  | zero =>
    intro i F N B hd hF h15 hP hW
    obtain ⟨F, rfl⟩ : ∃ F', F = F' + 1 := ⟨F - 1, by omega⟩
    refine ⟨N, Or.inl ⟨rfl, ?_⟩, hP, FrN.rf⟩
    rw [fX12_wants_L50, if_pos ((lamI_e hf hl (by omega)).mpr (by omega))]
  | succ d ih =>
    intro i F N B hd hF h15 hP hW
    obtain ⟨F, rfl⟩ : ∃ F', F = F' + 1 := ⟨F - 1, by omega⟩
    have hla := lamA_le hf hl (i := i) (by omega)
    have e0 : fX12_wants_L50 (F + 1) N (nI p) a2 (nI l) (stpF f l) (nI f + nI i * stpF f l) = (if lamA f l i < B 0 2 then fX12_wants_L50 F (up2 N 1 (LX p (lamA f l i) 2) (nI v)) (nI p) a2 (nI l) (stpF f l) (nI f + nI (i + 1) * stpF f l) else some (.inr (0, N))) := by
      rw [fX12_wants_L50, if_neg (fun z => by have := (lamI_e hf hl (by omega)).mp z; omega), lamI_s hf (by omega), lamI hf hl (by omega), isLamp_ok hp hP hW.1.2.2, ob_some, b01]
      by_cases h2 : lamA f l i < B 0 2
      · rw [if_pos h2, if_pos (lamp_y h2 hW.1.2.2), ol2, ob_some, n_gI, ob_some, h15, w30 (LX_lt hp (by omega) (by omega)), ob_some, lt1_eq]
      · rw [if_neg h2, if_neg (fun z => h2 ((nI_ltE (by omega) (by have := hW.1.2.2; omega)).mp z.2))]
    rw [wsp]
    by_cases h2 : lamA f l i < B 0 2
    · rw [if_pos h2] at e0 ⊢
      obtain ⟨N', a1, a2, a3⟩ := ih (i + 1) F (up2 N 1 (LX p (lamA f l i) 2) (nI v)) (upA B 3 (lamA f l i) v) (by omega) (by omega) (by rw [up2_ne (by omega)]; exact h15) (by rw [up2_row]; exact RP_l2 hP hW.1.2.2 (by omega) (vI_n (by omega)).symm) (WA_l hW h2 (Or.inr ⟨rfl, hv⟩))
      exact ⟨N', by rw [e0]; exact a1, a2, (FrN.up (by unfold LX PB; omega)).tr a3⟩
    · rw [if_neg h2] at e0 ⊢
      exact ⟨N, Or.inr ⟨rfl, e0⟩, hP, FrN.rf⟩
theorem WA_wsp {v told : Nat} (hv : v ≤ 100) : ∀ (d i : Nat) (B : SA) (f l : Nat), WA told B → WA told (wsp f l v d i B).1 := by
  intro d
  induction d with
  | zero =>
    intro i B f l hW
    exact hW
  | succ d ih =>
    intro i B f l hW
    rw [wsp]
    by_cases h2 : lamA f l i < B 0 2
    · rw [if_pos h2]
      exact ih (i + 1) _ f l (WA_l hW h2 (Or.inr ⟨rfl, hv⟩))
    · rw [if_neg h2]
      exact hW
/-- the spans of an order, one after the other -/
def wss (g : Nat → Nat × Nat) (v : Nat) : Nat → Nat → SA → SA × Bool
  | 0, _, B => (B, true)
  | d + 1, x, B => if (wsp (g x).1 (g x).2 v (far (g x).1 (g x).2 + 1) 0 B).2 = true then wss g v d (x + 1) (wsp (g x).1 (g x).2 v (far (g x).1 (g x).2 + 1) 0 B).1 else ((wsp (g x).1 (g x).2 v (far (g x).1 (g x).2 + 1) 0 B).1, false)
theorem rws_L {v p told c : Nat} {g : Nat → Nat × Nat} (hp : p < 3) (hv : v ≤ 100) (hc : c ≤ 30) (hg : ∀ x, x < c → (g x).1 ≤ 11 ∧ (g x).2 ≤ 11) : ∀ (d x F : Nat) (N : Mem) (B : SA), x + d = c → d < F → N 0 15 = nI v → SpN N c g → RP (N 1) p B → WA told B → ∃ N', (((wss g v d x B).2 = true ∧ fX12_wants_L2 F N (nI p) (nI x) = some (.inl N')) ∨ ((wss g v d x B).2 = false ∧ fX12_wants_L2 F N (nI p) (nI x) = some (.inr (0, N')))) ∧ RP (N' 1) p (wss g v d x B).1 ∧ FrN N N' p := by
  intro d
  induction d with
  | zero =>
    intro x F N B hd hF h15 hS hP hW
    obtain ⟨F, rfl⟩ : ∃ F', F = F' + 1 := ⟨F - 1, by omega⟩
    refine ⟨N, Or.inl ⟨rfl, ?_⟩, hP, FrN.rf⟩
    rw [fX12_wants_L2, n_gI, ob_some, hS.1, if_pos ((nI_leE (by omega) (by omega)).mpr (by omega))]
  | succ d ih =>
    intro x F N B hd hF h15 hS hP hW
    obtain ⟨F, rfl⟩ : ∃ F', F = F' + 1 := ⟨F - 1, by omega⟩
    obtain ⟨g1, g2⟩ := hg x (by omega)
    have h11 := far_le g1 g2
    obtain ⟨N1, a1, a3, a4⟩ := rsp_L (a2 := nI x) (told := told) hp g1 g2 hv (far (g x).1 (g x).2 + 1) 0 5000 N B (by omega) (by omega) h15 hP hW
    have hW1 := WA_wsp (told := told) hv (far (g x).1 (g x).2 + 1) 0 B (g x).1 (g x).2 hW
    have es : (if nI (g x).1 ≤ nI (g x).2 then some (1 : Int32) else some (-1)) = some (stpF (g x).1 (g x).2) := by
      unfold stpF
      by_cases h : (g x).2 < (g x).1
      · rw [if_neg (fun z => by have := (nI_leE (by omega) (by omega)).mp z; omega), if_pos h]
      · rw [if_pos ((nI_leE (by omega) (by omega)).mpr (by omega)), if_neg h]
    have ez : nI (g x).1 + nI 0 * stpF (g x).1 (g x).2 = nI (g x).1 := by
      rw [lamI g1 g2 (Nat.zero_le _)]
      unfold lamA
      split <;> rfl
    rw [ez] at a1
    have e0 : fX12_wants_L2 (F + 1) N (nI p) (nI x) = (fX12_wants_L50 5000 N (nI p) (nI x) (nI (g x).2) (stpF (g x).1 (g x).2) (nI (g x).1)).bind fun z15 => caseS z15 (fun M13 => fX12_wants_L2 F M13 (nI p) (nI (x + 1))) (fun zr => caseP zr fun v17 M18 => some (.inr (v17, M18))) := by
      rw [fX12_wants_L2, n_gI, ob_some, hS.1, if_neg (fun z => by have := (nI_leE (by omega) (by omega)).mp z; omega), show (2 : Int32) * nI x + 1 = nI (2 * x + 1) by rw [li2, nI_mulE, li1, nI_addE], show (2 : Int32) * nI x = nI (2 * x) from nI_mulE 2 x]
      refine ob_in (aL_ok (n := 62) rfl rfl (by omega) (by omega)) ?_
      refine ob_in (aL_ok (n := 62) rfl rfl (by omega) (by omega)) ?_
      rw [(hS.2 x (by omega)).1, (hS.2 x (by omega)).2]
      refine ob_in es ?_
      refine ob_in (aL_ok (n := 62) rfl rfl (by omega) (by omega)) ?_
      rw [(hS.2 x (by omega)).1, li1, nI_addE]
    rw [wss]
    rcases a1 with ⟨b1, b2⟩ | ⟨b1, b2⟩
    · rw [if_pos b1]
      obtain ⟨N2, c1, c2, c3⟩ := ih (x + 1) F N1 _ (by omega) (by omega) (by rw [a4.1 0 (by omega)]; exact h15) (SpN_k hS (a4.1 9 (by omega)) (by rw [a4.1 0 (by omega)])) a3 hW1
      refine ⟨N2, ?_, c2, a4.tr c3⟩
      rw [e0, b2, ob_some]
      exact c1
    · rw [if_neg (by rw [b1]; decide)]
      refine ⟨N1, Or.inr ⟨rfl, ?_⟩, a3, a4⟩
      rw [e0, b2, ob_some]
      rfl
