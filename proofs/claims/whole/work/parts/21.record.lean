/-! record, go -/
theorem ifsp {α : Type} {q o t : Nat} {x y : α} (hq : q < 28) (ho : o < 23) (h : shP o = t) : (if shp (pq q o) = t then x else y) = x := if_pos (sp0 hq ho h)
def recA (A : SA) (c t : Nat) : SA := upR (upA A 6 c t) (8 + c) 0 12 (A 3)
theorem recordCue_ok {M : Mem} {q c t : Nat} {A : SA} (hq : q < 28) (hC : CRel M q A) (hc : c < 8) : ∃ M', fX6_recordCue M (pq q 0) (nI c) (nI t) = some M' ∧ CRel M' q (recA A c t) ∧ FrC M M' q := by
  refine ⟨setR (up2 M (pq q 6) c (nI t)) (pq q (8 + c)) 0 12 (up2 M (pq q 6) c (nI t) (pq q 3)), ?_, CRel_setR (CRel_up hC (by omega) (vI_n (by omega)).symm) (by omega) (fun j _ hj _ => ?_), FrC.tr (FrC.up (by omega)) (FrC.set (by omega))⟩
  · unfold fX6_recordCue
    rw [ifsp (o := 0) (t := 6) hq (by omega) rfl, isCue_ok, ob_some, b01, if_pos (show (0 : Int32) ≤ nI c ∧ nI c ≤ 7 from isIn_y (k := 7) (by omega) (by omega))]
    refine ob_in (gR_ok (x := pq q 6) (sp0 hq (by omega) rfl) (rf_pq0 (by omega))) ?_
    refine ob_in (aS_ok (n := 8) (sp0 hq (by omega) rfl) (lp0 hq (by omega) rfl) hc (by omega)) ?_
    refine ob_in (gR_ok (x := pq q 3) (sp0 hq (by omega) rfl) (rf_pq0 (by omega))) ?_
    refine ob_in (gR_ok (x := pq q 7) (sp0 hq (by omega) rfl) (rf_pq0 (by omega))) ?_
    refine ob_in (aR_ok (n := 8) (sp0 hq (by omega) rfl) (lp0 hq (by omega) rfl) hc (by omega) rf_pq7) ?_
    exact ob_in (copy_ok (n := 12) (sp0 hq (by omega) rfl) (lp0 hq (by omega) rfl) (sp0 hq (by omega) (shP_c hc).1) (lp0 hq (by omega) (shP_c hc).2) (by unfold pq; omega) (by omega)) rfl
  · rw [up2_ne (by unfold pq; omega), cr3 hC hj, vI_n (by omega)]
theorem recA_o {A : SA} {c t o j : Nat} (h6 : ¬ (o = 6 ∧ j = c)) (h8 : ¬ (o = 8 + c ∧ j < 12)) : recA A c t o j = A o j := by
  unfold recA upR upA
  rw [if_neg (by omega), if_neg h6]
theorem recA_6 {A : SA} {c t : Nat} : recA A c t 6 c = t := by
  unfold recA upR upA
  rw [if_neg (by omega), if_pos ⟨rfl, rfl⟩]
theorem recA_8 {A : SA} {c t j : Nat} (hj : j < 12) : recA A c t (8 + c) j = A 3 j := by
  unfold recA upR
  rw [if_pos ⟨rfl, by omega, hj⟩]
theorem WA_rec {told c t : Nat} {A : SA} (h : WA told A) (hc : c < 8) (ht : t ≤ 50) : WA told (recA A c t) := by
  obtain ⟨h1, h2, h3, h4, h5, h6, h7, h8, h9, h10, h11, h12, h13, h14⟩ := h
  have e : ∀ o j, o < 23 → o ≠ 6 → o ≠ 8 + c → recA A c t o j = A o j := fun o j ho h1 h2 => recA_o (by omega) (by omega)
  refine ⟨by rw [e 0 0 (by omega) (by omega) (by omega), e 0 1 (by omega) (by omega) (by omega), e 0 2 (by omega) (by omega) (by omega)]; exact h1, fun i hi => ?_, fun i hi => by rw [e 2 i (by omega) (by omega) (by omega)]; exact h3 i hi, fun i hi => by rw [e 3 i (by omega) (by omega) (by omega), e 4 i (by omega) (by omega) (by omega), e 17 i (by omega) (by omega) (by omega), e 18 i (by omega) (by omega) (by omega)]; exact h4 i hi, fun i hi1 hi2 => ?_, fun d hd => by rw [e 5 d (by omega) (by omega) (by omega)]; exact h6 d hd, fun c' hc' => ⟨?_, fun i hi => ?_⟩, by rw [e 19 1 (by omega) (by omega) (by omega)]; exact h8, by rw [e 21 1 (by omega) (by omega) (by omega)]; exact h9, fun d hd => by rw [e 20 d (by omega) (by omega) (by omega)]; exact h10 d hd, fun d hd => by rw [e 22 d (by omega) (by omega) (by omega)]; exact h11 d hd, by rw [e 16 0 (by omega) (by omega) (by omega)]; exact h12, by rw [e 16 0 (by omega) (by omega) (by omega), e 16 1 (by omega) (by omega) (by omega)]; exact h13, by rw [e 16 0 (by omega) (by omega) (by omega), e 16 1 (by omega) (by omega) (by omega)]; exact h14⟩
  · rw [e 0 2 (by omega) (by omega) (by omega)] at hi
    rw [e 1 i (by omega) (by omega) (by omega)]
    exact h2 i hi
  · rw [e 0 2 (by omega) (by omega) (by omega)] at hi1
    have g := h5 i hi1 hi2
    refine ⟨by rw [e 3 i (by omega) (by omega) (by omega)]; exact g.1, by rw [e 4 i (by omega) (by omega) (by omega)]; exact g.2.1, by rw [e 17 i (by omega) (by omega) (by omega)]; exact g.2.2.1, by rw [e 18 i (by omega) (by omega) (by omega)]; exact g.2.2.2.1, fun c' hc' => ?_⟩
    by_cases hcc : c' = c
    · subst hcc
      rw [recA_8 hi2]
      exact g.1
    · rw [recA_o (by omega) (by omega)]
      exact g.2.2.2.2 c' hc'
  · by_cases hcc : c' = c
    · subst hcc
      rw [recA_6]
      exact ht
    · rw [recA_o (by omega) (by omega)]
      exact (h7 c' hc').1
  · by_cases hcc : c' = c
    · subst hcc
      rw [recA_8 hi]
      exact (h4 i hi).1
    · rw [recA_o (by omega) (by omega)]
      exact (h7 c' hc').2 i hi
def rcr (σ : Nat → Int32) (A : SA) (p c k n : Nat) : Nat → Int32 := fun q => if CX p c + 1 + k ≤ q ∧ q < CX p c + 1 + n then nI (A 3 (q - (CX p c + 1))) else σ q
theorem records_L {p c n : Nat} {A : SA} (hp : p < 3) (hc : c < 8) (hn : n ≤ 12) : ∀ (d k F : Nat) (N : Mem), k + d = n → d < F → N 1 (AX p 2) = nI n → (∀ i, i < n → N 1 (LX p i 2) = nI (A 3 i)) → fX12_records_L14 F N (nI p) (nI c) (nI k) = some (row N 1 (rcr (N 1) A p c k n)) := by
  intro d
  induction d with
  | zero =>
    intro k F N hk hF hN hL
    obtain ⟨F, rfl⟩ : ∃ F', F = F' + 1 := ⟨F - 1, by omega⟩
    rw [fX12_records_L14, at1_2, ob_some, s30 (AX_lt hp (by omega)), ob_some, hN, if_pos ((nI_leE (by omega) (by omega)).mpr (by omega)), show k = n by omega]
    congr 1
    funext x
    by_cases hx : x = 1
    · subst hx
      rw [row_same]
      funext q
      unfold rcr
      rw [if_neg (by omega)]
    · rw [row_ne hx]
  | succ d ih =>
    intro k F N hk hF hN hL
    obtain ⟨F, rfl⟩ : ∃ F', F = F' + 1 := ⟨F - 1, by omega⟩
    rw [fX12_records_L14, at1_2, ob_some, s30 (AX_lt hp (by omega)), ob_some, hN, if_neg (fun h => by have := (nI_leE (by omega) (by omega)).mp h; omega), ofCue_ok, ob_some, ol2, ob_some, s30 (LX_lt hp (by omega) (by omega)), ob_some, hL k (by omega), li1, nI_addE, nI_addE, w30 (by have := CX_lt (i := 1 + k) hp hc (by omega); omega), ob_some, nI_addE]
    refine (ih (k + 1) F _ (by omega) (by omega) (by rw [N1_ne (by unfold AX CX; omega)]; exact hN) (fun i hi => by rw [N1_ne (by unfold LX CX; omega)]; exact hL i hi)).trans ?_
    congr 1
    funext x
    by_cases hx : x = 1
    · subst hx
      rw [row_same, row_same]
      funext q
      unfold rcr
      rw [up2_row]
      by_cases h1 : q = CX p c + 1 + k
      · subst h1
        rw [if_neg (by omega), upd_eq, if_pos (by omega), show CX p c + 1 + k - (CX p c + 1) = k by omega]
      · rw [upd_ne h1]
        by_cases h2 : CX p c + 1 + k ≤ q ∧ q < CX p c + 1 + n
        · rw [if_pos h2, if_pos (by omega)]
        · rw [if_neg h2, if_neg (by omega)]
    · rw [row_ne hx, row_ne hx, up2_ne hx]
/-- how many of the first k cues are recorded -/
def rcn (A : SA) : Nat → Nat
  | 0 => 0
  | k + 1 => rcn A k + (if A 6 k = 0 then 0 else 1)
def rcm (A : SA) : Nat → Nat
  | 0 => 0
  | k + 1 => rcm A k + (if A 6 k = 0 then 0 else 2 ^ k)
theorem records_N {p : Nat} {A : SA} (hp : p < 3) {N : Mem} (hN : ∀ c, c < 8 → N 1 (CX p c) = nI (A 6 c)) (hA : ∀ c, c < 8 → A 6 c ≤ 50) : ∀ (d k F : Nat), k + d = 8 → d < F → fX12_records_L68 F N (nI p) (nI (rcn A k)) (nI k) = some (nI (rcn A 8)) := by
  intro d
  induction d with
  | zero =>
    intro k F hk hF
    obtain ⟨F, rfl⟩ : ∃ F', F = F' + 1 := ⟨F - 1, by omega⟩
    rw [fX12_records_L68, li8, if_pos ((nI_leE (by omega) (by omega)).mpr (by omega)), show k = 8 by omega]
  | succ d ih =>
    intro k F hk hF
    obtain ⟨F, rfl⟩ : ∃ F', F = F' + 1 := ⟨F - 1, by omega⟩
    have hk50 := hA k (by omega)
    rw [fX12_records_L68, li8, if_neg (fun h => by have := (nI_leE (by omega) (by omega)).mp h; omega), ofCue_ok, ob_some, s30 (by have := CX_lt (i := 0) hp (c := k) (by omega) (by omega); omega), ob_some, hN k (by omega), li0, li1, nI_addE]
    by_cases h0 : A 6 k = 0
    · rw [h0, if_pos (Int32.le_refl _), lt1_eq, nI_addE]
      have e : rcn A (k + 1) = rcn A k + 0 := by
        show rcn A k + (if A 6 k = 0 then 0 else 1) = rcn A k + 0
        rw [if_pos h0]
      rw [← e]
      exact ih (k + 1) F (by omega) (by omega)
    · rw [if_neg (fun z => h0 (by have := (nI_leE (by omega) (by omega)).mp z; omega)), lt1_eq, nI_addE, nI_addE]
      have e : rcn A (k + 1) = rcn A k + 1 := by
        show rcn A k + (if A 6 k = 0 then 0 else 1) = rcn A k + 1
        rw [if_neg h0]
      rw [← e]
      exact ih (k + 1) F (by omega) (by omega)
theorem RP_rec {σ : Nat → Int32} {p c t : Nat} {A : SA} (h : RP σ p A) (hc : c < 8) (hm : A 0 2 ≤ 12) : RP (rcr (upd σ (CX p c) (nI t)) A p c 0 (A 0 2)) p (recA A c t) := by
  obtain ⟨a1, a2, a3, a4, a5, a6, a7, a8, a9, a10⟩ := h
  have e : ∀ o j, o < 23 → o ≠ 6 → o ≠ 8 + c → recA A c t o j = A o j := fun o j ho h1 h2 => recA_o (by omega) (by omega)
  have hs : ∀ k, ¬ (CX p c ≤ k ∧ k < CX p c + 1 + A 0 2) → rcr (upd σ (CX p c) (nI t)) A p c 0 (A 0 2) k = σ k := fun k hk => by
    unfold rcr
    rw [if_neg (by omega), upd_ne (by omega)]
  refine ⟨fun j hj => ?_, fun i hi => ?_, fun d hd => ?_, fun d hd => ?_, fun d hd => ?_, fun d hd => ?_, fun d hd => ?_, fun c' hc' => ?_, ?_, fun h0 => ?_⟩
  · rw [hs _ (by unfold CX PB; omega), e _ _ (by omega) (by omega) (by omega)]; exact a1 j hj
  · rw [e _ _ (by omega) (by omega) (by omega)] at hi
    rw [hs _ (by unfold CX PB; omega), hs _ (by unfold CX PB; omega), hs _ (by unfold CX PB; omega), hs _ (by unfold CX PB; omega), hs _ (by unfold CX PB; omega), hs _ (by unfold CX PB; omega), e _ _ (by omega) (by omega) (by omega), e _ _ (by omega) (by omega) (by omega), e _ _ (by omega) (by omega) (by omega), e _ _ (by omega) (by omega) (by omega), e _ _ (by omega) (by omega) (by omega), e _ _ (by omega) (by omega) (by omega)]
    exact a2 i hi
  · rw [hs _ (by unfold CX PB; omega), e _ _ (by omega) (by omega) (by omega)]; exact a3 d hd
  · rw [hs _ (by unfold CX PB; omega), e _ _ (by omega) (by omega) (by omega)]; exact a4 d hd
  · rw [hs _ (by unfold CX PB; omega), e _ _ (by omega) (by omega) (by omega)]; exact a5 d hd
  · rw [hs _ (by unfold CX PB; omega), e _ _ (by omega) (by omega) (by omega)]; exact a6 d hd
  · rw [hs _ (by unfold CX PB; omega), e _ _ (by omega) (by omega) (by omega)]; exact a7 d hd
  · rw [e 0 2 (by omega) (by omega) (by omega)]
    by_cases hcc : c' = c
    · subst hcc
      refine ⟨?_, fun i hi => ?_⟩
      · rw [show PB p + 117 + 13 * c' = CX p c' by unfold CX PB; omega, recA_6]
        unfold rcr
        rw [if_neg (by omega), upd_eq]
      · rw [show PB p + 117 + 13 * c' + 1 + i = CX p c' + 1 + i by unfold CX PB; omega, recA_8 (by omega)]
        unfold rcr
        rw [if_pos (by omega), show CX p c' + 1 + i - (CX p c' + 1) = i by omega]
    · refine ⟨?_, fun i hi => ?_⟩
      · rw [hs _ (by unfold CX PB; omega), recA_o (by omega) (by omega)]; exact (a8 c' hc').1
      · rw [hs _ (by unfold CX PB; omega), recA_o (by omega) (by omega)]; exact (a8 c' hc').2 i hi
  · rw [hs _ (by unfold CX PB; omega), e _ _ (by omega) (by omega) (by omega)]; exact a9
  · rw [e _ _ (by omega) (by omega) (by omega)] at h0
    rw [hs _ (by unfold CX PB; omega), e _ _ (by omega) (by omega) (by omega)]; exact a10 h0
theorem records_ok {N : Mem} {p c t told : Nat} {A : SA} (hp : p < 3) (hc : c < 8) (ht : t ≤ 50) (h : RP (N 1) p A) (hW : WA told A) : ∃ N', fX12_records N (nI p) (nI c) (nI t) = some (nI (rcn (recA A c t) 8), N') ∧ RP (N' 1) p (recA A c t) ∧ FrN N N' p := by
  have hm := hW.1.2.2
  have hR := RP_rec (t := t) h hc hm
  have hW' := WA_rec hW hc ht
  refine ⟨row (up2 N 1 (CX p c) (nI t)) 1 (rcr (up2 N 1 (CX p c) (nI t) 1) A p c 0 (A 0 2)), ?_, by rw [row_same, up2_row]; exact hR, fun x hx => by rw [row_ne hx, up2_ne hx], fun k hk => ?_⟩
  · unfold fX12_records
    rw [ofCue_ok, ob_some, w30 (by have := CX_lt (i := 0) hp hc (by omega); omega), ob_some]
    refine ob_in (records_L hp hc hm (A 0 2) 0 5000 _ (by omega) (by omega) (by rw [N1_ne (by unfold AX CX; omega)]; exact ra0 h (by omega)) (fun i hi => by rw [N1_ne (by unfold LX CX; omega)]; exact rl2 h hi)) ?_
    refine ob_in (records_N (A := recA A c t) hp (fun c' hc' => ?_) (fun c' hc' => (hW'.2.2.2.2.2.2.1 c' hc').1) 8 0 5000 (by omega) (by omega)) rfl
    rw [row_same, up2_row]
    exact rcT hR hc'
  · rw [row_same]
    unfold rcr
    rw [if_neg (by unfold CX; unfold PB at hk; omega), N1_ne (by unfold CX; unfold PB at hk; omega)]
theorem isRec_ok {M : Mem} {q : Nat} {A : SA} (hq : q < 28) (hC : CRel M q A) {c : Nat} (hc : c < 8) (hA : A 6 c ≤ 50) : fX6_isRecorded M (pq q 0) (nI c) = some (if A 6 c = 0 then 0 else 1) := by
  unfold fX6_isRecorded
  rw [ifsp (o := 0) (t := 6) hq (by omega) rfl, isCue_ok, ob_some, b01, if_pos (show (0 : Int32) ≤ nI c ∧ nI c ≤ 7 from isIn_y (k := 7) (by omega) (by omega))]
  refine ob_in (gR_ok (x := pq q 6) (sp0 hq (by omega) rfl) (rf_pq0 (by omega))) ?_
  refine ob_in (aL_ok (n := 8) (sp0 hq (by omega) rfl) (lp0 hq (by omega) rfl) hc (by omega)) ?_
  rw [cr6 hC hc, li0]
  by_cases h0 : A 6 c = 0
  · rw [if_pos h0, h0, if_pos (Int32.le_refl _)]
  · rw [if_neg h0, if_neg (fun z => h0 (by have := (nI_leE (by omega) (by omega)).mp z; omega))]
theorem or_64 : ∀ d, d < 12 → ∀ a, a < 64 → ∀ b, b < 64 → 64 * a + b < 2 ^ d → (nI (64 * a + b) ||| (1 <<< (nI d &&& 31))) = nI (64 * a + b + 2 ^ d) := by decide +kernel
theorem or_bit {m d : Nat} (hd : d < 12) (hm : m < 2 ^ d) : (nI m ||| (1 <<< (nI d &&& 31))) = nI (m + 2 ^ d) := by
  have h4 : 2 ^ d ≤ 2 ^ 11 := Nat.pow_le_pow_right (by omega) (by omega)
  have h := or_64 d hd (m / 64) (by omega) (m % 64) (by omega) (by rw [Nat.div_add_mod]; exact hm)
  rw [Nat.div_add_mod] at h
  exact h
theorem rcm_lt (A : SA) : ∀ k, rcm A k < 2 ^ k := by
  intro k
  induction k with
  | zero => exact Nat.one_pos
  | succ k ih =>
    show rcm A k + (if A 6 k = 0 then 0 else 2 ^ k) < 2 ^ (k + 1)
    rw [Nat.pow_succ]
    split <;> omega
theorem recCues_L {M : Mem} {q : Nat} {A : SA} (hq : q < 28) (hC : CRel M q A) (hA : ∀ c, c < 8 → A 6 c ≤ 50) : ∀ (d k F : Nat), k + d = 8 → d < F → fX6_recordedCues_L4 F M (pq q 0) (nI (rcm A k)) (nI k) = some (nI (rcm A 8)) := by
  intro d
  induction d with
  | zero =>
    intro k F hk hF
    obtain ⟨F, rfl⟩ : ∃ F', F = F' + 1 := ⟨F - 1, by omega⟩
    rw [fX6_recordedCues_L4, li8, if_pos ((nI_leE (by omega) (by omega)).mpr (by omega)), show k = 8 by omega]
  | succ d ih =>
    intro k F hk hF
    obtain ⟨F, rfl⟩ : ∃ F', F = F' + 1 := ⟨F - 1, by omega⟩
    rw [fX6_recordedCues_L4, li8, if_neg (fun h => by have := (nI_leE (by omega) (by omega)).mp h; omega), isRec_ok hq hC (by omega) (hA k (by omega)), ob_some]
    by_cases h0 : A 6 k = 0
    · rw [if_pos h0, if_pos rfl, li1, nI_addE]
      have e : rcm A (k + 1) = rcm A k := by
        show rcm A k + (if A 6 k = 0 then 0 else 2 ^ k) = rcm A k
        rw [if_pos h0]
        rfl
      rw [← e]
      exact ih (k + 1) F (by omega) (by omega)
    · rw [if_neg h0, if_neg (by decide), lt1_eq, or_bit (by omega) (rcm_lt A k), li1, nI_addE]
      have e : rcm A (k + 1) = rcm A k + 2 ^ k := by
        show rcm A k + (if A 6 k = 0 then 0 else 2 ^ k) = rcm A k + 2 ^ k
        rw [if_neg h0]
      rw [← e]
      exact ih (k + 1) F (by omega) (by omega)
theorem recCues_ok {M : Mem} {q : Nat} {A : SA} (hq : q < 28) (hC : CRel M q A) (hA : ∀ c, c < 8 → A 6 c ≤ 50) : fX6_recordedCues M (pq q 0) = some (nI (rcm A 8)) := by
  unfold fX6_recordedCues
  rw [ifsp (o := 0) (t := 6) hq (by omega) rfl]
  exact ob_in (recCues_L hq hC hA 8 0 5000 (by omega) (by omega)) rfl
theorem rcm_bits (A : SA) : ∀ k, ∀ j, j < k → rcm A k / 2 ^ j % 2 = if A 6 j = 0 then 0 else 1 := by
  intro k
  induction k with
  | zero => intro j hj; omega
  | succ k ih =>
    intro j hj
    show (rcm A k + (if A 6 k = 0 then 0 else 2 ^ k)) / 2 ^ j % 2 = _
    by_cases hjk : j = k
    · subst hjk
      have hlt := rcm_lt A j
      by_cases h0 : A 6 j = 0
      · rw [if_pos h0, if_pos h0, Nat.add_zero, Nat.div_eq_of_lt hlt]
      · rw [if_neg h0, if_neg h0, Nat.add_div_right _ (Nat.two_pow_pos j), Nat.div_eq_of_lt hlt]
    · rw [← ih j (by omega)]
      split
      · rfl
      · obtain ⟨i, rfl⟩ : ∃ i, k = j + 1 + i := ⟨k - j - 1, by omega⟩
        have e : 2 ^ (j + 1 + i) = 2 ^ j * (2 * 2 ^ i) := by rw [Nat.pow_add, Nat.pow_succ, Nat.mul_assoc]
        rw [e, Nat.add_mul_div_left _ _ (Nat.two_pow_pos j), Nat.add_mul_mod_self_left]
theorem rcm_sum (A : SA) : ∀ k, k ≤ 8 → bsum (rcm A 8) k = rcn A k := by
  intro k
  induction k with
  | zero => intro _; rfl
  | succ k ih =>
    intro hk
    show bsum (rcm A 8) k + rcm A 8 / 2 ^ k % 2 = rcn A k + (if A 6 k = 0 then 0 else 1)
    rw [ih (by omega), rcm_bits A 8 k (by omega)]
theorem rcm_count (A : SA) : bsum (rcm A 8) 12 = rcn A 8 := by
  rw [bsum_hi (k := 8) (rcm_lt A 8) 4, rcm_sum A 8 (Nat.le_refl _)]
theorem op_record {M N : Mem} (h : Rel M N) (a1 a2 a3 : Int32) : OK (fX11_record M a1 a2 a3) (fX12_record N a1 a2 a3) := by
  obtain ⟨⟨T, A, hL⟩, n, hR⟩ := id h
  rcases ic a1 2 2 rfl (by omega) with ⟨p, hp, rfl, hpy⟩ | h1
  · have hW := wa_live hL (p := p) (by omega)
    rcases ic a2 7 7 rfl (by omega) with ⟨c, hc, rfl, hcy⟩ | h2
    · by_cases h3 : 1 ≤ a3 ∧ a3 ≤ 50
      · obtain ⟨t, ht, rfl, _⟩ := (ic a3 50 50 rfl (by omega)).resolve_right (fun z => z ⟨Int32.le_trans (by decide) h3.1, h3.2⟩)
        obtain ⟨M1, e1, e2, hL1, hR1⟩ := push_know hL hR
        obtain ⟨M2, g1, g2, g3⟩ := recordCue_ok (t := t) (by omega) (cr_live hL1 (p := p) (by omega)) (c := c) (by omega)
        obtain ⟨N2, k1, k2, k3⟩ := records_ok (t := t) (by omega) (c := c) (by omega) ht (rp_live hL1 (p := p) (by omega)) hW
        have hW' := WA_rec hW (c := c) (by omega) ht
        have hA50 : ∀ c', c' < 8 → recA (A p) c t 6 c' ≤ 50 := fun c' hc' => (hW'.2.2.2.2.2.2.1 c' hc').1
        refine OK_in (r := nI (rcn (recA (A p) c t) 8)) (M := M2) (N := N2) ?_ ?_ (fin_f hL1 hR1 (p := p) (by omega) g3 g2 k3 k2 hW')
        · unfold fX11_record
          rw [find_ok (by omega), ob_some, caseO_some, isCue_ok, ob_some, b01, if_pos hcy, isIn_ok, ob_some, b01, if_pos h3, e1, ob_some, g1, ob_some, recCues_ok (by omega) g2 hA50, ob_some, bc_all (by have := rcm_lt (recA (A p) c t) 8; omega), ob_some, rcm_count]
        · unfold fX12_record fX12_recordFault
          rw [isCueR_ok, ob_some, b01, if_pos ⟨hpy, hcy⟩, in_ok, ob_some, b01, if_pos h3, ob_some, if_pos (by decide), e2, ob_some, k1, ob2_some]
      · refine OK_er (r := -2) h ?_ ?_
        · unfold fX11_record
          rw [find_ok (by omega), ob_some, caseO_some, isCue_ok, ob_some, b01, if_pos hcy, isIn_ok, ob_some, b01, if_neg h3]
        · unfold fX12_record fX12_recordFault
          rw [isCueR_ok, ob_some, b01, if_pos ⟨hpy, hcy⟩, in_ok, ob_some, b01, if_neg h3, ob_some, if_neg (by decide)]
    · refine OK_er (r := -1) h ?_ ?_
      · unfold fX11_record
        rw [find_ok (by omega), ob_some, caseO_some, isCue_ok, ob_some, b01, if_neg h2]
      · unfold fX12_record fX12_recordFault
        rw [isCueR_ok, ob_some, b01, if_neg (fun z => h2 z.2), ob_some, if_neg (by decide)]
  · refine OK_er (r := -1) h ?_ ?_
    · unfold fX11_record
      rw [find_bad h1, ob_some, caseO_none]
    · unfold fX12_record fX12_recordFault
      rw [isCueR_ok, ob_some, b01, if_neg (fun z => h1 z.1), ob_some, if_neg (by decide)]
