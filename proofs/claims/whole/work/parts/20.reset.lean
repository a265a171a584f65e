/-! what a part of an operation leaves as it was; reset -/
def FrC (M M' : Mem) (q : Nat) : Prop := ∀ x, (∀ o, o < 23 → x ≠ pq q o) → M' x = M x
def FrN (N N' : Mem) (p : Nat) : Prop := (∀ x, x ≠ 1 → N' x = N x) ∧ ∀ k, ¬ (PB p ≤ k ∧ k < PB p + 223) → N' 1 k = N 1 k
theorem FrC.rf {M : Mem} {q : Nat} : FrC M M q := fun _ _ => rfl
theorem FrC.tr {M1 M2 M3 : Mem} {q : Nat} (h1 : FrC M1 M2 q) (h2 : FrC M2 M3 q) : FrC M1 M3 q := fun x hx => (h2 x hx).trans (h1 x hx)
theorem FrN.rf {N : Mem} {p : Nat} : FrN N N p := ⟨fun _ _ => rfl, fun _ _ => rfl⟩
theorem FrN.tr {N1 N2 N3 : Mem} {p : Nat} (h1 : FrN N1 N2 p) (h2 : FrN N2 N3 p) : FrN N1 N3 p := ⟨fun x hx => (h2.1 x hx).trans (h1.1 x hx), fun k hk => (h2.2 k hk).trans (h1.2 k hk)⟩
theorem FrN.keep {N N' : Mem} {p : Nat} (h : FrN N N' p) : KeepN N N' := ⟨by rw [h.1 0 (by omega)], by rw [h.1 0 (by omega)], h.1 3 (by omega), h.1 4 (by omega), h.1 5 (by omega), h.1 6 (by omega)⟩
theorem FrN.up {N : Mem} {p k : Nat} {v : Int32} (h : PB p ≤ k ∧ k < PB p + 223) : FrN N (up2 N 1 k v) p := ⟨fun x hx => up2_ne hx, fun q hq => N1_ne (by omega)⟩
theorem FrC.up {M : Mem} {q o k : Nat} {v : Int32} (ho : o < 23) : FrC M (up2 M (pq q o) k v) q := fun x hx => up2_ne (hx o ho)
theorem FrC.set {M : Mem} {q o k m : Nat} {f : Nat → Int32} (ho : o < 23) : FrC M (setR M (pq q o) k m f) q := fun x hx => setR_other (hx o ho)
theorem fin_f {M N M' N' : Mem} {T : SA} {A : PA} {n p : Nat} {B : SA} (hL : Live M N T A) (hR : Rst M N n) (hp : p < 3) (hM : FrC M M' p) (hC : CRel M' p B) (hN : FrN N N' p) (hRP : RP (N' 1) p B) (hW : WA (T 2 0) B) : Live M' N' T (upP A p B) ∧ Rst M' N' n :=
  fin_p hL hR hp (fun x hx _ => hM x hx) hC hN.2 hN.keep hRP hW
def clrA (A : SA) : SA := fun o j => if o = 19 ∨ o = 20 ∨ o = 21 ∨ o = 22 then 0 else A o j
def rsA (A : SA) : Nat := bsum (A 19 1) 12 + bsum (A 21 1) 12
theorem bsum_hi {m k : Nat} (hm : m < 2 ^ k) : ∀ d, bsum m (k + d) = bsum m k := by
  intro d
  induction d with
  | zero => rfl
  | succ d ih =>
    show bsum m (k + d) + m / 2 ^ (k + d) % 2 = bsum m k
    rw [ih, Nat.div_eq_of_lt (Nat.lt_of_lt_of_le hm (Nat.pow_le_pow_right (by omega) (by omega)))]
    rfl
theorem clrD_ok {M : Mem} {q : Nat} {A : SA} (hq : q < 28) (hC : CRel M q A) (hm : A 19 1 < 4096) : fX0_clearTrips M (pq q 19) = some (nI (bsum (A 19 1) 12), setR (up2 M (pq q 19) 1 0) (pq q 20) 0 12 (fun _ => 0)) := by
  unfold fX0_clearTrips
  rw [if_pos (show shp (pq q 19) = 0 from sp0 hq (by omega) rfl)]
  refine ob_in (gI_ok (sp0 hq (by omega) rfl)) ?_
  rw [cr19 hC]
  refine ob_in (bc_all hm) ?_
  refine ob_in (pI_ok (sp0 hq (by omega) rfl)) ?_
  refine ob_in (gR_ok (x := pq q 20) (sp0 hq (by omega) rfl) rf_pq19) ?_
  exact ob_in (clear_ok (n := 12) (sp0 hq (by omega) rfl) (lp0 hq (by omega) rfl) (by omega)) rfl
theorem clrP_ok {M : Mem} {q m : Nat} (hq : q < 28) (hC : M (pq q 21) 1 = nI m) (hm : m < 4096) : fX0_clearTrips M (pq q 21) = some (nI (bsum m 12), setR (up2 M (pq q 21) 1 0) (pq q 22) 0 3 (fun _ => 0)) := by
  unfold fX0_clearTrips
  rw [if_pos (show shp (pq q 21) = 0 from sp0 hq (by omega) rfl)]
  refine ob_in (gI_ok (sp0 hq (by omega) rfl)) ?_
  rw [hC]
  refine ob_in (bc_all hm) ?_
  refine ob_in (pI_ok (sp0 hq (by omega) rfl)) ?_
  refine ob_in (gR_ok (x := pq q 22) (sp0 hq (by omega) rfl) rf_pq21) ?_
  exact ob_in (clear_ok (n := 3) (sp0 hq (by omega) rfl) (lp0 hq (by omega) rfl) (by omega)) rfl
theorem clearTrips_ok {M : Mem} {q told : Nat} {A : SA} (hq : q < 28) (hC : CRel M q A) (hW : WA told A) : ∃ M', fX6_clearTrips M (pq q 0) = some (nI (rsA A), M') ∧ CRel M' q (clrA A) ∧ FrC M M' q := by
  obtain ⟨-, -, -, -, -, -, -, w8, w9, -⟩ := hW
  refine ⟨setR (up2 (setR (up2 M (pq q 19) 1 0) (pq q 20) 0 12 (fun _ => 0)) (pq q 21) 1 0) (pq q 22) 0 3 (fun _ => 0), ?_, ?_, FrC.tr (FrC.tr (FrC.tr (FrC.up (o := 19) (by omega)) (FrC.set (o := 20) (by omega))) (FrC.up (o := 21) (by omega))) (FrC.set (o := 22) (by omega))⟩
  · unfold fX6_clearTrips
    rw [if_pos (show shp (pq q 0) = 6 from sp0 hq (by omega) rfl)]
    refine ob_in (gR_ok (x := pq q 19) (sp0 hq (by omega) rfl) (rf_pq0 (by omega))) ?_
    refine ob2_in (clrD_ok hq hC w8) ?_
    refine ob_in (gR_ok (x := pq q 21) (sp0 hq (by omega) rfl) (rf_pq0 (by omega))) ?_
    refine ob2_in (clrP_ok (m := A 21 1) hq (by simp (disch := first | omega | assumption | decide | (simp only [pq, st, ne_eq]; omega)) only [up2_same, setR_same, up2_ne, setR_other]; exact cr21 hC) (by omega)) ?_
    rw [nI_addE]
    rfl
  · intro o j ho hv
    unfold clrA
    by_cases h22 : o = 22
    · subst h22
      rw [setR_same, if_pos ⟨Nat.zero_le _, of_decide_eq_true hv⟩, if_pos (by omega)]
      rfl
    · rw [setR_other (fun z => by rw [pq_eq ho (by omega)] at z; exact h22 z.2)]
      by_cases h21 : o = 21
      · subst h21
        rw [up2_same, if_pos (of_decide_eq_true hv), if_pos (by omega)]
        rfl
      · rw [up2_ne (fun z => by rw [pq_eq ho (by omega)] at z; exact h21 z.2)]
        by_cases h20 : o = 20
        · subst h20
          rw [setR_same, if_pos ⟨Nat.zero_le _, of_decide_eq_true hv⟩, if_pos (by omega)]
          rfl
        · rw [setR_other (fun z => by rw [pq_eq ho (by omega)] at z; exact h20 z.2)]
          by_cases h19 : o = 19
          · subst h19
            rw [up2_same, if_pos (of_decide_eq_true hv), if_pos (by omega)]
            rfl
          · rw [up2_ne (fun z => by rw [pq_eq ho (by omega)] at z; exact h19 z.2), if_neg (by omega), hC o j ho hv]
def row (N : Mem) (i : Nat) (f : Nat → Int32) : Mem := fun x => if x = i then f else N x
theorem row_same {N : Mem} {i : Nat} {f : Nat → Int32} : row N i f i = f := if_pos rfl
theorem row_ne {N : Mem} {i x : Nat} {f : Nat → Int32} (h : x ≠ i) : row N i f x = N x := if_neg h
def zr (σ : Nat → Int32) (p k : Nat) : Nat → Int32 := fun q => if (AX p (87 + k) ≤ q ∧ q < AX p 102) ∨ (AX p (102 + k) ≤ q ∧ q < AX p 117) then 0 else σ q
def bitU (A : SA) (u : Nat) : Nat := if u < 12 then A 19 1 / 2 ^ u % 2 else A 21 1 / 2 ^ (u - 12) % 2
def rsU (A : SA) : Nat → Nat
  | 0 => 0
  | u + 1 => rsU A u + bitU A u
theorem rsU_12 (A : SA) : ∀ u, u ≤ 12 → rsU A u = bsum (A 19 1) u := by
  intro u
  induction u with
  | zero => intro _; rfl
  | succ u ih =>
    intro h
    show rsU A u + bitU A u = bsum (A 19 1) u + A 19 1 / 2 ^ u % 2
    unfold bitU
    rw [ih (by omega), if_pos (by omega)]
theorem rsU_15 (A : SA) (h : A 21 1 < 8) : rsU A 15 = rsA A := by
  have h12 := rsU_12 A 12 (Nat.le_refl _)
  show ((rsU A 12 + bitU A 12) + bitU A 13) + bitU A 14 = rsA A
  have e : bsum (A 21 1) 12 = bsum (A 21 1) 3 := bsum_hi (k := 3) h 9
  unfold rsA bitU
  rw [h12, e]
  show bsum (A 19 1) 12 + A 21 1 / 2 ^ 0 % 2 + A 21 1 / 2 ^ 1 % 2 + A 21 1 / 2 ^ 2 % 2 = bsum (A 19 1) 12 + (((0 + A 21 1 / 2 ^ 0 % 2) + A 21 1 / 2 ^ 1 % 2) + A 21 1 / 2 ^ 2 % 2)
  omega
theorem resets_L {p : Nat} {A : SA} (hp : p < 3) : ∀ (d k F : Nat) (N : Mem), k + d = 15 → d < F → (∀ u, k ≤ u → u < 15 → N 1 (AX p (87 + u)) = nI (bitU A u)) → fX12_resets_L4 F N (nI p) (nI (rsU A k)) (nI k) = some (nI (rsU A 15), row N 1 (zr (N 1) p k)) := by
  intro d
  induction d with
  | zero =>
    intro k F N hk hF hN
    obtain ⟨F, rfl⟩ : ∃ F', F = F' + 1 := ⟨F - 1, by omega⟩
    rw [fX12_resets_L4, li15, if_pos ((nI_leE (by omega) (by omega)).mpr (by omega)), show k = 15 by omega]
    congr 2
    funext x
    by_cases hx : x = 1
    · subst hx
      rw [row_same]
      funext q
      unfold zr AX
      rw [if_neg (by omega)]
    · rw [row_ne hx]
  | succ d ih =>
    intro k F N hk hF hN
    obtain ⟨F, rfl⟩ : ∃ F', F = F' + 1 := ⟨F - 1, by omega⟩
    rw [fX12_resets_L4, li15, if_neg (fun h => by have := (nI_leE (by omega) (by omega)).mp h; omega), li87, nI_addE, at1_ok, ob_some, s30 (AX_lt hp (by omega)), ob_some, hN k (Nat.le_refl _) (by omega), nI_addE, lt1_eq, ob_some, w30 (AX_lt hp (by omega)), ob_some, li102, nI_addE, at1_ok, ob_some, w30 (AX_lt hp (by omega)), ob_some, li1, nI_addE]
    have e := ih (k + 1) F (up2 (up2 N 1 (AX p (87 + k)) 0) 1 (AX p (102 + k)) 0) (by omega) (by omega) (fun u h1 h2 => by
      rw [N1_ne (by unfold AX; omega), N1_ne (by unfold AX; omega)]
      exact hN u (by omega) h2)
    refine e.trans ?_
    congr 2
    funext x
    by_cases hx : x = 1
    · subst hx
      rw [row_same, row_same]
      funext q
      unfold zr
      rw [up2_row, up2_row]
      by_cases h1 : q = AX p (102 + k)
      · subst h1
        rw [upd_eq, ite_self, if_pos (Or.inr ⟨Nat.le_refl _, by unfold AX; omega⟩)]
      · rw [upd_ne h1]
        by_cases h2 : q = AX p (87 + k)
        · subst h2
          rw [upd_eq, ite_self, if_pos (Or.inl ⟨Nat.le_refl _, by unfold AX; omega⟩)]
        · rw [upd_ne h2]
          by_cases h3 : (AX p (87 + k) ≤ q ∧ q < AX p 102) ∨ (AX p (102 + k) ≤ q ∧ q < AX p 117)
          · rw [if_pos h3, if_pos (by unfold AX at h1 h2 h3 ⊢; omega)]
          · rw [if_neg h3, if_neg (by unfold AX at h1 h2 h3 ⊢; omega)]
    · rw [row_ne hx, row_ne hx, up2_ne hx, up2_ne hx]
theorem RP_clr {σ : Nat → Int32} {p : Nat} {A : SA} (h : RP σ p A) (hm : A 0 2 ≤ 12) : RP (zr σ p 0) p (clrA A) := by
  obtain ⟨a1, a2, a3, a4, a5, a6, a7, a8, a9, a10⟩ := h
  have hs : ∀ k, ¬ (AX p 87 ≤ k ∧ k < AX p 117) → zr σ p 0 k = σ k := fun k hk => by
    unfold zr
    rw [if_neg (by unfold AX at hk ⊢; omega)]
  have hz : ∀ k, AX p 87 ≤ k → k < AX p 117 → zr σ p 0 k = 0 := fun k h1 h2 => by
    unfold zr
    rw [if_pos (by unfold AX at h1 h2 ⊢; omega)]
  have e : ∀ o j, ¬ (o = 19 ∨ o = 20 ∨ o = 21 ∨ o = 22) → clrA A o j = A o j := fun o j ho => if_neg ho
  have z : ∀ o j, (o = 19 ∨ o = 20 ∨ o = 21 ∨ o = 22) → clrA A o j = 0 := fun o j ho => if_pos ho
  refine ⟨fun j hj => ?_, fun i hi => ?_, fun d hd => ?_, fun d hd => ?_, fun d hd => ?_, fun d hd => ?_, fun d hd => ?_, fun c hc => ⟨?_, fun i hi => ?_⟩, ?_, fun h0 => ?_⟩
  · rw [hs _ (by unfold AX PB; omega), e _ _ (by omega)]; exact a1 j hj
  · rw [e _ _ (by omega)] at hi
    rw [hs _ (by unfold AX PB; omega), hs _ (by unfold AX PB; omega), hs _ (by unfold AX PB; omega), hs _ (by unfold AX PB; omega), hs _ (by unfold AX PB; omega), hs _ (by unfold AX PB; omega), e _ _ (by omega), e _ _ (by omega), e _ _ (by omega), e _ _ (by omega), e _ _ (by omega), e _ _ (by omega)]
    exact a2 i hi
  · rw [hs _ (by unfold AX PB; omega), e _ _ (by omega)]; exact a3 d hd
  · rw [hz _ (by unfold AX PB; omega) (by unfold AX PB; omega), z _ _ (by omega), Nat.zero_div]; rfl
  · rw [hz _ (by unfold AX PB; omega) (by unfold AX PB; omega), z _ _ (by omega), Nat.zero_div]; rfl
  · rw [hz _ (by unfold AX PB; omega) (by unfold AX PB; omega), z _ _ (by omega)]; rfl
  · rw [hz _ (by unfold AX PB; omega) (by unfold AX PB; omega), z _ _ (by omega)]; rfl
  · rw [hs _ (by unfold AX PB; omega), e _ _ (by omega)]; exact (a8 c hc).1
  · rw [e _ _ (by omega)] at hi
    rw [hs _ (by unfold AX PB; omega), e _ _ (by omega)]; exact (a8 c hc).2 i hi
  · rw [hs _ (by unfold AX PB; omega), e _ _ (by omega)]; exact a9
  · rw [e _ _ (by omega)] at h0
    rw [hs _ (by unfold AX PB; omega), e _ _ (by omega)]; exact a10 h0
theorem resets_ok {N : Mem} {p told : Nat} {A : SA} (hp : p < 3) (h : RP (N 1) p A) (hW : WA told A) : ∃ N', fX12_resets N (nI p) = some (nI (rsA A), N') ∧ RP (N' 1) p (clrA A) ∧ FrN N N' p := by
  refine ⟨row N 1 (zr (N 1) p 0), ?_, by rw [row_same]; exact RP_clr h hW.1.2.2, fun x hx => row_ne hx, fun k hk => ?_⟩
  · unfold fX12_resets
    have e := resets_L (A := A) hp 15 0 5000 N (by omega) (by omega) (fun u _ hu => by
      unfold bitU
      by_cases h12 : u < 12
      · rw [if_pos h12, ra87 h h12]
      · rw [if_neg h12, ← ra99 h (d := u - 12) (by omega)]
        exact congrArg (N 1) (by unfold AX; omega))
    obtain ⟨-, -, -, -, -, -, -, -, w9, -⟩ := hW
    rw [rsU_15 A w9] at e
    exact ob2_in e rfl
  · rw [row_same]
    unfold zr
    rw [if_neg (by unfold AX; unfold PB at hk; omega)]
theorem WA_clr {told : Nat} {A : SA} (h : WA told A) : WA told (clrA A) := by
  obtain ⟨h1, h2, h3, h4, h5, h6, h7, h8, h9, h10, h11, h12, h13, h14⟩ := h
  have e : ∀ c j, c < 8 → clrA A (8 + c) j = A (8 + c) j := fun c j hc => if_neg (by omega)
  refine ⟨by simpa [clrA] using h1, by simpa [clrA] using h2, by simpa [clrA] using h3, by simpa [clrA] using h4, fun j hj1 hj2 => ?_, by simpa [clrA] using h6, fun c hc => ⟨by simpa [clrA] using (h7 c hc).1, fun j hj => by rw [e c j hc]; exact (h7 c hc).2 j hj⟩, by simp [clrA], by simp [clrA], fun d hd => by simp [clrA], fun d hd => by simp [clrA], by simpa [clrA] using h12, by simpa [clrA] using h13, by simpa [clrA] using h14⟩
  have := h5 j (by simpa [clrA] using hj1) hj2
  exact ⟨by simpa [clrA] using this.1, by simpa [clrA] using this.2.1, by simpa [clrA] using this.2.2.1, by simpa [clrA] using this.2.2.2.1, fun c hc => by rw [e c j hc]; exact this.2.2.2.2 c hc⟩
theorem op_reset {M N : Mem} (h : Rel M N) (a1 : Int32) : OK (fX11_reset M a1) (fX12_reset N a1) := by
  obtain ⟨⟨T, A, hL⟩, n, hR⟩ := id h
  rcases ic a1 2 2 rfl (by omega) with ⟨p, hp, rfl, hpy⟩ | h1
  · have hW := wa_live hL (p := p) (by omega)
    obtain ⟨M1, e1, e2, hL1, hR1⟩ := push_know hL hR
    obtain ⟨M2, g1, g2, g3⟩ := clearTrips_ok (by omega) (cr_live hL1 (p := p) (by omega)) hW
    obtain ⟨N2, k1, k2, k3⟩ := resets_ok (by omega) (rp_live hL1 (p := p) (by omega)) hW
    refine OK_in (r := nI (rsA (A p))) (M := M2) (N := N2) ?_ ?_ (fin_f hL1 hR1 (p := p) (by omega) g3 g2 k3 k2 (WA_clr hW))
    · unfold fX11_reset
      rw [find_ok (by omega), ob_some, caseO_some, e1, ob_some, g1, ob2_some]
    · unfold fX12_reset
      rw [isPrem_ok, ob_some, b01, if_pos hpy, e2, ob_some, k1, ob2_some]
  · refine OK_er (r := -1) h ?_ ?_
    · unfold fX11_reset
      rw [find_bad h1, ob_some, caseO_none]
    · unfold fX12_reset
      rw [isPrem_ok, ob_some, b01, if_neg h1]
