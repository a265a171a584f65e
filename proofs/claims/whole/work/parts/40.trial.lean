/-! ifGo, safeTicks: a trial of a cue -/
def gm (f : Nat → Nat) : Nat → Nat
  | 0 => 0
  | n + 1 => max (gm f n) (f n)
theorem gm_le {f : Nat → Nat} {K : Nat} : ∀ n, (∀ i, i < n → f i ≤ K) → gm f n ≤ K := by
  intro n
  induction n with
  | zero => intro _; exact Nat.zero_le _
  | succ n ih =>
    intro h
    have h1 := ih (fun i hi => h i (by omega))
    have h2 := h n (by omega)
    show max _ _ ≤ K
    omega
theorem gmax_gm {g : Nat → Int32} {f : Nat → Nat} : ∀ n, (∀ i, i < n → g i = nI (f i)) → (∀ i, i < n → f i ≤ 24000) → gmax 0 g n = nI (gm f n) := by
  intro n
  induction n with
  | zero => intro _ _; rfl
  | succ n ih =>
    intro h hb
    have b1 := gm_le n (fun i hi => hb i (show i < n + 1 by omega))
    have b2 := hb n (by omega)
    show mx (gmax 0 g n) (g n) = nI (max (gm f n) (f n))
    rw [ih (fun i hi => h i (by omega)) (fun i hi => hb i (by omega)), h n (by omega), mx_nI (by omega) (by omega)]
abbrev TS : Type := SA × Nat × Nat × Nat × Nat
def stp (T : SA) (i : Nat) (x : TS) : TS := (psA T x.1, x.2.1 + psR T x.1, (if psR T x.1 = 0 then x.2.2.1 else if x.2.1 = 0 then i else x.2.2.1), max x.2.2.2.1 (gm (lF T (psA T x.1)) 12), max x.2.2.2.2 (gm (fun k => lF T (psA T x.1) (12 + k)) 3))
def run (T : SA) : Nat → Nat → TS → TS
  | 0, _, x => x
  | e + 1, i, x => run T e (i + 1) (stp T i x)
def fI (f : Nat) : Int32 := if f = 0 then -6 else nI f
/-- what holds of a trial with e ticks to come -/
def VT (T : SA) (x : TS) (e i : Nat) : Prop := WA (T 2 0) x.1 ∧ (x.2.2.1 = 0 ↔ x.2.1 = 0) ∧ x.2.1 + 15 * e ≤ 3000 ∧ x.2.2.1 ≤ 100 ∧ x.2.2.2.1 ≤ 24000 ∧ x.2.2.2.2 ≤ 24000 ∧ 1 ≤ i ∧ e + i ≤ 100
theorem psR_le {T A : SA} : psR T A ≤ 15 := by
  have t12 : ∀ n, trs (cb (stepA A) 0) (fb T (stepA A) 0) (T 1 0) (T 1 2) n ≤ n := trs_le
  have t3 : ∀ n, trs (cb (psD T A) 12) (fb T (psD T A) 12) (T 1 1) (T 1 2) n ≤ n := trs_le
  have h1 : psR1 T A ≤ 12 := t12 12
  have h2 : psR2 T A ≤ 3 := t3 3
  unfold psR
  omega
theorem lF_le {T A : SA} {u : Nat} (hWT : WT T) (hW : WA (T 2 0) A) : lF T A u ≤ 24000 := sN_le hWT hW
theorem VT_stp {T : SA} {x : TS} {e i : Nat} (hWT : WT T) (h : VT T x (e + 1) i) : VT T (stp T i x) e (i + 1) := by
  obtain ⟨h1, h2, h3, h4, h5, h6, h7, h8⟩ := h
  have hr := psR_le (T := T) (A := x.1)
  have hW := WA_ps hWT h1
  have g1 := gm_le (f := lF T (psA T x.1)) 12 (fun i _ => lF_le hWT hW)
  have g2 := gm_le (f := fun k => lF T (psA T x.1) (12 + k)) 3 (fun i _ => lF_le hWT hW)
  refine ⟨hW, ?_, ?_, ?_, ?_, ?_, by omega, by omega⟩
  · show (if psR T x.1 = 0 then x.2.2.1 else if x.2.1 = 0 then i else x.2.2.1) = 0 ↔ x.2.1 + psR T x.1 = 0
    by_cases z : psR T x.1 = 0
    · rw [if_pos z, z, Nat.add_zero]
      exact h2
    · rw [if_neg z]
      by_cases z2 : x.2.1 = 0
      · rw [if_pos z2]
        omega
      · rw [if_neg z2]
        omega
  · show x.2.1 + psR T x.1 + 15 * e ≤ 3000
    omega
  · show (if psR T x.1 = 0 then x.2.2.1 else if x.2.1 = 0 then i else x.2.2.1) ≤ 100
    split
    · exact h4
    · split
      · omega
      · exact h4
  · show max _ _ ≤ 24000
    omega
  · show max _ _ ≤ 24000
    omega
/-- the class's memory, the reference's, in a trial -/
def CI (T : SA) (M0 M : Mem) (x : TS) : Prop := CRel M 27 x.1 ∧ M 33 1 = nI x.2.1 ∧ M 33 2 = fI x.2.2.1 ∧ M 33 3 = nI x.2.2.2.1 ∧ M 33 4 = nI x.2.2.2.2 ∧ ∀ y, KX y → M y = M0 y
def RI (T : SA) (p : Nat) (N0 N : Mem) (x : TS) : Prop := RT (N 1) T ∧ RP (N 1) p x.1 ∧ N 0 17 = nI x.2.1 ∧ N 0 18 = fI x.2.2.1 ∧ N 0 19 = nI x.2.2.2.1 ∧ N 0 20 = nI x.2.2.2.2 ∧ (∀ y, y ≠ 0 → y ≠ 1 → N y = N0 y) ∧ ∀ k, k < 17 → N 0 k = N0 0 k
theorem CT_KX {M0 M : Mem} {T : SA} (h : CT M0 0 T) (hk : ∀ y, KX y → M y = M0 y) : CT M 0 T := CT_congr h (fun o ho => hk _ (Or.inr (Or.inl (by unfold st; omega))))
theorem FrP_27 {M M' : Mem} (h : FrP M M' 27) : ∀ y, KX y → M' y = M y := fun y hy => h y (fun o ho z => by
  subst z
  unfold KX KM pq at hy
  omega) (by have := KX_hi hy; omega) (by have := KX_hi hy; omega)
theorem c35_ok {M : Mem} {T : SA} {j : Nat} (hj : j < 3) (hT : CT M 0 T) : aL 20 M 35 (nI j) = some (nI (T 1 j)) := by
  refine (aL_ok (n := 3) rfl rfl hj (by omega)).trans ?_
  rw [show M 35 j = nI (T 1 j) from ct1 hT hj]
theorem f6 {f : Nat} (h : f ≤ 100) : (fI f = -6) = (f = 0) := by
  unfold fI
  by_cases h0 : f = 0
  · rw [if_pos h0]
    simp [h0]
  · rw [if_neg h0]
    refine propext ⟨fun z => ?_, fun z => absurd z h0⟩
    rw [li6] at z
    exact ((nI_negE (by omega) (by omega) (by omega)).mp z).elim
theorem playC_L {T : SA} {M0 : Mem} {t : Nat} (hWT : WT T) (hT0 : CT M0 0 T) (ht : t ≤ 50) : ∀ (e i F : Nat) (M : Mem) (x : TS), i + e = t + T 1 2 + 1 → e < F → VT T x e i → CI T M0 M x → ∃ M', fX8_playToTheEnd_L31 F M 34 23 (nI t) (nI i) = some M' ∧ CI T M0 M' (run T e i x) := by
  have htk := hWT.2.2.1
  intro e
  induction e with
  | zero =>
    intro i F M x hi hF hV hI
    obtain ⟨F, rfl⟩ : ∃ F', F = F' + 1 := ⟨F - 1, by omega⟩
    have hT := CT_KX hT0 hI.2.2.2.2.2
    refine ⟨M, ?_, hI⟩
    rw [fX8_playToTheEnd_L31]
    refine ob_in (gR_ok (x := 35) rfl rfl) ?_
    refine ob_in (c35_ok (j := 2) (by omega) hT) ?_
    rw [nI_addE, if_pos (nI_lt (by omega) (by omega))]
  | succ e ih =>
    intro i F M x hi hF hV hI
    obtain ⟨F, rfl⟩ : ∃ F', F = F' + 1 := ⟨F - 1, by omega⟩
    have hT := CT_KX hT0 hI.2.2.2.2.2
    obtain ⟨i1, i2, i3, i4, i5, i6⟩ := hI
    obtain ⟨M1, a1, a2, a3, a4⟩ := pass_ok (show 27 < 28 by omega) i1 hT hWT hV.1
    have hr := psR_le (T := T) (A := x.1)
    have hVs := VT_stp hWT hV
    have m33 : M1 33 = M 33 := a2 33 (fun o _ => by unfold pq; omega) (by omega) (by omega)
    have hW := WA_ps hWT hV.1
    have b1 := gm_le (f := lF T (psA T x.1)) 12 (fun i _ => lF_le hWT hW)
    have b2 := gm_le (f := fun k => lF T (psA T x.1) (12 + k)) 3 (fun i _ => lF_le hWT hW)
    have v5 := hV.2.2.2.2.1
    have v6 := hV.2.2.2.2.2.1
    -- the first trip
    obtain ⟨M2, c1, c2, c3⟩ : ∃ M2, (if nI (psR T x.1) ≤ 0 then some M1 else (gI 8 2 M1 33).bind fun v40 => if v40 = -6 then (pI 8 2 M1 33 (nI i)).bind fun M43 => some M43 else some M1) = some M2 ∧ (∀ y, y ≠ 33 → M2 y = M1 y) ∧ ∀ k, M2 33 k = if k = 2 then fI (stp T i x).2.2.1 else M 33 k := by
      have es : (stp T i x).2.2.1 = if psR T x.1 = 0 then x.2.2.1 else if x.2.1 = 0 then i else x.2.2.1 := rfl
      rw [es]
      by_cases z : psR T x.1 = 0
      · refine ⟨M1, ?_, fun _ _ => rfl, fun k => ?_⟩
        · rw [z]
          exact if_pos (by decide)
        · rw [if_pos z, m33]
          by_cases hk : k = 2
          · rw [if_pos hk, hk, i3]
          · rw [if_neg hk]
      · rw [if_neg z, if_neg (show ¬ nI (psR T x.1) ≤ 0 from fun q => by rw [li0] at q; have := (nI_leE (by omega) (by omega)).mp q; omega), gI_ok (show shp 33 = 8 from rfl), ob_some, m33, i3]
        by_cases z2 : x.2.2.1 = 0
        · have z3 := hV.2.1.mp z2
          refine ⟨up2 M1 33 2 (nI i), ?_, fun y hy => up2_ne hy, fun k => ?_⟩
          · rw [if_pos ((f6 hV.2.2.2.1).mpr z2), pI_ok (show shp 33 = 8 from rfl), ob_some]
          · rw [up2_same, if_pos z3, m33]
            have hi0 : fI i = nI i := if_neg (by have := hV.2.2.2.2.2.2.1; omega)
            rw [hi0]
        · refine ⟨M1, ?_, fun _ _ => rfl, fun k => ?_⟩
          · rw [if_neg (fun q => z2 ((f6 hV.2.2.2.1).mp q))]
          · rw [if_neg (fun q => z2 (hV.2.1.mpr q)), m33]
            by_cases hk : k = 2
            · rw [if_pos hk, hk, i3]
            · rw [if_neg hk]
    obtain ⟨M3, hM3⟩ : ∃ M3, M3 = up2 M2 33 1 (nI (x.2.1 + psR T x.1)) := ⟨_, rfl⟩
    obtain ⟨M4, hM4⟩ : ∃ M4, M4 = up2 M3 33 3 (nI (max x.2.2.2.1 (gm (lF T (psA T x.1)) 12))) := ⟨_, rfl⟩
    obtain ⟨M5, hM5⟩ : ∃ M5, M5 = up2 M4 33 4 (nI (max x.2.2.2.2 (gm (fun k => lF T (psA T x.1) (12 + k)) 3))) := ⟨_, rfl⟩
    have o3 : ∀ y, y ≠ 33 → M3 y = M1 y := fun y hy => by rw [hM3, up2_ne hy, c2 y hy]
    have o4 : ∀ y, y ≠ 33 → M4 y = M1 y := fun y hy => by rw [hM4, up2_ne hy, o3 y hy]
    have o5 : ∀ y, y ≠ 33 → M5 y = M1 y := fun y hy => by rw [hM5, up2_ne hy, o4 y hy]
    have q3 : M3 33 3 = nI x.2.2.2.1 := by rw [hM3, up2_same, if_neg (by omega), c3, if_neg (by omega), i4]
    have q4 : M4 33 4 = nI x.2.2.2.2 := by rw [hM4, up2_same, if_neg (by omega), hM3, up2_same, if_neg (by omega), c3, if_neg (by omega), i5]
    have gr1 : fX11_greatest M3 24 = some (nI (gm (lF T (psA T x.1)) 12)) := by
      refine (greatest_ok (n := 12) rfl rfl (by omega)).trans ?_
      rw [gmax_gm 12 (fun j hj => by rw [o3 24 (by omega)]; exact a4.1 j hj) (fun j _ => lF_le hWT hW)]
    have gr2 : fX11_greatest M4 25 = some (nI (gm (fun k => lF T (psA T x.1) (12 + k)) 3)) := by
      refine (greatest_ok (n := 3) rfl rfl (by omega)).trans ?_
      rw [gmax_gm (f := fun k => lF T (psA T x.1) (12 + k)) 3 (fun j hj => by rw [o4 25 (by omega)]; exact a4.2 j hj) (fun j _ => lF_le hWT hW)]
    have hI' : CI T M0 M5 (stp T i x) := by
      refine ⟨CRel_congr a3 (fun o ho => o5 _ (by unfold pq; omega)), ?_, ?_, ?_, ?_, fun y hy => ?_⟩
      · rw [hM5, up2_same, if_neg (by omega), hM4, up2_same, if_neg (by omega), hM3, up2_same, if_pos rfl]
        rfl
      · rw [hM5, up2_same, if_neg (by omega), hM4, up2_same, if_neg (by omega), hM3, up2_same, if_neg (by omega), c3, if_pos rfl]
      · rw [hM5, up2_same, if_neg (by omega), hM4, up2_same, if_pos rfl]
        rfl
      · rw [hM5, up2_same, if_pos rfl]
        rfl
      · rw [o5 y (by have := KX_hi hy; omega), FrP_27 a2 y hy, i6 y hy]
    obtain ⟨M', g1, g2⟩ := ih (i + 1) F M5 (stp T i x) (by omega) (by omega) hVs hI'
    refine ⟨M', ?_, g2⟩
    rw [fX8_playToTheEnd_L31]
    refine ob_in (gR_ok (x := 35) rfl rfl) ?_
    refine ob_in (c35_ok (j := 2) (by omega) hT) ?_
    rw [nI_addE, if_neg (fun q => by have := (nI_ltE (by omega) (by omega)).mp q; omega)]
    refine ob2_in a1 ?_
    refine ob_in c1 ?_
    refine ob_in (gI_ok (show shp 33 = 8 from rfl)) ?_
    rw [c3, if_neg (by omega), i2, nI_addE]
    refine ob_in (pI_ok (show shp 33 = 8 from rfl)) ?_
    rw [← hM3]
    refine ob_in (gI_ok (show shp 33 = 8 from rfl)) ?_
    refine ob_in (gR_ok (x := 24) rfl rfl) ?_
    refine ob_in gr1 ?_
    have x1 : (if M3 33 3 < nI (gm (lF T (psA T x.1)) 12) then nI (gm (lF T (psA T x.1)) 12) else M3 33 3) = nI (max x.2.2.2.1 (gm (lF T (psA T x.1)) 12)) := by
      rw [q3]
      exact mx_nI (by omega) (by omega)
    rw [x1]
    refine ob_in (pI_ok (show shp 33 = 8 from rfl)) ?_
    rw [← hM4]
    refine ob_in (gI_ok (show shp 33 = 8 from rfl)) ?_
    refine ob_in (gR_ok (x := 25) rfl rfl) ?_
    refine ob_in gr2 ?_
    have x2 : (if M4 33 4 < nI (gm (fun k => lF T (psA T x.1) (12 + k)) 3) then nI (gm (fun k => lF T (psA T x.1) (12 + k)) 3) else M4 33 4) = nI (max x.2.2.2.2 (gm (fun k => lF T (psA T x.1) (12 + k)) 3)) := by
      rw [q4]
      exact mx_nI (by omega) (by omega)
    rw [x2]
    refine ob_in (pI_ok (show shp 33 = 8 from rfl)) ?_
    rw [← hM5, li1, nI_addE]
    exact g1
