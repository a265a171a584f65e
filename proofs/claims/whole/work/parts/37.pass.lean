/-! a tick of a premiere -/
def cb (A : SA) (b : Nat) : Nat → Nat := fun d => cU A (b + d)
def fb (T A : SA) (b : Nat) : Nat → Nat := fun d => lF T A (b + d)
def trG (T A : SA) (b n lim oc om : Nat) : SA := fun o j => if o = oc ∧ j < n then fin (cb A b) (fb T A b) lim (T 1 2) j else if o = om ∧ j = 1 then mkk (cb A b) (fb T A b) lim (T 1 2) (A om 1) n else A o j
abbrev DP (b n oc om : Nat) : Prop := (b = 0 ∧ n = 12 ∧ oc = 20 ∧ om = 19) ∨ (b = 12 ∧ n = 3 ∧ oc = 22 ∧ om = 21)
theorem trG_o {T A : SA} {b n lim oc om o j : Nat} (h1 : o ≠ oc) (h2 : o ≠ om) : trG T A b n lim oc om o j = A o j := by
  unfold trG
  rw [if_neg (fun z => h1 z.1), if_neg (fun z => h2 z.1)]
theorem trG_c {T A : SA} {b n lim oc om j : Nat} (h : j < n) : trG T A b n lim oc om oc j = fin (cb A b) (fb T A b) lim (T 1 2) j := by
  unfold trG
  rw [if_pos ⟨rfl, h⟩]
theorem trG_m {T A : SA} {b n lim oc om : Nat} (h : om ≠ oc) : trG T A b n lim oc om om 1 = mkk (cb A b) (fb T A b) lim (T 1 2) (A om 1) n := by
  unfold trG
  rw [if_neg (fun z => h z.1), if_pos ⟨rfl, rfl⟩]
theorem trG_x {T A : SA} {b n lim oc om o j : Nat} (h : ¬ (o = oc ∧ j < n)) (h2 : ¬ (o = om ∧ j = 1)) : trG T A b n lim oc om o j = A o j := by
  unfold trG
  rw [if_neg h, if_neg h2]
theorem fin_lt {c f : Nat → Nat} {lim tk d : Nat} (h : 1 ≤ tk) : fin c f lim tk d < tk := by
  unfold fin
  split <;> omega
theorem cU_lt {K told u : Nat} {A : SA} (hW : WG K told A) (hu : u < 15) : cU A u < K := by
  unfold cU
  split
  · exact hW.2.2.2.2.2.2.2.2.2.1 u (by omega)
  · exact hW.2.2.2.2.2.2.2.2.2.2.1 (u - 12) (by omega)
theorem cc_lt {told b d lim : Nat} {T A : SA} (hW : WA told A) (h : b + d < 15) : cc (cb A b) (fb T A b) lim d ≤ 20 := by
  have := cU_lt hW h
  show (if lF T A (b + d) ≤ lim then 0 else cU A (b + d) + 1) ≤ 20
  split <;> omega
theorem WA_tr {T A : SA} {b n lim oc om : Nat} (hD : DP b n oc om) (hWT : WT T) (hW : WA (T 2 0) A) : WA (T 2 0) (trG T A b n lim oc om) := by
  obtain ⟨h1, h2, h3, h4, h5, h6, h7, h8, h9, h10, h11, h12, h13, h14⟩ := hW
  have hoc : oc = 20 ∨ oc = 22 := by omega
  have hom : om = 19 ∨ om = 21 := by omega
  have e : ∀ o j, ¬ (19 ≤ o ∧ o ≤ 22) → trG T A b n lim oc om o j = A o j := fun o j h => trG_o (by omega) (by omega)
  have htk := hWT.2.2.1
  refine ⟨by rw [e 0 0 (by omega), e 0 1 (by omega), e 0 2 (by omega)]; exact h1, fun i hi => by rw [e 0 2 (by omega)] at hi; rw [e 1 i (by omega)]; exact h2 i hi, fun i hi => by rw [e 2 i (by omega)]; exact h3 i hi, fun i hi => by rw [e 3 i (by omega), e 4 i (by omega), e 17 i (by omega), e 18 i (by omega)]; exact h4 i hi, fun i hi1 hi2 => ?_, fun d hd => by rw [e 5 d (by omega)]; exact h6 d hd, fun c hc => ⟨by rw [e 6 c (by omega)]; exact (h7 c hc).1, fun i hi => by rw [e (8 + c) i (by omega)]; exact (h7 c hc).2 i hi⟩, ?_, ?_, fun d hd => ?_, fun d hd => ?_, by rw [e 16 0 (by omega)]; exact h12, by rw [e 16 0 (by omega), e 16 1 (by omega)]; exact h13, by rw [e 16 0 (by omega), e 16 1 (by omega)]; exact h14⟩
  · rw [e 0 2 (by omega)] at hi1
    rw [e 3 i (by omega), e 4 i (by omega), e 17 i (by omega), e 18 i (by omega)]
    have g := h5 i hi1 hi2
    exact ⟨g.1, g.2.1, g.2.2.1, g.2.2.2.1, fun c hc => by rw [e (8 + c) i (by omega)]; exact g.2.2.2.2 c hc⟩
  · rcases hD with ⟨rfl, rfl, rfl, rfl⟩ | ⟨rfl, rfl, rfl, rfl⟩
    · rw [trG_m (by omega)]
      exact mkk_bd (n := 12) h8 12 (by omega)
    · rw [trG_o (by omega) (by omega)]
      exact h8
  · rcases hD with ⟨rfl, rfl, rfl, rfl⟩ | ⟨rfl, rfl, rfl, rfl⟩
    · rw [trG_o (by omega) (by omega)]
      exact h9
    · rw [trG_m (by omega)]
      exact mkk_bd (n := 3) h9 3 (by omega)
  · rcases hD with ⟨rfl, rfl, rfl, rfl⟩ | ⟨rfl, rfl, rfl, rfl⟩
    · rw [trG_c hd]
      have := fin_lt (c := cb A 0) (f := fb T A 0) (lim := lim) (d := d) htk.1
      omega
    · rw [trG_o (by omega) (by omega)]
      exact h10 d hd
  · rcases hD with ⟨rfl, rfl, rfl, rfl⟩ | ⟨rfl, rfl, rfl, rfl⟩
    · rw [trG_o (by omega) (by omega)]
      exact h11 d hd
    · rw [trG_c hd]
      have := fin_lt (c := cb A 12) (f := fb T A 12) (lim := lim) (d := d) htk.1
      omega
theorem fin_cc {c f : Nat → Nat} {lim tk d : Nat} : fin c f lim tk d = if tk ≤ cc c f lim d then 0 else cc c f lim d := rfl
theorem tripR_ok {N : Mem} {p b n oc om lim : Nat} {T A : SA} (hD : DP b n oc om) (hp : p < 3) (hT : RT (N 1) T) (hP : RP (N 1) p A) (hWT : WT T) (hW : WA (T 2 0) A) (hlim : lim < 2 ^ 31) : ∃ N', fX12_trip N (nI p) (nI b) (nI (b + n)) (nI lim) = some (nI (trs (cb A b) (fb T A b) lim (T 1 2) n), N') ∧ FrN N N' p ∧ RP (N' 1) p (trG T A b n lim oc om) := by
  have hbn : b + n ≤ 15 := by omega
  have htk := hWT.2.2.1
  have hccb : ∀ d, d < n → cc (cb A b) (fb T A b) lim d ≤ 20 := fun d hd => cc_lt hW (by omega)
  obtain ⟨N1, e1, e2, e3⟩ := trA_L (N0 := N) (b := b) (n := n) (lim := lim) hp hbn hT hP hWT hW hlim n 0 5000 N (by omega) (by omega) (fun q => by rw [if_neg (by unfold AX; omega)])
  have e3' : ∀ q, N1 1 q = if AX p (102 + b) ≤ q ∧ q < AX p (102 + b + n) then nI (cc (cb A b) (fb T A b) lim (q - AX p (102 + b))) else N 1 q := e3
  obtain ⟨N2, f1, f2, f3⟩ := trB_L (p := p) (b := b) (n := n) (lim := lim) (tk := T 1 2) (c := cb A b) (f := fb T A b) hp hbn (by omega) (fun d hd => by have := hccb d hd; omega) n 0 5000 N1 (by omega) (by omega) (by rw [e3', if_neg (by unfold AX; omega)]; exact hT.1 2 (by omega)) (fun d _ hd => by rw [e3', if_pos (by unfold AX; omega), show AX p (102 + (b + d)) - AX p (102 + b) = d by unfold AX; omega])
  have oth : ∀ q, ¬ (AX p (102 + b) ≤ q ∧ q < AX p (102 + b + n)) → ¬ (AX p (87 + b) ≤ q ∧ q < AX p (87 + b + n)) → N2 1 q = N 1 q := fun q h1 h2 => by
    rw [f3, if_neg (fun z => h1 ⟨z.1, z.2.1⟩), if_neg (fun z => h2 ⟨z.1, z.2.1⟩), e3', if_neg h1]
  have hcnt : ∀ d, d < n → N2 1 (AX p (102 + (b + d))) = nI (fin (cb A b) (fb T A b) lim (T 1 2) d) := fun d hd => by
    have e4 : AX p (102 + (b + d)) - AX p (102 + b) = d := by unfold AX; omega
    rw [f3, e3', e4, fin_cc]
    by_cases ht : T 1 2 ≤ cc (cb A b) (fb T A b) lim d
    · rw [if_pos ⟨by unfold AX; omega, by unfold AX; omega, ht⟩, if_pos ht]
      rfl
    · rw [if_neg (fun z => ht z.2.2), if_neg (fun z => by have := z.2.1; unfold AX at this; omega), if_pos (by unfold AX; omega), if_neg ht]
  have hbit : ∀ d, d < n → N2 1 (AX p (87 + (b + d))) = if T 1 2 ≤ cc (cb A b) (fb T A b) lim d then 1 else N 1 (AX p (87 + (b + d))) := fun d hd => by
    have e4 : AX p (87 + (b + d)) - AX p (87 + b) = d := by unfold AX; omega
    rw [f3, if_neg (fun z => by have := z.1; unfold AX at this; omega), e4]
    by_cases ht : T 1 2 ≤ cc (cb A b) (fb T A b) lim d
    · rw [if_pos ⟨by unfold AX; omega, by unfold AX; omega, ht⟩, if_pos ht]
    · rw [if_neg (fun z => ht z.2.2), if_neg ht, e3', if_neg (by unfold AX; omega)]
  refine ⟨N2, ?_, ⟨fun x hx => by rw [f2 x hx, e2 x hx], fun k hk => oth k (by unfold AX; unfold PB at hk; omega) (by unfold AX; unfold PB at hk; omega)⟩, RP_tr hP hW.1.2.2 (fun q hq => oth q (by unfold AX at hq ⊢; omega) (by unfold AX at hq ⊢; omega)) (fun u hu => ?_) (fun u hu => ?_) (fun o j ho => trG_o (by omega) (by omega))⟩
  · unfold fX12_trip
    refine ob_in e1 ?_
    exact ob2_in f1 rfl
  · by_cases hin : b ≤ u ∧ u < b + n
    · have hb := hbit (u - b) (by omega)
      rw [show b + (u - b) = u by omega] at hb
      rw [hb, raU hP hu]
      have hmb : ∀ m, mkk (cb A b) (fb T A b) lim (T 1 2) m n / 2 ^ (u - b) % 2 = if T 1 2 ≤ cc (cb A b) (fb T A b) lim (u - b) then 1 else m / 2 ^ (u - b) % 2 := fun m => by
        rw [mkk_bit]
        by_cases ht : T 1 2 ≤ cc (cb A b) (fb T A b) lim (u - b)
        · rw [if_pos ⟨by omega, ht⟩, if_pos ht]
        · rw [if_neg (fun z => ht z.2), if_neg ht]
      have hx : bitU (trG T A b n lim oc om) u = if T 1 2 ≤ cc (cb A b) (fb T A b) lim (u - b) then 1 else bitU A u := by
        rcases hD with ⟨rfl, rfl, rfl, rfl⟩ | ⟨rfl, rfl, rfl, rfl⟩
        · have hb1 : bitU (trG T A 0 12 lim 20 19) u = mkk (cb A 0) (fb T A 0) lim (T 1 2) (A 19 1) 12 / 2 ^ (u - 0) % 2 := by
            unfold bitU
            rw [if_pos (show u < 12 by omega), trG_m (by omega)]
            rfl
          have hb2 : bitU A u = A 19 1 / 2 ^ (u - 0) % 2 := if_pos (show u < 12 by omega)
          rw [hb1, hb2, hmb]
        · have hb1 : bitU (trG T A 12 3 lim 22 21) u = mkk (cb A 12) (fb T A 12) lim (T 1 2) (A 21 1) 3 / 2 ^ (u - 12) % 2 := by
            unfold bitU
            rw [if_neg (show ¬ u < 12 by omega), trG_m (by omega)]
          have hb2 : bitU A u = A 21 1 / 2 ^ (u - 12) % 2 := if_neg (show ¬ u < 12 by omega)
          rw [hb1, hb2, hmb]
      rw [hx]
      by_cases ht : T 1 2 ≤ cc (cb A b) (fb T A b) lim (u - b)
      · rw [if_pos ht, if_pos ht]
        rfl
      · rw [if_neg ht, if_neg ht]
    · rw [oth _ (by unfold AX; omega) (by unfold AX; omega), raU hP hu]
      unfold bitU
      rcases hD with ⟨rfl, rfl, rfl, rfl⟩ | ⟨rfl, rfl, rfl, rfl⟩
      · rw [if_neg (by omega), if_neg (by omega), trG_o (by omega) (by omega)]
      · rw [if_pos (by omega), if_pos (by omega), trG_o (by omega) (by omega)]
  · by_cases hin : b ≤ u ∧ u < b + n
    · have hb := hcnt (u - b) (by omega)
      rw [show b + (u - b) = u by omega] at hb
      rw [hb]
      unfold cU
      rcases hD with ⟨rfl, rfl, rfl, rfl⟩ | ⟨rfl, rfl, rfl, rfl⟩
      · rw [if_pos (by omega), trG_c (by omega)]
        rfl
      · rw [if_neg (by omega), trG_c (by omega)]
    · rw [oth _ (by unfold AX; omega) (by unfold AX; omega), raC hP hu]
      unfold cU
      rcases hD with ⟨rfl, rfl, rfl, rfl⟩ | ⟨rfl, rfl, rfl, rfl⟩
      · rw [if_neg (by omega), if_neg (by omega), trG_o (by omega) (by omega)]
      · rw [if_pos (by omega), if_pos (by omega), trG_o (by omega) (by omega)]
theorem tripC_ok {M : Mem} {q b n oc om lim : Nat} {T A : SA} (hD : DP b n oc om) (hq : q < 28) (hC : CRel M q A) (hWT : WT T) (hW : WA (T 2 0) A) (hlim : lim < 2 ^ 31) (z : Nat) (hz : (b = 0 ∧ z = 24) ∨ (b = 12 ∧ z = 25)) (hS : SU M 24 25 A (ldL T A) (A 0 2)) : ∃ M', fX0_check M (pq q om) z (nI lim) (nI (T 1 2)) = some (nI (trs (cb A b) (fb T A b) lim (T 1 2) n), M') ∧ FrC M M' q ∧ CRel M' q (trG T A b n lim oc om) := by
  have htk := hWT.2.2.1
  have hf : ∀ d, b + d < 15 → fb T A b d < 2 ^ 31 := fun d hd => by
    have := sN_le (u := b + d) hWT hW
    show sU A (ldL T A) (A 0 2) (b + d) < 2 ^ 31
    omega
  have hc : ∀ d, b + d < 15 → cb A b d < 2 ^ 30 := fun d hd => by
    have := cU_lt hW hd
    show cU A (b + d) < 2 ^ 30
    omega
  rcases hD with ⟨rfl, rfl, rfl, rfl⟩ | ⟨rfl, rfl, rfl, rfl⟩
  · have hz' : z = 24 := by omega
    subst hz'
    obtain ⟨M', e1, e2, e3, e4, e5⟩ := chk_ok (M := M) (x := pq q 19) (y := pq q 20) (z := 24) (n := 12) (c := cb A 0) (f := fb T A 0) (lim := lim) (tk := T 1 2) (m := A 19 1) (sp0 hq (by omega) rfl) rf_pq19 (sp0 hq (by omega) rfl) (lp0 hq (by omega) rfl) rfl rfl (by unfold pq; omega) (by unfold pq; omega) (by unfold pq; omega) (by omega) hW.2.2.2.2.2.2.2.1 hlim (by omega) (fun d hd => hf d (by omega)) (fun d hd => hc d (by omega)) (fun d hd => by rw [hS.1 d hd]; show nI (sU A (ldL T A) (A 0 2) d) = nI (lF T A (0 + d)); rw [Nat.zero_add]; rfl) (fun d hd => by rw [cr20 hC hd]; show nI (A 20 d) = nI (cU A (0 + d)); rw [Nat.zero_add]; unfold cU; rw [if_pos hd]) (cr19 hC)
    refine ⟨M', e1, fun x hx => e2 x (hx 19 (by omega)) (hx 20 (by omega)), fun o j ho hv => ?_⟩
    by_cases h20 : o = 20
    · subst h20
      have hj : j < 12 := of_decide_eq_true hv
      rw [e5, if_pos hj, trG_c hj, vI_n (by omega)]
    · by_cases h19 : o = 19
      · subst h19
        have hj : j = 1 := of_decide_eq_true hv
        subst hj
        rw [e4, trG_m (by omega), vI_n (by omega)]
      · rw [e2 _ (by unfold pq; omega) (by unfold pq; omega), trG_o h20 h19]
        exact hC o j ho hv
  · have hz' : z = 25 := by omega
    subst hz'
    obtain ⟨M', e1, e2, e3, e4, e5⟩ := chk_ok (M := M) (x := pq q 21) (y := pq q 22) (z := 25) (n := 3) (c := cb A 12) (f := fb T A 12) (lim := lim) (tk := T 1 2) (m := A 21 1) (sp0 hq (by omega) rfl) rf_pq21 (sp0 hq (by omega) rfl) (lp0 hq (by omega) rfl) rfl rfl (by unfold pq; omega) (by unfold pq; omega) (by unfold pq; omega) (by omega) hW.2.2.2.2.2.2.2.2.1 hlim (by omega) (fun d hd => hf d (by omega)) (fun d hd => hc d (by omega)) (fun d hd => by rw [hS.2 d hd]; rfl) (fun d hd => by rw [cr22 hC hd]; show nI (A 22 d) = nI (cU A (12 + d)); unfold cU; rw [if_neg (by omega), show 12 + d - 12 = d by omega]) (cr21 hC)
    refine ⟨M', e1, fun x hx => e2 x (hx 21 (by omega)) (hx 22 (by omega)), fun o j ho hv => ?_⟩
    by_cases h20 : o = 22
    · subst h20
      have hj : j < 3 := of_decide_eq_true hv
      rw [e5, if_pos hj, trG_c hj, vI_n (by omega)]
    · by_cases h19 : o = 21
      · subst h19
        have hj : j = 1 := of_decide_eq_true hv
        subst hj
        rw [e4, trG_m (by omega), vI_n (by omega)]
      · rw [e2 _ (by unfold pq; omega) (by unfold pq; omega), trG_o h20 h19]
        exact hC o j ho hv
/-- the state and the trips behind a tick -/
def psD (T A : SA) : SA := trG T (stepA A) 0 12 (T 1 0) 20 19
def psA (T A : SA) : SA := trG T (psD T A) 12 3 (T 1 1) 22 21
def psR1 (T A : SA) : Nat := trs (cb (stepA A) 0) (fb T (stepA A) 0) (T 1 0) (T 1 2) 12
def psR2 (T A : SA) : Nat := trs (cb (psD T A) 12) (fb T (psD T A) 12) (T 1 1) (T 1 2) 3
def psR (T A : SA) : Nat := psR1 T A + psR2 T A
theorem WA_psD {T A : SA} (hWT : WT T) (hW : WA (T 2 0) A) : WA (T 2 0) (psD T A) := WA_tr (Or.inl ⟨rfl, rfl, rfl, rfl⟩) hWT (WA_step hW)
theorem WA_ps {T A : SA} (hWT : WT T) (hW : WA (T 2 0) A) : WA (T 2 0) (psA T A) := WA_tr (Or.inr ⟨rfl, rfl, rfl, rfl⟩) hWT (WA_psD hWT hW)
theorem SU_same {M : Mem} {d g : Nat} {T A B : SA} (h : ∀ o j, o ≠ 20 → o ≠ 22 → B o j = A o j) (hS : SU M d g A (ldL T A) (A 0 2)) : SU M d g B (ldL T B) (B 0 2) :=
  ⟨fun x hx => by rw [hS.1 x hx]; exact congrArg nI (lF_congr h).symm, fun x hx => by rw [hS.2 x hx]; exact congrArg nI (lF_congr h).symm⟩
theorem psD_same {T A : SA} (h : psR1 T A = 0) : ∀ o j, o ≠ 20 → o ≠ 22 → psD T A o j = stepA A o j := fun o j h1 h2 => by
  unfold psD
  by_cases h19 : o = 19 ∧ j = 1
  · obtain ⟨rfl, rfl⟩ := h19
    rw [trG_m (by omega)]
    exact trs_zero 12 h
  · exact trG_x (fun z => h1 z.1) h19
theorem psA_same {T A : SA} (h : psR2 T A = 0) : ∀ o j, o ≠ 20 → o ≠ 22 → psA T A o j = psD T A o j := fun o j h1 h2 => by
  unfold psA
  by_cases h19 : o = 21 ∧ j = 1
  · obtain ⟨rfl, rfl⟩ := h19
    rw [trG_m (by omega)]
    exact trs_zero 3 h
  · exact trG_x (fun z => h2 z.1) h19
/-- what a tick of premiere q leaves as it was -/
def FrP (M M' : Mem) (q : Nat) : Prop := ∀ x, (∀ o, o < 23 → x ≠ pq q o) → x ≠ 24 → x ≠ 25 → M' x = M x
theorem CT_FrP {M M' : Mem} {q : Nat} {T : SA} (h : CT M 0 T) (hf : FrP M M' q) : CT M' 0 T := CT_congr h (fun o ho => hf _ (fun o' _ => by unfold st pq; omega) (by unfold st; omega) (by unfold st; omega))
theorem pass_ok {M : Mem} {q : Nat} {T A : SA} (hq : q < 28) (hC : CRel M q A) (hT : CT M 0 T) (hWT : WT T) (hW : WA (T 2 0) A) : ∃ M', fX6_passTick M (pq q 0) 34 23 = some (nI (psR T A), M') ∧ FrP M M' q ∧ CRel M' q (psA T A) ∧ SU M' 24 25 (psA T A) (ldL T (psA T A)) (psA T A 0 2) := by
  have hL : LO 23 24 25 := Or.inl ⟨rfl, rfl, rfl⟩
  have c35 : ∀ {M' : Mem} (j : Nat), j < 3 → CT M' 0 T → aL 20 M' 35 (nI j) = some (nI (T 1 j)) := fun {M'} j hj hT' => by
    refine (aL_ok (n := 3) rfl rfl hj (by omega)).trans ?_
    rw [show M' 35 j = nI (T 1 j) from ct1 hT' hj]
  have t12 : ∀ n, trs (cb (stepA A) 0) (fb T (stepA A) 0) (T 1 0) (T 1 2) n ≤ n := trs_le
  have t3 : ∀ n, trs (cb (psD T A) 12) (fb T (psD T A) 12) (T 1 1) (T 1 2) n ≤ n := trs_le
  have hr1 : psR1 T A ≤ 12 := t12 12
  have hr2 : psR2 T A ≤ 3 := t3 3
  obtain ⟨M1, a1, a2, a3⟩ := stepC_ok hq hC hW
  have f1 : FrP M M1 q := fun x hx _ _ => a2 x hx
  have W1 := WA_step hW
  obtain ⟨M2, b1, b2, b3⟩ := mNow_ok hL hq hWT W1 a3 (CT_FrP hT f1)
  have f2 : FrP M M2 q := fun x hx h1 h2 => by rw [b2 x h1 h2, f1 x hx h1 h2]
  have C2 := CRel_L b2 (by omega) (by omega) a3
  obtain ⟨M3, c1, c2, c3⟩ := tripC_ok (b := 0) (n := 12) (oc := 20) (om := 19) (lim := T 1 0) (Or.inl ⟨rfl, rfl, rfl, rfl⟩) hq C2 hWT W1 (by have := hWT.1; omega) 24 (Or.inl ⟨rfl, rfl⟩) b3
  have f3 : FrP M M3 q := fun x hx h1 h2 => by rw [c2 x hx, f2 x hx h1 h2]
  have W3 := WA_psD hWT hW
  have s3 : SU M3 24 25 (stepA A) (ldL T (stepA A)) (stepA A 0 2) := ⟨fun x hx => by rw [c2 24 (fun o _ => by unfold pq; omega)]; exact b3.1 x hx, fun x hx => by rw [c2 25 (fun o _ => by unfold pq; omega)]; exact b3.2 x hx⟩
  obtain ⟨M4, d1, d2, d3, d4⟩ : ∃ M4, (if nI (psR1 T A) ≤ 0 then some M3 else (gR 7 1 34).bind fun x46 => (fX3_measureNow M3 23 (pq q 0) x46).bind fun M49 => some M49) = some M4 ∧ FrP M M4 q ∧ CRel M4 q (psD T A) ∧ SU M4 24 25 (psD T A) (ldL T (psD T A)) (psD T A 0 2) := by
    by_cases h0 : psR1 T A = 0
    · refine ⟨M3, ?_, f3, c3, SU_same (psD_same h0) s3⟩
      rw [h0]
      exact if_pos (by decide)
    · obtain ⟨M4, d1, d2, d3⟩ := mNow_ok hL hq hWT W3 c3 (CT_FrP hT f3)
      refine ⟨M4, ?_, fun x hx h1 h2 => by rw [d2 x h1 h2, f3 x hx h1 h2], CRel_L d2 (by omega) (by omega) c3, d3⟩
      rw [if_neg (show ¬ nI (psR1 T A) ≤ 0 from fun z => by rw [li0] at z; have := (nI_leE (by omega) (by omega)).mp z; omega)]
      refine ob_in (gR_ok (x := 36) rfl rfl) ?_
      exact ob_in d1 rfl
  obtain ⟨M5, e1, e2, e3⟩ := tripC_ok (b := 12) (n := 3) (oc := 22) (om := 21) (lim := T 1 1) (Or.inr ⟨rfl, rfl, rfl, rfl⟩) hq d3 hWT W3 (by have := hWT.2.1; omega) 25 (Or.inr ⟨rfl, rfl⟩) d4
  have f5 : FrP M M5 q := fun x hx h1 h2 => by rw [e2 x hx, d2 x hx h1 h2]
  have s5 : SU M5 24 25 (psD T A) (ldL T (psD T A)) (psD T A 0 2) := ⟨fun x hx => by rw [e2 24 (fun o _ => by unfold pq; omega)]; exact d4.1 x hx, fun x hx => by rw [e2 25 (fun o _ => by unfold pq; omega)]; exact d4.2 x hx⟩
  obtain ⟨M6, g1, g2, g3, g4⟩ : ∃ M6, (if nI (psR2 T A) ≤ 0 then some (nI (psR1 T A) + nI (psR2 T A), M5) else (gR 7 1 34).bind fun x41 => (fX3_measureNow M5 23 (pq q 0) x41).bind fun M44 => some (nI (psR1 T A) + nI (psR2 T A), M44)) = some (nI (psR T A), M6) ∧ FrP M M6 q ∧ CRel M6 q (psA T A) ∧ SU M6 24 25 (psA T A) (ldL T (psA T A)) (psA T A 0 2) := by
    rw [nI_addE]
    by_cases h0 : psR2 T A = 0
    · refine ⟨M5, ?_, f5, e3, SU_same (psA_same h0) s5⟩
      rw [h0, if_pos (show nI 0 ≤ (0 : Int32) by decide)]
      unfold psR
      rw [h0]
    · obtain ⟨M6, g1, g2, g3⟩ := mNow_ok hL hq hWT (WA_ps hWT hW) e3 (CT_FrP hT f5)
      refine ⟨M6, ?_, fun x hx h1 h2 => by rw [g2 x h1 h2, f5 x hx h1 h2], CRel_L g2 (by omega) (by omega) e3, g3⟩
      rw [if_neg (show ¬ nI (psR2 T A) ≤ 0 from fun z => by rw [li0] at z; have := (nI_leE (by omega) (by omega)).mp z; omega)]
      refine ob_in (gR_ok (x := 36) rfl rfl) ?_
      exact ob_in g1 rfl
  refine ⟨M6, ?_, g2, g3, g4⟩
  unfold fX6_passTick
  rw [ifsp (o := 0) (t := 6) hq (by omega) rfl]
  refine ob_in (gR_ok (x := 35) rfl rfl) ?_
  refine ob_in (c35 2 (by omega) hT) ?_
  refine ob_in (gR_ok (x := pq q 16) (sp0 hq (by omega) rfl) (rf_pq0 (by omega))) ?_
  refine ob_in (gR_ok (x := pq q 4) (sp0 hq (by omega) rfl) (rf_pq0 (by omega))) ?_
  refine ob_in a1 ?_
  refine ob_in (gR_ok (x := 36) rfl rfl) ?_
  refine ob_in b1 ?_
  refine ob_in (gR_ok (x := pq q 19) (sp0 hq (by omega) rfl) (rf_pq0 (by omega))) ?_
  refine ob_in (gR_ok (x := 24) rfl rfl) ?_
  refine ob_in (gR_ok (x := 35) rfl rfl) ?_
  refine ob_in (c35 0 (by omega) (CT_FrP hT f2)) ?_
  refine ob2_in c1 ?_
  refine ob_in d1 ?_
  refine ob_in (gR_ok (x := pq q 21) (sp0 hq (by omega) rfl) (rf_pq0 (by omega))) ?_
  refine ob_in (gR_ok (x := 25) rfl rfl) ?_
  refine ob_in (gR_ok (x := 35) rfl rfl) ?_
  refine ob_in (c35 1 (by omega) (CT_FrP hT d2)) ?_
  refine ob2_in e1 ?_
  exact g1
theorem RT_FrN {N N' : Mem} {p : Nat} {T : SA} (h : RT (N 1) T) (hf : FrN N N' p) : RT (N' 1) T := by
  have e : ∀ q, q < 22 → N' 1 q = N 1 q := fun q hq => hf.2 q (by unfold PB; omega)
  exact ⟨fun j hj => by rw [e _ (by omega)]; exact h.1 j hj, by rw [e _ (by omega)]; exact h.2.1, fun t ht => by rw [e _ (by omega), e _ (by omega), e _ (by omega)]; exact h.2.2 t ht⟩
theorem turn_ok {N : Mem} {p : Nat} {T A : SA} (hp : p < 3) (hT : RT (N 1) T) (hP : RP (N 1) p A) (hWT : WT T) (hW : WA (T 2 0) A) : ∃ N', fX12_turn N (nI p) = some (nI (psR T A), N') ∧ FrN N N' p ∧ RP (N' 1) p (psA T A) := by
  obtain ⟨N1, a1, a2, a3⟩ := stepR_ok hp hP hW
  have T1 := RT_FrN hT a2
  obtain ⟨N2, b1, b2, b3⟩ := tripR_ok (b := 0) (n := 12) (oc := 20) (om := 19) (lim := T 1 0) (Or.inl ⟨rfl, rfl, rfl, rfl⟩) hp T1 a3 hWT (WA_step hW) (by have := hWT.1; omega)
  have T2 := RT_FrN T1 b2
  obtain ⟨N3, c1, c2, c3⟩ := tripR_ok (b := 12) (n := 3) (oc := 22) (om := 21) (lim := T 1 1) (Or.inr ⟨rfl, rfl, rfl, rfl⟩) hp T2 b3 hWT (WA_psD hWT hW) (by have := hWT.2.1; omega)
  refine ⟨N3, ?_, (a2.tr b2).tr c2, c3⟩
  have r0 : aL 30 N1 1 0 = some (nI (T 1 0)) := (s30 (k := 0) (by omega)).trans (by rw [T1.1 0 (by omega)])
  have r1 : aL 30 N2 1 1 = some (nI (T 1 1)) := (s30 (k := 1) (by omega)).trans (by rw [T2.1 1 (by omega)])
  have b1' : fX12_trip N1 (nI p) 0 12 (nI (T 1 0)) = some (nI (psR1 T A), N2) := b1
  have c1' : fX12_trip N2 (nI p) 12 15 (nI (T 1 1)) = some (nI (psR2 T A), N3) := c1
  unfold fX12_turn
  refine (a1 _).trans ?_
  rw [r0, ob_some, b1', ob2_some, r1, ob_some, c1', ob2_some, nI_addE]
  rfl
