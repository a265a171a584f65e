/-! tick, ifDays -/
theorem FrP_KX {M M' : Mem} {p : Nat} (h : FrP M M' p) : ∀ x, (∀ o, o < 23 → x ≠ pq p o) → KX x → M' x = M x := fun x hx hk => h x hx (by have := KX_hi hk; omega) (by have := KX_hi hk; omega)
theorem fin_ps {M N M' N' : Mem} {T : SA} {A : PA} {n p : Nat} {B : SA} (hL : Live M N T A) (hR : Rst M N n) (hp : p < 3) (hM : FrP M M' p) (hC : CRel M' p B) (hN : FrN N N' p) (hRP : RP (N' 1) p B) (hW : WA (T 2 0) B) : Live M' N' T (upP A p B) ∧ Rst M' N' n :=
  fin_p hL hR hp (FrP_KX hM) hC hN.2 hN.keep hRP hW
theorem tk_one {M N : Mem} {T : SA} {A : PA} {n p : Nat} (hL : Live M N T A) (hR : Rst M N n) (hp : p < 3) : ∃ M' N', fX6_passTick M (pq p 0) 34 23 = some (nI (psR T (A p)), M') ∧ fX12_turn N (nI p) = some (nI (psR T (A p)), N') ∧ Live M' N' T (upP A p (psA T (A p))) ∧ Rst M' N' n := by
  have hWT := hL.2.2.1
  obtain ⟨M', a1, a2, a3, -⟩ := pass_ok (show p < 28 by omega) (cr_live hL hp) (ct_live hL) hWT (wa_live hL hp)
  obtain ⟨N', b1, b2, b3⟩ := turn_ok hp (rt_live hL) (rp_live hL hp) hWT (wa_live hL hp)
  exact ⟨M', N', a1, b1, fin_ps hL hR hp a2 a3 b2 b3 (WA_ps hWT (wa_live hL hp))⟩
theorem tk_in {a1 a3 : Int32} {T : SA} {n : Nat} : ∀ (e p F r : Nat) (M N : Mem) (A : PA), p + e = 3 → e < F → Live M N T A → Rst M N n → ∃ M' N' A' r', fX11_tick_L50 F M a1 (nI r) a3 (nI 3) (nI p) = some (nI r', M') ∧ fX12_tick_L29 F N a1 (nI r) a3 (nI p) = some (nI r', N') ∧ Live M' N' T A' ∧ Rst M' N' n := by
  intro e
  induction e with
  | zero =>
    intro p F r M N A hp hF hL hR
    obtain ⟨F, rfl⟩ : ∃ F', F = F' + 1 := ⟨F - 1, by omega⟩
    have hp3 : p = 3 := by omega
    subst hp3
    exact ⟨M, N, A, r, by rw [fX11_tick_L50, if_pos (Int32.le_refl _)], by rw [fX12_tick_L29, li3, if_pos (Int32.le_refl _)], hL, hR⟩
  | succ e ih =>
    intro p F r M N A hp hF hL hR
    obtain ⟨F, rfl⟩ : ∃ F', F = F' + 1 := ⟨F - 1, by omega⟩
    obtain ⟨M1, N1, a1', a2', a3', a4'⟩ := tk_one (p := p) hL hR (by omega)
    obtain ⟨M', N', A', r', b1, b2, b3, b4⟩ := ih (p + 1) F (r + psR T (A p)) M1 N1 _ (by omega) (by omega) a3' a4'
    refine ⟨M', N', A', r', ?_, ?_, b3, b4⟩
    · rw [fX11_tick_L50, if_neg (fun z => by have := (nI_leE (by omega) (by omega)).mp z; omega)]
      refine ob_in (aR_ok (n := 3) rfl rfl (by omega) (by omega) (r40 (j := p) (by omega))) ?_
      rw [a1', ob2_some, lt1_eq, nI_addE, li1, nI_addE]
      exact b1
    · rw [fX12_tick_L29, li3, if_neg (fun z => by have := (nI_leE (by omega) (by omega)).mp z; omega), a2', ob2_some, lt1_eq, nI_addE, li1, nI_addE]
      exact b2
theorem tk_out {T : SA} {n k : Nat} (hk : k ≤ 100) : ∀ (e i F r : Nat) (M N : Mem) (A : PA), i + e = k → e < F → Live M N T A → Rst M N n → ∃ M' N' A' r', fX11_tick_L28 F M (nI k) (nI r) (nI i) = some (nI r', M') ∧ fX12_tick_L21 F N (nI k) (nI r) (nI i) = some (nI r', N') ∧ Live M' N' T A' ∧ Rst M' N' n := by
  intro e
  induction e with
  | zero =>
    intro i F r M N A hi hF hL hR
    obtain ⟨F, rfl⟩ : ∃ F', F = F' + 1 := ⟨F - 1, by omega⟩
    have hp3 : i = k := by omega
    subst hp3
    exact ⟨M, N, A, r, by rw [fX11_tick_L28, if_pos (Int32.le_refl _)], by rw [fX12_tick_L21, if_pos (Int32.le_refl _)], hL, hR⟩
  | succ e ih =>
    intro i F r M N A hi hF hL hR
    obtain ⟨F, rfl⟩ : ∃ F', F = F' + 1 := ⟨F - 1, by omega⟩
    obtain ⟨M1, N1, A1, r1, a1', a2', a3', a4'⟩ := tk_in (a1 := nI k) (a3 := nI i) 3 0 5000 r M N A (by omega) (by omega) hL hR
    obtain ⟨M', N', A', r', b1, b2, b3, b4⟩ := ih (i + 1) F r1 M1 N1 _ (by omega) (by omega) a3' a4'
    refine ⟨M', N', A', r', ?_, ?_, b3, b4⟩
    · rw [fX11_tick_L28, if_neg (fun z => by have := (nI_leE (by omega) (by omega)).mp z; omega)]
      refine ob2_in a1' ?_
      rw [li1, nI_addE]
      exact b1
    · rw [fX12_tick_L21, if_neg (fun z => by have := (nI_leE (by omega) (by omega)).mp z; omega)]
      refine ob2_in a2' ?_
      rw [li1, nI_addE]
      exact b2
theorem op_tick {M N : Mem} (h : Rel M N) (a1 : Int32) : OK (fX11_tick M a1) (fX12_tick N a1) := by
  obtain ⟨⟨T, A, hL⟩, n, hR⟩ := id h
  by_cases hy : (1 : Int32) ≤ a1 ∧ a1 ≤ 100
  · rcases ic a1 100 100 rfl (by omega) with ⟨k, hk, rfl, hky⟩ | hb
    · obtain ⟨M1, e1, e2, hL1, hR1⟩ := push_know hL hR
      obtain ⟨M', N', A', r', b1, b2, b3, b4⟩ := tk_out hk k 0 5000 0 M1 (knN N n) A (by omega) (by omega) hL1 hR1
      refine OK_in (r := nI r') (M := M') (N := N') ?_ ?_ ⟨b3, b4⟩
      · unfold fX11_tick
        rw [isIn_ok, ob_some, b01, if_pos hy, e1, ob_some]
        exact ob2_in b1 rfl
      · unfold fX12_tick
        rw [in_ok, ob_some, b01, if_pos hy, e2, ob_some]
        exact ob2_in b2 rfl
    · exact absurd ⟨Int32.le_trans (by decide) hy.1, hy.2⟩ hb
  · refine OK_er (r := -2) h ?_ ?_
    · unfold fX11_tick
      rw [isIn_ok, ob_some, b01, if_neg hy]
    · unfold fX12_tick
      rw [in_ok, ob_some, b01, if_neg hy]
