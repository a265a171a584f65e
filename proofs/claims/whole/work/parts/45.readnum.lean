/-! the class's numbers and notes -/
theorem readN_L {len : Nat} {pd : Nat → Nat} {hi : Nat} (hhi : hi ≤ 100) : ∀ (f a4 F i v : Nat) (M : Mem), a4 + f = 3 → f < F → v ≤ hi → AtC len pd M i → ∃ M', (fX4_readNumber_L31 F M (nI hi) (nI v) (nI a4) = some (.inl (nI (nm len pd hi f i v).1, M')) ∨ fX4_readNumber_L31 F M (nI hi) (nI v) (nI a4) = some (.inr (nI (nm len pd hi f i v).1, M'))) ∧ AtC len pd M' (nm len pd hi f i v).2 ∧ KeepR M M' := by
  intro f
  induction f with
  | zero =>
    intro a4 F i v M ha hF hv hA
    obtain ⟨F, rfl⟩ : ∃ F', F = F' + 1 := ⟨F - 1, by omega⟩
    refine ⟨M, Or.inl ?_, hA, KeepR.rf⟩
    rw [fX4_readNumber_L31, li3, if_pos ((nI_leE (by omega) (by omega)).mpr (by omega))]
    rfl
  | succ f ih =>
    intro a4 F i v M ha hF hv hA
    obtain ⟨F, rfl⟩ : ∃ F', F = F' + 1 := ⟨F - 1, by omega⟩
    have h60 := hA.1.1
    rw [nm, fX4_readNumber_L31, li3, if_neg (fun q => by have := (nI_leE (by omega) (by omega)).mp q; omega)]
    by_cases h0 : v = 0
    · refine ⟨M, Or.inl ?_, ?_, KeepR.rf⟩
      · rw [if_neg (c := v ≠ 0 ∧ isD len pd i ∧ 10 * v + (sg len pd i - 48) ≤ hi) (fun z => z.1 h0), h0]
        exact if_pos (by decide)
      · rw [if_neg (fun z => z.1 h0)]
        exact hA
    · rw [if_neg (show ¬ nI v ≤ 0 from fun q => by rw [li0] at q; have := (nI_leE (by omega) (by omega)).mp q; omega), digit_ok hA, ob_some]
      by_cases hd : isD len pd i
      · have hl := isD_lt hd
        have hs : sg len pd i - 48 ≤ 9 := by have := hd.2; omega
        rw [if_pos hd, if_neg (fun q => by rw [li6] at q; exact (nI_negE (by omega) (by omega) (by omega)).mp q), li10, nI_mulE, nI_addE, Nat.mul_comm v 10]
        by_cases hh : 10 * v + (sg len pd i - 48) ≤ hi
        · have hc : v ≠ 0 ∧ isD len pd i ∧ 10 * v + (sg len pd i - 48) ≤ hi := ⟨h0, hd, hh⟩
          obtain ⟨M', e1, e2, e3⟩ := ih (a4 + 1) F (i + 1) (10 * v + (sg len pd i - 48)) (stM len pd M (i + 1)) (by omega) (by omega) hh (AtC_st hA.1)
          refine ⟨M', ?_, ?_, KeepR.st.tr e3⟩
          · rw [if_pos hc, if_pos ((nI_leE (by omega) (by omega)).mpr hh), lt1_eq, gI_ok (show shp 14 = 4 from rfl), ob_some, hA.2.1, li1, nI_addE, nI_addE, stepTo_ok hA.1 (by omega), ob_some]
            exact e1
          · rw [if_pos hc]
            exact e2
        · refine ⟨M, Or.inr ?_, ?_, KeepR.rf⟩
          · rw [if_neg (c := v ≠ 0 ∧ isD len pd i ∧ 10 * v + (sg len pd i - 48) ≤ hi) (fun z => hh z.2.2), if_neg (fun q => hh ((nI_leE (by omega) (by omega)).mp q))]
          · rw [if_neg (fun z => hh z.2.2)]
            exact hA
      · refine ⟨M, Or.inr ?_, ?_, KeepR.rf⟩
        · rw [if_neg hd, if_pos rfl, if_neg (fun z => hd z.2.1)]
        · rw [if_neg (fun z => hd z.2.1)]
          exact hA
theorem readN_ok {len : Nat} {pd : Nat → Nat} {M : Mem} {lo hi i : Nat} (hlo : lo ≤ 1) (hhi : hi ≤ 100) (hA : AtC len pd M i) : (∀ v j, num len pd lo hi i = some (v, j) → ∃ M', fX4_readNumber M (nI lo) (nI hi) = some (nI v, M') ∧ AtC len pd M' j ∧ KeepR M M') ∧ (num len pd lo hi i = none → fX4_readNumber M (nI lo) (nI hi) = some (-6, M)) := by
  have h60 := hA.1.1
  unfold fX4_readNumber num
  rw [digit_ok hA, ob_some]
  by_cases hd : isD len pd i
  · have hl := isD_lt hd
    have hs : sg len pd i - 48 ≤ 9 := by have := hd.2; omega
    rw [if_pos hd]
    by_cases hc : lo ≤ sg len pd i - 48 ∧ sg len pd i - 48 ≤ hi
    · have hcc : isD len pd i ∧ lo ≤ sg len pd i - 48 ∧ sg len pd i - 48 ≤ hi := ⟨hd, hc⟩
      refine ⟨fun v j hv => ?_, fun hn => (by rw [if_pos hcc] at hn; cases hn)⟩
      rw [if_pos hcc] at hv
      have e := Option.some.inj hv
      obtain ⟨M', e1, e2, e3⟩ := readN_L (len := len) (pd := pd) hhi 2 1 5000 (i + 1) (sg len pd i - 48) (stM len pd M (i + 1)) (by omega) (by omega) hc.2 (AtC_st hA.1)
      rw [e] at e1 e2
      refine ⟨M', ?_, e2, KeepR.st.tr e3⟩
      rw [if_neg (nI_nlt (by omega) (by omega)), if_pos ((nI_leE (by omega) (by omega)).mpr hc.2), gI_ok (show shp 14 = 4 from rfl), ob_some, hA.2.1, li1, nI_addE, stepTo_ok hA.1 (by omega), ob_some]
      rcases e1 with e1 | e1
      · exact ob_in e1 rfl
      · exact ob_in e1 rfl
    · refine ⟨fun v j hv => (by rw [if_neg (fun z => hc z.2)] at hv; cases hv), fun _ => ?_⟩
      by_cases h1 : sg len pd i - 48 < lo
      · rw [if_pos (nI_lt h1 (by omega))]
      · rw [if_neg (nI_nlt (by omega) (by omega)), if_neg (fun q => hc ⟨by omega, (nI_leE (by omega) (by omega)).mp q⟩)]
  · rw [if_neg hd]
    refine ⟨fun v j hv => (by rw [if_neg (fun z => hd z.1)] at hv; cases hv), fun _ => ?_⟩
    rw [if_pos]
    rw [Int32.lt_iff_toInt_lt, nI_toInt (by omega)]
    have : (-6 : Int32).toInt = -6 := by decide
    rw [this]
    omega
