/-! every cell of the first world; the first memories are related -/
theorem wl_st {D : va_G} {a b : Nat} {cy : Nat → ClassId} {H : Heap} (h : SG D a (PlL cy a) H) (hb : b < 9) : SG D (ad0 a (st b 0)) (StL cy (ad0 a (st b 0))) H := by
  unfold PlL PlT at h
  have t1 : SG D (a + 1) (StL cy (a + 1) ++ (HiL cy (a + 77) ++ (RA (cy 3) 2 (va_up (va_up (fun _ => none) 0 (some (a + 579))) 1 (some (a + 655))) :: (OrL cy (a + 536) ++ (LoL cy (a + 545) ++ (WoL cy (a + 548) ++ (TrL cy (a + 555) ++ (StL cy (a + 579) ++ (StL cy (a + 655)))))))))) H := SG_r (x := [_]) h
  have t2 := SG_r t1
  rw [StL_len] at t2
  have t3 := SG_r t2
  rw [HiL_len] at t3
  have t3' : SG D (a + 536) (OrL cy (a + 536) ++ (LoL cy (a + 545) ++ (WoL cy (a + 548) ++ (TrL cy (a + 555) ++ (StL cy (a + 579) ++ (StL cy (a + 655))))))) H := SG_r (x := [_]) t3
  have t4 := SG_r t3'
  rw [OrL_len] at t4
  have t5 := SG_r t4
  rw [LoL_len] at t5
  have t6 := SG_r t5
  rw [WoL_len] at t6
  have t7 := SG_r t6
  rw [TrL_len] at t7
  have t8 := SG_r t7
  rw [StL_len] at t8
  have u0 := SG_l t2
  unfold HiL HiT at u0
  have u1 : SG D (a + 79) (StL cy (a + 77 + 2) ++ (StL cy (a + 77 + 78) ++ (StL cy (a + 77 + 154) ++ (StL cy (a + 77 + 230) ++ (StL cy (a + 77 + 306) ++ (StL cy (a + 77 + 382))))))) H := SG_r (x := [_, _]) u0
  have u2 := SG_r u1
  rw [StL_len] at u2
  have u3 := SG_r u2
  rw [StL_len] at u3
  have u4 := SG_r u3
  rw [StL_len] at u4
  have u5 := SG_r u4
  rw [StL_len] at u5
  have u6 := SG_r u5
  rw [StL_len] at u6
  rcases (show b = 0 ∨ b = 1 ∨ b = 2 ∨ b = 3 ∨ b = 4 ∨ b = 5 ∨ b = 6 ∨ b = 7 ∨ b = 8 by omega) with rfl | rfl | rfl | rfl | rfl | rfl | rfl | rfl | rfl
  · exact SG_l t1
  · exact SG_l u1
  · exact SG_l u2
  · exact SG_l u3
  · exact SG_l u4
  · exact SG_l u5
  · exact u6
  · exact SG_l t7
  · exact t8
theorem wl_27 {D : va_G} {a : Nat} {cy : Nat → ClassId} {H : Heap} (h : SG D a (PlL cy a) H) : SG D (a + 536) (OrL cy (a + 536)) H ∧ SG D (a + 545) (LoL cy (a + 545)) H ∧ SG D (a + 548) (WoL cy (a + 548)) H ∧ SG D (a + 555) (TrL cy (a + 555)) H ∧ SG D (a + 77) (HiL cy (a + 77)) H ∧ va_at D vwCl (a + 535, RA (cy 3) 2 (va_up (va_up (fun _ => none) 0 (some (a + 579))) 1 (some (a + 655)))) H := by
  unfold PlL PlT at h
  have t1 : SG D (a + 1) (StL cy (a + 1) ++ (HiL cy (a + 77) ++ (RA (cy 3) 2 (va_up (va_up (fun _ => none) 0 (some (a + 579))) 1 (some (a + 655))) :: (OrL cy (a + 536) ++ (LoL cy (a + 545) ++ (WoL cy (a + 548) ++ (TrL cy (a + 555) ++ (StL cy (a + 579) ++ (StL cy (a + 655)))))))))) H := SG_r (x := [_]) h
  have t2 := SG_r t1
  rw [StL_len] at t2
  have t3 := SG_r t2
  rw [HiL_len] at t3
  have t3' : SG D (a + 536) (OrL cy (a + 536) ++ (LoL cy (a + 545) ++ (WoL cy (a + 548) ++ (TrL cy (a + 555) ++ (StL cy (a + 579) ++ (StL cy (a + 655))))))) H := SG_r (x := [_]) t3
  have t4 := SG_r t3'
  rw [OrL_len] at t4
  have t5 := SG_r t4
  rw [LoL_len] at t5
  have t6 := SG_r t5
  rw [WoL_len] at t6
  exact ⟨SG_l t3', SG_l t4, SG_l t5, SG_l t6, SG_l t2, t3 0 _ rfl⟩
theorem at_s {D : va_G} {a i : Nat} {cy : Nat → ClassId} {H : Heap} (h : SG D a (PlL cy a) H) (h1 : 10 ≤ i) (h2 : i < 34) : va_at D vwCl (ad0 a i, ent (ad0 a) cy M0 N0 i) H := by
  obtain ⟨hO, hL, hW, hT, hH, h535⟩ := wl_27 h
  rcases (show i = 10 ∨ i = 11 ∨ i = 12 ∨ i = 13 ∨ i = 14 ∨ i = 15 ∨ i = 16 ∨ i = 17 ∨ i = 18 ∨ i = 19 ∨ i = 20 ∨ i = 21 ∨ i = 22 ∨ i = 23 ∨ i = 24 ∨ i = 25 ∨ i = 26 ∨ i = 27 ∨ i = 28 ∨ i = 29 ∨ i = 30 ∨ i = 31 ∨ i = 32 ∨ i = 33 by omega) with rfl | rfl | rfl | rfl | rfl | rfl | rfl | rfl | rfl | rfl | rfl | rfl | rfl | rfl | rfl | rfl | rfl | rfl | rfl | rfl | rfl | rfl | rfl | rfl
  · rw [ent_ob (show shp 10 = 11 from rfl) (by omega)]
    have e : obF (ad0 a) M0 N0 10 11 = PlF a := rfl
    rw [e]
    exact h 0 _ rfl
  · rw [ent_ar (show shp 11 = 23 from rfl) (by omega)]
    have e : arE (ad0 a) cy M0 N0 11 23 = RA (cy 3) 2 (fun j => some (ad0 a (M0 11 j).toNatClampNeg)) := rfl
    rw [e]
    refine at_Q (h535) (fun j hj => ?_)
    have em : M0 11 j = nI (st (7 + j) 0) := rfl
    rw [em, nI_cl (by unfold st; omega)]
    rcases (show j = 0 ∨ j = 1 by omega) with rfl | rfl <;> rfl
  · rw [ent_ob (show shp 12 = 2 from rfl) (by omega)]
    have e : obF (ad0 a) M0 N0 12 2 = HiF (a + 77) := rfl
    rw [e]
    exact hH 0 _ rfl
  · rw [ent_ar (show shp 13 = 23 from rfl) (by omega)]
    have e : arE (ad0 a) cy M0 N0 13 23 = RA (cy 3) 6 (fun j => some (ad0 a (M0 13 j).toNatClampNeg)) := rfl
    rw [e]
    refine at_Q (hH 1 _ rfl) (fun j hj => ?_)
    have em : M0 13 j = nI (st (1 + j) 0) := rfl
    rw [em, nI_cl (by unfold st; omega)]
    rcases (show j = 0 ∨ j = 1 ∨ j = 2 ∨ j = 3 ∨ j = 4 ∨ j = 5 by omega) with rfl | rfl | rfl | rfl | rfl | rfl <;> rfl
  · rw [ent_ob (show shp 14 = 4 from rfl) (by omega)]
    have e : obF (ad0 a) M0 N0 14 4 = OrF (a + 536) := rfl
    rw [e]
    exact hO 0 _ rfl
  · rw [ent_ob (show shp 15 = 5 from rfl) (by omega)]
    have e : obF (ad0 a) M0 N0 15 5 = [.ref (a + 536 + 1 + 1), .int 0] := rfl
    rw [e]
    exact hO 1 _ rfl
  · rw [ent_ar (show shp 16 = 20 from rfl) (by omega)]
    have e : arE (ad0 a) cy M0 N0 16 20 = AI cy 60 := by
      unfold arE
      rw [M0_s (i := 16) (by omega) (by omega) (by omega)]
      rfl
    rw [e]
    exact hO 2 _ rfl
  · rw [ent_ar (show shp 17 = 20 from rfl) (by omega)]
    have e : arE (ad0 a) cy M0 N0 17 20 = AI cy 60 := by
      unfold arE
      rw [M0_s (i := 17) (by omega) (by omega) (by omega)]
      rfl
    rw [e]
    exact hO 3 _ rfl
  · rw [ent_ar (show shp 18 = 20 from rfl) (by omega)]
    have e : arE (ad0 a) cy M0 N0 18 20 = AI cy 60 := by
      unfold arE
      rw [M0_s (i := 18) (by omega) (by omega) (by omega)]
      rfl
    rw [e]
    exact hO 4 _ rfl
  · rw [ent_ar (show shp 19 = 20 from rfl) (by omega)]
    have e : arE (ad0 a) cy M0 N0 19 20 = AI cy 60 := by
      unfold arE
      rw [M0_s (i := 19) (by omega) (by omega) (by omega)]
      rfl
    rw [e]
    exact hO 5 _ rfl
  · rw [ent_ar (show shp 20 = 20 from rfl) (by omega)]
    have e : arE (ad0 a) cy M0 N0 20 20 = AI cy 60 := by
      unfold arE
      rw [M0_s (i := 20) (by omega) (by omega) (by omega)]
      rfl
    rw [e]
    exact hO 6 _ rfl
  · rw [ent_ar (show shp 21 = 20 from rfl) (by omega)]
    have e : arE (ad0 a) cy M0 N0 21 20 = AI cy 60 := by
      unfold arE
      rw [M0_s (i := 21) (by omega) (by omega) (by omega)]
      rfl
    rw [e]
    exact hO 7 _ rfl
  · rw [ent_ar (show shp 22 = 20 from rfl) (by omega)]
    have e : arE (ad0 a) cy M0 N0 22 20 = AI cy 60 := by
      unfold arE
      rw [M0_s (i := 22) (by omega) (by omega) (by omega)]
      rfl
    rw [e]
    exact hO 8 _ rfl
  · rw [ent_ob (show shp 23 = 3 from rfl) (by omega)]
    have e : obF (ad0 a) M0 N0 23 3 = [.ref (a + 545 + 1), .ref (a + 545 + 2)] := rfl
    rw [e]
    exact hL 0 _ rfl
  · rw [ent_ar (show shp 24 = 20 from rfl) (by omega)]
    have e : arE (ad0 a) cy M0 N0 24 20 = AI cy 12 := by
      unfold arE
      rw [M0_s (i := 24) (by omega) (by omega) (by omega)]
      rfl
    rw [e]
    exact hL 1 _ rfl
  · rw [ent_ar (show shp 25 = 20 from rfl) (by omega)]
    have e : arE (ad0 a) cy M0 N0 25 20 = AI cy 3 := by
      unfold arE
      rw [M0_s (i := 25) (by omega) (by omega) (by omega)]
      rfl
    rw [e]
    exact hL 2 _ rfl
  · rw [ent_ob (show shp 26 = 10 from rfl) (by omega)]
    have e : obF (ad0 a) M0 N0 26 10 = WoF (a + 548) := rfl
    rw [e]
    exact hW 0 _ rfl
  · rw [ent_ob (show shp 27 = 3 from rfl) (by omega)]
    have e : obF (ad0 a) M0 N0 27 3 = [.ref (a + 548 + 1 + 1), .ref (a + 548 + 1 + 2)] := rfl
    rw [e]
    exact hW 1 _ rfl
  · rw [ent_ar (show shp 28 = 20 from rfl) (by omega)]
    have e : arE (ad0 a) cy M0 N0 28 20 = AI cy 12 := by
      unfold arE
      rw [M0_s (i := 28) (by omega) (by omega) (by omega)]
      rfl
    rw [e]
    exact hW 2 _ rfl
  · rw [ent_ar (show shp 29 = 20 from rfl) (by omega)]
    have e : arE (ad0 a) cy M0 N0 29 20 = AI cy 3 := by
      unfold arE
      rw [M0_s (i := 29) (by omega) (by omega) (by omega)]
      rfl
    rw [e]
    exact hW 3 _ rfl
  · rw [ent_ob (show shp 30 = 3 from rfl) (by omega)]
    have e : obF (ad0 a) M0 N0 30 3 = [.ref (a + 548 + 4 + 1), .ref (a + 548 + 4 + 2)] := rfl
    rw [e]
    exact hW 4 _ rfl
  · rw [ent_ar (show shp 31 = 20 from rfl) (by omega)]
    have e : arE (ad0 a) cy M0 N0 31 20 = AI cy 12 := by
      unfold arE
      rw [M0_s (i := 31) (by omega) (by omega) (by omega)]
      rfl
    rw [e]
    exact hW 5 _ rfl
  · rw [ent_ar (show shp 32 = 20 from rfl) (by omega)]
    have e : arE (ad0 a) cy M0 N0 32 20 = AI cy 3 := by
      unfold arE
      rw [M0_s (i := 32) (by omega) (by omega) (by omega)]
      rfl
    rw [e]
    exact hW 6 _ rfl
  · rw [ent_ob (show shp 33 = 8 from rfl) (by omega)]
    have e : obF (ad0 a) M0 N0 33 8 = TrF (a + 555) := rfl
    rw [e]
    exact hT 0 _ rfl
theorem at_m {D : va_G} {a i : Nat} {cy : Nat → ClassId} {H : Heap} (h : SG D (a + 731) (MoL cy (a + 731)) H) (h2 : i < 10) : va_at D vwCl (ad0 a i, ent (ad0 a) cy M0 N0 i) H := by
  rcases (show i = 0 ∨ i = 1 ∨ i = 2 ∨ i = 3 ∨ i = 4 ∨ i = 5 ∨ i = 6 ∨ i = 7 ∨ i = 8 ∨ i = 9 by omega) with rfl | rfl | rfl | rfl | rfl | rfl | rfl | rfl | rfl | rfl
  · rw [ent_ob (show shp 0 = 12 from rfl) (by omega)]
    have e : obF (ad0 a) M0 N0 0 12 = MoF (a + 731) := rfl
    rw [e]
    exact h 0 _ rfl
  · rw [ent_ar (show shp 1 = 30 from rfl) (by omega)]
    have e : arE (ad0 a) cy M0 N0 1 30 = .inl (cy 0, 691, .inl (mS 36)) := by
      unfold arE
      rw [show N0 1 = mS 36 from funext fun k => if_pos rfl]
      rfl
    rw [e]
    exact h 1 _ rfl
  · rw [ent_ar (show shp 2 = 30 from rfl) (by omega)]
    have e : arE (ad0 a) cy M0 N0 2 30 = .inl (cy 0, 691, .inl (fun _ => 0)) := by
      unfold arE
      rw [N0_n (i := 2) (by omega)]
      rfl
    rw [e]
    exact h 2 _ rfl
  · rw [ent_ar (show shp 3 = 30 from rfl) (by omega)]
    have e : arE (ad0 a) cy M0 N0 3 30 = .inl (cy 0, 4146, .inl (fun _ => 0)) := by
      unfold arE
      rw [N0_n (i := 3) (by omega)]
      rfl
    rw [e]
    exact h 3 _ rfl
  · rw [ent_ar (show shp 4 = 30 from rfl) (by omega)]
    have e : arE (ad0 a) cy M0 N0 4 30 = .inl (cy 0, 1382, .inl (fun _ => 0)) := by
      unfold arE
      rw [N0_n (i := 4) (by omega)]
      rfl
    rw [e]
    exact h 4 _ rfl
  · rw [ent_ar (show shp 5 = 31 from rfl) (by omega)]
    have e : arE (ad0 a) cy M0 N0 5 31 = .inl (cy 1, 2, .inl (fun _ => 0)) := by
      unfold arE
      rw [N0_n (i := 5) (by omega)]
      rfl
    rw [e]
    exact h 5 _ rfl
  · rw [ent_ar (show shp 6 = 30 from rfl) (by omega)]
    have e : arE (ad0 a) cy M0 N0 6 30 = .inl (cy 0, 60, .inl (fun _ => 0)) := by
      unfold arE
      rw [N0_n (i := 6) (by omega)]
      rfl
    rw [e]
    exact h 6 _ rfl
  · rw [ent_ar (show shp 7 = 30 from rfl) (by omega)]
    have e : arE (ad0 a) cy M0 N0 7 30 = .inl (cy 0, 12, .inl (fun _ => 0)) := by
      unfold arE
      rw [N0_n (i := 7) (by omega)]
      rfl
    rw [e]
    exact h 7 _ rfl
  · rw [ent_ar (show shp 8 = 30 from rfl) (by omega)]
    have e : arE (ad0 a) cy M0 N0 8 30 = .inl (cy 0, 3, .inl (fun _ => 0)) := by
      unfold arE
      rw [N0_n (i := 8) (by omega)]
      rfl
    rw [e]
    exact h 8 _ rfl
  · rw [ent_ar (show shp 9 = 30 from rfl) (by omega)]
    have e : arE (ad0 a) cy M0 N0 9 30 = .inl (cy 0, 62, .inl (fun _ => 0)) := by
      unfold arE
      rw [N0_n (i := 9) (by omega)]
      rfl
    rw [e]
    exact h 9 _ rfl
theorem at_all {D : va_G} {a i : Nat} {cy : Nat → ClassId} {H : Heap} (h : SG D a (PlL cy a ++ MoL cy (a + 731)) H) (hi : i < 741) : va_at D vwCl (ad0 a i, ent (ad0 a) cy M0 N0 i) H := by
  have hP := SG_l h
  have hM := SG_r h
  rw [PlL_len] at hM
  by_cases h1 : i < 10
  · exact at_m hM h1
  · by_cases h2 : i < 34
    · exact at_s hP (by omega) h2
    · by_cases h3 : i < 97
      · have e : i = st ((i - 34) / 7) ((i - 34) % 7) := by unfold st; omega
        rw [e]
        exact at_st (by omega) (by omega) (wl_st hP (by omega))
      · have e : i = pq ((i - 97) / 23) ((i - 97) % 23) := by unfold pq; omega
        rw [e]
        by_cases h4 : (i - 97) / 23 = 27
        · rw [h4]
          refine at_pr (by omega) (by omega) ?_
          have hT := (wl_27 hP).2.2.2.1
          unfold TrL TrT at hT
          exact SG_r (x := [_]) hT
        · refine at_pr (by omega) (by omega) ?_
          have h5 := sg_stp (j := (i - 97) / 23 % 3) (show (i - 97) / 23 / 3 < 9 by omega) (by omega) (wl_st hP (show (i - 97) / 23 / 3 < 9 by omega))
          rw [show 3 * ((i - 97) / 23 / 3) + (i - 97) / 23 % 3 = (i - 97) / 23 by omega] at h5
          exact h5
def mF (k : Nat) : Int32 := if k = 0 then 2400 else if k = 1 then 7000 else if k = 2 then 3 else if 22 ≤ k ∧ 75 ≤ (k - 22) % 223 ∧ (k - 22) % 223 < 87 then nI (((k - 22) % 223 - 75) % 3) else 0
theorem mS_26 : ∀ i, i < 27 → ∀ j, j < 26 → mS 36 (26 * i + j) = mF (26 * i + j) := by decide +kernel
theorem mS_f {k : Nat} (h : k < 691) : mS 36 k = mF k := by
  have h1 := mS_26 (k / 26) (by omega) (k % 26) (by omega)
  rw [Nat.div_add_mod] at h1
  exact h1
def T00 : SA := fun o j => if o = 1 then (if j = 0 then 2400 else if j = 1 then 7000 else 3) else 0
def A00 : PA := fun _ o j => if o = 5 then j % 3 else 0
theorem N01 {k : Nat} (h : k < 691) : N0 1 k = mF k := (if_pos rfl).trans (mS_f h)
theorem mF0 {k : Nat} (h : 3 ≤ k) (h2 : ¬ (22 ≤ k ∧ 75 ≤ (k - 22) % 223 ∧ (k - 22) % 223 < 87)) : mF k = 0 := by
  unfold mF
  rw [if_neg (by omega), if_neg (by omega), if_neg (by omega), if_neg h2]
theorem cs00 : CS M0 0 T00 A00 := by
  refine ⟨fun o j ho hv => ?_, fun p hp o j ho hv => ?_⟩
  · by_cases h1 : o = 1
    · subst h1
      have hj : j < 3 := of_decide_eq_true hv
      rw [M0_st1 (by omega)]
      rcases (show j = 0 ∨ j = 1 ∨ j = 2 by omega) with rfl | rfl | rfl <;> rfl
    · rw [M0_st (by omega) ho h1]
      unfold T00
      rw [if_neg h1]
      rfl
  · by_cases h5 : o = 5
    · subst h5
      have hj : j < 12 := of_decide_eq_true hv
      rw [M0_pq5 (by omega), vI_n (by omega)]
      exact if_pos hj
    · rw [M0_pq (by omega) ho h5]
      unfold A00
      rw [if_neg h5]
      unfold vI
      rw [if_neg (by omega)]
      rfl
theorem rp00 {p : Nat} (hp : p < 3) : RP (N0 1) p (A00 p) := by
  have e : ∀ w, w < 223 → ¬ (75 ≤ w ∧ w < 87) → N0 1 (PB p + w) = 0 := fun w hw h => by
    rw [N01 (by unfold PB; omega)]
    exact mF0 (by unfold PB; omega) (by unfold PB; omega)
  refine ⟨fun j hj => e j (by omega) (by omega), fun i hi => absurd hi (Nat.not_lt_zero i), fun d hd => ?_, fun d hd => ?_, fun k hk => ?_, fun d hd => ?_, fun k hk => ?_, fun c hc => ⟨?_, fun i hi => absurd hi (Nat.not_lt_zero i)⟩, ?_, fun h => absurd rfl h⟩
  · rw [N01 (by unfold PB; omega)]
    unfold mF PB
    rw [if_neg (by omega), if_neg (by omega), if_neg (by omega), if_pos (by omega)]
    show nI _ = nI (d % 3)
    congr 1
    omega
  · rw [Nat.add_assoc, e _ (by omega) (by omega)]
    show _ = nI (0 / 2 ^ d % 2)
    rw [Nat.zero_div]
    rfl
  · rw [Nat.add_assoc, e _ (by omega) (by omega)]
    show _ = nI (0 / 2 ^ k % 2)
    rw [Nat.zero_div]
    rfl
  · rw [Nat.add_assoc, e _ (by omega) (by omega)]
    rfl
  · rw [Nat.add_assoc, e _ (by omega) (by omega)]
    rfl
  · rw [Nat.add_assoc, e _ (by omega) (by omega)]
    rfl
  · exact e 221 (by omega) (by omega)
theorem rel00 : Rel M0 N0 := by
  have a0 : ∀ p o j, o ≠ 5 → A00 p o j = 0 := fun p o j h => if_neg h
  refine ⟨⟨T00, A00, cs00, ⟨⟨fun j hj => ?_, ?_, fun t ht => ?_⟩, fun p hp => rp00 hp⟩, ⟨⟨by decide, by decide, by decide, by decide, fun t ht => ⟨Nat.zero_le _, Nat.zero_le _, Nat.zero_le _⟩⟩, fun p hp => ?_⟩⟩, 0, ⟨fun j => 1 + j, fun _ => (T00, A00), Nat.zero_le _, rfl, rfl, fun j hj => ⟨(by show 1 ≤ 1 + j; omega), (by show 1 + j ≤ 6; omega), rfl⟩, fun i j _ _ h => (by have h9 : 1 + i = 1 + j := h; omega), fun j hj => absurd hj (Nat.not_lt_zero j)⟩, ⟨0, fun _ => (T00, A00), by omega, rfl, fun j hj => ⟨rfl, ?_, fun hm => ?_⟩⟩, 0, fun _ => 33, Nat.zero_le _, rfl, rfl, fun j hj => absurd hj (Nat.not_lt_zero j)⟩
  · rw [N01 (by omega)]
    rcases (show j = 0 ∨ j = 1 ∨ j = 2 by omega) with rfl | rfl | rfl <;> rfl
  · rw [N01 (by omega)]
    rfl
  · rw [N01 (by omega), N01 (by omega), N01 (by omega), mF0 (by omega) (by omega), mF0 (by omega) (by omega), mF0 (by omega) (by omega)]
    exact ⟨rfl, rfl, rfl⟩
  · refine ⟨⟨Nat.zero_le _, Nat.zero_le _, Nat.zero_le _⟩, fun i hi => absurd hi (Nat.not_lt_zero i), fun i _ => Nat.zero_le _, fun i _ => ⟨Nat.zero_le _, Nat.zero_le _, Nat.zero_le _, Nat.zero_le _⟩, fun i _ _ => ⟨rfl, rfl, rfl, rfl, fun c _ => a0 p _ _ (by omega)⟩, fun d _ => Nat.mod_lt _ (by omega), fun c _ => ⟨Nat.zero_le _, fun i _ => by rw [a0 p _ _ (by omega)]; exact Nat.zero_le _⟩, (by rw [a0 p _ _ (by omega)]; decide), (by rw [a0 p _ _ (by omega)]; decide), fun d _ => (by rw [a0 p _ _ (by omega)]; decide), fun k _ => (by rw [a0 p _ _ (by omega)]; decide), Nat.zero_le _, fun _ => rfl, fun h => absurd rfl h⟩
  · rw [Nat.zero_div]
    rfl
  · rw [Nat.zero_div] at hm
    cases hm
/-- the world behind both constructors -/
theorem wd00 {D : va_G} {a : Nat} {cy : Nat → ClassId} {H : Heap} (h : WX D a (PlL cy a ++ MoL cy (a + 731)) H) : va_P D vwCl (wl (ad0 a) cy M0 N0) H ∧ va_D (AG (ad0 a)) (wl (ad0 a) cy M0 N0) := by
  refine ⟨fun k q hk => ?_, fun i j p q hi hj hpq => ?_, fun k q hk => ?_⟩
  · obtain ⟨hi, rfl⟩ := wl_out hk
    exact at_all h.2 hi
  · obtain ⟨h1, rfl⟩ := wl_out hi
    obtain ⟨h2, rfl⟩ := wl_out hj
    exact ad_inj h1 h2 hpq
  · obtain ⟨h1, rfl⟩ := wl_out hk
    exact ⟨k, h1, rfl⟩
