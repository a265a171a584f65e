/-! the walks: each method does what its function says -/
theorem mfX12_type : MF true yX12_type RX12 cX12_type 5 (some .int) 3 := ⟨w982, w13, by rw [if_pos rfl]; exact ⟨w980, w981⟩, ⟨by decide, by decide⟩, by decide +kernel⟩
set_option maxHeartbeats 4000000 in
theorem tX12_type {l : Launch} {G : GD} {M N Mo : Mem} {a1 : Int32} {a2 : Int32} {a3 : Int32} {r : Int32} (h : fX12_type N a1 a2 a3 = some (r, Mo)) : MI l yX12_type cX12_type 5 .int 1 22 G [.ref (G.2.1 0), .int a1, .int a2, .int a3] M N r M Mo := by
  unfold fX12_type at h
  refine MI_of (own := RX12) (by decide) rfl (Nat.le_of_ble_eq_true rfl) ?_
  intro p e s m args below meth c F S ls hl
  have hx := F.1
  have hb := F.2.1
  have hown := F.2.2.2.2.1
  have hts := F.2.2.2.2.2.1
  have hZ := F.2.2.2.2.2.2.2.2.2
  have hl : lv_has ls 5 [(0, .ref (G.2.1 0)), (1, .int a1), (2, .int a2), (3, .int a3)] := hl
  generalize s.heap = H, ([] : List Loc) = locs at S ⊢
  refine lv_iload_n (pc := 0) hx hb dX12_type_0 rfl (lv_at hl 1 rfl) ?_
  refine lv_bipush (pc := 1) (v := 100) hx hb dX12_type_1 (by decide) ?_
  refine lv_sipush (pc := 3) (v := 2000) hx hb dX12_type_3 (by decide) ?_
  obtain ⟨v2, e1, h⟩ := ob_out h
  refine c_sI (pc := 6) (rest := []) F S (tX12_in e1) mfX12_in w972 ⟨Nat.le_of_ble_eq_true rfl, Nat.le_of_ble_eq_true rfl⟩ rfl hl.1 rfl (Nat.le_of_ble_eq_true rfl) dX12_type_6 (fun H locs S => ?_)
  refine lv_if_eq (pc := 9) (tgt := 32) hx hb dX12_type_9 (by decide) (fun c3 => ?_) (fun c3 => ?_)
  · replace h := (if_pos c3).symm.trans h
    refine lv_bipush (pc := 32) (v := (-2)) hx hb dX12_type_32 (by decide) ?_
    cases h
    exact r_iret (pc := 34) F S rfl dX12_type_34
  · replace h := (if_neg c3).symm.trans h
    refine lv_iload_n (pc := 12) hx hb dX12_type_12 rfl (lv_at hl 2 rfl) ?_
    refine lv_iconst (pc := 13) (v := 0) hx hb dX12_type_13 (by decide) ?_
    refine lv_bipush (pc := 14) (v := 20) hx hb dX12_type_14 (by decide) ?_
    obtain ⟨v5, e4, h⟩ := ob_out h
    refine c_sI (pc := 16) (rest := []) F S (tX12_in e4) mfX12_in w972 ⟨Nat.le_of_ble_eq_true rfl, Nat.le_of_ble_eq_true rfl⟩ rfl hl.1 rfl (Nat.le_of_ble_eq_true rfl) dX12_type_16 (fun H locs S => ?_)
    refine lv_if_eq (pc := 19) (tgt := 32) hx hb dX12_type_19 (by decide) (fun c6 => ?_) (fun c6 => ?_)
    · replace h := (if_pos c6).symm.trans h
      refine lv_bipush (pc := 32) (v := (-2)) hx hb dX12_type_32 (by decide) ?_
      cases h
      exact r_iret (pc := 34) F S rfl dX12_type_34
    · replace h := (if_neg c6).symm.trans h
      refine lv_iload_n (pc := 22) hx hb dX12_type_22 rfl (lv_at hl 3 rfl) ?_
      refine lv_iconst (pc := 23) (v := 0) hx hb dX12_type_23 (by decide) ?_
      refine lv_bipush (pc := 24) (v := 50) hx hb dX12_type_24 (by decide) ?_
      obtain ⟨v8, e7, h⟩ := ob_out h
      refine c_sI (pc := 26) (rest := []) F S (tX12_in e7) mfX12_in w972 ⟨Nat.le_of_ble_eq_true rfl, Nat.le_of_ble_eq_true rfl⟩ rfl hl.1 rfl (Nat.le_of_ble_eq_true rfl) dX12_type_26 (fun H locs S => ?_)
      refine lv_if_ne (pc := 29) (tgt := 35) hx hb dX12_type_29 (by decide) (fun c9 => ?_) (fun c9 => ?_)
      · replace h := (if_neg c9).symm.trans h
        refine lv_aload_n (pc := 35) hx hb dX12_type_35 rfl (lv_at hl 0 rfl) ?_
        refine r_gR (pc := 36) (k := 0) (x := 1) (i := 0) (ci := 12) F S (by decide) (by decide) cl12 inRX12 (by decide) w903 (fun _ => rfl) dX12_type_36 ?_
        refine lv_iconst (pc := 39) (v := 3) hx hb dX12_type_39 (by decide) ?_
        obtain ⟨v10, e11, h⟩ := ob_out h
        refine r_nL (pc := 40) F S e11 dX12_type_40 ?_
        refine lv_bipush (pc := 41) (v := 6) hx hb dX12_type_41 (by decide) ?_
        refine lv_icmp_ne (pc := 43) (tgt := 49) hx hb dX12_type_43 (by decide) (fun c12 => ?_) (fun c12 => ?_)
        · replace h := (if_neg c12).symm.trans h
          refine lv_aload_n (pc := 49) hx hb dX12_type_49 rfl (lv_at hl 0 rfl) ?_
          obtain ⟨M14, e13, h⟩ := ob_out h
          refine c_vV (pc := 50) (rest := []) F S (tX12_know e13) mfX12_know (by decide) (by decide) cl12 w975 ⟨Nat.le_of_ble_eq_true rfl, Nat.le_of_ble_eq_true rfl⟩ rfl hl.1 rfl (Nat.le_of_ble_eq_true rfl) dX12_type_50 (fun H locs S => ?_)
          refine lv_aload_n (pc := 53) hx hb dX12_type_53 rfl (lv_at hl 0 rfl) ?_
          refine r_gR (pc := 54) (k := 0) (x := 1) (i := 0) (ci := 12) F S (by decide) (by decide) cl12 inRX12 (by decide) w903 (fun _ => rfl) dX12_type_54 ?_
          refine lv_iconst (pc := 57) (v := 3) hx hb dX12_type_57 (by decide) ?_
          obtain ⟨v15, e16, h⟩ := ob_out h
          refine r_nL (pc := 58) F S e16 dX12_type_58 ?_
          refine lv_istore (pc := 59) (lv' := [(4, .int v15), (0, .ref (G.2.1 0)), (1, .int a1), (2, .int a2), (3, .int a3)]) hx hb dX12_type_59 hl (by decide) rfl (fun ls hl => ?_)
          refine lv_aload_n (pc := 61) hx hb dX12_type_61 rfl (lv_at hl 1 rfl) ?_
          refine r_gR (pc := 62) (k := 0) (x := 1) (i := 0) (ci := 12) F S (by decide) (by decide) cl12 inRX12 (by decide) w903 (fun _ => rfl) dX12_type_62 ?_
          refine lv_iconst (pc := 65) (v := 4) hx hb dX12_type_65 (by decide) ?_
          refine lv_iconst (pc := 66) (v := 3) hx hb dX12_type_66 (by decide) ?_
          refine lv_iload (pc := 67) hx hb dX12_type_67 (lv_at hl 0 rfl) ?_
          refine lv_imul (pc := 69) hx hb dX12_type_69 ?_
          refine lv_iadd (pc := 70) hx hb dX12_type_70 ?_
          refine lv_iload_n (pc := 71) hx hb dX12_type_71 rfl (lv_at hl 2 rfl) ?_
          obtain ⟨M17, e18, h⟩ := ob_out h
          refine r_nS (pc := 72) F S e18 dX12_type_72 (fun H locs S => ?_)
          refine lv_aload_n (pc := 73) hx hb dX12_type_73 rfl (lv_at hl 1 rfl) ?_
          refine r_gR (pc := 74) (k := 0) (x := 1) (i := 0) (ci := 12) F S (by decide) (by decide) cl12 inRX12 (by decide) w903 (fun _ => rfl) dX12_type_74 ?_
          refine lv_iconst (pc := 77) (v := 4) hx hb dX12_type_77 (by decide) ?_
          refine lv_iconst (pc := 78) (v := 3) hx hb dX12_type_78 (by decide) ?_
          refine lv_iload (pc := 79) hx hb dX12_type_79 (lv_at hl 0 rfl) ?_
          refine lv_imul (pc := 81) hx hb dX12_type_81 ?_
          refine lv_iadd (pc := 82) hx hb dX12_type_82 ?_
          refine lv_iconst (pc := 83) (v := 1) hx hb dX12_type_83 (by decide) ?_
          refine lv_iadd (pc := 84) hx hb dX12_type_84 ?_
          refine lv_iload_n (pc := 85) hx hb dX12_type_85 rfl (lv_at hl 3 rfl) ?_
          obtain ⟨M19, e20, h⟩ := ob_out h
          refine r_nS (pc := 86) F S e20 dX12_type_86 (fun H locs S => ?_)
          refine lv_aload_n (pc := 87) hx hb dX12_type_87 rfl (lv_at hl 1 rfl) ?_
          refine r_gR (pc := 88) (k := 0) (x := 1) (i := 0) (ci := 12) F S (by decide) (by decide) cl12 inRX12 (by decide) w903 (fun _ => rfl) dX12_type_88 ?_
          refine lv_iconst (pc := 91) (v := 4) hx hb dX12_type_91 (by decide) ?_
          refine lv_iconst (pc := 92) (v := 3) hx hb dX12_type_92 (by decide) ?_
          refine lv_iload (pc := 93) hx hb dX12_type_93 (lv_at hl 0 rfl) ?_
          refine lv_imul (pc := 95) hx hb dX12_type_95 ?_
          refine lv_iadd (pc := 96) hx hb dX12_type_96 ?_
          refine lv_iconst (pc := 97) (v := 2) hx hb dX12_type_97 (by decide) ?_
          refine lv_iadd (pc := 98) hx hb dX12_type_98 ?_
          refine lv_iload_n (pc := 99) hx hb dX12_type_99 rfl (lv_at hl 4 rfl) ?_
          obtain ⟨M21, e22, h⟩ := ob_out h
          refine r_nS (pc := 100) F S e22 dX12_type_100 (fun H locs S => ?_)
          refine lv_aload_n (pc := 101) hx hb dX12_type_101 rfl (lv_at hl 1 rfl) ?_
          refine r_gR (pc := 102) (k := 0) (x := 1) (i := 0) (ci := 12) F S (by decide) (by decide) cl12 inRX12 (by decide) w903 (fun _ => rfl) dX12_type_102 ?_
          refine lv_iconst (pc := 105) (v := 3) hx hb dX12_type_105 (by decide) ?_
          refine lv_dup2_11 (pc := 106) hx hb dX12_type_106 rfl rfl ?_
          obtain ⟨v23, e24, h⟩ := ob_out h
          refine r_nL (pc := 107) F S e24 dX12_type_107 ?_
          refine lv_iconst (pc := 108) (v := 1) hx hb dX12_type_108 (by decide) ?_
          refine lv_iadd (pc := 109) hx hb dX12_type_109 ?_
          obtain ⟨M25, e26, h⟩ := ob_out h
          refine r_nS (pc := 110) F S e26 dX12_type_110 (fun H locs S => ?_)
          refine lv_iload (pc := 111) hx hb dX12_type_111 (lv_at hl 0 rfl) ?_
          cases h
          exact r_iret (pc := 113) F S rfl dX12_type_113
        · replace h := (if_pos c12).symm.trans h
          refine lv_bipush (pc := 46) (v := (-4)) hx hb dX12_type_46 (by decide) ?_
          cases h
          exact r_iret (pc := 48) F S rfl dX12_type_48
      · replace h := (if_pos c9).symm.trans h
        refine lv_bipush (pc := 32) (v := (-2)) hx hb dX12_type_32 (by decide) ?_
        cases h
        exact r_iret (pc := 34) F S rfl dX12_type_34
theorem mfX12_days : MF true yX12_days RX12 cX12_days 5 (some .int) 3 := ⟨w986, w13, by rw [if_pos rfl]; exact ⟨w984, w985⟩, ⟨by decide, by decide⟩, by decide +kernel⟩
set_option maxHeartbeats 4000000 in
theorem tX12_days {l : Launch} {G : GD} {M N Mo : Mem} {a1 : Int32} {a2 : Int32} {a3 : Int32} {r : Int32} (h : fX12_days N a1 a2 a3 = some (r, Mo)) : MI l yX12_days cX12_days 5 .int 2 42 G [.ref (G.2.1 0), .int a1, .int a2, .int a3] M N r M Mo := by
  unfold fX12_days at h
  refine MI_of (own := RX12) (by decide) rfl (Nat.le_of_ble_eq_true rfl) ?_
  intro p e s m args below meth c F S ls hl
  have hx := F.1
  have hb := F.2.1
  have hown := F.2.2.2.2.1
  have hts := F.2.2.2.2.2.1
  have hZ := F.2.2.2.2.2.2.2.2.2
  have hl : lv_has ls 5 [(0, .ref (G.2.1 0)), (1, .int a1), (2, .int a2), (3, .int a3)] := hl
  generalize s.heap = H, ([] : List Loc) = locs at S ⊢
  refine lv_iload_n (pc := 0) hx hb dX12_days_0 rfl (lv_at hl 1 rfl) ?_
  obtain ⟨v2, e1, h⟩ := ob_out h
  refine c_sI (pc := 1) (rest := []) F S (tX12_isPremiere e1) mfX12_isPremiere w987 ⟨Nat.le_of_ble_eq_true rfl, Nat.le_of_ble_eq_true rfl⟩ rfl hl.1 rfl (Nat.le_of_ble_eq_true rfl) dX12_days_1 (fun H locs S => ?_)
  refine lv_if_ne (pc := 4) (tgt := 9) hx hb dX12_days_4 (by decide) (fun c3 => ?_) (fun c3 => ?_)
  · replace h := (if_neg c3).symm.trans h
    refine lv_iload_n (pc := 9) hx hb dX12_days_9 rfl (lv_at hl 2 rfl) ?_
    refine lv_iconst (pc := 10) (v := 0) hx hb dX12_days_10 (by decide) ?_
    refine lv_bipush (pc := 11) (v := 6) hx hb dX12_days_11 (by decide) ?_
    obtain ⟨v5, e4, h⟩ := ob_out h
    refine c_sI (pc := 13) (rest := []) F S (tX12_in e4) mfX12_in w972 ⟨Nat.le_of_ble_eq_true rfl, Nat.le_of_ble_eq_true rfl⟩ rfl hl.1 rfl (Nat.le_of_ble_eq_true rfl) dX12_days_13 (fun H locs S => ?_)
    refine lv_if_eq (pc := 16) (tgt := 29) hx hb dX12_days_16 (by decide) (fun c6 => ?_) (fun c6 => ?_)
    · replace h := (if_pos c6).symm.trans h
      refine lv_bipush (pc := 29) (v := (-2)) hx hb dX12_days_29 (by decide) ?_
      cases h
      exact r_iret (pc := 31) F S rfl dX12_days_31
    · replace h := (if_neg c6).symm.trans h
      refine lv_iload_n (pc := 19) hx hb dX12_days_19 rfl (lv_at hl 3 rfl) ?_
      refine lv_iload_n (pc := 20) hx hb dX12_days_20 rfl (lv_at hl 2 rfl) ?_
      refine lv_bipush (pc := 21) (v := 6) hx hb dX12_days_21 (by decide) ?_
      obtain ⟨v8, e7, h⟩ := ob_out h
      refine c_sI (pc := 23) (rest := []) F S (tX12_in e7) mfX12_in w972 ⟨Nat.le_of_ble_eq_true rfl, Nat.le_of_ble_eq_true rfl⟩ rfl hl.1 rfl (Nat.le_of_ble_eq_true rfl) dX12_days_23 (fun H locs S => ?_)
      refine lv_if_ne (pc := 26) (tgt := 32) hx hb dX12_days_26 (by decide) (fun c9 => ?_) (fun c9 => ?_)
      · replace h := (if_neg c9).symm.trans h
        refine lv_aload_n (pc := 32) hx hb dX12_days_32 rfl (lv_at hl 0 rfl) ?_
        obtain ⟨M11, e10, h⟩ := ob_out h
        refine c_vV (pc := 33) (rest := []) F S (tX12_know e10) mfX12_know (by decide) (by decide) cl12 w975 ⟨Nat.le_of_ble_eq_true rfl, Nat.le_of_ble_eq_true rfl⟩ rfl hl.1 rfl (Nat.le_of_ble_eq_true rfl) dX12_days_33 (fun H locs S => ?_)
        refine lv_aload_n (pc := 36) hx hb dX12_days_36 rfl (lv_at hl 0 rfl) ?_
        refine r_gR (pc := 37) (k := 0) (x := 1) (i := 0) (ci := 12) F S (by decide) (by decide) cl12 inRX12 (by decide) w903 (fun _ => rfl) dX12_days_37 ?_
        refine lv_iload_n (pc := 40) hx hb dX12_days_40 rfl (lv_at hl 1 rfl) ?_
        refine lv_iconst (pc := 41) (v := 1) hx hb dX12_days_41 (by decide) ?_
        obtain ⟨v13, e12, h⟩ := ob_out h
        refine c_sI (pc := 42) (rest := [.ref (G.2.1 1)]) F S (tX12_at1 e12) mfX12_at1 w900 ⟨Nat.le_of_ble_eq_true rfl, Nat.le_of_ble_eq_true rfl⟩ rfl hl.1 rfl (Nat.le_of_ble_eq_true rfl) dX12_days_42 (fun H locs S => ?_)
        obtain ⟨v14, e15, h⟩ := ob_out h
        refine r_nL (pc := 45) F S e15 dX12_days_45 ?_
        refine lv_aload_n (pc := 46) hx hb dX12_days_46 rfl (lv_at hl 0 rfl) ?_
        refine r_gR (pc := 47) (k := 0) (x := 1) (i := 0) (ci := 12) F S (by decide) (by decide) cl12 inRX12 (by decide) w903 (fun _ => rfl) dX12_days_47 ?_
        refine lv_iload_n (pc := 50) hx hb dX12_days_50 rfl (lv_at hl 1 rfl) ?_
        refine lv_iconst (pc := 51) (v := 0) hx hb dX12_days_51 (by decide) ?_
        obtain ⟨v17, e16, h⟩ := ob_out h
        refine c_sI (pc := 52) (rest := [.ref (G.2.1 1), .int v14]) F S (tX12_at1 e16) mfX12_at1 w900 ⟨Nat.le_of_ble_eq_true rfl, Nat.le_of_ble_eq_true rfl⟩ rfl hl.1 rfl (Nat.le_of_ble_eq_true rfl) dX12_days_52 (fun H locs S => ?_)
        obtain ⟨v18, e19, h⟩ := ob_out h
        refine r_nL (pc := 55) F S e19 dX12_days_55 ?_
        refine lv_isub (pc := 56) hx hb dX12_days_56 ?_
        refine lv_iconst (pc := 57) (v := 1) hx hb dX12_days_57 (by decide) ?_
        refine lv_iadd (pc := 58) hx hb dX12_days_58 ?_
        obtain ⟨v20, e21, h⟩ := lt1_out h
        refine nm_i e21 ?_
        refine lv_istore (pc := 59) (lv' := [(4, .int v20), (0, .ref (G.2.1 0)), (1, .int a1), (2, .int a2), (3, .int a3)]) hx hb dX12_days_59 hl (by decide) rfl (fun ls hl => ?_)
        refine lv_aload_n (pc := 61) hx hb dX12_days_61 rfl (lv_at hl 1 rfl) ?_
        refine r_gR (pc := 62) (k := 0) (x := 1) (i := 0) (ci := 12) F S (by decide) (by decide) cl12 inRX12 (by decide) w903 (fun _ => rfl) dX12_days_62 ?_
        refine lv_iload_n (pc := 65) hx hb dX12_days_65 rfl (lv_at hl 2 rfl) ?_
        refine lv_iconst (pc := 66) (v := 0) hx hb dX12_days_66 (by decide) ?_
        obtain ⟨v23, e22, h⟩ := ob_out h
        refine c_sI (pc := 67) (rest := [.ref (G.2.1 1)]) F S (tX12_at1 e22) mfX12_at1 w900 ⟨Nat.le_of_ble_eq_true rfl, Nat.le_of_ble_eq_true rfl⟩ rfl hl.1 rfl (Nat.le_of_ble_eq_true rfl) dX12_days_67 (fun H locs S => ?_)
        refine lv_iload_n (pc := 70) hx hb dX12_days_70 rfl (lv_at hl 3 rfl) ?_
        obtain ⟨M24, e25, h⟩ := ob_out h
        refine r_nS (pc := 71) F S e25 dX12_days_71 (fun H locs S => ?_)
        refine lv_aload_n (pc := 72) hx hb dX12_days_72 rfl (lv_at hl 1 rfl) ?_
        refine r_gR (pc := 73) (k := 0) (x := 1) (i := 0) (ci := 12) F S (by decide) (by decide) cl12 inRX12 (by decide) w903 (fun _ => rfl) dX12_days_73 ?_
        refine lv_iload_n (pc := 76) hx hb dX12_days_76 rfl (lv_at hl 2 rfl) ?_
        refine lv_iconst (pc := 77) (v := 1) hx hb dX12_days_77 (by decide) ?_
        obtain ⟨v27, e26, h⟩ := ob_out h
        refine c_sI (pc := 78) (rest := [.ref (G.2.1 1)]) F S (tX12_at1 e26) mfX12_at1 w900 ⟨Nat.le_of_ble_eq_true rfl, Nat.le_of_ble_eq_true rfl⟩ rfl hl.1 rfl (Nat.le_of_ble_eq_true rfl) dX12_days_78 (fun H locs S => ?_)
        refine lv_iload_n (pc := 81) hx hb dX12_days_81 rfl (lv_at hl 4 rfl) ?_
        obtain ⟨M28, e29, h⟩ := ob_out h
        refine r_nS (pc := 82) F S e29 dX12_days_82 (fun H locs S => ?_)
        refine lv_iload (pc := 83) hx hb dX12_days_83 (lv_at hl 0 rfl) ?_
        cases h
        exact r_iret (pc := 85) F S rfl dX12_days_85
      · replace h := (if_pos c9).symm.trans h
        refine lv_bipush (pc := 29) (v := (-2)) hx hb dX12_days_29 (by decide) ?_
        cases h
        exact r_iret (pc := 31) F S rfl dX12_days_31
  · replace h := (if_pos c3).symm.trans h
    refine lv_iconst (pc := 7) (v := (-1)) hx hb dX12_days_7 (by decide) ?_
    cases h
    exact r_iret (pc := 8) F S rfl dX12_days_8
theorem mfX12_hang : MF true yX12_hang RX12 cX12_hang 6 (some .int) 3 := ⟨w993, w13, by rw [if_pos rfl]; exact ⟨w991, w992⟩, ⟨by decide, by decide⟩, by decide +kernel⟩
set_option maxHeartbeats 4000000 in
theorem pX12_hang_L67 {p : Program} {l : Launch} {e : Env} {s : State} {m : MethodId} {args : Array Value} {below : List Frame} {meth : Method} {c : Code} {Q : State → Prop} {G : GD} (F : FX p s m args meth c RX12 cX12_hang 6 (some .int) G) : ∀ (n : Nat) {M N : Mem} {a1 : Int32} {a2 : Int32} {a3 : Int32} {a4 : Int32} {a5 : Int32} {H : Heap} {locs : List Loc} {ls : Array Slot} {Mo : Mem}, ST G M N s H locs → lv_has ls 6 [(0, .ref (G.2.1 0)), (1, .int a1), (2, .int a2), (3, .int a3), (4, .int a4), (5, .int a5)] → fX12_hang_L67 n N a1 a2 a3 a4 a5 = some Mo → (K1 : ∀ (H : Heap) (locs : List Loc) (ls : Array Slot), ST G M Mo s H locs → lv_has ls 6 [(0, .ref (G.2.1 0)), (1, .int a1), (2, .int a2), (3, .int a3), (4, .int a4)] → W p l e (Rm 2 43) s m args below meth c H locs 0 0 Q (F0 m 94 ls [])) → W p l e (Rm 2 43) s m args below meth c H locs 0 0 Q (F0 m 67 ls []) := by
  intro n
  induction n with
  | zero => intro M N a1 a2 a3 a4 a5 H locs ls Mo S hl h K1; cases h
  | succ n ih =>
    intro M N a1 a2 a3 a4 a5 H locs ls Mo S hl h K1
    rw [fX12_hang_L67] at h
    have hx := F.1
    have hb := F.2.1
    have hown := F.2.2.2.2.1
    have hts := F.2.2.2.2.2.1
    have hZ := F.2.2.2.2.2.2.2.2.2
    refine lv_iload (pc := 67) hx hb dX12_hang_67 (lv_at hl 5 rfl) ?_
    refine lv_bipush (pc := 69) (v := 6) hx hb dX12_hang_69 (by decide) ?_
    refine lv_icmp_ge (pc := 71) (tgt := 94) hx hb dX12_hang_71 (by decide) (fun c17 => ?_) (fun c17 => ?_)
    · replace h := (if_pos c17).symm.trans h
      cases h
      exact K1 H locs ls S (lv_sub hl [0, 1, 2, 3, 4] rfl)
    · replace h := (if_neg c17).symm.trans h
      refine lv_aload_n (pc := 74) hx hb dX12_hang_74 rfl (lv_at hl 0 rfl) ?_
      refine r_gR (pc := 75) (k := 0) (x := 1) (i := 0) (ci := 12) F S (by decide) (by decide) cl12 inRX12 (by decide) w903 (fun _ => rfl) dX12_hang_75 ?_
      refine lv_iload_n (pc := 78) hx hb dX12_hang_78 rfl (lv_at hl 1 rfl) ?_
      refine lv_iload (pc := 79) hx hb dX12_hang_79 (lv_at hl 4 rfl) ?_
      refine lv_iload (pc := 81) hx hb dX12_hang_81 (lv_at hl 5 rfl) ?_
      obtain ⟨v19, e18, h⟩ := ob_out h
      refine c_sI (pc := 83) (rest := [.ref (G.2.1 1)]) F S (tX12_ofLamp e18) mfX12_ofLamp w997 ⟨Nat.le_of_ble_eq_true rfl, Nat.le_of_ble_eq_true rfl⟩ rfl hl.1 rfl (Nat.le_of_ble_eq_true rfl) dX12_hang_83 (fun H locs S => ?_)
      refine lv_iconst (pc := 86) (v := 0) hx hb dX12_hang_86 (by decide) ?_
      obtain ⟨M20, e21, h⟩ := ob_out h
      refine r_nS (pc := 87) F S e21 dX12_hang_87 (fun H locs S => ?_)
      refine lv_iinc (pc := 88) (lv' := [(5, .int (a5 + 1)), (0, .ref (G.2.1 0)), (1, .int a1), (2, .int a2), (3, .int a3), (4, .int a4)]) hx hb dX12_hang_88 hl (k := 5) rfl (iinc_n (by decide)) (by decide) rfl (fun ls hl => ?_)
      refine lv_goto (pc := 91) (tgt := 67) hx hb dX12_hang_91 (by decide) ?_
      exact ih S (lv_sub hl [1, 2, 3, 4, 5, 0] rfl) h K1
set_option maxHeartbeats 4000000 in
theorem pX12_hang_L123 {p : Program} {l : Launch} {e : Env} {s : State} {m : MethodId} {args : Array Value} {below : List Frame} {meth : Method} {c : Code} {Q : State → Prop} {G : GD} (F : FX p s m args meth c RX12 cX12_hang 6 (some .int) G) : ∀ (n : Nat) {M N : Mem} {a1 : Int32} {a4 : Int32} {a5 : Int32} {H : Heap} {locs : List Loc} {ls : Array Slot} {Mo : Mem}, ST G M N s H locs → lv_has ls 6 [(0, .ref (G.2.1 0)), (1, .int a1), (4, .int a4), (5, .int a5)] → fX12_hang_L123 n N a1 a4 a5 = some Mo → (K1 : ∀ (H : Heap) (locs : List Loc) (ls : Array Slot), ST G M Mo s H locs → lv_has ls 6 [(0, .ref (G.2.1 0)), (1, .int a1), (4, .int a4)] → W p l e (Rm 2 43) s m args below meth c H locs 0 0 Q (F0 m 153 ls [])) → W p l e (Rm 2 43) s m args below meth c H locs 0 0 Q (F0 m 123 ls []) := by
  intro n
  induction n with
  | zero => intro M N a1 a4 a5 H locs ls Mo S hl h K1; cases h
  | succ n ih =>
    intro M N a1 a4 a5 H locs ls Mo S hl h K1
    rw [fX12_hang_L123] at h
    have hx := F.1
    have hb := F.2.1
    have hown := F.2.2.2.2.1
    have hts := F.2.2.2.2.2.1
    have hZ := F.2.2.2.2.2.2.2.2.2
    refine lv_iload (pc := 123) hx hb dX12_hang_123 (lv_at hl 3 rfl) ?_
    refine lv_bipush (pc := 125) (v := 8) hx hb dX12_hang_125 (by decide) ?_
    refine lv_icmp_ge (pc := 127) (tgt := 153) hx hb dX12_hang_127 (by decide) (fun c27 => ?_) (fun c27 => ?_)
    · replace h := (if_pos c27).symm.trans h
      cases h
      exact K1 H locs ls S (lv_sub hl [0, 1, 2] rfl)
    · replace h := (if_neg c27).symm.trans h
      refine lv_aload_n (pc := 130) hx hb dX12_hang_130 rfl (lv_at hl 0 rfl) ?_
      refine r_gR (pc := 131) (k := 0) (x := 1) (i := 0) (ci := 12) F S (by decide) (by decide) cl12 inRX12 (by decide) w903 (fun _ => rfl) dX12_hang_131 ?_
      refine lv_iload_n (pc := 134) hx hb dX12_hang_134 rfl (lv_at hl 1 rfl) ?_
      refine lv_iload (pc := 135) hx hb dX12_hang_135 (lv_at hl 3 rfl) ?_
      obtain ⟨v29, e28, h⟩ := ob_out h
      refine c_sI (pc := 137) (rest := [.ref (G.2.1 1)]) F S (tX12_ofCue e28) mfX12_ofCue w1000 ⟨Nat.le_of_ble_eq_true rfl, Nat.le_of_ble_eq_true rfl⟩ rfl hl.1 rfl (Nat.le_of_ble_eq_true rfl) dX12_hang_137 (fun H locs S => ?_)
      refine lv_iconst (pc := 140) (v := 1) hx hb dX12_hang_140 (by decide) ?_
      refine lv_iadd (pc := 141) hx hb dX12_hang_141 ?_
      refine lv_iload (pc := 142) hx hb dX12_hang_142 (lv_at hl 2 rfl) ?_
      refine lv_iadd (pc := 144) hx hb dX12_hang_144 ?_
      refine lv_iconst (pc := 145) (v := 0) hx hb dX12_hang_145 (by decide) ?_
      obtain ⟨M30, e31, h⟩ := ob_out h
      refine r_nS (pc := 146) F S e31 dX12_hang_146 (fun H locs S => ?_)
      refine lv_iinc (pc := 147) (lv' := [(5, .int (a5 + 1)), (0, .ref (G.2.1 0)), (1, .int a1), (4, .int a4)]) hx hb dX12_hang_147 hl (k := 3) rfl (iinc_n (by decide)) (by decide) rfl (fun ls hl => ?_)
      refine lv_goto (pc := 150) (tgt := 123) hx hb dX12_hang_150 (by decide) ?_
      exact ih S (lv_sub hl [1, 2, 3, 0] rfl) h K1
set_option maxHeartbeats 4000000 in
theorem tX12_hang {l : Launch} {G : GD} {M N Mo : Mem} {a1 : Int32} {a2 : Int32} {a3 : Int32} {r : Int32} (h : fX12_hang N a1 a2 a3 = some (r, Mo)) : MI l yX12_hang cX12_hang 6 .int 2 43 G [.ref (G.2.1 0), .int a1, .int a2, .int a3] M N r M Mo := by
  unfold fX12_hang at h
  refine MI_of (own := RX12) (by decide) rfl (Nat.le_of_ble_eq_true rfl) ?_
  intro p e s m args below meth c F S ls hl
  have hx := F.1
  have hb := F.2.1
  have hown := F.2.2.2.2.1
  have hts := F.2.2.2.2.2.1
  have hZ := F.2.2.2.2.2.2.2.2.2
  have hl : lv_has ls 6 [(0, .ref (G.2.1 0)), (1, .int a1), (2, .int a2), (3, .int a3)] := hl
  generalize s.heap = H, ([] : List Loc) = locs at S ⊢
  refine lv_iload_n (pc := 0) hx hb dX12_hang_0 rfl (lv_at hl 1 rfl) ?_
  obtain ⟨v2, e1, h⟩ := ob_out h
  refine c_sI (pc := 1) (rest := []) F S (tX12_isPremiere e1) mfX12_isPremiere w987 ⟨Nat.le_of_ble_eq_true rfl, Nat.le_of_ble_eq_true rfl⟩ rfl hl.1 rfl (Nat.le_of_ble_eq_true rfl) dX12_hang_1 (fun H locs S => ?_)
  refine lv_if_eq (pc := 4) (tgt := 36) hx hb dX12_hang_4 (by decide) (fun c3 => ?_) (fun c3 => ?_)
  · replace h := (if_pos c3).symm.trans h
    refine lv_iconst (pc := 36) (v := (-1)) hx hb dX12_hang_36 (by decide) ?_
    cases h
    exact r_iret (pc := 37) F S rfl dX12_hang_37
  · replace h := (if_neg c3).symm.trans h
    refine lv_iload_n (pc := 7) hx hb dX12_hang_7 rfl (lv_at hl 2 rfl) ?_
    refine lv_iconst (pc := 8) (v := 0) hx hb dX12_hang_8 (by decide) ?_
    refine lv_aload_n (pc := 9) hx hb dX12_hang_9 rfl (lv_at hl 0 rfl) ?_
    refine r_gR (pc := 10) (k := 0) (x := 1) (i := 0) (ci := 12) F S (by decide) (by decide) cl12 inRX12 (by decide) w903 (fun _ => rfl) dX12_hang_10 ?_
    refine lv_iconst (pc := 13) (v := 3) hx hb dX12_hang_13 (by decide) ?_
    obtain ⟨v4, e5, h⟩ := ob_out h
    refine r_nL (pc := 14) F S e5 dX12_hang_14 ?_
    refine lv_iconst (pc := 15) (v := 1) hx hb dX12_hang_15 (by decide) ?_
    refine lv_isub (pc := 16) hx hb dX12_hang_16 ?_
    obtain ⟨v7, e6, h⟩ := ob_out h
    refine c_sI (pc := 17) (rest := []) F S (tX12_in e6) mfX12_in w972 ⟨Nat.le_of_ble_eq_true rfl, Nat.le_of_ble_eq_true rfl⟩ rfl hl.1 rfl (Nat.le_of_ble_eq_true rfl) dX12_hang_17 (fun H locs S => ?_)
    refine lv_if_eq (pc := 20) (tgt := 36) hx hb dX12_hang_20 (by decide) (fun c8 => ?_) (fun c8 => ?_)
    · replace h := (if_pos c8).symm.trans h
      refine lv_iconst (pc := 36) (v := (-1)) hx hb dX12_hang_36 (by decide) ?_
      cases h
      exact r_iret (pc := 37) F S rfl dX12_hang_37
    · replace h := (if_neg c8).symm.trans h
      refine lv_iload_n (pc := 23) hx hb dX12_hang_23 rfl (lv_at hl 3 rfl) ?_
      refine lv_bipush (pc := 24) (v := (-6)) hx hb dX12_hang_24 (by decide) ?_
      refine lv_icmp_eq (pc := 26) (tgt := 38) hx hb dX12_hang_26 (by decide) (fun c9 => ?_) (fun c9 => ?_)
      · replace h := (if_pos c9).symm.trans h
        refine lv_aload_n (pc := 38) hx hb dX12_hang_38 rfl (lv_at hl 0 rfl) ?_
        refine r_gR (pc := 39) (k := 0) (x := 1) (i := 0) (ci := 12) F S (by decide) (by decide) cl12 inRX12 (by decide) w903 (fun _ => rfl) dX12_hang_39 ?_
        refine lv_iload_n (pc := 42) hx hb dX12_hang_42 rfl (lv_at hl 1 rfl) ?_
        refine lv_iconst (pc := 43) (v := 2) hx hb dX12_hang_43 (by decide) ?_
        obtain ⟨v11, e10, h⟩ := ob_out h
        refine c_sI (pc := 44) (rest := [.ref (G.2.1 1)]) F S (tX12_at1 e10) mfX12_at1 w900 ⟨Nat.le_of_ble_eq_true rfl, Nat.le_of_ble_eq_true rfl⟩ rfl hl.1 rfl (Nat.le_of_ble_eq_true rfl) dX12_hang_44 (fun H locs S => ?_)
        obtain ⟨v12, e13, h⟩ := ob_out h
        refine r_nL (pc := 47) F S e13 dX12_hang_47 ?_
        refine lv_istore (pc := 48) (lv' := [(4, .int v12), (0, .ref (G.2.1 0)), (1, .int a1), (2, .int a2), (3, .int a3)]) hx hb dX12_hang_48 hl (by decide) rfl (fun ls hl => ?_)
        refine lv_iload (pc := 50) hx hb dX12_hang_50 (lv_at hl 0 rfl) ?_
        refine lv_bipush (pc := 52) (v := 12) hx hb dX12_hang_52 (by decide) ?_
        refine lv_icmp_ne (pc := 54) (tgt := 60) hx hb dX12_hang_54 (by decide) (fun c14 => ?_) (fun c14 => ?_)
        · replace h := (if_neg c14).symm.trans h
          refine lv_aload_n (pc := 60) hx hb dX12_hang_60 rfl (lv_at hl 1 rfl) ?_
          obtain ⟨M16, e15, h⟩ := ob_out h
          refine c_vV (pc := 61) (rest := []) F S (tX12_know e15) mfX12_know (by decide) (by decide) cl12 w975 ⟨Nat.le_of_ble_eq_true rfl, Nat.le_of_ble_eq_true rfl⟩ rfl hl.1 rfl (Nat.le_of_ble_eq_true rfl) dX12_hang_61 (fun H locs S => ?_)
          refine lv_iconst (pc := 64) (v := 0) hx hb dX12_hang_64 (by decide) ?_
          refine lv_istore (pc := 65) (lv' := [(5, .int 0), (4, .int v12), (0, .ref (G.2.1 0)), (1, .int a1), (2, .int a2), (3, .int a3)]) hx hb dX12_hang_65 hl (by decide) rfl (fun ls hl => ?_)
          obtain ⟨M17, e18, h⟩ := ob_out h
          refine pX12_hang_L67 F 5000 S (lv_sub hl [2, 3, 4, 5, 1, 0] rfl) e18 (fun H locs ls S hl => ?_)
          refine lv_aload_n (pc := 94) hx hb dX12_hang_94 rfl (lv_at hl 0 rfl) ?_
          refine r_gR (pc := 95) (k := 0) (x := 1) (i := 0) (ci := 12) F S (by decide) (by decide) cl12 inRX12 (by decide) w903 (fun _ => rfl) dX12_hang_95 ?_
          refine lv_iload_n (pc := 98) hx hb dX12_hang_98 rfl (lv_at hl 1 rfl) ?_
          refine lv_iload (pc := 99) hx hb dX12_hang_99 (lv_at hl 4 rfl) ?_
          refine lv_iconst (pc := 101) (v := 0) hx hb dX12_hang_101 (by decide) ?_
          obtain ⟨v20, e19, h⟩ := ob_out h
          refine c_sI (pc := 102) (rest := [.ref (G.2.1 1)]) F S (tX12_ofLamp e19) mfX12_ofLamp w997 ⟨Nat.le_of_ble_eq_true rfl, Nat.le_of_ble_eq_true rfl⟩ rfl hl.1 rfl (Nat.le_of_ble_eq_true rfl) dX12_hang_102 (fun H locs S => ?_)
          refine lv_iload_n (pc := 105) hx hb dX12_hang_105 rfl (lv_at hl 2 rfl) ?_
          obtain ⟨M21, e22, h⟩ := ob_out h
          refine r_nS (pc := 106) F S e22 dX12_hang_106 (fun H locs S => ?_)
          refine lv_aload_n (pc := 107) hx hb dX12_hang_107 rfl (lv_at hl 0 rfl) ?_
          refine r_gR (pc := 108) (k := 0) (x := 1) (i := 0) (ci := 12) F S (by decide) (by decide) cl12 inRX12 (by decide) w903 (fun _ => rfl) dX12_hang_108 ?_
          refine lv_iload_n (pc := 111) hx hb dX12_hang_111 rfl (lv_at hl 1 rfl) ?_
          refine lv_iload (pc := 112) hx hb dX12_hang_112 (lv_at hl 4 rfl) ?_
          refine lv_iconst (pc := 114) (v := 1) hx hb dX12_hang_114 (by decide) ?_
          obtain ⟨v24, e23, h⟩ := ob_out h
          refine c_sI (pc := 115) (rest := [.ref (G.2.1 1)]) F S (tX12_ofLamp e23) mfX12_ofLamp w997 ⟨Nat.le_of_ble_eq_true rfl, Nat.le_of_ble_eq_true rfl⟩ rfl hl.1 rfl (Nat.le_of_ble_eq_true rfl) dX12_hang_115 (fun H locs S => ?_)
          refine lv_iload_n (pc := 118) hx hb dX12_hang_118 rfl (lv_at hl 3 rfl) ?_
          obtain ⟨M25, e26, h⟩ := ob_out h
          refine r_nS (pc := 119) F S e26 dX12_hang_119 (fun H locs S => ?_)
          refine lv_iconst (pc := 120) (v := 0) hx hb dX12_hang_120 (by decide) ?_
          refine lv_istore (pc := 121) (lv' := [(5, .int 0), (0, .ref (G.2.1 0)), (1, .int a1), (2, .int a2), (3, .int a3), (4, .int v12)]) hx hb dX12_hang_121 hl (by decide) rfl (fun ls hl => ?_)
          obtain ⟨M27, e28, h⟩ := ob_out h
          refine pX12_hang_L123 F 5000 S (lv_sub hl [1, 2, 5, 0] rfl) e28 (fun H locs ls S hl => ?_)
          refine lv_aload_n (pc := 153) hx hb dX12_hang_153 rfl (lv_at hl 0 rfl) ?_
          refine r_gR (pc := 154) (k := 0) (x := 1) (i := 0) (ci := 12) F S (by decide) (by decide) cl12 inRX12 (by decide) w903 (fun _ => rfl) dX12_hang_154 ?_
          refine lv_iload_n (pc := 157) hx hb dX12_hang_157 rfl (lv_at hl 1 rfl) ?_
          refine lv_iconst (pc := 158) (v := 2) hx hb dX12_hang_158 (by decide) ?_
          obtain ⟨v30, e29, h⟩ := ob_out h
          refine c_sI (pc := 159) (rest := [.ref (G.2.1 1)]) F S (tX12_at1 e29) mfX12_at1 w900 ⟨Nat.le_of_ble_eq_true rfl, Nat.le_of_ble_eq_true rfl⟩ rfl hl.1 rfl (Nat.le_of_ble_eq_true rfl) dX12_hang_159 (fun H locs S => ?_)
          refine lv_dup2_11 (pc := 162) hx hb dX12_hang_162 rfl rfl ?_
          obtain ⟨v31, e32, h⟩ := ob_out h
          refine r_nL (pc := 163) F S e32 dX12_hang_163 ?_
          refine lv_iconst (pc := 164) (v := 1) hx hb dX12_hang_164 (by decide) ?_
          refine lv_iadd (pc := 165) hx hb dX12_hang_165 ?_
          obtain ⟨M33, e34, h⟩ := ob_out h
          refine r_nS (pc := 166) F S e34 dX12_hang_166 (fun H locs S => ?_)
          refine lv_iload (pc := 167) hx hb dX12_hang_167 (lv_at hl 2 rfl) ?_
          cases h
          exact r_iret (pc := 169) F S rfl dX12_hang_169
        · replace h := (if_pos c14).symm.trans h
          refine lv_bipush (pc := 57) (v := (-4)) hx hb dX12_hang_57 (by decide) ?_
          cases h
          exact r_iret (pc := 59) F S rfl dX12_hang_59
      · replace h := (if_neg c9).symm.trans h
        refine lv_iload_n (pc := 29) hx hb dX12_hang_29 rfl (lv_at hl 3 rfl) ?_
        obtain ⟨v36, e35, h⟩ := ob_out h
        refine c_sI (pc := 30) (rest := []) F S (tX12_isDimmer e35) mfX12_isDimmer w994 ⟨Nat.le_of_ble_eq_true rfl, Nat.le_of_ble_eq_true rfl⟩ rfl hl.1 rfl (Nat.le_of_ble_eq_true rfl) dX12_hang_30 (fun H locs S => ?_)
        refine lv_if_ne (pc := 33) (tgt := 38) hx hb dX12_hang_33 (by decide) (fun c37 => ?_) (fun c37 => ?_)
        · replace h := (if_neg c37).symm.trans h
          refine lv_aload_n (pc := 38) hx hb dX12_hang_38 rfl (lv_at hl 0 rfl) ?_
          refine r_gR (pc := 39) (k := 0) (x := 1) (i := 0) (ci := 12) F S (by decide) (by decide) cl12 inRX12 (by decide) w903 (fun _ => rfl) dX12_hang_39 ?_
          refine lv_iload_n (pc := 42) hx hb dX12_hang_42 rfl (lv_at hl 1 rfl) ?_
          refine lv_iconst (pc := 43) (v := 2) hx hb dX12_hang_43 (by decide) ?_
          obtain ⟨v39, e38, h⟩ := ob_out h
          refine c_sI (pc := 44) (rest := [.ref (G.2.1 1)]) F S (tX12_at1 e38) mfX12_at1 w900 ⟨Nat.le_of_ble_eq_true rfl, Nat.le_of_ble_eq_true rfl⟩ rfl hl.1 rfl (Nat.le_of_ble_eq_true rfl) dX12_hang_44 (fun H locs S => ?_)
          obtain ⟨v40, e41, h⟩ := ob_out h
          refine r_nL (pc := 47) F S e41 dX12_hang_47 ?_
          refine lv_istore (pc := 48) (lv' := [(4, .int v40), (0, .ref (G.2.1 0)), (1, .int a1), (2, .int a2), (3, .int a3)]) hx hb dX12_hang_48 hl (by decide) rfl (fun ls hl => ?_)
          refine lv_iload (pc := 50) hx hb dX12_hang_50 (lv_at hl 0 rfl) ?_
          refine lv_bipush (pc := 52) (v := 12) hx hb dX12_hang_52 (by decide) ?_
          refine lv_icmp_ne (pc := 54) (tgt := 60) hx hb dX12_hang_54 (by decide) (fun c42 => ?_) (fun c42 => ?_)
          · replace h := (if_neg c42).symm.trans h
            refine lv_aload_n (pc := 60) hx hb dX12_hang_60 rfl (lv_at hl 1 rfl) ?_
            obtain ⟨M44, e43, h⟩ := ob_out h
            refine c_vV (pc := 61) (rest := []) F S (tX12_know e43) mfX12_know (by decide) (by decide) cl12 w975 ⟨Nat.le_of_ble_eq_true rfl, Nat.le_of_ble_eq_true rfl⟩ rfl hl.1 rfl (Nat.le_of_ble_eq_true rfl) dX12_hang_61 (fun H locs S => ?_)
            refine lv_iconst (pc := 64) (v := 0) hx hb dX12_hang_64 (by decide) ?_
            refine lv_istore (pc := 65) (lv' := [(5, .int 0), (4, .int v40), (0, .ref (G.2.1 0)), (1, .int a1), (2, .int a2), (3, .int a3)]) hx hb dX12_hang_65 hl (by decide) rfl (fun ls hl => ?_)
            obtain ⟨M45, e46, h⟩ := ob_out h
            refine pX12_hang_L67 F 5000 S (lv_sub hl [2, 3, 4, 5, 1, 0] rfl) e46 (fun H locs ls S hl => ?_)
            refine lv_aload_n (pc := 94) hx hb dX12_hang_94 rfl (lv_at hl 0 rfl) ?_
            refine r_gR (pc := 95) (k := 0) (x := 1) (i := 0) (ci := 12) F S (by decide) (by decide) cl12 inRX12 (by decide) w903 (fun _ => rfl) dX12_hang_95 ?_
            refine lv_iload_n (pc := 98) hx hb dX12_hang_98 rfl (lv_at hl 1 rfl) ?_
            refine lv_iload (pc := 99) hx hb dX12_hang_99 (lv_at hl 4 rfl) ?_
            refine lv_iconst (pc := 101) (v := 0) hx hb dX12_hang_101 (by decide) ?_
            obtain ⟨v48, e47, h⟩ := ob_out h
            refine c_sI (pc := 102) (rest := [.ref (G.2.1 1)]) F S (tX12_ofLamp e47) mfX12_ofLamp w997 ⟨Nat.le_of_ble_eq_true rfl, Nat.le_of_ble_eq_true rfl⟩ rfl hl.1 rfl (Nat.le_of_ble_eq_true rfl) dX12_hang_102 (fun H locs S => ?_)
            refine lv_iload_n (pc := 105) hx hb dX12_hang_105 rfl (lv_at hl 2 rfl) ?_
            obtain ⟨M49, e50, h⟩ := ob_out h
            refine r_nS (pc := 106) F S e50 dX12_hang_106 (fun H locs S => ?_)
            refine lv_aload_n (pc := 107) hx hb dX12_hang_107 rfl (lv_at hl 0 rfl) ?_
            refine r_gR (pc := 108) (k := 0) (x := 1) (i := 0) (ci := 12) F S (by decide) (by decide) cl12 inRX12 (by decide) w903 (fun _ => rfl) dX12_hang_108 ?_
            refine lv_iload_n (pc := 111) hx hb dX12_hang_111 rfl (lv_at hl 1 rfl) ?_
            refine lv_iload (pc := 112) hx hb dX12_hang_112 (lv_at hl 4 rfl) ?_
            refine lv_iconst (pc := 114) (v := 1) hx hb dX12_hang_114 (by decide) ?_
            obtain ⟨v52, e51, h⟩ := ob_out h
            refine c_sI (pc := 115) (rest := [.ref (G.2.1 1)]) F S (tX12_ofLamp e51) mfX12_ofLamp w997 ⟨Nat.le_of_ble_eq_true rfl, Nat.le_of_ble_eq_true rfl⟩ rfl hl.1 rfl (Nat.le_of_ble_eq_true rfl) dX12_hang_115 (fun H locs S => ?_)
            refine lv_iload_n (pc := 118) hx hb dX12_hang_118 rfl (lv_at hl 3 rfl) ?_
            obtain ⟨M53, e54, h⟩ := ob_out h
            refine r_nS (pc := 119) F S e54 dX12_hang_119 (fun H locs S => ?_)
            refine lv_iconst (pc := 120) (v := 0) hx hb dX12_hang_120 (by decide) ?_
            refine lv_istore (pc := 121) (lv' := [(5, .int 0), (0, .ref (G.2.1 0)), (1, .int a1), (2, .int a2), (3, .int a3), (4, .int v40)]) hx hb dX12_hang_121 hl (by decide) rfl (fun ls hl => ?_)
            obtain ⟨M55, e56, h⟩ := ob_out h
            refine pX12_hang_L123 F 5000 S (lv_sub hl [1, 2, 5, 0] rfl) e56 (fun H locs ls S hl => ?_)
            refine lv_aload_n (pc := 153) hx hb dX12_hang_153 rfl (lv_at hl 0 rfl) ?_
            refine r_gR (pc := 154) (k := 0) (x := 1) (i := 0) (ci := 12) F S (by decide) (by decide) cl12 inRX12 (by decide) w903 (fun _ => rfl) dX12_hang_154 ?_
            refine lv_iload_n (pc := 157) hx hb dX12_hang_157 rfl (lv_at hl 1 rfl) ?_
            refine lv_iconst (pc := 158) (v := 2) hx hb dX12_hang_158 (by decide) ?_
            obtain ⟨v58, e57, h⟩ := ob_out h
            refine c_sI (pc := 159) (rest := [.ref (G.2.1 1)]) F S (tX12_at1 e57) mfX12_at1 w900 ⟨Nat.le_of_ble_eq_true rfl, Nat.le_of_ble_eq_true rfl⟩ rfl hl.1 rfl (Nat.le_of_ble_eq_true rfl) dX12_hang_159 (fun H locs S => ?_)
            refine lv_dup2_11 (pc := 162) hx hb dX12_hang_162 rfl rfl ?_
            obtain ⟨v59, e60, h⟩ := ob_out h
            refine r_nL (pc := 163) F S e60 dX12_hang_163 ?_
            refine lv_iconst (pc := 164) (v := 1) hx hb dX12_hang_164 (by decide) ?_
            refine lv_iadd (pc := 165) hx hb dX12_hang_165 ?_
            obtain ⟨M61, e62, h⟩ := ob_out h
            refine r_nS (pc := 166) F S e62 dX12_hang_166 (fun H locs S => ?_)
            refine lv_iload (pc := 167) hx hb dX12_hang_167 (lv_at hl 2 rfl) ?_
            cases h
            exact r_iret (pc := 169) F S rfl dX12_hang_169
          · replace h := (if_pos c42).symm.trans h
            refine lv_bipush (pc := 57) (v := (-4)) hx hb dX12_hang_57 (by decide) ?_
            cases h
            exact r_iret (pc := 59) F S rfl dX12_hang_59
        · replace h := (if_pos c37).symm.trans h
          refine lv_iconst (pc := 36) (v := (-1)) hx hb dX12_hang_36 (by decide) ?_
          cases h
          exact r_iret (pc := 37) F S rfl dX12_hang_37
theorem mfX12_takeDown : MF true yX12_takeDown RX12 cX12_takeDown 6 (some .int) 2 := ⟨w1006, w13, by rw [if_pos rfl]; exact ⟨w1004, w1005⟩, ⟨by decide, by decide⟩, by decide +kernel⟩
set_option maxHeartbeats 4000000 in
theorem pX12_takeDown_L48 {p : Program} {l : Launch} {e : Env} {s : State} {m : MethodId} {args : Array Value} {below : List Frame} {meth : Method} {c : Code} {Q : State → Prop} {G : GD} (F : FX p s m args meth c RX12 cX12_takeDown 6 (some .int) G) : ∀ (n : Nat) {M N : Mem} {a1 : Int32} {a2 : Int32} {a3 : Int32} {a4 : Int32} {H : Heap} {locs : List Loc} {ls : Array Slot} {Mo : Mem}, ST G M N s H locs → lv_has ls 6 [(0, .ref (G.2.1 0)), (1, .int a1), (2, .int a2), (3, .int a3), (4, .int a4)] → fX12_takeDown_L48 n N a1 a2 a3 a4 = some Mo → (K1 : ∀ (H : Heap) (locs : List Loc) (ls : Array Slot), ST G M Mo s H locs → lv_has ls 6 [(0, .ref (G.2.1 0)), (1, .int a1), (2, .int a2), (3, .int a3)] → W p l e (Rm 3 64) s m args below meth c H locs 0 0 Q (F0 m 82 ls [])) → W p l e (Rm 3 64) s m args below meth c H locs 0 0 Q (F0 m 48 ls []) := by
  intro n
  induction n with
  | zero => intro M N a1 a2 a3 a4 H locs ls Mo S hl h K1; cases h
  | succ n ih =>
    intro M N a1 a2 a3 a4 H locs ls Mo S hl h K1
    rw [fX12_takeDown_L48] at h
    have hx := F.1
    have hb := F.2.1
    have hown := F.2.2.2.2.1
    have hts := F.2.2.2.2.2.1
    have hZ := F.2.2.2.2.2.2.2.2.2
    refine lv_iload (pc := 48) hx hb dX12_takeDown_48 (lv_at hl 4 rfl) ?_
    refine lv_iload_n (pc := 50) hx hb dX12_takeDown_50 rfl (lv_at hl 1 rfl) ?_
    refine lv_iload_n (pc := 51) hx hb dX12_takeDown_51 rfl (lv_at hl 3 rfl) ?_
    refine lv_iconst (pc := 52) (v := 0) hx hb dX12_takeDown_52 (by decide) ?_
    obtain ⟨v19, e18, h⟩ := ob_out h
    refine c_sI (pc := 53) (rest := [.int a4]) F S (tX12_ofLamp e18) mfX12_ofLamp w997 ⟨Nat.le_of_ble_eq_true rfl, Nat.le_of_ble_eq_true rfl⟩ rfl hl.1 rfl (Nat.le_of_ble_eq_true rfl) dX12_takeDown_53 (fun H locs S => ?_)
    refine lv_icmp_ge (pc := 56) (tgt := 82) hx hb dX12_takeDown_56 (by decide) (fun c20 => ?_) (fun c20 => ?_)
    · replace h := (if_pos c20).symm.trans h
      cases h
      exact K1 H locs ls S (lv_sub hl [0, 1, 2, 3] rfl)
    · replace h := (if_neg c20).symm.trans h
      refine lv_aload_n (pc := 59) hx hb dX12_takeDown_59 rfl (lv_at hl 0 rfl) ?_
      refine r_gR (pc := 60) (k := 0) (x := 1) (i := 0) (ci := 12) F S (by decide) (by decide) cl12 inRX12 (by decide) w903 (fun _ => rfl) dX12_takeDown_60 ?_
      refine lv_iload (pc := 63) hx hb dX12_takeDown_63 (lv_at hl 4 rfl) ?_
      refine lv_aload_n (pc := 65) hx hb dX12_takeDown_65 rfl (lv_at hl 0 rfl) ?_
      refine r_gR (pc := 66) (k := 0) (x := 1) (i := 0) (ci := 12) F S (by decide) (by decide) cl12 inRX12 (by decide) w903 (fun _ => rfl) dX12_takeDown_66 ?_
      refine lv_iload (pc := 69) hx hb dX12_takeDown_69 (lv_at hl 4 rfl) ?_
      refine lv_bipush (pc := 71) (v := 6) hx hb dX12_takeDown_71 (by decide) ?_
      refine lv_iadd (pc := 73) hx hb dX12_takeDown_73 ?_
      obtain ⟨v21, e22, h⟩ := ob_out h
      refine r_nL (pc := 74) F S e22 dX12_takeDown_74 ?_
      obtain ⟨M23, e24, h⟩ := ob_out h
      refine r_nS (pc := 75) F S e24 dX12_takeDown_75 (fun H locs S => ?_)
      refine lv_iinc (pc := 76) (lv' := [(4, .int (a4 + 1)), (0, .ref (G.2.1 0)), (1, .int a1), (2, .int a2), (3, .int a3)]) hx hb dX12_takeDown_76 hl (k := 4) rfl (iinc_n (by decide)) (by decide) rfl (fun ls hl => ?_)
      refine lv_goto (pc := 79) (tgt := 48) hx hb dX12_takeDown_79 (by decide) ?_
      exact ih S (lv_sub hl [1, 2, 3, 4, 0] rfl) h K1
set_option maxHeartbeats 4000000 in
theorem pX12_takeDown_L95 {p : Program} {l : Launch} {e : Env} {s : State} {m : MethodId} {args : Array Value} {below : List Frame} {meth : Method} {c : Code} {Q : State → Prop} {G : GD} (F : FX p s m args meth c RX12 cX12_takeDown 6 (some .int) G) : ∀ (n : Nat) {M N : Mem} {a1 : Int32} {a2 : Int32} {a3 : Int32} {a4 : Int32} {a5 : Int32} {H : Heap} {locs : List Loc} {ls : Array Slot} {Mo : Mem}, ST G M N s H locs → lv_has ls 6 [(0, .ref (G.2.1 0)), (1, .int a1), (2, .int a2), (3, .int a3), (4, .int a4), (5, .int a5)] → fX12_takeDown_L95 n N a1 a2 a3 a4 a5 = some Mo → (K1 : ∀ (H : Heap) (locs : List Loc) (ls : Array Slot), ST G M Mo s H locs → lv_has ls 6 [(0, .ref (G.2.1 0)), (1, .int a1), (2, .int a2), (3, .int a3), (4, .int a4)] → W p l e (Rm 3 64) s m args below meth c H locs 0 0 Q (F0 m 139 ls [])) → W p l e (Rm 3 64) s m args below meth c H locs 0 0 Q (F0 m 95 ls []) := by
  intro n
  induction n with
  | zero => intro M N a1 a2 a3 a4 a5 H locs ls Mo S hl h K1; cases h
  | succ n ih =>
    intro M N a1 a2 a3 a4 a5 H locs ls Mo S hl h K1
    rw [fX12_takeDown_L95] at h
    have hx := F.1
    have hb := F.2.1
    have hown := F.2.2.2.2.1
    have hts := F.2.2.2.2.2.1
    have hZ := F.2.2.2.2.2.2.2.2.2
    refine lv_iload (pc := 95) hx hb dX12_takeDown_95 (lv_at hl 5 rfl) ?_
    refine lv_iload_n (pc := 97) hx hb dX12_takeDown_97 rfl (lv_at hl 3 rfl) ?_
    refine lv_icmp_ge (pc := 98) (tgt := 139) hx hb dX12_takeDown_98 (by decide) (fun c21 => ?_) (fun c21 => ?_)
    · replace h := (if_pos c21).symm.trans h
      cases h
      exact K1 H locs ls S (lv_sub hl [0, 1, 2, 3, 4] rfl)
    · replace h := (if_neg c21).symm.trans h
      refine lv_aload_n (pc := 101) hx hb dX12_takeDown_101 rfl (lv_at hl 0 rfl) ?_
      refine r_gR (pc := 102) (k := 0) (x := 1) (i := 0) (ci := 12) F S (by decide) (by decide) cl12 inRX12 (by decide) w903 (fun _ => rfl) dX12_takeDown_102 ?_
      refine lv_iload_n (pc := 105) hx hb dX12_takeDown_105 rfl (lv_at hl 1 rfl) ?_
      refine lv_iload (pc := 106) hx hb dX12_takeDown_106 (lv_at hl 4 rfl) ?_
      obtain ⟨v23, e22, h⟩ := ob_out h
      refine c_sI (pc := 108) (rest := [.ref (G.2.1 1)]) F S (tX12_ofCue e22) mfX12_ofCue w1000 ⟨Nat.le_of_ble_eq_true rfl, Nat.le_of_ble_eq_true rfl⟩ rfl hl.1 rfl (Nat.le_of_ble_eq_true rfl) dX12_takeDown_108 (fun H locs S => ?_)
      refine lv_iconst (pc := 111) (v := 1) hx hb dX12_takeDown_111 (by decide) ?_
      refine lv_iadd (pc := 112) hx hb dX12_takeDown_112 ?_
      refine lv_iload (pc := 113) hx hb dX12_takeDown_113 (lv_at hl 5 rfl) ?_
      refine lv_iadd (pc := 115) hx hb dX12_takeDown_115 ?_
      refine lv_aload_n (pc := 116) hx hb dX12_takeDown_116 rfl (lv_at hl 0 rfl) ?_
      refine r_gR (pc := 117) (k := 0) (x := 1) (i := 0) (ci := 12) F S (by decide) (by decide) cl12 inRX12 (by decide) w903 (fun _ => rfl) dX12_takeDown_117 ?_
      refine lv_iload_n (pc := 120) hx hb dX12_takeDown_120 rfl (lv_at hl 1 rfl) ?_
      refine lv_iload (pc := 121) hx hb dX12_takeDown_121 (lv_at hl 4 rfl) ?_
      obtain ⟨v25, e24, h⟩ := ob_out h
      refine c_sI (pc := 123) (rest := [.ref (G.2.1 1), .int ((v23 + 1) + a5), .ref (G.2.1 1)]) F S (tX12_ofCue e24) mfX12_ofCue w1000 ⟨Nat.le_of_ble_eq_true rfl, Nat.le_of_ble_eq_true rfl⟩ rfl hl.1 rfl (Nat.le_of_ble_eq_true rfl) dX12_takeDown_123 (fun H locs S => ?_)
      refine lv_iconst (pc := 126) (v := 2) hx hb dX12_takeDown_126 (by decide) ?_
      refine lv_iadd (pc := 127) hx hb dX12_takeDown_127 ?_
      refine lv_iload (pc := 128) hx hb dX12_takeDown_128 (lv_at hl 5 rfl) ?_
      refine lv_iadd (pc := 130) hx hb dX12_takeDown_130 ?_
      obtain ⟨v26, e27, h⟩ := ob_out h
      refine r_nL (pc := 131) F S e27 dX12_takeDown_131 ?_
      obtain ⟨M28, e29, h⟩ := ob_out h
      refine r_nS (pc := 132) F S e29 dX12_takeDown_132 (fun H locs S => ?_)
      refine lv_iinc (pc := 133) (lv' := [(5, .int (a5 + 1)), (0, .ref (G.2.1 0)), (1, .int a1), (2, .int a2), (3, .int a3), (4, .int a4)]) hx hb dX12_takeDown_133 hl (k := 5) rfl (iinc_n (by decide)) (by decide) rfl (fun ls hl => ?_)
      refine lv_goto (pc := 136) (tgt := 95) hx hb dX12_takeDown_136 (by decide) ?_
      exact ih S (lv_sub hl [1, 2, 3, 4, 5, 0] rfl) h K1
set_option maxHeartbeats 4000000 in
theorem pX12_takeDown_L85 {p : Program} {l : Launch} {e : Env} {s : State} {m : MethodId} {args : Array Value} {below : List Frame} {meth : Method} {c : Code} {Q : State → Prop} {G : GD} (F : FX p s m args meth c RX12 cX12_takeDown 6 (some .int) G) : ∀ (n : Nat) {M N : Mem} {a1 : Int32} {a2 : Int32} {a3 : Int32} {a4 : Int32} {H : Heap} {locs : List Loc} {ls : Array Slot} {Mo : Mem}, ST G M N s H locs → lv_has ls 6 [(0, .ref (G.2.1 0)), (1, .int a1), (2, .int a2), (3, .int a3), (4, .int a4)] → fX12_takeDown_L85 n N a1 a2 a3 a4 = some Mo → (K1 : ∀ (H : Heap) (locs : List Loc) (ls : Array Slot), ST G M Mo s H locs → lv_has ls 6 [(3, .int a3)] → W p l e (Rm 3 64) s m args below meth c H locs 0 0 Q (F0 m 145 ls [])) → W p l e (Rm 3 64) s m args below meth c H locs 0 0 Q (F0 m 85 ls []) := by
  intro n
  induction n with
  | zero => intro M N a1 a2 a3 a4 H locs ls Mo S hl h K1; cases h
  | succ n ih =>
    intro M N a1 a2 a3 a4 H locs ls Mo S hl h K1
    rw [fX12_takeDown_L85] at h
    have hx := F.1
    have hb := F.2.1
    have hown := F.2.2.2.2.1
    have hts := F.2.2.2.2.2.1
    have hZ := F.2.2.2.2.2.2.2.2.2
    refine lv_iload (pc := 85) hx hb dX12_takeDown_85 (lv_at hl 4 rfl) ?_
    refine lv_bipush (pc := 87) (v := 8) hx hb dX12_takeDown_87 (by decide) ?_
    refine lv_icmp_ge (pc := 89) (tgt := 145) hx hb dX12_takeDown_89 (by decide) (fun c20 => ?_) (fun c20 => ?_)
    · replace h := (if_pos c20).symm.trans h
      cases h
      exact K1 H locs ls S (lv_sub hl [3] rfl)
    · replace h := (if_neg c20).symm.trans h
      refine lv_iload_n (pc := 92) hx hb dX12_takeDown_92 rfl (lv_at hl 2 rfl) ?_
      refine lv_istore (pc := 93) (lv' := [(5, .int a2), (0, .ref (G.2.1 0)), (1, .int a1), (2, .int a2), (3, .int a3), (4, .int a4)]) hx hb dX12_takeDown_93 hl (by decide) rfl (fun ls hl => ?_)
      obtain ⟨M21, e22, h⟩ := ob_out h
      refine pX12_takeDown_L95 F 5000 S (lv_sub hl [1, 2, 3, 4, 5, 0] rfl) e22 (fun H locs ls S hl => ?_)
      refine lv_iinc (pc := 139) (lv' := [(4, .int (a4 + 1)), (0, .ref (G.2.1 0)), (1, .int a1), (2, .int a2), (3, .int a3)]) hx hb dX12_takeDown_139 hl (k := 4) rfl (iinc_n (by decide)) (by decide) rfl (fun ls hl => ?_)
      refine lv_goto (pc := 142) (tgt := 85) hx hb dX12_takeDown_142 (by decide) ?_
      exact ih S (lv_sub hl [1, 2, 3, 4, 0] rfl) h K1
set_option maxHeartbeats 4000000 in
theorem tX12_takeDown {l : Launch} {G : GD} {M N Mo : Mem} {a1 : Int32} {a2 : Int32} {r : Int32} (h : fX12_takeDown N a1 a2 = some (r, Mo)) : MI l yX12_takeDown cX12_takeDown 6 .int 3 64 G [.ref (G.2.1 0), .int a1, .int a2] M N r M Mo := by
  unfold fX12_takeDown at h
  refine MI_of (own := RX12) (by decide) rfl (Nat.le_of_ble_eq_true rfl) ?_
  intro p e s m args below meth c F S ls hl
  have hx := F.1
  have hb := F.2.1
  have hown := F.2.2.2.2.1
  have hts := F.2.2.2.2.2.1
  have hZ := F.2.2.2.2.2.2.2.2.2
  have hl : lv_has ls 6 [(0, .ref (G.2.1 0)), (1, .int a1), (2, .int a2)] := hl
  generalize s.heap = H, ([] : List Loc) = locs at S ⊢
  refine lv_aload_n (pc := 0) hx hb dX12_takeDown_0 rfl (lv_at hl 0 rfl) ?_
  refine lv_iload_n (pc := 1) hx hb dX12_takeDown_1 rfl (lv_at hl 1 rfl) ?_
  refine lv_iload_n (pc := 2) hx hb dX12_takeDown_2 rfl (lv_at hl 2 rfl) ?_
  obtain ⟨v2, e1, h⟩ := ob_out h
  refine c_vI (pc := 3) (rest := []) F S (tX12_isLamp e1) mfX12_isLamp (by decide) (by decide) cl12 w1007 ⟨Nat.le_of_ble_eq_true rfl, Nat.le_of_ble_eq_true rfl⟩ rfl hl.1 rfl (Nat.le_of_ble_eq_true rfl) dX12_takeDown_3 (fun H locs S => ?_)
  refine lv_if_ne (pc := 6) (tgt := 11) hx hb dX12_takeDown_6 (by decide) (fun c3 => ?_) (fun c3 => ?_)
  · replace h := (if_neg c3).symm.trans h
    refine lv_aload_n (pc := 11) hx hb dX12_takeDown_11 rfl (lv_at hl 0 rfl) ?_
    obtain ⟨M5, e4, h⟩ := ob_out h
    refine c_vV (pc := 12) (rest := []) F S (tX12_know e4) mfX12_know (by decide) (by decide) cl12 w975 ⟨Nat.le_of_ble_eq_true rfl, Nat.le_of_ble_eq_true rfl⟩ rfl hl.1 rfl (Nat.le_of_ble_eq_true rfl) dX12_takeDown_12 (fun H locs S => ?_)
    refine lv_aload_n (pc := 15) hx hb dX12_takeDown_15 rfl (lv_at hl 0 rfl) ?_
    refine r_gR (pc := 16) (k := 0) (x := 1) (i := 0) (ci := 12) F S (by decide) (by decide) cl12 inRX12 (by decide) w903 (fun _ => rfl) dX12_takeDown_16 ?_
    refine lv_iload_n (pc := 19) hx hb dX12_takeDown_19 rfl (lv_at hl 1 rfl) ?_
    refine lv_iconst (pc := 20) (v := 2) hx hb dX12_takeDown_20 (by decide) ?_
    obtain ⟨v7, e6, h⟩ := ob_out h
    refine c_sI (pc := 21) (rest := [.ref (G.2.1 1)]) F S (tX12_at1 e6) mfX12_at1 w900 ⟨Nat.le_of_ble_eq_true rfl, Nat.le_of_ble_eq_true rfl⟩ rfl hl.1 rfl (Nat.le_of_ble_eq_true rfl) dX12_takeDown_21 (fun H locs S => ?_)
    refine lv_dup2_11 (pc := 24) hx hb dX12_takeDown_24 rfl rfl ?_
    obtain ⟨v8, e9, h⟩ := ob_out h
    refine r_nL (pc := 25) F S e9 dX12_takeDown_25 ?_
    refine lv_iconst (pc := 26) (v := 1) hx hb dX12_takeDown_26 (by decide) ?_
    refine lv_isub (pc := 27) hx hb dX12_takeDown_27 ?_
    obtain ⟨M10, e11, h⟩ := ob_out h
    refine r_nS (pc := 28) F S e11 dX12_takeDown_28 (fun H locs S => ?_)
    refine lv_aload_n (pc := 29) hx hb dX12_takeDown_29 rfl (lv_at hl 0 rfl) ?_
    refine r_gR (pc := 30) (k := 0) (x := 1) (i := 0) (ci := 12) F S (by decide) (by decide) cl12 inRX12 (by decide) w903 (fun _ => rfl) dX12_takeDown_30 ?_
    refine lv_iload_n (pc := 33) hx hb dX12_takeDown_33 rfl (lv_at hl 1 rfl) ?_
    refine lv_iconst (pc := 34) (v := 2) hx hb dX12_takeDown_34 (by decide) ?_
    obtain ⟨v13, e12, h⟩ := ob_out h
    refine c_sI (pc := 35) (rest := [.ref (G.2.1 1)]) F S (tX12_at1 e12) mfX12_at1 w900 ⟨Nat.le_of_ble_eq_true rfl, Nat.le_of_ble_eq_true rfl⟩ rfl hl.1 rfl (Nat.le_of_ble_eq_true rfl) dX12_takeDown_35 (fun H locs S => ?_)
    obtain ⟨v14, e15, h⟩ := ob_out h
    refine r_nL (pc := 38) F S e15 dX12_takeDown_38 ?_
    refine lv_istore_n (pc := 39) (lv' := [(3, .int v14), (0, .ref (G.2.1 0)), (1, .int a1), (2, .int a2)]) hx hb dX12_takeDown_39 rfl hl (by decide) rfl (fun ls hl => ?_)
    refine lv_iload_n (pc := 40) hx hb dX12_takeDown_40 rfl (lv_at hl 2 rfl) ?_
    refine lv_iload_n (pc := 41) hx hb dX12_takeDown_41 rfl (lv_at hl 3 rfl) ?_
    refine lv_iconst (pc := 42) (v := 0) hx hb dX12_takeDown_42 (by decide) ?_
    obtain ⟨v17, e16, h⟩ := ob_out h
    refine c_sI (pc := 43) (rest := []) F S (tX12_ofLamp e16) mfX12_ofLamp w997 ⟨Nat.le_of_ble_eq_true rfl, Nat.le_of_ble_eq_true rfl⟩ rfl hl.1 rfl (Nat.le_of_ble_eq_true rfl) dX12_takeDown_43 (fun H locs S => ?_)
    refine lv_istore (pc := 46) (lv' := [(4, .int v17), (3, .int v14), (0, .ref (G.2.1 0)), (1, .int a1), (2, .int a2)]) hx hb dX12_takeDown_46 hl (by decide) rfl (fun ls hl => ?_)
    obtain ⟨M18, e19, h⟩ := ob_out h
    refine pX12_takeDown_L48 F 5000 S (lv_sub hl [2, 3, 4, 1, 0] rfl) e19 (fun H locs ls S hl => ?_)
    refine lv_iconst (pc := 82) (v := 0) hx hb dX12_takeDown_82 (by decide) ?_
    refine lv_istore (pc := 83) (lv' := [(4, .int 0), (0, .ref (G.2.1 0)), (1, .int a1), (2, .int a2), (3, .int v14)]) hx hb dX12_takeDown_83 hl (by decide) rfl (fun ls hl => ?_)
    obtain ⟨M20, e21, h⟩ := ob_out h
    refine pX12_takeDown_L85 F 5000 S (lv_sub hl [1, 2, 3, 4, 0] rfl) e21 (fun H locs ls S hl => ?_)
    refine lv_iload_n (pc := 145) hx hb dX12_takeDown_145 rfl (lv_at hl 0 rfl) ?_
    cases h
    exact r_iret (pc := 146) F S rfl dX12_takeDown_146
  · replace h := (if_pos c3).symm.trans h
    refine lv_iconst (pc := 9) (v := (-1)) hx hb dX12_takeDown_9 (by decide) ?_
    cases h
    exact r_iret (pc := 10) F S rfl dX12_takeDown_10
theorem mfX12_patch : MF true yX12_patch RX12 cX12_patch 5 (some .int) 3 := ⟨w1014, w13, by rw [if_pos rfl]; exact ⟨w1012, w1013⟩, ⟨by decide, by decide⟩, by decide +kernel⟩
set_option maxHeartbeats 4000000 in
theorem tX12_patch {l : Launch} {G : GD} {M N Mo : Mem} {a1 : Int32} {a2 : Int32} {a3 : Int32} {r : Int32} (h : fX12_patch N a1 a2 a3 = some (r, Mo)) : MI l yX12_patch cX12_patch 5 .int 3 64 G [.ref (G.2.1 0), .int a1, .int a2, .int a3] M N r M Mo := by
  unfold fX12_patch at h
  refine MI_of (own := RX12) (by decide) rfl (Nat.le_of_ble_eq_true rfl) ?_
  intro p e s m args below meth c F S ls hl
  have hx := F.1
  have hb := F.2.1
  have hown := F.2.2.2.2.1
  have hts := F.2.2.2.2.2.1
  have hZ := F.2.2.2.2.2.2.2.2.2
  have hl : lv_has ls 5 [(0, .ref (G.2.1 0)), (1, .int a1), (2, .int a2), (3, .int a3)] := hl
  generalize s.heap = H, ([] : List Loc) = locs at S ⊢
  refine lv_aload_n (pc := 0) hx hb dX12_patch_0 rfl (lv_at hl 0 rfl) ?_
  refine lv_iload_n (pc := 1) hx hb dX12_patch_1 rfl (lv_at hl 1 rfl) ?_
  refine lv_iload_n (pc := 2) hx hb dX12_patch_2 rfl (lv_at hl 2 rfl) ?_
  obtain ⟨v2, e1, h⟩ := ob_out h
  refine c_vI (pc := 3) (rest := []) F S (tX12_isLamp e1) mfX12_isLamp (by decide) (by decide) cl12 w1007 ⟨Nat.le_of_ble_eq_true rfl, Nat.le_of_ble_eq_true rfl⟩ rfl hl.1 rfl (Nat.le_of_ble_eq_true rfl) dX12_patch_3 (fun H locs S => ?_)
  refine lv_if_eq (pc := 6) (tgt := 22) hx hb dX12_patch_6 (by decide) (fun c3 => ?_) (fun c3 => ?_)
  · replace h := (if_pos c3).symm.trans h
    refine lv_iconst (pc := 22) (v := (-1)) hx hb dX12_patch_22 (by decide) ?_
    cases h
    exact r_iret (pc := 23) F S rfl dX12_patch_23
  · replace h := (if_neg c3).symm.trans h
    refine lv_iload_n (pc := 9) hx hb dX12_patch_9 rfl (lv_at hl 3 rfl) ?_
    refine lv_bipush (pc := 10) (v := (-6)) hx hb dX12_patch_10 (by decide) ?_
    refine lv_icmp_eq (pc := 12) (tgt := 24) hx hb dX12_patch_12 (by decide) (fun c4 => ?_) (fun c4 => ?_)
    · replace h := (if_pos c4).symm.trans h
      refine lv_aload_n (pc := 24) hx hb dX12_patch_24 rfl (lv_at hl 0 rfl) ?_
      obtain ⟨M6, e5, h⟩ := ob_out h
      refine c_vV (pc := 25) (rest := []) F S (tX12_know e5) mfX12_know (by decide) (by decide) cl12 w975 ⟨Nat.le_of_ble_eq_true rfl, Nat.le_of_ble_eq_true rfl⟩ rfl hl.1 rfl (Nat.le_of_ble_eq_true rfl) dX12_patch_25 (fun H locs S => ?_)
      refine lv_aload_n (pc := 28) hx hb dX12_patch_28 rfl (lv_at hl 0 rfl) ?_
      refine r_gR (pc := 29) (k := 0) (x := 1) (i := 0) (ci := 12) F S (by decide) (by decide) cl12 inRX12 (by decide) w903 (fun _ => rfl) dX12_patch_29 ?_
      refine lv_iload_n (pc := 32) hx hb dX12_patch_32 rfl (lv_at hl 1 rfl) ?_
      refine lv_iload_n (pc := 33) hx hb dX12_patch_33 rfl (lv_at hl 2 rfl) ?_
      refine lv_iconst (pc := 34) (v := 1) hx hb dX12_patch_34 (by decide) ?_
      obtain ⟨v8, e7, h⟩ := ob_out h
      refine c_sI (pc := 35) (rest := [.ref (G.2.1 1)]) F S (tX12_ofLamp e7) mfX12_ofLamp w997 ⟨Nat.le_of_ble_eq_true rfl, Nat.le_of_ble_eq_true rfl⟩ rfl hl.1 rfl (Nat.le_of_ble_eq_true rfl) dX12_patch_35 (fun H locs S => ?_)
      obtain ⟨v9, e10, h⟩ := ob_out h
      refine r_nL (pc := 38) F S e10 dX12_patch_38 ?_
      refine lv_istore (pc := 39) (lv' := [(4, .int v9), (0, .ref (G.2.1 0)), (1, .int a1), (2, .int a2), (3, .int a3)]) hx hb dX12_patch_39 hl (by decide) rfl (fun ls hl => ?_)
      refine lv_aload_n (pc := 41) hx hb dX12_patch_41 rfl (lv_at hl 1 rfl) ?_
      refine r_gR (pc := 42) (k := 0) (x := 1) (i := 0) (ci := 12) F S (by decide) (by decide) cl12 inRX12 (by decide) w903 (fun _ => rfl) dX12_patch_42 ?_
      refine lv_iload_n (pc := 45) hx hb dX12_patch_45 rfl (lv_at hl 2 rfl) ?_
      refine lv_iload_n (pc := 46) hx hb dX12_patch_46 rfl (lv_at hl 3 rfl) ?_
      refine lv_iconst (pc := 47) (v := 1) hx hb dX12_patch_47 (by decide) ?_
      obtain ⟨v12, e11, h⟩ := ob_out h
      refine c_sI (pc := 48) (rest := [.ref (G.2.1 1)]) F S (tX12_ofLamp e11) mfX12_ofLamp w997 ⟨Nat.le_of_ble_eq_true rfl, Nat.le_of_ble_eq_true rfl⟩ rfl hl.1 rfl (Nat.le_of_ble_eq_true rfl) dX12_patch_48 (fun H locs S => ?_)
      refine lv_iload_n (pc := 51) hx hb dX12_patch_51 rfl (lv_at hl 4 rfl) ?_
      obtain ⟨M13, e14, h⟩ := ob_out h
      refine r_nS (pc := 52) F S e14 dX12_patch_52 (fun H locs S => ?_)
      refine lv_iload (pc := 53) hx hb dX12_patch_53 (lv_at hl 0 rfl) ?_
      cases h
      exact r_iret (pc := 55) F S rfl dX12_patch_55
    · replace h := (if_neg c4).symm.trans h
      refine lv_iload_n (pc := 15) hx hb dX12_patch_15 rfl (lv_at hl 3 rfl) ?_
      obtain ⟨v16, e15, h⟩ := ob_out h
      refine c_sI (pc := 16) (rest := []) F S (tX12_isDimmer e15) mfX12_isDimmer w994 ⟨Nat.le_of_ble_eq_true rfl, Nat.le_of_ble_eq_true rfl⟩ rfl hl.1 rfl (Nat.le_of_ble_eq_true rfl) dX12_patch_16 (fun H locs S => ?_)
      refine lv_if_ne (pc := 19) (tgt := 24) hx hb dX12_patch_19 (by decide) (fun c17 => ?_) (fun c17 => ?_)
      · replace h := (if_neg c17).symm.trans h
        refine lv_aload_n (pc := 24) hx hb dX12_patch_24 rfl (lv_at hl 0 rfl) ?_
        obtain ⟨M19, e18, h⟩ := ob_out h
        refine c_vV (pc := 25) (rest := []) F S (tX12_know e18) mfX12_know (by decide) (by decide) cl12 w975 ⟨Nat.le_of_ble_eq_true rfl, Nat.le_of_ble_eq_true rfl⟩ rfl hl.1 rfl (Nat.le_of_ble_eq_true rfl) dX12_patch_25 (fun H locs S => ?_)
        refine lv_aload_n (pc := 28) hx hb dX12_patch_28 rfl (lv_at hl 0 rfl) ?_
        refine r_gR (pc := 29) (k := 0) (x := 1) (i := 0) (ci := 12) F S (by decide) (by decide) cl12 inRX12 (by decide) w903 (fun _ => rfl) dX12_patch_29 ?_
        refine lv_iload_n (pc := 32) hx hb dX12_patch_32 rfl (lv_at hl 1 rfl) ?_
        refine lv_iload_n (pc := 33) hx hb dX12_patch_33 rfl (lv_at hl 2 rfl) ?_
        refine lv_iconst (pc := 34) (v := 1) hx hb dX12_patch_34 (by decide) ?_
        obtain ⟨v21, e20, h⟩ := ob_out h
        refine c_sI (pc := 35) (rest := [.ref (G.2.1 1)]) F S (tX12_ofLamp e20) mfX12_ofLamp w997 ⟨Nat.le_of_ble_eq_true rfl, Nat.le_of_ble_eq_true rfl⟩ rfl hl.1 rfl (Nat.le_of_ble_eq_true rfl) dX12_patch_35 (fun H locs S => ?_)
        obtain ⟨v22, e23, h⟩ := ob_out h
        refine r_nL (pc := 38) F S e23 dX12_patch_38 ?_
        refine lv_istore (pc := 39) (lv' := [(4, .int v22), (0, .ref (G.2.1 0)), (1, .int a1), (2, .int a2), (3, .int a3)]) hx hb dX12_patch_39 hl (by decide) rfl (fun ls hl => ?_)
        refine lv_aload_n (pc := 41) hx hb dX12_patch_41 rfl (lv_at hl 1 rfl) ?_
        refine r_gR (pc := 42) (k := 0) (x := 1) (i := 0) (ci := 12) F S (by decide) (by decide) cl12 inRX12 (by decide) w903 (fun _ => rfl) dX12_patch_42 ?_
        refine lv_iload_n (pc := 45) hx hb dX12_patch_45 rfl (lv_at hl 2 rfl) ?_
        refine lv_iload_n (pc := 46) hx hb dX12_patch_46 rfl (lv_at hl 3 rfl) ?_
        refine lv_iconst (pc := 47) (v := 1) hx hb dX12_patch_47 (by decide) ?_
        obtain ⟨v25, e24, h⟩ := ob_out h
        refine c_sI (pc := 48) (rest := [.ref (G.2.1 1)]) F S (tX12_ofLamp e24) mfX12_ofLamp w997 ⟨Nat.le_of_ble_eq_true rfl, Nat.le_of_ble_eq_true rfl⟩ rfl hl.1 rfl (Nat.le_of_ble_eq_true rfl) dX12_patch_48 (fun H locs S => ?_)
        refine lv_iload_n (pc := 51) hx hb dX12_patch_51 rfl (lv_at hl 4 rfl) ?_
        obtain ⟨M26, e27, h⟩ := ob_out h
        refine r_nS (pc := 52) F S e27 dX12_patch_52 (fun H locs S => ?_)
        refine lv_iload (pc := 53) hx hb dX12_patch_53 (lv_at hl 0 rfl) ?_
        cases h
        exact r_iret (pc := 55) F S rfl dX12_patch_55
      · replace h := (if_pos c17).symm.trans h
        refine lv_iconst (pc := 22) (v := (-1)) hx hb dX12_patch_22 (by decide) ?_
        cases h
        exact r_iret (pc := 23) F S rfl dX12_patch_23
theorem mfX12_feed : MF true yX12_feed RX12 cX12_feed 5 (some .int) 3 := ⟨w1018, w13, by rw [if_pos rfl]; exact ⟨w1016, w1017⟩, ⟨by decide, by decide⟩, by decide +kernel⟩
set_option maxHeartbeats 4000000 in
theorem tX12_feed {l : Launch} {G : GD} {M N Mo : Mem} {a1 : Int32} {a2 : Int32} {a3 : Int32} {r : Int32} (h : fX12_feed N a1 a2 a3 = some (r, Mo)) : MI l yX12_feed cX12_feed 5 .int 2 42 G [.ref (G.2.1 0), .int a1, .int a2, .int a3] M N r M Mo := by
  unfold fX12_feed at h
  refine MI_of (own := RX12) (by decide) rfl (Nat.le_of_ble_eq_true rfl) ?_
  intro p e s m args below meth c F S ls hl
  have hx := F.1
  have hb := F.2.1
  have hown := F.2.2.2.2.1
  have hts := F.2.2.2.2.2.1
  have hZ := F.2.2.2.2.2.2.2.2.2
  have hl : lv_has ls 5 [(0, .ref (G.2.1 0)), (1, .int a1), (2, .int a2), (3, .int a3)] := hl
  generalize s.heap = H, ([] : List Loc) = locs at S ⊢
  refine lv_iload_n (pc := 0) hx hb dX12_feed_0 rfl (lv_at hl 1 rfl) ?_
  obtain ⟨v2, e1, h⟩ := ob_out h
  refine c_sI (pc := 1) (rest := []) F S (tX12_isPremiere e1) mfX12_isPremiere w987 ⟨Nat.le_of_ble_eq_true rfl, Nat.le_of_ble_eq_true rfl⟩ rfl hl.1 rfl (Nat.le_of_ble_eq_true rfl) dX12_feed_1 (fun H locs S => ?_)
  refine lv_if_eq (pc := 4) (tgt := 23) hx hb dX12_feed_4 (by decide) (fun c3 => ?_) (fun c3 => ?_)
  · replace h := (if_pos c3).symm.trans h
    refine lv_iconst (pc := 23) (v := (-1)) hx hb dX12_feed_23 (by decide) ?_
    cases h
    exact r_iret (pc := 24) F S rfl dX12_feed_24
  · replace h := (if_neg c3).symm.trans h
    refine lv_iload_n (pc := 7) hx hb dX12_feed_7 rfl (lv_at hl 2 rfl) ?_
    obtain ⟨v5, e4, h⟩ := ob_out h
    refine c_sI (pc := 8) (rest := []) F S (tX12_isDimmer e4) mfX12_isDimmer w994 ⟨Nat.le_of_ble_eq_true rfl, Nat.le_of_ble_eq_true rfl⟩ rfl hl.1 rfl (Nat.le_of_ble_eq_true rfl) dX12_feed_8 (fun H locs S => ?_)
    refine lv_if_eq (pc := 11) (tgt := 23) hx hb dX12_feed_11 (by decide) (fun c6 => ?_) (fun c6 => ?_)
    · replace h := (if_pos c6).symm.trans h
      refine lv_iconst (pc := 23) (v := (-1)) hx hb dX12_feed_23 (by decide) ?_
      cases h
      exact r_iret (pc := 24) F S rfl dX12_feed_24
    · replace h := (if_neg c6).symm.trans h
      refine lv_iload_n (pc := 14) hx hb dX12_feed_14 rfl (lv_at hl 3 rfl) ?_
      refine lv_iconst (pc := 15) (v := 0) hx hb dX12_feed_15 (by decide) ?_
      refine lv_iconst (pc := 16) (v := 2) hx hb dX12_feed_16 (by decide) ?_
      obtain ⟨v8, e7, h⟩ := ob_out h
      refine c_sI (pc := 17) (rest := []) F S (tX12_in e7) mfX12_in w972 ⟨Nat.le_of_ble_eq_true rfl, Nat.le_of_ble_eq_true rfl⟩ rfl hl.1 rfl (Nat.le_of_ble_eq_true rfl) dX12_feed_17 (fun H locs S => ?_)
      refine lv_if_ne (pc := 20) (tgt := 25) hx hb dX12_feed_20 (by decide) (fun c9 => ?_) (fun c9 => ?_)
      · replace h := (if_neg c9).symm.trans h
        refine lv_aload_n (pc := 25) hx hb dX12_feed_25 rfl (lv_at hl 0 rfl) ?_
        obtain ⟨M11, e10, h⟩ := ob_out h
        refine c_vV (pc := 26) (rest := []) F S (tX12_know e10) mfX12_know (by decide) (by decide) cl12 w975 ⟨Nat.le_of_ble_eq_true rfl, Nat.le_of_ble_eq_true rfl⟩ rfl hl.1 rfl (Nat.le_of_ble_eq_true rfl) dX12_feed_26 (fun H locs S => ?_)
        refine lv_aload_n (pc := 29) hx hb dX12_feed_29 rfl (lv_at hl 0 rfl) ?_
        refine r_gR (pc := 30) (k := 0) (x := 1) (i := 0) (ci := 12) F S (by decide) (by decide) cl12 inRX12 (by decide) w903 (fun _ => rfl) dX12_feed_30 ?_
        refine lv_iload_n (pc := 33) hx hb dX12_feed_33 rfl (lv_at hl 1 rfl) ?_
        refine lv_bipush (pc := 34) (v := 75) hx hb dX12_feed_34 (by decide) ?_
        refine lv_iload_n (pc := 36) hx hb dX12_feed_36 rfl (lv_at hl 2 rfl) ?_
        refine lv_iadd (pc := 37) hx hb dX12_feed_37 ?_
        obtain ⟨v13, e12, h⟩ := ob_out h
        refine c_sI (pc := 38) (rest := [.ref (G.2.1 1)]) F S (tX12_at1 e12) mfX12_at1 w900 ⟨Nat.le_of_ble_eq_true rfl, Nat.le_of_ble_eq_true rfl⟩ rfl hl.1 rfl (Nat.le_of_ble_eq_true rfl) dX12_feed_38 (fun H locs S => ?_)
        obtain ⟨v14, e15, h⟩ := ob_out h
        refine r_nL (pc := 41) F S e15 dX12_feed_41 ?_
        refine lv_istore (pc := 42) (lv' := [(4, .int v14), (0, .ref (G.2.1 0)), (1, .int a1), (2, .int a2), (3, .int a3)]) hx hb dX12_feed_42 hl (by decide) rfl (fun ls hl => ?_)
        refine lv_aload_n (pc := 44) hx hb dX12_feed_44 rfl (lv_at hl 1 rfl) ?_
        refine r_gR (pc := 45) (k := 0) (x := 1) (i := 0) (ci := 12) F S (by decide) (by decide) cl12 inRX12 (by decide) w903 (fun _ => rfl) dX12_feed_45 ?_
        refine lv_iload_n (pc := 48) hx hb dX12_feed_48 rfl (lv_at hl 2 rfl) ?_
        refine lv_bipush (pc := 49) (v := 75) hx hb dX12_feed_49 (by decide) ?_
        refine lv_iload_n (pc := 51) hx hb dX12_feed_51 rfl (lv_at hl 3 rfl) ?_
        refine lv_iadd (pc := 52) hx hb dX12_feed_52 ?_
        obtain ⟨v17, e16, h⟩ := ob_out h
        refine c_sI (pc := 53) (rest := [.ref (G.2.1 1)]) F S (tX12_at1 e16) mfX12_at1 w900 ⟨Nat.le_of_ble_eq_true rfl, Nat.le_of_ble_eq_true rfl⟩ rfl hl.1 rfl (Nat.le_of_ble_eq_true rfl) dX12_feed_53 (fun H locs S => ?_)
        refine lv_iload_n (pc := 56) hx hb dX12_feed_56 rfl (lv_at hl 4 rfl) ?_
        obtain ⟨M18, e19, h⟩ := ob_out h
        refine r_nS (pc := 57) F S e19 dX12_feed_57 (fun H locs S => ?_)
        refine lv_iload (pc := 58) hx hb dX12_feed_58 (lv_at hl 0 rfl) ?_
        cases h
        exact r_iret (pc := 60) F S rfl dX12_feed_60
      · replace h := (if_pos c9).symm.trans h
        refine lv_iconst (pc := 23) (v := (-1)) hx hb dX12_feed_23 (by decide) ?_
        cases h
        exact r_iret (pc := 24) F S rfl dX12_feed_24
theorem mfX12_spread : MF true yX12_spread RX12 cX12_spread 6 (some .int) 1 := ⟨w1022, w13, by rw [if_pos rfl]; exact ⟨w1020, w1021⟩, ⟨by decide, by decide⟩, by decide +kernel⟩
set_option maxHeartbeats 4000000 in
theorem pX12_spread_L15 {p : Program} {l : Launch} {e : Env} {s : State} {m : MethodId} {args : Array Value} {below : List Frame} {meth : Method} {c : Code} {Q : State → Prop} {G : GD} (F : FX p s m args meth c RX12 cX12_spread 6 (some .int) G) : ∀ (n : Nat) {M N : Mem} {a1 : Int32} {a2 : Int32} {H : Heap} {locs : List Loc} {ls : Array Slot} {Mo : Mem}, ST G M N s H locs → lv_has ls 6 [(0, .ref (G.2.1 0)), (1, .int a1), (2, .int a2)] → fX12_spread_L15 n N a1 a2 = some Mo → (K1 : ∀ (H : Heap) (locs : List Loc) (ls : Array Slot), ST G M Mo s H locs → lv_has ls 6 [(0, .ref (G.2.1 0)), (1, .int a1)] → W p l e (Rm 5 118) s m args below meth c H locs 0 0 Q (F0 m 39 ls [])) → W p l e (Rm 5 118) s m args below meth c H locs 0 0 Q (F0 m 15 ls []) := by
  intro n
  induction n with
  | zero => intro M N a1 a2 H locs ls Mo S hl h K1; cases h
  | succ n ih =>
    intro M N a1 a2 H locs ls Mo S hl h K1
    rw [fX12_spread_L15] at h
    have hx := F.1
    have hb := F.2.1
    have hown := F.2.2.2.2.1
    have hts := F.2.2.2.2.2.1
    have hZ := F.2.2.2.2.2.2.2.2.2
    refine lv_iload_n (pc := 15) hx hb dX12_spread_15 rfl (lv_at hl 2 rfl) ?_
    refine lv_bipush (pc := 16) (v := 12) hx hb dX12_spread_16 (by decide) ?_
    refine lv_icmp_ge (pc := 18) (tgt := 39) hx hb dX12_spread_18 (by decide) (fun c6 => ?_) (fun c6 => ?_)
    · replace h := (if_pos c6).symm.trans h
      cases h
      exact K1 H locs ls S (lv_sub hl [0, 1] rfl)
    · replace h := (if_neg c6).symm.trans h
      refine lv_aload_n (pc := 21) hx hb dX12_spread_21 rfl (lv_at hl 0 rfl) ?_
      refine r_gR (pc := 22) (k := 8) (x := 7) (i := 0) (ci := 12) F S (by decide) (by decide) cl12 inRX12 (by decide) w911 (fun _ => rfl) dX12_spread_22 ?_
      refine lv_iload_n (pc := 25) hx hb dX12_spread_25 rfl (lv_at hl 2 rfl) ?_
      refine lv_aload_n (pc := 26) hx hb dX12_spread_26 rfl (lv_at hl 0 rfl) ?_
      refine lv_iload_n (pc := 27) hx hb dX12_spread_27 rfl (lv_at hl 1 rfl) ?_
      refine lv_iload_n (pc := 28) hx hb dX12_spread_28 rfl (lv_at hl 2 rfl) ?_
      obtain ⟨v8, e7, h⟩ := ob_out h
      refine c_vI (pc := 29) (rest := [.int a2, .ref (G.2.1 7)]) F S (tX12_worst e7) mfX12_worst (by decide) (by decide) cl12 w1023 ⟨Nat.le_of_ble_eq_true rfl, Nat.le_of_ble_eq_true rfl⟩ rfl hl.1 rfl (Nat.le_of_ble_eq_true rfl) dX12_spread_29 (fun H locs S => ?_)
      obtain ⟨M9, e10, h⟩ := ob_out h
      refine r_nS (pc := 32) F S e10 dX12_spread_32 (fun H locs S => ?_)
      refine lv_iinc (pc := 33) (lv' := [(2, .int (a2 + 1)), (0, .ref (G.2.1 0)), (1, .int a1)]) hx hb dX12_spread_33 hl (k := 2) rfl (iinc_n (by decide)) (by decide) rfl (fun ls hl => ?_)
      refine lv_goto (pc := 36) (tgt := 15) hx hb dX12_spread_36 (by decide) ?_
      exact ih S (lv_sub hl [1, 2, 0] rfl) h K1
set_option maxHeartbeats 4000000 in
theorem pX12_spread_L76 {p : Program} {l : Launch} {e : Env} {s : State} {m : MethodId} {args : Array Value} {below : List Frame} {meth : Method} {c : Code} {Q : State → Prop} {G : GD} (F : FX p s m args meth c RX12 cX12_spread 6 (some .int) G) : ∀ (n : Nat) {M N : Mem} {a1 : Int32} {a2 : Int32} {a3 : Int32} {a4 : Int32} {a5 : Int32} {H : Heap} {locs : List Loc} {ls : Array Slot} {o4 : Int32}, ST G M N s H locs → lv_has ls 6 [(0, .ref (G.2.1 0)), (1, .int a1), (2, .int a2), (3, .int a3), (4, .int a4), (5, .int a5)] → fX12_spread_L76 n N a1 a2 a3 a4 a5 = some o4 → (K1 : ∀ (H : Heap) (locs : List Loc) (ls : Array Slot), ST G M N s H locs → lv_has ls 6 [(0, .ref (G.2.1 0)), (1, .int a1), (2, .int a2), (3, .int a3), (4, .int o4)] → W p l e (Rm 5 118) s m args below meth c H locs 0 0 Q (F0 m 115 ls [])) → W p l e (Rm 5 118) s m args below meth c H locs 0 0 Q (F0 m 76 ls []) := by
  intro n
  induction n with
  | zero => intro M N a1 a2 a3 a4 a5 H locs ls o4 S hl h K1; cases h
  | succ n ih =>
    intro M N a1 a2 a3 a4 a5 H locs ls o4 S hl h K1
    rw [fX12_spread_L76] at h
    have hx := F.1
    have hb := F.2.1
    have hown := F.2.2.2.2.1
    have hts := F.2.2.2.2.2.1
    have hZ := F.2.2.2.2.2.2.2.2.2
    refine lv_iload (pc := 76) hx hb dX12_spread_76 (lv_at hl 5 rfl) ?_
    refine lv_bipush (pc := 78) (v := 12) hx hb dX12_spread_78 (by decide) ?_
    refine lv_icmp_ge (pc := 80) (tgt := 115) hx hb dX12_spread_80 (by decide) (fun c15 => ?_) (fun c15 => ?_)
    · replace h := (if_pos c15).symm.trans h
      cases h
      exact K1 H locs ls S (lv_sub hl [0, 1, 2, 3, 4] rfl)
    · replace h := (if_neg c15).symm.trans h
      refine lv_aload_n (pc := 83) hx hb dX12_spread_83 rfl (lv_at hl 0 rfl) ?_
      refine r_gR (pc := 84) (k := 8) (x := 7) (i := 0) (ci := 12) F S (by decide) (by decide) cl12 inRX12 (by decide) w911 (fun _ => rfl) dX12_spread_84 ?_
      refine lv_iload (pc := 87) hx hb dX12_spread_87 (lv_at hl 5 rfl) ?_
      obtain ⟨v16, e17, h⟩ := ob_out h
      refine r_nL (pc := 89) F S e17 dX12_spread_89 ?_
      refine lv_aload_n (pc := 90) hx hb dX12_spread_90 rfl (lv_at hl 0 rfl) ?_
      refine r_gR (pc := 91) (k := 8) (x := 7) (i := 0) (ci := 12) F S (by decide) (by decide) cl12 inRX12 (by decide) w911 (fun _ => rfl) dX12_spread_91 ?_
      refine lv_iload (pc := 94) hx hb dX12_spread_94 (lv_at hl 4 rfl) ?_
      obtain ⟨v18, e19, h⟩ := ob_out h
      refine r_nL (pc := 96) F S e19 dX12_spread_96 ?_
      refine lv_icmp_le (pc := 97) (tgt := 105) hx hb dX12_spread_97 (by decide) (fun c20 => ?_) (fun c20 => ?_)
      · replace h := (if_pos c20).symm.trans h
        refine lv_iload (pc := 105) hx hb dX12_spread_105 (lv_at hl 4 rfl) ?_
        refine lv_istore (pc := 107) (lv' := [(4, .int a4), (0, .ref (G.2.1 0)), (1, .int a1), (2, .int a2), (3, .int a3), (5, .int a5)]) hx hb dX12_spread_107 hl (by decide) rfl (fun ls hl => ?_)
        refine lv_iinc (pc := 109) (lv' := [(5, .int (a5 + 1)), (4, .int a4), (0, .ref (G.2.1 0)), (1, .int a1), (2, .int a2), (3, .int a3)]) hx hb dX12_spread_109 hl (k := 5) rfl (iinc_n (by decide)) (by decide) rfl (fun ls hl => ?_)
        refine lv_goto (pc := 112) (tgt := 76) hx hb dX12_spread_112 (by decide) ?_
        exact ih S (lv_sub hl [2, 3, 4, 5, 1, 0] rfl) h K1
      · replace h := (if_neg c20).symm.trans h
        refine lv_iload (pc := 100) hx hb dX12_spread_100 (lv_at hl 5 rfl) ?_
        refine lv_goto (pc := 102) (tgt := 107) hx hb dX12_spread_102 (by decide) ?_
        refine lv_istore (pc := 107) (lv' := [(4, .int a5), (0, .ref (G.2.1 0)), (1, .int a1), (2, .int a2), (3, .int a3), (5, .int a5)]) hx hb dX12_spread_107 hl (by decide) rfl (fun ls hl => ?_)
        refine lv_iinc (pc := 109) (lv' := [(5, .int (a5 + 1)), (4, .int a5), (0, .ref (G.2.1 0)), (1, .int a1), (2, .int a2), (3, .int a3)]) hx hb dX12_spread_109 hl (k := 5) rfl (iinc_n (by decide)) (by decide) rfl (fun ls hl => ?_)
        refine lv_goto (pc := 112) (tgt := 76) hx hb dX12_spread_112 (by decide) ?_
        exact ih S (lv_sub hl [2, 3, 4, 5, 1, 0] rfl) h K1
set_option maxHeartbeats 4000000 in
theorem pX12_spread_L64 {p : Program} {l : Launch} {e : Env} {s : State} {m : MethodId} {args : Array Value} {below : List Frame} {meth : Method} {c : Code} {Q : State → Prop} {G : GD} (F : FX p s m args meth c RX12 cX12_spread 6 (some .int) G) : ∀ (n : Nat) {M N : Mem} {a1 : Int32} {a2 : Int32} {a3 : Int32} {H : Heap} {locs : List Loc} {ls : Array Slot} {o2 : Int32} {Mo : Mem}, ST G M N s H locs → lv_has ls 6 [(0, .ref (G.2.1 0)), (1, .int a1), (2, .int a2), (3, .int a3)] → fX12_spread_L64 n N a1 a2 a3 = some (o2, Mo) → (K1 : ∀ (H : Heap) (locs : List Loc) (ls : Array Slot), ST G M Mo s H locs → lv_has ls 6 [(2, .int o2)] → W p l e (Rm 5 118) s m args below meth c H locs 0 0 Q (F0 m 235 ls [])) → W p l e (Rm 5 118) s m args below meth c H locs 0 0 Q (F0 m 64 ls []) := by
  intro n
  induction n with
  | zero => intro M N a1 a2 a3 H locs ls o2 Mo S hl h K1; cases h
  | succ n ih =>
    intro M N a1 a2 a3 H locs ls o2 Mo S hl h K1
    rw [fX12_spread_L64] at h
    have hx := F.1
    have hb := F.2.1
    have hown := F.2.2.2.2.1
    have hts := F.2.2.2.2.2.1
    have hZ := F.2.2.2.2.2.2.2.2.2
    refine lv_iload_n (pc := 64) hx hb dX12_spread_64 rfl (lv_at hl 3 rfl) ?_
    refine lv_bipush (pc := 65) (v := 12) hx hb dX12_spread_65 (by decide) ?_
    refine lv_icmp_ge (pc := 67) (tgt := 235) hx hb dX12_spread_67 (by decide) (fun c14 => ?_) (fun c14 => ?_)
    · replace h := (if_pos c14).symm.trans h
      cases h
      exact K1 H locs ls S (lv_sub hl [2] rfl)
    · replace h := (if_neg c14).symm.trans h
      refine lv_iconst (pc := 70) (v := 0) hx hb dX12_spread_70 (by decide) ?_
      refine lv_istore (pc := 71) (lv' := [(4, .int 0), (0, .ref (G.2.1 0)), (1, .int a1), (2, .int a2), (3, .int a3)]) hx hb dX12_spread_71 hl (by decide) rfl (fun ls hl => ?_)
      refine lv_iconst (pc := 73) (v := 1) hx hb dX12_spread_73 (by decide) ?_
      refine lv_istore (pc := 74) (lv' := [(5, .int 1), (4, .int 0), (0, .ref (G.2.1 0)), (1, .int a1), (2, .int a2), (3, .int a3)]) hx hb dX12_spread_74 hl (by decide) rfl (fun ls hl => ?_)
      obtain ⟨v15, e16, h⟩ := ob_out h
      refine pX12_spread_L76 F 5000 S (lv_sub hl [2, 3, 4, 5, 1, 0] rfl) e16 (fun H locs ls S hl => ?_)
      refine lv_aload_n (pc := 115) hx hb dX12_spread_115 rfl (lv_at hl 0 rfl) ?_
      refine r_gR (pc := 116) (k := 9) (x := 8) (i := 0) (ci := 12) F S (by decide) (by decide) cl12 inRX12 (by decide) w912 (fun _ => rfl) dX12_spread_116 ?_
      refine lv_iconst (pc := 119) (v := 1) hx hb dX12_spread_119 (by decide) ?_
      obtain ⟨v17, e18, h⟩ := ob_out h
      refine r_nL (pc := 120) F S e18 dX12_spread_120 ?_
      refine lv_aload_n (pc := 121) hx hb dX12_spread_121 rfl (lv_at hl 0 rfl) ?_
      refine r_gR (pc := 122) (k := 9) (x := 8) (i := 0) (ci := 12) F S (by decide) (by decide) cl12 inRX12 (by decide) w912 (fun _ => rfl) dX12_spread_122 ?_
      refine lv_iconst (pc := 125) (v := 0) hx hb dX12_spread_125 (by decide) ?_
      obtain ⟨v19, e20, h⟩ := ob_out h
      refine r_nL (pc := 126) F S e20 dX12_spread_126 ?_
      obtain ⟨v21, d22, h⟩ := ob_out h
      have J23 : ∀ (H : Heap) (locs : List Loc) (ls : Array Slot), ST G M N s H locs → lv_has ls 6 [(0, .ref (G.2.1 0)), (1, .int a1), (2, .int a2), (3, .int a3), (4, .int v15)] → W p l e (Rm 5 118) s m args below meth c H locs 0 0 Q (F0 m 135 ls [.int v21]) := by
        intro H locs ls S hl
        refine lv_istore (pc := 135) (lv' := [(5, .int v21), (0, .ref (G.2.1 0)), (1, .int a1), (2, .int a2), (3, .int a3), (4, .int v15)]) hx hb dX12_spread_135 hl (by decide) rfl (fun ls hl => ?_)
        refine lv_aload_n (pc := 137) hx hb dX12_spread_137 rfl (lv_at hl 1 rfl) ?_
        refine r_gR (pc := 138) (k := 9) (x := 8) (i := 0) (ci := 12) F S (by decide) (by decide) cl12 inRX12 (by decide) w912 (fun _ => rfl) dX12_spread_138 ?_
        refine lv_iconst (pc := 141) (v := 2) hx hb dX12_spread_141 (by decide) ?_
        obtain ⟨v24, e25, h⟩ := ob_out h
        refine r_nL (pc := 142) F S e25 dX12_spread_142 ?_
        refine lv_aload_n (pc := 143) hx hb dX12_spread_143 rfl (lv_at hl 1 rfl) ?_
        refine r_gR (pc := 144) (k := 9) (x := 8) (i := 0) (ci := 12) F S (by decide) (by decide) cl12 inRX12 (by decide) w912 (fun _ => rfl) dX12_spread_144 ?_
        refine lv_iload (pc := 147) hx hb dX12_spread_147 (lv_at hl 0 rfl) ?_
        obtain ⟨v26, e27, h⟩ := ob_out h
        refine r_nL (pc := 149) F S e27 dX12_spread_149 ?_
        obtain ⟨v28, d29, h⟩ := ob_out h
        have J30 : ∀ (H : Heap) (locs : List Loc) (ls : Array Slot), ST G M N s H locs → lv_has ls 6 [(0, .ref (G.2.1 0)), (1, .int a1), (2, .int a2), (3, .int a3), (4, .int v15)] → W p l e (Rm 5 118) s m args below meth c H locs 0 0 Q (F0 m 159 ls [.int v28]) := by
          intro H locs ls S hl
          refine lv_istore (pc := 159) (lv' := [(5, .int v28), (0, .ref (G.2.1 0)), (1, .int a1), (2, .int a2), (3, .int a3), (4, .int v15)]) hx hb dX12_spread_159 hl (by decide) rfl (fun ls hl => ?_)
          refine lv_aload_n (pc := 161) hx hb dX12_spread_161 rfl (lv_at hl 1 rfl) ?_
          refine r_gR (pc := 162) (k := 9) (x := 8) (i := 0) (ci := 12) F S (by decide) (by decide) cl12 inRX12 (by decide) w912 (fun _ => rfl) dX12_spread_162 ?_
          refine lv_iload (pc := 165) hx hb dX12_spread_165 (lv_at hl 0 rfl) ?_
          refine lv_dup2_11 (pc := 167) hx hb dX12_spread_167 rfl rfl ?_
          obtain ⟨v31, e32, h⟩ := ob_out h
          refine r_nL (pc := 168) F S e32 dX12_spread_168 ?_
          refine lv_aload_n (pc := 169) hx hb dX12_spread_169 rfl (lv_at hl 1 rfl) ?_
          refine r_gR (pc := 170) (k := 8) (x := 7) (i := 0) (ci := 12) F S (by decide) (by decide) cl12 inRX12 (by decide) w911 (fun _ => rfl) dX12_spread_170 ?_
          refine lv_iload (pc := 173) hx hb dX12_spread_173 (lv_at hl 5 rfl) ?_
          obtain ⟨v33, e34, h⟩ := ob_out h
          refine r_nL (pc := 175) F S e34 dX12_spread_175 ?_
          refine lv_iadd (pc := 176) hx hb dX12_spread_176 ?_
          obtain ⟨M35, e36, h⟩ := ob_out h
          refine r_nS (pc := 177) F S e36 dX12_spread_177 (fun H locs S => ?_)
          refine lv_iload_n (pc := 178) hx hb dX12_spread_178 rfl (lv_at hl 3 rfl) ?_
          refine lv_aload_n (pc := 179) hx hb dX12_spread_179 rfl (lv_at hl 1 rfl) ?_
          refine r_gR (pc := 180) (k := 0) (x := 1) (i := 0) (ci := 12) F S (by decide) (by decide) cl12 inRX12 (by decide) w903 (fun _ => rfl) dX12_spread_180 ?_
          refine lv_iload_n (pc := 183) hx hb dX12_spread_183 rfl (lv_at hl 2 rfl) ?_
          refine lv_bipush (pc := 184) (v := 75) hx hb dX12_spread_184 (by decide) ?_
          refine lv_iload (pc := 186) hx hb dX12_spread_186 (lv_at hl 5 rfl) ?_
          refine lv_iadd (pc := 188) hx hb dX12_spread_188 ?_
          obtain ⟨v38, e37, h⟩ := ob_out h
          refine c_sI (pc := 189) (rest := [.ref (G.2.1 1), .int a2]) F S (tX12_at1 e37) mfX12_at1 w900 ⟨Nat.le_of_ble_eq_true rfl, Nat.le_of_ble_eq_true rfl⟩ rfl hl.1 rfl (Nat.le_of_ble_eq_true rfl) dX12_spread_189 (fun H locs S => ?_)
          obtain ⟨v39, e40, h⟩ := ob_out h
          refine r_nL (pc := 192) F S e40 dX12_spread_192 ?_
          refine lv_iload (pc := 193) hx hb dX12_spread_193 (lv_at hl 0 rfl) ?_
          obtain ⟨v41, d42, h⟩ := ob_out h
          have J43 : ∀ (H : Heap) (locs : List Loc) (ls : Array Slot), ST G M M35 s H locs → lv_has ls 6 [(0, .ref (G.2.1 0)), (1, .int a1), (3, .int a3), (4, .int v15), (5, .int v28)] → W p l e (Rm 5 118) s m args below meth c H locs 0 0 Q (F0 m 203 ls [.int v41, .int a2]) := by
            intro H locs ls S hl
            refine lv_iadd (pc := 203) hx hb dX12_spread_203 ?_
            obtain ⟨v44, e45, h⟩ := lt1_out h
            refine nm_i e45 ?_
            refine lv_istore_n (pc := 204) (lv' := [(2, .int v44), (0, .ref (G.2.1 0)), (1, .int a1), (3, .int a3), (4, .int v15), (5, .int v28)]) hx hb dX12_spread_204 rfl hl (by decide) rfl (fun ls hl => ?_)
            refine lv_aload_n (pc := 205) hx hb dX12_spread_205 rfl (lv_at hl 1 rfl) ?_
            refine r_gR (pc := 206) (k := 0) (x := 1) (i := 0) (ci := 12) F S (by decide) (by decide) cl12 inRX12 (by decide) w903 (fun _ => rfl) dX12_spread_206 ?_
            refine lv_iload_n (pc := 209) hx hb dX12_spread_209 rfl (lv_at hl 2 rfl) ?_
            refine lv_bipush (pc := 210) (v := 75) hx hb dX12_spread_210 (by decide) ?_
            refine lv_iload (pc := 212) hx hb dX12_spread_212 (lv_at hl 4 rfl) ?_
            refine lv_iadd (pc := 214) hx hb dX12_spread_214 ?_
            obtain ⟨v47, e46, h⟩ := ob_out h
            refine c_sI (pc := 215) (rest := [.ref (G.2.1 1)]) F S (tX12_at1 e46) mfX12_at1 w900 ⟨Nat.le_of_ble_eq_true rfl, Nat.le_of_ble_eq_true rfl⟩ rfl hl.1 rfl (Nat.le_of_ble_eq_true rfl) dX12_spread_215 (fun H locs S => ?_)
            refine lv_iload (pc := 218) hx hb dX12_spread_218 (lv_at hl 5 rfl) ?_
            obtain ⟨M48, e49, h⟩ := ob_out h
            refine r_nS (pc := 220) F S e49 dX12_spread_220 (fun H locs S => ?_)
            refine lv_aload_n (pc := 221) hx hb dX12_spread_221 rfl (lv_at hl 1 rfl) ?_
            refine r_gR (pc := 222) (k := 8) (x := 7) (i := 0) (ci := 12) F S (by decide) (by decide) cl12 inRX12 (by decide) w911 (fun _ => rfl) dX12_spread_222 ?_
            refine lv_iload (pc := 225) hx hb dX12_spread_225 (lv_at hl 4 rfl) ?_
            refine lv_iconst (pc := 227) (v := (-1)) hx hb dX12_spread_227 (by decide) ?_
            obtain ⟨M50, e51, h⟩ := ob_out h
            refine r_nS (pc := 228) F S e51 dX12_spread_228 (fun H locs S => ?_)
            refine lv_iinc (pc := 229) (lv' := [(3, .int (a3 + 1)), (2, .int v44), (0, .ref (G.2.1 0)), (1, .int a1), (4, .int v15), (5, .int v28)]) hx hb dX12_spread_229 hl (k := 3) rfl (iinc_n (by decide)) (by decide) rfl (fun ls hl => ?_)
            refine lv_goto (pc := 232) (tgt := 64) hx hb dX12_spread_232 (by decide) ?_
            exact ih S (lv_sub hl [2, 3, 1, 0] rfl) h K1
          refine lv_icmp_ne (pc := 195) (tgt := 202) hx hb dX12_spread_195 (by decide) (fun c52 => ?_) (fun c52 => ?_)
          · replace d42 := (if_neg c52).symm.trans d42
            refine lv_iconst (pc := 202) (v := 1) hx hb dX12_spread_202 (by decide) ?_
            cases d42
            exact J43 H locs ls S (lv_sub hl [1, 2, 4, 5, 0] rfl)
          · replace d42 := (if_pos c52).symm.trans d42
            refine lv_iconst (pc := 198) (v := 0) hx hb dX12_spread_198 (by decide) ?_
            refine lv_goto (pc := 199) (tgt := 203) hx hb dX12_spread_199 (by decide) ?_
            cases d42
            exact J43 H locs ls S (lv_sub hl [1, 2, 4, 5, 0] rfl)
        refine lv_icmp_ge (pc := 150) (tgt := 157) hx hb dX12_spread_150 (by decide) (fun c53 => ?_) (fun c53 => ?_)
        · replace d29 := (if_pos c53).symm.trans d29
          refine lv_iload (pc := 157) hx hb dX12_spread_157 (lv_at hl 0 rfl) ?_
          cases d29
          exact J30 H locs ls S (lv_sub hl [1, 2, 3, 4, 5] rfl)
        · replace d29 := (if_neg c53).symm.trans d29
          refine lv_iconst (pc := 153) (v := 2) hx hb dX12_spread_153 (by decide) ?_
          refine lv_goto (pc := 154) (tgt := 159) hx hb dX12_spread_154 (by decide) ?_
          cases d29
          exact J30 H locs ls S (lv_sub hl [1, 2, 3, 4, 5] rfl)
      refine lv_icmp_ge (pc := 127) (tgt := 134) hx hb dX12_spread_127 (by decide) (fun c54 => ?_) (fun c54 => ?_)
      · replace d22 := (if_pos c54).symm.trans d22
        refine lv_iconst (pc := 134) (v := 0) hx hb dX12_spread_134 (by decide) ?_
        cases d22
        exact J23 H locs ls S (lv_sub hl [0, 1, 2, 3, 4] rfl)
      · replace d22 := (if_neg c54).symm.trans d22
        refine lv_iconst (pc := 130) (v := 1) hx hb dX12_spread_130 (by decide) ?_
        refine lv_goto (pc := 131) (tgt := 135) hx hb dX12_spread_131 (by decide) ?_
        cases d22
        exact J23 H locs ls S (lv_sub hl [0, 1, 2, 3, 4] rfl)
set_option maxHeartbeats 4000000 in
theorem tX12_spread {l : Launch} {G : GD} {M N Mo : Mem} {a1 : Int32} {r : Int32} (h : fX12_spread N a1 = some (r, Mo)) : MI l yX12_spread cX12_spread 6 .int 5 118 G [.ref (G.2.1 0), .int a1] M N r M Mo := by
  unfold fX12_spread at h
  refine MI_of (own := RX12) (by decide) rfl (Nat.le_of_ble_eq_true rfl) ?_
  intro p e s m args below meth c F S ls hl
  have hx := F.1
  have hb := F.2.1
  have hown := F.2.2.2.2.1
  have hts := F.2.2.2.2.2.1
  have hZ := F.2.2.2.2.2.2.2.2.2
  have hl : lv_has ls 6 [(0, .ref (G.2.1 0)), (1, .int a1)] := hl
  generalize s.heap = H, ([] : List Loc) = locs at S ⊢
  refine lv_iload_n (pc := 0) hx hb dX12_spread_0 rfl (lv_at hl 1 rfl) ?_
  obtain ⟨v2, e1, h⟩ := ob_out h
  refine c_sI (pc := 1) (rest := []) F S (tX12_isPremiere e1) mfX12_isPremiere w987 ⟨Nat.le_of_ble_eq_true rfl, Nat.le_of_ble_eq_true rfl⟩ rfl hl.1 rfl (Nat.le_of_ble_eq_true rfl) dX12_spread_1 (fun H locs S => ?_)
  refine lv_if_ne (pc := 4) (tgt := 9) hx hb dX12_spread_4 (by decide) (fun c3 => ?_) (fun c3 => ?_)
  · replace h := (if_neg c3).symm.trans h
    refine lv_aload_n (pc := 9) hx hb dX12_spread_9 rfl (lv_at hl 0 rfl) ?_
    obtain ⟨M5, e4, h⟩ := ob_out h
    refine c_vV (pc := 10) (rest := []) F S (tX12_know e4) mfX12_know (by decide) (by decide) cl12 w975 ⟨Nat.le_of_ble_eq_true rfl, Nat.le_of_ble_eq_true rfl⟩ rfl hl.1 rfl (Nat.le_of_ble_eq_true rfl) dX12_spread_10 (fun H locs S => ?_)
    refine lv_iconst (pc := 13) (v := 0) hx hb dX12_spread_13 (by decide) ?_
    refine lv_istore_n (pc := 14) (lv' := [(2, .int 0), (0, .ref (G.2.1 0)), (1, .int a1)]) hx hb dX12_spread_14 rfl hl (by decide) rfl (fun ls hl => ?_)
    obtain ⟨M6, e7, h⟩ := ob_out h
    refine pX12_spread_L15 F 5000 S (lv_sub hl [1, 2, 0] rfl) e7 (fun H locs ls S hl => ?_)
    refine lv_aload_n (pc := 39) hx hb dX12_spread_39 rfl (lv_at hl 0 rfl) ?_
    refine r_gR (pc := 40) (k := 9) (x := 8) (i := 0) (ci := 12) F S (by decide) (by decide) cl12 inRX12 (by decide) w912 (fun _ => rfl) dX12_spread_40 ?_
    refine lv_iconst (pc := 43) (v := 0) hx hb dX12_spread_43 (by decide) ?_
    refine lv_iconst (pc := 44) (v := 0) hx hb dX12_spread_44 (by decide) ?_
    obtain ⟨M8, e9, h⟩ := ob_out h
    refine r_nS (pc := 45) F S e9 dX12_spread_45 (fun H locs S => ?_)
    refine lv_aload_n (pc := 46) hx hb dX12_spread_46 rfl (lv_at hl 0 rfl) ?_
    refine r_gR (pc := 47) (k := 9) (x := 8) (i := 0) (ci := 12) F S (by decide) (by decide) cl12 inRX12 (by decide) w912 (fun _ => rfl) dX12_spread_47 ?_
    refine lv_iconst (pc := 50) (v := 1) hx hb dX12_spread_50 (by decide) ?_
    refine lv_iconst (pc := 51) (v := 0) hx hb dX12_spread_51 (by decide) ?_
    obtain ⟨M10, e11, h⟩ := ob_out h
    refine r_nS (pc := 52) F S e11 dX12_spread_52 (fun H locs S => ?_)
    refine lv_aload_n (pc := 53) hx hb dX12_spread_53 rfl (lv_at hl 0 rfl) ?_
    refine r_gR (pc := 54) (k := 9) (x := 8) (i := 0) (ci := 12) F S (by decide) (by decide) cl12 inRX12 (by decide) w912 (fun _ => rfl) dX12_spread_54 ?_
    refine lv_iconst (pc := 57) (v := 2) hx hb dX12_spread_57 (by decide) ?_
    refine lv_iconst (pc := 58) (v := 0) hx hb dX12_spread_58 (by decide) ?_
    obtain ⟨M12, e13, h⟩ := ob_out h
    refine r_nS (pc := 59) F S e13 dX12_spread_59 (fun H locs S => ?_)
    refine lv_iconst (pc := 60) (v := 0) hx hb dX12_spread_60 (by decide) ?_
    refine lv_istore_n (pc := 61) (lv' := [(2, .int 0), (0, .ref (G.2.1 0)), (1, .int a1)]) hx hb dX12_spread_61 rfl hl (by decide) rfl (fun ls hl => ?_)
    refine lv_iconst (pc := 62) (v := 0) hx hb dX12_spread_62 (by decide) ?_
    refine lv_istore_n (pc := 63) (lv' := [(3, .int 0), (2, .int 0), (0, .ref (G.2.1 0)), (1, .int a1)]) hx hb dX12_spread_63 rfl hl (by decide) rfl (fun ls hl => ?_)
    obtain ⟨v15, M14, e16, h⟩ := ob2_out h
    refine pX12_spread_L64 F 5000 S (lv_sub hl [2, 3, 1, 0] rfl) e16 (fun H locs ls S hl => ?_)
    refine lv_iload_n (pc := 235) hx hb dX12_spread_235 rfl (lv_at hl 0 rfl) ?_
    cases h
    exact r_iret (pc := 236) F S rfl dX12_spread_236
  · replace h := (if_pos c3).symm.trans h
    refine lv_iconst (pc := 7) (v := (-1)) hx hb dX12_spread_7 (by decide) ?_
    cases h
    exact r_iret (pc := 8) F S rfl dX12_spread_8
theorem mfX12_atFault : MF true yX12_atFault RX12 cX12_atFault 4 (some .int) 3 := ⟨w1042, w13, by rw [if_pos rfl]; exact ⟨w1041, wp24⟩, ⟨by decide, by decide⟩, by decide +kernel⟩
set_option maxHeartbeats 4000000 in
theorem tX12_atFault {l : Launch} {G : GD} {M N : Mem} {a1 : Int32} {a2 : Int32} {a3 : Int32} {r : Int32} (h : fX12_atFault N a1 a2 a3 = some r) : MI l yX12_atFault cX12_atFault 4 .int 3 64 G [.ref (G.2.1 0), .int a1, .int a2, .int a3] M N r M N := by
  unfold fX12_atFault at h
  refine MI_of (own := RX12) (by decide) rfl (Nat.le_of_ble_eq_true rfl) ?_
  intro p e s m args below meth c F S ls hl
  have hx := F.1
  have hb := F.2.1
  have hown := F.2.2.2.2.1
  have hts := F.2.2.2.2.2.1
  have hZ := F.2.2.2.2.2.2.2.2.2
  have hl : lv_has ls 4 [(0, .ref (G.2.1 0)), (1, .int a1), (2, .int a2), (3, .int a3)] := hl
  generalize s.heap = H, ([] : List Loc) = locs at S ⊢
  refine lv_aload_n (pc := 0) hx hb dX12_atFault_0 rfl (lv_at hl 0 rfl) ?_
  refine lv_iload_n (pc := 1) hx hb dX12_atFault_1 rfl (lv_at hl 1 rfl) ?_
  refine lv_iload_n (pc := 2) hx hb dX12_atFault_2 rfl (lv_at hl 2 rfl) ?_
  obtain ⟨v2, e1, h⟩ := ob_out h
  refine c_vI (pc := 3) (rest := []) F S (tX12_isLamp e1) mfX12_isLamp (by decide) (by decide) cl12 w1007 ⟨Nat.le_of_ble_eq_true rfl, Nat.le_of_ble_eq_true rfl⟩ rfl hl.1 rfl (Nat.le_of_ble_eq_true rfl) dX12_atFault_3 (fun H locs S => ?_)
  refine lv_if_ne (pc := 6) (tgt := 13) hx hb dX12_atFault_6 (by decide) (fun c3 => ?_) (fun c3 => ?_)
  · replace h := (if_neg c3).symm.trans h
    refine lv_iload_n (pc := 13) hx hb dX12_atFault_13 rfl (lv_at hl 3 rfl) ?_
    refine lv_iconst (pc := 14) (v := 0) hx hb dX12_atFault_14 (by decide) ?_
    refine lv_bipush (pc := 15) (v := 100) hx hb dX12_atFault_15 (by decide) ?_
    obtain ⟨v5, e4, h⟩ := ob_out h
    refine c_sI (pc := 17) (rest := []) F S (tX12_in e4) mfX12_in w972 ⟨Nat.le_of_ble_eq_true rfl, Nat.le_of_ble_eq_true rfl⟩ rfl hl.1 rfl (Nat.le_of_ble_eq_true rfl) dX12_atFault_17 (fun H locs S => ?_)
    refine lv_if_eq (pc := 20) (tgt := 27) hx hb dX12_atFault_20 (by decide) (fun c6 => ?_) (fun c6 => ?_)
    · replace h := (if_pos c6).symm.trans h
      refine lv_bipush (pc := 27) (v := (-2)) hx hb dX12_atFault_27 (by decide) ?_
      cases h
      exact r_iret (pc := 29) F S rfl dX12_atFault_29
    · replace h := (if_neg c6).symm.trans h
      refine lv_iconst (pc := 23) (v := 0) hx hb dX12_atFault_23 (by decide) ?_
      refine lv_goto (pc := 24) (tgt := 29) hx hb dX12_atFault_24 (by decide) ?_
      cases h
      exact r_iret (pc := 29) F S rfl dX12_atFault_29
  · replace h := (if_pos c3).symm.trans h
    refine lv_iconst (pc := 9) (v := (-1)) hx hb dX12_atFault_9 (by decide) ?_
    refine lv_goto (pc := 10) (tgt := 29) hx hb dX12_atFault_10 (by decide) ?_
    cases h
    exact r_iret (pc := 29) F S rfl dX12_atFault_29
theorem mfX12_at : MF true yX12_at RX12 cX12_at 6 (some .int) 3 := ⟨w1038, w13, by rw [if_pos rfl]; exact ⟨w1036, w1037⟩, ⟨by decide, by decide⟩, by decide +kernel⟩
set_option maxHeartbeats 4000000 in
theorem tX12_at {l : Launch} {G : GD} {M N Mo : Mem} {a1 : Int32} {a2 : Int32} {a3 : Int32} {r : Int32} (h : fX12_at N a1 a2 a3 = some (r, Mo)) : MI l yX12_at cX12_at 6 .int 4 87 G [.ref (G.2.1 0), .int a1, .int a2, .int a3] M N r M Mo := by
  unfold fX12_at at h
  refine MI_of (own := RX12) (by decide) rfl (Nat.le_of_ble_eq_true rfl) ?_
  intro p e s m args below meth c F S ls hl
  have hx := F.1
  have hb := F.2.1
  have hown := F.2.2.2.2.1
  have hts := F.2.2.2.2.2.1
  have hZ := F.2.2.2.2.2.2.2.2.2
  have hl : lv_has ls 6 [(0, .ref (G.2.1 0)), (1, .int a1), (2, .int a2), (3, .int a3)] := hl
  generalize s.heap = H, ([] : List Loc) = locs at S ⊢
  refine lv_aload_n (pc := 0) hx hb dX12_at_0 rfl (lv_at hl 0 rfl) ?_
  refine lv_iload_n (pc := 1) hx hb dX12_at_1 rfl (lv_at hl 1 rfl) ?_
  refine lv_iload_n (pc := 2) hx hb dX12_at_2 rfl (lv_at hl 2 rfl) ?_
  refine lv_iload_n (pc := 3) hx hb dX12_at_3 rfl (lv_at hl 3 rfl) ?_
  obtain ⟨v2, e1, h⟩ := ob_out h
  refine c_vI (pc := 4) (rest := []) F S (tX12_atFault e1) mfX12_atFault (by decide) (by decide) cl12 w1039 ⟨Nat.le_of_ble_eq_true rfl, Nat.le_of_ble_eq_true rfl⟩ rfl hl.1 rfl (Nat.le_of_ble_eq_true rfl) dX12_at_4 (fun H locs S => ?_)
  refine lv_istore (pc := 7) (lv' := [(4, .int v2), (0, .ref (G.2.1 0)), (1, .int a1), (2, .int a2), (3, .int a3)]) hx hb dX12_at_7 hl (by decide) rfl (fun ls hl => ?_)
  refine lv_iload (pc := 9) hx hb dX12_at_9 (lv_at hl 0 rfl) ?_
  refine lv_if_ge (pc := 11) (tgt := 17) hx hb dX12_at_11 (by decide) (fun c3 => ?_) (fun c3 => ?_)
  · replace h := (if_pos c3).symm.trans h
    refine lv_aload_n (pc := 17) hx hb dX12_at_17 rfl (lv_at hl 1 rfl) ?_
    obtain ⟨M5, e4, h⟩ := ob_out h
    refine c_vV (pc := 18) (rest := []) F S (tX12_know e4) mfX12_know (by decide) (by decide) cl12 w975 ⟨Nat.le_of_ble_eq_true rfl, Nat.le_of_ble_eq_true rfl⟩ rfl hl.1 rfl (Nat.le_of_ble_eq_true rfl) dX12_at_18 (fun H locs S => ?_)
    refine lv_aload_n (pc := 21) hx hb dX12_at_21 rfl (lv_at hl 1 rfl) ?_
    refine r_gR (pc := 22) (k := 0) (x := 1) (i := 0) (ci := 12) F S (by decide) (by decide) cl12 inRX12 (by decide) w903 (fun _ => rfl) dX12_at_22 ?_
    refine lv_iload_n (pc := 25) hx hb dX12_at_25 rfl (lv_at hl 2 rfl) ?_
    refine lv_iload_n (pc := 26) hx hb dX12_at_26 rfl (lv_at hl 3 rfl) ?_
    refine lv_iconst (pc := 27) (v := 2) hx hb dX12_at_27 (by decide) ?_
    obtain ⟨v7, e6, h⟩ := ob_out h
    refine c_sI (pc := 28) (rest := [.ref (G.2.1 1)]) F S (tX12_ofLamp e6) mfX12_ofLamp w997 ⟨Nat.le_of_ble_eq_true rfl, Nat.le_of_ble_eq_true rfl⟩ rfl hl.1 rfl (Nat.le_of_ble_eq_true rfl) dX12_at_28 (fun H locs S => ?_)
    obtain ⟨v8, e9, h⟩ := ob_out h
    refine r_nL (pc := 31) F S e9 dX12_at_31 ?_
    refine lv_istore (pc := 32) (lv' := [(5, .int v8), (4, .int v2), (0, .ref (G.2.1 0)), (1, .int a1), (2, .int a2), (3, .int a3)]) hx hb dX12_at_32 hl (by decide) rfl (fun ls hl => ?_)
    refine lv_aload_n (pc := 34) hx hb dX12_at_34 rfl (lv_at hl 2 rfl) ?_
    refine r_gR (pc := 35) (k := 0) (x := 1) (i := 0) (ci := 12) F S (by decide) (by decide) cl12 inRX12 (by decide) w903 (fun _ => rfl) dX12_at_35 ?_
    refine lv_iload_n (pc := 38) hx hb dX12_at_38 rfl (lv_at hl 3 rfl) ?_
    refine lv_iload_n (pc := 39) hx hb dX12_at_39 rfl (lv_at hl 4 rfl) ?_
    refine lv_iconst (pc := 40) (v := 2) hx hb dX12_at_40 (by decide) ?_
    obtain ⟨v11, e10, h⟩ := ob_out h
    refine c_sI (pc := 41) (rest := [.ref (G.2.1 1)]) F S (tX12_ofLamp e10) mfX12_ofLamp w997 ⟨Nat.le_of_ble_eq_true rfl, Nat.le_of_ble_eq_true rfl⟩ rfl hl.1 rfl (Nat.le_of_ble_eq_true rfl) dX12_at_41 (fun H locs S => ?_)
    refine lv_iload_n (pc := 44) hx hb dX12_at_44 rfl (lv_at hl 5 rfl) ?_
    obtain ⟨M12, e13, h⟩ := ob_out h
    refine r_nS (pc := 45) F S e13 dX12_at_45 (fun H locs S => ?_)
    refine lv_iload (pc := 46) hx hb dX12_at_46 (lv_at hl 0 rfl) ?_
    cases h
    exact r_iret (pc := 48) F S rfl dX12_at_48
  · replace h := (if_neg c3).symm.trans h
    refine lv_iload (pc := 14) hx hb dX12_at_14 (lv_at hl 0 rfl) ?_
    cases h
    exact r_iret (pc := 16) F S rfl dX12_at_16
theorem mfX12_isCue : MF false yX12_isCue RX12 cX12_isCue 2 (some .boolean) 2 := ⟨w1053, w13, by rw [if_neg (by decide)]; exact w1052, ⟨by decide, by decide⟩, by decide +kernel⟩
set_option maxHeartbeats 4000000 in
theorem tX12_isCue {l : Launch} {G : GD} {M N : Mem} {a0 : Int32} {a1 : Int32} {r : Int32} (h : fX12_isCue a0 a1 = some r) : MI l yX12_isCue cX12_isCue 2 .boolean 2 42 G [.int a0, .int a1] M N r M N := by
  unfold fX12_isCue at h
  refine MI_of (own := RX12) (by decide) rfl (Nat.le_of_ble_eq_true rfl) ?_
  intro p e s m args below meth c F S ls hl
  have hx := F.1
  have hb := F.2.1
  have hown := F.2.2.2.2.1
  have hts := F.2.2.2.2.2.1
  have hZ := F.2.2.2.2.2.2.2.2.2
  have hl : lv_has ls 2 [(0, .int a0), (1, .int a1)] := hl
  generalize s.heap = H, ([] : List Loc) = locs at S ⊢
  refine lv_iload_n (pc := 0) hx hb dX12_isCue_0 rfl (lv_at hl 0 rfl) ?_
  obtain ⟨v2, e1, h⟩ := ob_out h
  refine c_sI (pc := 1) (rest := []) F S (tX12_isPremiere e1) mfX12_isPremiere w987 ⟨Nat.le_of_ble_eq_true rfl, Nat.le_of_ble_eq_true rfl⟩ rfl hl.1 rfl (Nat.le_of_ble_eq_true rfl) dX12_isCue_1 (fun H locs S => ?_)
  refine lv_if_eq (pc := 4) (tgt := 21) hx hb dX12_isCue_4 (by decide) (fun c3 => ?_) (fun c3 => ?_)
  · replace h := (if_pos c3).symm.trans h
    refine lv_iconst (pc := 21) (v := 0) hx hb dX12_isCue_21 (by decide) ?_
    cases h
    exact r_iret (pc := 22) F S rfl dX12_isCue_22
  · replace h := (if_neg c3).symm.trans h
    refine lv_iload_n (pc := 7) hx hb dX12_isCue_7 rfl (lv_at hl 1 rfl) ?_
    refine lv_iconst (pc := 8) (v := 0) hx hb dX12_isCue_8 (by decide) ?_
    refine lv_bipush (pc := 9) (v := 7) hx hb dX12_isCue_9 (by decide) ?_
    obtain ⟨v5, e4, h⟩ := ob_out h
    refine c_sI (pc := 11) (rest := []) F S (tX12_in e4) mfX12_in w972 ⟨Nat.le_of_ble_eq_true rfl, Nat.le_of_ble_eq_true rfl⟩ rfl hl.1 rfl (Nat.le_of_ble_eq_true rfl) dX12_isCue_11 (fun H locs S => ?_)
    refine lv_if_eq (pc := 14) (tgt := 21) hx hb dX12_isCue_14 (by decide) (fun c6 => ?_) (fun c6 => ?_)
    · replace h := (if_pos c6).symm.trans h
      refine lv_iconst (pc := 21) (v := 0) hx hb dX12_isCue_21 (by decide) ?_
      cases h
      exact r_iret (pc := 22) F S rfl dX12_isCue_22
    · replace h := (if_neg c6).symm.trans h
      refine lv_iconst (pc := 17) (v := 1) hx hb dX12_isCue_17 (by decide) ?_
      refine lv_goto (pc := 18) (tgt := 22) hx hb dX12_isCue_18 (by decide) ?_
      cases h
      exact r_iret (pc := 22) F S rfl dX12_isCue_22
theorem mfX12_recordFault : MF true yX12_recordFault RX12 cX12_recordFault 4 (some .int) 3 := ⟨w1050, w13, by rw [if_pos rfl]; exact ⟨w1049, wp25⟩, ⟨by decide, by decide⟩, by decide +kernel⟩
set_option maxHeartbeats 4000000 in
theorem tX12_recordFault {l : Launch} {G : GD} {M N : Mem} {a1 : Int32} {a2 : Int32} {a3 : Int32} {r : Int32} (h : fX12_recordFault a1 a2 a3 = some r) : MI l yX12_recordFault cX12_recordFault 4 .int 3 63 G [.ref (G.2.1 0), .int a1, .int a2, .int a3] M N r M N := by
  unfold fX12_recordFault at h
  refine MI_of (own := RX12) (by decide) rfl (Nat.le_of_ble_eq_true rfl) ?_
  intro p e s m args below meth c F S ls hl
  have hx := F.1
  have hb := F.2.1
  have hown := F.2.2.2.2.1
  have hts := F.2.2.2.2.2.1
  have hZ := F.2.2.2.2.2.2.2.2.2
  have hl : lv_has ls 4 [(0, .ref (G.2.1 0)), (1, .int a1), (2, .int a2), (3, .int a3)] := hl
  generalize s.heap = H, ([] : List Loc) = locs at S ⊢
  refine lv_iload_n (pc := 0) hx hb dX12_recordFault_0 rfl (lv_at hl 1 rfl) ?_
  refine lv_iload_n (pc := 1) hx hb dX12_recordFault_1 rfl (lv_at hl 2 rfl) ?_
  obtain ⟨v2, e1, h⟩ := ob_out h
  refine c_sI (pc := 2) (rest := []) F S (tX12_isCue e1) mfX12_isCue w1051 ⟨Nat.le_of_ble_eq_true rfl, Nat.le_of_ble_eq_true rfl⟩ rfl hl.1 rfl (Nat.le_of_ble_eq_true rfl) dX12_recordFault_2 (fun H locs S => ?_)
  refine lv_if_ne (pc := 5) (tgt := 12) hx hb dX12_recordFault_5 (by decide) (fun c3 => ?_) (fun c3 => ?_)
  · replace h := (if_neg c3).symm.trans h
    refine lv_iload_n (pc := 12) hx hb dX12_recordFault_12 rfl (lv_at hl 3 rfl) ?_
    refine lv_iconst (pc := 13) (v := 1) hx hb dX12_recordFault_13 (by decide) ?_
    refine lv_bipush (pc := 14) (v := 50) hx hb dX12_recordFault_14 (by decide) ?_
    obtain ⟨v5, e4, h⟩ := ob_out h
    refine c_sI (pc := 16) (rest := []) F S (tX12_in e4) mfX12_in w972 ⟨Nat.le_of_ble_eq_true rfl, Nat.le_of_ble_eq_true rfl⟩ rfl hl.1 rfl (Nat.le_of_ble_eq_true rfl) dX12_recordFault_16 (fun H locs S => ?_)
    refine lv_if_eq (pc := 19) (tgt := 26) hx hb dX12_recordFault_19 (by decide) (fun c6 => ?_) (fun c6 => ?_)
    · replace h := (if_pos c6).symm.trans h
      refine lv_bipush (pc := 26) (v := (-2)) hx hb dX12_recordFault_26 (by decide) ?_
      cases h
      exact r_iret (pc := 28) F S rfl dX12_recordFault_28
    · replace h := (if_neg c6).symm.trans h
      refine lv_iconst (pc := 22) (v := 0) hx hb dX12_recordFault_22 (by decide) ?_
      refine lv_goto (pc := 23) (tgt := 28) hx hb dX12_recordFault_23 (by decide) ?_
      cases h
      exact r_iret (pc := 28) F S rfl dX12_recordFault_28
  · replace h := (if_pos c3).symm.trans h
    refine lv_iconst (pc := 8) (v := (-1)) hx hb dX12_recordFault_8 (by decide) ?_
    refine lv_goto (pc := 9) (tgt := 28) hx hb dX12_recordFault_9 (by decide) ?_
    cases h
    exact r_iret (pc := 28) F S rfl dX12_recordFault_28
