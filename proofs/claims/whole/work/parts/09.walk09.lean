/-! the walks: each method does what its function says -/
theorem mfX12_records : MF true yX12_records RX12 cX12_records 6 (some .int) 3 := ⟨w1057, w13, by rw [if_pos rfl]; exact ⟨w1056, wp26⟩, ⟨by decide, by decide⟩, by decide +kernel⟩
set_option maxHeartbeats 4000000 in
theorem pX12_records_L14 {p : Program} {l : Launch} {e : Env} {s : State} {m : MethodId} {args : Array Value} {below : List Frame} {meth : Method} {c : Code} {Q : State → Prop} {G : GD} (F : FX p s m args meth c RX12 cX12_records 6 (some .int) G) : ∀ (n : Nat) {M N : Mem} {a1 : Int32} {a2 : Int32} {a4 : Int32} {H : Heap} {locs : List Loc} {ls : Array Slot} {Mo : Mem}, ST G M N s H locs → lv_has ls 6 [(0, .ref (G.2.1 0)), (1, .int a1), (2, .int a2), (4, .int a4)] → fX12_records_L14 n N a1 a2 a4 = some Mo → (K1 : ∀ (H : Heap) (locs : List Loc) (ls : Array Slot), ST G M Mo s H locs → lv_has ls 6 [(0, .ref (G.2.1 0)), (1, .int a1)] → W p l e (Rm 2 43) s m args below meth c H locs 0 0 Q (F0 m 62 ls [])) → W p l e (Rm 2 43) s m args below meth c H locs 0 0 Q (F0 m 14 ls []) := by
  intro n
  induction n with
  | zero => intro M N a1 a2 a4 H locs ls Mo S hl h K1; cases h
  | succ n ih =>
    intro M N a1 a2 a4 H locs ls Mo S hl h K1
    rw [fX12_records_L14] at h
    have hx := F.1
    have hb := F.2.1
    have hown := F.2.2.2.2.1
    have hts := F.2.2.2.2.2.1
    have hZ := F.2.2.2.2.2.2.2.2.2
    refine lv_iload (pc := 14) hx hb dX12_records_14 (lv_at hl 3 rfl) ?_
    refine lv_aload_n (pc := 16) hx hb dX12_records_16 rfl (lv_at hl 0 rfl) ?_
    refine r_gR (pc := 17) (k := 0) (x := 1) (i := 0) (ci := 12) F S (by decide) (by decide) cl12 inRX12 (by decide) w903 (fun _ => rfl) dX12_records_17 ?_
    refine lv_iload_n (pc := 20) hx hb dX12_records_20 rfl (lv_at hl 1 rfl) ?_
    refine lv_iconst (pc := 21) (v := 2) hx hb dX12_records_21 (by decide) ?_
    obtain ⟨v6, e5, h⟩ := ob_out h
    refine c_sI (pc := 22) (rest := [.ref (G.2.1 1), .int a4]) F S (tX12_at1 e5) mfX12_at1 w900 ⟨Nat.le_of_ble_eq_true rfl, Nat.le_of_ble_eq_true rfl⟩ rfl hl.1 rfl (Nat.le_of_ble_eq_true rfl) dX12_records_22 (fun H locs S => ?_)
    obtain ⟨v7, e8, h⟩ := ob_out h
    refine r_nL (pc := 25) F S e8 dX12_records_25 ?_
    refine lv_icmp_ge (pc := 26) (tgt := 62) hx hb dX12_records_26 (by decide) (fun c9 => ?_) (fun c9 => ?_)
    · replace h := (if_pos c9).symm.trans h
      cases h
      exact K1 H locs ls S (lv_sub hl [0, 1] rfl)
    · replace h := (if_neg c9).symm.trans h
      refine lv_aload_n (pc := 29) hx hb dX12_records_29 rfl (lv_at hl 0 rfl) ?_
      refine r_gR (pc := 30) (k := 0) (x := 1) (i := 0) (ci := 12) F S (by decide) (by decide) cl12 inRX12 (by decide) w903 (fun _ => rfl) dX12_records_30 ?_
      refine lv_iload_n (pc := 33) hx hb dX12_records_33 rfl (lv_at hl 1 rfl) ?_
      refine lv_iload_n (pc := 34) hx hb dX12_records_34 rfl (lv_at hl 2 rfl) ?_
      obtain ⟨v11, e10, h⟩ := ob_out h
      refine c_sI (pc := 35) (rest := [.ref (G.2.1 1)]) F S (tX12_ofCue e10) mfX12_ofCue w1000 ⟨Nat.le_of_ble_eq_true rfl, Nat.le_of_ble_eq_true rfl⟩ rfl hl.1 rfl (Nat.le_of_ble_eq_true rfl) dX12_records_35 (fun H locs S => ?_)
      refine lv_iconst (pc := 38) (v := 1) hx hb dX12_records_38 (by decide) ?_
      refine lv_iadd (pc := 39) hx hb dX12_records_39 ?_
      refine lv_iload (pc := 40) hx hb dX12_records_40 (lv_at hl 3 rfl) ?_
      refine lv_iadd (pc := 42) hx hb dX12_records_42 ?_
      refine lv_aload_n (pc := 43) hx hb dX12_records_43 rfl (lv_at hl 0 rfl) ?_
      refine r_gR (pc := 44) (k := 0) (x := 1) (i := 0) (ci := 12) F S (by decide) (by decide) cl12 inRX12 (by decide) w903 (fun _ => rfl) dX12_records_44 ?_
      refine lv_iload_n (pc := 47) hx hb dX12_records_47 rfl (lv_at hl 1 rfl) ?_
      refine lv_iload (pc := 48) hx hb dX12_records_48 (lv_at hl 3 rfl) ?_
      refine lv_iconst (pc := 50) (v := 2) hx hb dX12_records_50 (by decide) ?_
      obtain ⟨v13, e12, h⟩ := ob_out h
      refine c_sI (pc := 51) (rest := [.ref (G.2.1 1), .int ((v11 + 1) + a4), .ref (G.2.1 1)]) F S (tX12_ofLamp e12) mfX12_ofLamp w997 ⟨Nat.le_of_ble_eq_true rfl, Nat.le_of_ble_eq_true rfl⟩ rfl hl.1 rfl (Nat.le_of_ble_eq_true rfl) dX12_records_51 (fun H locs S => ?_)
      obtain ⟨v14, e15, h⟩ := ob_out h
      refine r_nL (pc := 54) F S e15 dX12_records_54 ?_
      obtain ⟨M16, e17, h⟩ := ob_out h
      refine r_nS (pc := 55) F S e17 dX12_records_55 (fun H locs S => ?_)
      refine lv_iinc (pc := 56) (lv' := [(4, .int (a4 + 1)), (0, .ref (G.2.1 0)), (1, .int a1), (2, .int a2)]) hx hb dX12_records_56 hl (k := 3) rfl (iinc_n (by decide)) (by decide) rfl (fun ls hl => ?_)
      refine lv_goto (pc := 59) (tgt := 14) hx hb dX12_records_59 (by decide) ?_
      exact ih S (lv_sub hl [1, 2, 3, 0] rfl) h K1
set_option maxHeartbeats 4000000 in
theorem pX12_records_L68 {p : Program} {l : Launch} {e : Env} {s : State} {m : MethodId} {args : Array Value} {below : List Frame} {meth : Method} {c : Code} {Q : State → Prop} {G : GD} (F : FX p s m args meth c RX12 cX12_records 6 (some .int) G) : ∀ (n : Nat) {M N : Mem} {a1 : Int32} {a4 : Int32} {a5 : Int32} {H : Heap} {locs : List Loc} {ls : Array Slot} {o4 : Int32}, ST G M N s H locs → lv_has ls 6 [(0, .ref (G.2.1 0)), (1, .int a1), (4, .int a4), (5, .int a5)] → fX12_records_L68 n N a1 a4 a5 = some o4 → (K1 : ∀ (H : Heap) (locs : List Loc) (ls : Array Slot), ST G M N s H locs → lv_has ls 6 [(4, .int o4)] → W p l e (Rm 2 43) s m args below meth c H locs 0 0 Q (F0 m 105 ls [])) → W p l e (Rm 2 43) s m args below meth c H locs 0 0 Q (F0 m 68 ls []) := by
  intro n
  induction n with
  | zero => intro M N a1 a4 a5 H locs ls o4 S hl h K1; cases h
  | succ n ih =>
    intro M N a1 a4 a5 H locs ls o4 S hl h K1
    rw [fX12_records_L68] at h
    have hx := F.1
    have hb := F.2.1
    have hown := F.2.2.2.2.1
    have hts := F.2.2.2.2.2.1
    have hZ := F.2.2.2.2.2.2.2.2.2
    refine lv_iload (pc := 68) hx hb dX12_records_68 (lv_at hl 3 rfl) ?_
    refine lv_bipush (pc := 70) (v := 8) hx hb dX12_records_70 (by decide) ?_
    refine lv_icmp_ge (pc := 72) (tgt := 105) hx hb dX12_records_72 (by decide) (fun c7 => ?_) (fun c7 => ?_)
    · replace h := (if_pos c7).symm.trans h
      cases h
      exact K1 H locs ls S (lv_sub hl [2] rfl)
    · replace h := (if_neg c7).symm.trans h
      refine lv_iload (pc := 75) hx hb dX12_records_75 (lv_at hl 2 rfl) ?_
      refine lv_aload_n (pc := 77) hx hb dX12_records_77 rfl (lv_at hl 0 rfl) ?_
      refine r_gR (pc := 78) (k := 0) (x := 1) (i := 0) (ci := 12) F S (by decide) (by decide) cl12 inRX12 (by decide) w903 (fun _ => rfl) dX12_records_78 ?_
      refine lv_iload_n (pc := 81) hx hb dX12_records_81 rfl (lv_at hl 1 rfl) ?_
      refine lv_iload (pc := 82) hx hb dX12_records_82 (lv_at hl 3 rfl) ?_
      obtain ⟨v9, e8, h⟩ := ob_out h
      refine c_sI (pc := 84) (rest := [.ref (G.2.1 1), .int a4]) F S (tX12_ofCue e8) mfX12_ofCue w1000 ⟨Nat.le_of_ble_eq_true rfl, Nat.le_of_ble_eq_true rfl⟩ rfl hl.1 rfl (Nat.le_of_ble_eq_true rfl) dX12_records_84 (fun H locs S => ?_)
      obtain ⟨v10, e11, h⟩ := ob_out h
      refine r_nL (pc := 87) F S e11 dX12_records_87 ?_
      refine lv_if_le (pc := 88) (tgt := 95) hx hb dX12_records_88 (by decide) (fun c12 => ?_) (fun c12 => ?_)
      · replace h := (if_pos c12).symm.trans h
        refine lv_iconst (pc := 95) (v := 0) hx hb dX12_records_95 (by decide) ?_
        refine lv_iadd (pc := 96) hx hb dX12_records_96 ?_
        obtain ⟨v13, e14, h⟩ := lt1_out h
        refine nm_i e14 ?_
        refine lv_istore (pc := 97) (lv' := [(4, .int v13), (0, .ref (G.2.1 0)), (1, .int a1), (5, .int a5)]) hx hb dX12_records_97 hl (by decide) rfl (fun ls hl => ?_)
        refine lv_iinc (pc := 99) (lv' := [(5, .int (a5 + 1)), (4, .int v13), (0, .ref (G.2.1 0)), (1, .int a1)]) hx hb dX12_records_99 hl (k := 3) rfl (iinc_n (by decide)) (by decide) rfl (fun ls hl => ?_)
        refine lv_goto (pc := 102) (tgt := 68) hx hb dX12_records_102 (by decide) ?_
        exact ih S (lv_sub hl [2, 3, 1, 0] rfl) h K1
      · replace h := (if_neg c12).symm.trans h
        refine lv_iconst (pc := 91) (v := 1) hx hb dX12_records_91 (by decide) ?_
        refine lv_goto (pc := 92) (tgt := 96) hx hb dX12_records_92 (by decide) ?_
        refine lv_iadd (pc := 96) hx hb dX12_records_96 ?_
        obtain ⟨v15, e16, h⟩ := lt1_out h
        refine nm_i e16 ?_
        refine lv_istore (pc := 97) (lv' := [(4, .int v15), (0, .ref (G.2.1 0)), (1, .int a1), (5, .int a5)]) hx hb dX12_records_97 hl (by decide) rfl (fun ls hl => ?_)
        refine lv_iinc (pc := 99) (lv' := [(5, .int (a5 + 1)), (4, .int v15), (0, .ref (G.2.1 0)), (1, .int a1)]) hx hb dX12_records_99 hl (k := 3) rfl (iinc_n (by decide)) (by decide) rfl (fun ls hl => ?_)
        refine lv_goto (pc := 102) (tgt := 68) hx hb dX12_records_102 (by decide) ?_
        exact ih S (lv_sub hl [2, 3, 1, 0] rfl) h K1
set_option maxHeartbeats 4000000 in
theorem tX12_records {l : Launch} {G : GD} {M N Mo : Mem} {a1 : Int32} {a2 : Int32} {a3 : Int32} {r : Int32} (h : fX12_records N a1 a2 a3 = some (r, Mo)) : MI l yX12_records cX12_records 6 .int 2 43 G [.ref (G.2.1 0), .int a1, .int a2, .int a3] M N r M Mo := by
  unfold fX12_records at h
  refine MI_of (own := RX12) (by decide) rfl (Nat.le_of_ble_eq_true rfl) ?_
  intro p e s m args below meth c F S ls hl
  have hx := F.1
  have hb := F.2.1
  have hown := F.2.2.2.2.1
  have hts := F.2.2.2.2.2.1
  have hZ := F.2.2.2.2.2.2.2.2.2
  have hl : lv_has ls 6 [(0, .ref (G.2.1 0)), (1, .int a1), (2, .int a2), (3, .int a3)] := hl
  generalize s.heap = H, ([] : List Loc) = locs at S ⊢
  refine lv_aload_n (pc := 0) hx hb dX12_records_0 rfl (lv_at hl 0 rfl) ?_
  refine r_gR (pc := 1) (k := 0) (x := 1) (i := 0) (ci := 12) F S (by decide) (by decide) cl12 inRX12 (by decide) w903 (fun _ => rfl) dX12_records_1 ?_
  refine lv_iload_n (pc := 4) hx hb dX12_records_4 rfl (lv_at hl 1 rfl) ?_
  refine lv_iload_n (pc := 5) hx hb dX12_records_5 rfl (lv_at hl 2 rfl) ?_
  obtain ⟨v2, e1, h⟩ := ob_out h
  refine c_sI (pc := 6) (rest := [.ref (G.2.1 1)]) F S (tX12_ofCue e1) mfX12_ofCue w1000 ⟨Nat.le_of_ble_eq_true rfl, Nat.le_of_ble_eq_true rfl⟩ rfl hl.1 rfl (Nat.le_of_ble_eq_true rfl) dX12_records_6 (fun H locs S => ?_)
  refine lv_iload_n (pc := 9) hx hb dX12_records_9 rfl (lv_at hl 3 rfl) ?_
  obtain ⟨M3, e4, h⟩ := ob_out h
  refine r_nS (pc := 10) F S e4 dX12_records_10 (fun H locs S => ?_)
  refine lv_iconst (pc := 11) (v := 0) hx hb dX12_records_11 (by decide) ?_
  refine lv_istore (pc := 12) (lv' := [(4, .int 0), (0, .ref (G.2.1 0)), (1, .int a1), (2, .int a2), (3, .int a3)]) hx hb dX12_records_12 hl (by decide) rfl (fun ls hl => ?_)
  obtain ⟨M5, e6, h⟩ := ob_out h
  refine pX12_records_L14 F 5000 S (lv_sub hl [1, 2, 3, 0] rfl) e6 (fun H locs ls S hl => ?_)
  refine lv_iconst (pc := 62) (v := 0) hx hb dX12_records_62 (by decide) ?_
  refine lv_istore (pc := 63) (lv' := [(4, .int 0), (0, .ref (G.2.1 0)), (1, .int a1)]) hx hb dX12_records_63 hl (by decide) rfl (fun ls hl => ?_)
  refine lv_iconst (pc := 65) (v := 0) hx hb dX12_records_65 (by decide) ?_
  refine lv_istore (pc := 66) (lv' := [(5, .int 0), (4, .int 0), (0, .ref (G.2.1 0)), (1, .int a1)]) hx hb dX12_records_66 hl (by decide) rfl (fun ls hl => ?_)
  obtain ⟨v7, e8, h⟩ := ob_out h
  refine pX12_records_L68 F 5000 S (lv_sub hl [2, 3, 1, 0] rfl) e8 (fun H locs ls S hl => ?_)
  refine lv_iload (pc := 105) hx hb dX12_records_105 (lv_at hl 0 rfl) ?_
  cases h
  exact r_iret (pc := 107) F S rfl dX12_records_107
theorem mfX12_record : MF true yX12_record RX12 cX12_record 5 (some .int) 3 := ⟨w1046, w13, by rw [if_pos rfl]; exact ⟨w1044, w1045⟩, ⟨by decide, by decide⟩, by decide +kernel⟩
set_option maxHeartbeats 4000000 in
theorem tX12_record {l : Launch} {G : GD} {M N Mo : Mem} {a1 : Int32} {a2 : Int32} {a3 : Int32} {r : Int32} (h : fX12_record N a1 a2 a3 = some (r, Mo)) : MI l yX12_record cX12_record 5 .int 4 86 G [.ref (G.2.1 0), .int a1, .int a2, .int a3] M N r M Mo := by
  unfold fX12_record at h
  refine MI_of (own := RX12) (by decide) rfl (Nat.le_of_ble_eq_true rfl) ?_
  intro p e s m args below meth c F S ls hl
  have hx := F.1
  have hb := F.2.1
  have hown := F.2.2.2.2.1
  have hts := F.2.2.2.2.2.1
  have hZ := F.2.2.2.2.2.2.2.2.2
  have hl : lv_has ls 5 [(0, .ref (G.2.1 0)), (1, .int a1), (2, .int a2), (3, .int a3)] := hl
  generalize s.heap = H, ([] : List Loc) = locs at S ⊢
  refine lv_aload_n (pc := 0) hx hb dX12_record_0 rfl (lv_at hl 0 rfl) ?_
  refine lv_iload_n (pc := 1) hx hb dX12_record_1 rfl (lv_at hl 1 rfl) ?_
  refine lv_iload_n (pc := 2) hx hb dX12_record_2 rfl (lv_at hl 2 rfl) ?_
  refine lv_iload_n (pc := 3) hx hb dX12_record_3 rfl (lv_at hl 3 rfl) ?_
  obtain ⟨v2, e1, h⟩ := ob_out h
  refine c_vI (pc := 4) (rest := []) F S (tX12_recordFault e1) mfX12_recordFault (by decide) (by decide) cl12 w1047 ⟨Nat.le_of_ble_eq_true rfl, Nat.le_of_ble_eq_true rfl⟩ rfl hl.1 rfl (Nat.le_of_ble_eq_true rfl) dX12_record_4 (fun H locs S => ?_)
  refine lv_istore (pc := 7) (lv' := [(4, .int v2), (0, .ref (G.2.1 0)), (1, .int a1), (2, .int a2), (3, .int a3)]) hx hb dX12_record_7 hl (by decide) rfl (fun ls hl => ?_)
  refine lv_iload (pc := 9) hx hb dX12_record_9 (lv_at hl 0 rfl) ?_
  refine lv_if_ge (pc := 11) (tgt := 17) hx hb dX12_record_11 (by decide) (fun c3 => ?_) (fun c3 => ?_)
  · replace h := (if_pos c3).symm.trans h
    refine lv_aload_n (pc := 17) hx hb dX12_record_17 rfl (lv_at hl 1 rfl) ?_
    obtain ⟨M5, e4, h⟩ := ob_out h
    refine c_vV (pc := 18) (rest := []) F S (tX12_know e4) mfX12_know (by decide) (by decide) cl12 w975 ⟨Nat.le_of_ble_eq_true rfl, Nat.le_of_ble_eq_true rfl⟩ rfl hl.1 rfl (Nat.le_of_ble_eq_true rfl) dX12_record_18 (fun H locs S => ?_)
    refine lv_aload_n (pc := 21) hx hb dX12_record_21 rfl (lv_at hl 1 rfl) ?_
    refine lv_iload_n (pc := 22) hx hb dX12_record_22 rfl (lv_at hl 2 rfl) ?_
    refine lv_iload_n (pc := 23) hx hb dX12_record_23 rfl (lv_at hl 3 rfl) ?_
    refine lv_iload_n (pc := 24) hx hb dX12_record_24 rfl (lv_at hl 4 rfl) ?_
    obtain ⟨v7, M8, e6, h⟩ := ob2_out h
    refine c_vI (pc := 25) (rest := []) F S (tX12_records e6) mfX12_records (by decide) (by decide) cl12 w1054 ⟨Nat.le_of_ble_eq_true rfl, Nat.le_of_ble_eq_true rfl⟩ rfl hl.1 rfl (Nat.le_of_ble_eq_true rfl) dX12_record_25 (fun H locs S => ?_)
    cases h
    exact r_iret (pc := 28) F S rfl dX12_record_28
  · replace h := (if_neg c3).symm.trans h
    refine lv_iload (pc := 14) hx hb dX12_record_14 (lv_at hl 0 rfl) ?_
    cases h
    exact r_iret (pc := 16) F S rfl dX12_record_16
theorem mfX12_goFault : MF true yX12_goFault RX12 cX12_goFault 3 (some .int) 2 := ⟨w1065, w13, by rw [if_pos rfl]; exact ⟨w1064, wp27⟩, ⟨by decide, by decide⟩, by decide +kernel⟩
set_option maxHeartbeats 4000000 in
theorem tX12_goFault {l : Launch} {G : GD} {M N : Mem} {a1 : Int32} {a2 : Int32} {r : Int32} (h : fX12_goFault N a1 a2 = some r) : MI l yX12_goFault cX12_goFault 3 .int 3 63 G [.ref (G.2.1 0), .int a1, .int a2] M N r M N := by
  unfold fX12_goFault at h
  refine MI_of (own := RX12) (by decide) rfl (Nat.le_of_ble_eq_true rfl) ?_
  intro p e s m args below meth c F S ls hl
  have hx := F.1
  have hb := F.2.1
  have hown := F.2.2.2.2.1
  have hts := F.2.2.2.2.2.1
  have hZ := F.2.2.2.2.2.2.2.2.2
  have hl : lv_has ls 3 [(0, .ref (G.2.1 0)), (1, .int a1), (2, .int a2)] := hl
  generalize s.heap = H, ([] : List Loc) = locs at S ⊢
  refine lv_iload_n (pc := 0) hx hb dX12_goFault_0 rfl (lv_at hl 1 rfl) ?_
  refine lv_iload_n (pc := 1) hx hb dX12_goFault_1 rfl (lv_at hl 2 rfl) ?_
  obtain ⟨v2, e1, h⟩ := ob_out h
  refine c_sI (pc := 2) (rest := []) F S (tX12_isCue e1) mfX12_isCue w1051 ⟨Nat.le_of_ble_eq_true rfl, Nat.le_of_ble_eq_true rfl⟩ rfl hl.1 rfl (Nat.le_of_ble_eq_true rfl) dX12_goFault_2 (fun H locs S => ?_)
  refine lv_if_ne (pc := 5) (tgt := 12) hx hb dX12_goFault_5 (by decide) (fun c3 => ?_) (fun c3 => ?_)
  · replace h := (if_neg c3).symm.trans h
    refine lv_aload_n (pc := 12) hx hb dX12_goFault_12 rfl (lv_at hl 0 rfl) ?_
    refine r_gR (pc := 13) (k := 0) (x := 1) (i := 0) (ci := 12) F S (by decide) (by decide) cl12 inRX12 (by decide) w903 (fun _ => rfl) dX12_goFault_13 ?_
    refine lv_iload_n (pc := 16) hx hb dX12_goFault_16 rfl (lv_at hl 1 rfl) ?_
    refine lv_iload_n (pc := 17) hx hb dX12_goFault_17 rfl (lv_at hl 2 rfl) ?_
    obtain ⟨v5, e4, h⟩ := ob_out h
    refine c_sI (pc := 18) (rest := [.ref (G.2.1 1)]) F S (tX12_ofCue e4) mfX12_ofCue w1000 ⟨Nat.le_of_ble_eq_true rfl, Nat.le_of_ble_eq_true rfl⟩ rfl hl.1 rfl (Nat.le_of_ble_eq_true rfl) dX12_goFault_18 (fun H locs S => ?_)
    obtain ⟨v6, e7, h⟩ := ob_out h
    refine r_nL (pc := 21) F S e7 dX12_goFault_21 ?_
    refine lv_if_ne (pc := 22) (tgt := 30) hx hb dX12_goFault_22 (by decide) (fun c8 => ?_) (fun c8 => ?_)
    · replace h := (if_neg c8).symm.trans h
      refine lv_iconst (pc := 30) (v := 0) hx hb dX12_goFault_30 (by decide) ?_
      cases h
      exact r_iret (pc := 31) F S rfl dX12_goFault_31
    · replace h := (if_pos c8).symm.trans h
      refine lv_bipush (pc := 25) (v := (-5)) hx hb dX12_goFault_25 (by decide) ?_
      refine lv_goto (pc := 27) (tgt := 31) hx hb dX12_goFault_27 (by decide) ?_
      cases h
      exact r_iret (pc := 31) F S rfl dX12_goFault_31
  · replace h := (if_pos c3).symm.trans h
    refine lv_iconst (pc := 8) (v := (-1)) hx hb dX12_goFault_8 (by decide) ?_
    refine lv_goto (pc := 9) (tgt := 31) hx hb dX12_goFault_9 (by decide) ?_
    cases h
    exact r_iret (pc := 31) F S rfl dX12_goFault_31
theorem mfX12_go : MF true yX12_go RX12 cX12_go 4 (some .int) 2 := ⟨w1061, w13, by rw [if_pos rfl]; exact ⟨w1059, w1060⟩, ⟨by decide, by decide⟩, by decide +kernel⟩
set_option maxHeartbeats 4000000 in
theorem tX12_go {l : Launch} {G : GD} {M N Mo : Mem} {a1 : Int32} {a2 : Int32} {r : Int32} (h : fX12_go N a1 a2 = some (r, Mo)) : MI l yX12_go cX12_go 4 .int 4 85 G [.ref (G.2.1 0), .int a1, .int a2] M N r M Mo := by
  unfold fX12_go at h
  refine MI_of (own := RX12) (by decide) rfl (Nat.le_of_ble_eq_true rfl) ?_
  intro p e s m args below meth c F S ls hl
  have hx := F.1
  have hb := F.2.1
  have hown := F.2.2.2.2.1
  have hts := F.2.2.2.2.2.1
  have hZ := F.2.2.2.2.2.2.2.2.2
  have hl : lv_has ls 4 [(0, .ref (G.2.1 0)), (1, .int a1), (2, .int a2)] := hl
  generalize s.heap = H, ([] : List Loc) = locs at S ⊢
  refine lv_aload_n (pc := 0) hx hb dX12_go_0 rfl (lv_at hl 0 rfl) ?_
  refine lv_iload_n (pc := 1) hx hb dX12_go_1 rfl (lv_at hl 1 rfl) ?_
  refine lv_iload_n (pc := 2) hx hb dX12_go_2 rfl (lv_at hl 2 rfl) ?_
  obtain ⟨v2, e1, h⟩ := ob_out h
  refine c_vI (pc := 3) (rest := []) F S (tX12_goFault e1) mfX12_goFault (by decide) (by decide) cl12 w1062 ⟨Nat.le_of_ble_eq_true rfl, Nat.le_of_ble_eq_true rfl⟩ rfl hl.1 rfl (Nat.le_of_ble_eq_true rfl) dX12_go_3 (fun H locs S => ?_)
  refine lv_istore_n (pc := 6) (lv' := [(3, .int v2), (0, .ref (G.2.1 0)), (1, .int a1), (2, .int a2)]) hx hb dX12_go_6 rfl hl (by decide) rfl (fun ls hl => ?_)
  refine lv_iload_n (pc := 7) hx hb dX12_go_7 rfl (lv_at hl 0 rfl) ?_
  refine lv_if_ge (pc := 8) (tgt := 13) hx hb dX12_go_8 (by decide) (fun c3 => ?_) (fun c3 => ?_)
  · replace h := (if_pos c3).symm.trans h
    refine lv_aload_n (pc := 13) hx hb dX12_go_13 rfl (lv_at hl 1 rfl) ?_
    obtain ⟨M5, e4, h⟩ := ob_out h
    refine c_vV (pc := 14) (rest := []) F S (tX12_know e4) mfX12_know (by decide) (by decide) cl12 w975 ⟨Nat.le_of_ble_eq_true rfl, Nat.le_of_ble_eq_true rfl⟩ rfl hl.1 rfl (Nat.le_of_ble_eq_true rfl) dX12_go_14 (fun H locs S => ?_)
    refine lv_aload_n (pc := 17) hx hb dX12_go_17 rfl (lv_at hl 1 rfl) ?_
    refine lv_iload_n (pc := 18) hx hb dX12_go_18 rfl (lv_at hl 2 rfl) ?_
    refine lv_iload_n (pc := 19) hx hb dX12_go_19 rfl (lv_at hl 3 rfl) ?_
    refine lv_aload_n (pc := 20) hx hb dX12_go_20 rfl (lv_at hl 1 rfl) ?_
    refine r_gR (pc := 21) (k := 0) (x := 1) (i := 0) (ci := 12) F S (by decide) (by decide) cl12 inRX12 (by decide) w903 (fun _ => rfl) dX12_go_21 ?_
    refine lv_iload_n (pc := 24) hx hb dX12_go_24 rfl (lv_at hl 2 rfl) ?_
    refine lv_iload_n (pc := 25) hx hb dX12_go_25 rfl (lv_at hl 3 rfl) ?_
    obtain ⟨v7, e6, h⟩ := ob_out h
    refine c_sI (pc := 26) (rest := [.ref (G.2.1 1), .int a2, .int a1, .ref (G.2.1 0)]) F S (tX12_ofCue e6) mfX12_ofCue w1000 ⟨Nat.le_of_ble_eq_true rfl, Nat.le_of_ble_eq_true rfl⟩ rfl hl.1 rfl (Nat.le_of_ble_eq_true rfl) dX12_go_26 (fun H locs S => ?_)
    obtain ⟨v8, e9, h⟩ := ob_out h
    refine r_nL (pc := 29) F S e9 dX12_go_29 ?_
    obtain ⟨M11, e10, h⟩ := ob_out h
    refine c_vV (pc := 30) (rest := []) F S (tX12_start e10) mfX12_start (by decide) (by decide) cl12 w1066 ⟨Nat.le_of_ble_eq_true rfl, Nat.le_of_ble_eq_true rfl⟩ rfl hl.1 rfl (Nat.le_of_ble_eq_true rfl) dX12_go_30 (fun H locs S => ?_)
    refine lv_aload_n (pc := 33) hx hb dX12_go_33 rfl (lv_at hl 1 rfl) ?_
    refine r_gR (pc := 34) (k := 0) (x := 1) (i := 0) (ci := 12) F S (by decide) (by decide) cl12 inRX12 (by decide) w903 (fun _ => rfl) dX12_go_34 ?_
    refine lv_iload_n (pc := 37) hx hb dX12_go_37 rfl (lv_at hl 2 rfl) ?_
    refine lv_iload_n (pc := 38) hx hb dX12_go_38 rfl (lv_at hl 3 rfl) ?_
    obtain ⟨v13, e12, h⟩ := ob_out h
    refine c_sI (pc := 39) (rest := [.ref (G.2.1 1)]) F S (tX12_ofCue e12) mfX12_ofCue w1000 ⟨Nat.le_of_ble_eq_true rfl, Nat.le_of_ble_eq_true rfl⟩ rfl hl.1 rfl (Nat.le_of_ble_eq_true rfl) dX12_go_39 (fun H locs S => ?_)
    obtain ⟨v14, e15, h⟩ := ob_out h
    refine r_nL (pc := 42) F S e15 dX12_go_42 ?_
    cases h
    exact r_iret (pc := 43) F S rfl dX12_go_43
  · replace h := (if_neg c3).symm.trans h
    refine lv_iload_n (pc := 11) hx hb dX12_go_11 rfl (lv_at hl 0 rfl) ?_
    cases h
    exact r_iret (pc := 12) F S rfl dX12_go_12
theorem mfX12_resets : MF true yX12_resets RX12 cX12_resets 4 (some .int) 1 := ⟨w1077, w13, by rw [if_pos rfl]; exact ⟨w1076, wp29⟩, ⟨by decide, by decide⟩, by decide +kernel⟩
set_option maxHeartbeats 4000000 in
theorem pX12_resets_L4 {p : Program} {l : Launch} {e : Env} {s : State} {m : MethodId} {args : Array Value} {below : List Frame} {meth : Method} {c : Code} {Q : State → Prop} {G : GD} (F : FX p s m args meth c RX12 cX12_resets 4 (some .int) G) : ∀ (n : Nat) {M N : Mem} {a1 : Int32} {a2 : Int32} {a3 : Int32} {H : Heap} {locs : List Loc} {ls : Array Slot} {o2 : Int32} {Mo : Mem}, ST G M N s H locs → lv_has ls 4 [(0, .ref (G.2.1 0)), (1, .int a1), (2, .int a2), (3, .int a3)] → fX12_resets_L4 n N a1 a2 a3 = some (o2, Mo) → (K1 : ∀ (H : Heap) (locs : List Loc) (ls : Array Slot), ST G M Mo s H locs → lv_has ls 4 [(2, .int o2)] → W p l e (Rm 1 21) s m args below meth c H locs 0 0 Q (F0 m 60 ls [])) → W p l e (Rm 1 21) s m args below meth c H locs 0 0 Q (F0 m 4 ls []) := by
  intro n
  induction n with
  | zero => intro M N a1 a2 a3 H locs ls o2 Mo S hl h K1; cases h
  | succ n ih =>
    intro M N a1 a2 a3 H locs ls o2 Mo S hl h K1
    rw [fX12_resets_L4] at h
    have hx := F.1
    have hb := F.2.1
    have hown := F.2.2.2.2.1
    have hts := F.2.2.2.2.2.1
    have hZ := F.2.2.2.2.2.2.2.2.2
    refine lv_iload_n (pc := 4) hx hb dX12_resets_4 rfl (lv_at hl 3 rfl) ?_
    refine lv_bipush (pc := 5) (v := 15) hx hb dX12_resets_5 (by decide) ?_
    refine lv_icmp_ge (pc := 7) (tgt := 60) hx hb dX12_resets_7 (by decide) (fun c1 => ?_) (fun c1 => ?_)
    · replace h := (if_pos c1).symm.trans h
      cases h
      exact K1 H locs ls S (lv_sub hl [2] rfl)
    · replace h := (if_neg c1).symm.trans h
      refine lv_iload_n (pc := 10) hx hb dX12_resets_10 rfl (lv_at hl 2 rfl) ?_
      refine lv_aload_n (pc := 11) hx hb dX12_resets_11 rfl (lv_at hl 0 rfl) ?_
      refine r_gR (pc := 12) (k := 0) (x := 1) (i := 0) (ci := 12) F S (by decide) (by decide) cl12 inRX12 (by decide) w903 (fun _ => rfl) dX12_resets_12 ?_
      refine lv_iload_n (pc := 15) hx hb dX12_resets_15 rfl (lv_at hl 1 rfl) ?_
      refine lv_bipush (pc := 16) (v := 87) hx hb dX12_resets_16 (by decide) ?_
      refine lv_iload_n (pc := 18) hx hb dX12_resets_18 rfl (lv_at hl 3 rfl) ?_
      refine lv_iadd (pc := 19) hx hb dX12_resets_19 ?_
      obtain ⟨v3, e2, h⟩ := ob_out h
      refine c_sI (pc := 20) (rest := [.ref (G.2.1 1), .int a2]) F S (tX12_at1 e2) mfX12_at1 w900 ⟨Nat.le_of_ble_eq_true rfl, Nat.le_of_ble_eq_true rfl⟩ rfl hl.1 rfl (Nat.le_of_ble_eq_true rfl) dX12_resets_20 (fun H locs S => ?_)
      obtain ⟨v4, e5, h⟩ := ob_out h
      refine r_nL (pc := 23) F S e5 dX12_resets_23 ?_
      refine lv_iadd (pc := 24) hx hb dX12_resets_24 ?_
      obtain ⟨v6, e7, h⟩ := lt1_out h
      refine nm_i e7 ?_
      refine lv_istore_n (pc := 25) (lv' := [(2, .int v6), (0, .ref (G.2.1 0)), (1, .int a1), (3, .int a3)]) hx hb dX12_resets_25 rfl hl (by decide) rfl (fun ls hl => ?_)
      refine lv_aload_n (pc := 26) hx hb dX12_resets_26 rfl (lv_at hl 1 rfl) ?_
      refine r_gR (pc := 27) (k := 0) (x := 1) (i := 0) (ci := 12) F S (by decide) (by decide) cl12 inRX12 (by decide) w903 (fun _ => rfl) dX12_resets_27 ?_
      refine lv_iload_n (pc := 30) hx hb dX12_resets_30 rfl (lv_at hl 2 rfl) ?_
      refine lv_bipush (pc := 31) (v := 87) hx hb dX12_resets_31 (by decide) ?_
      refine lv_iload_n (pc := 33) hx hb dX12_resets_33 rfl (lv_at hl 3 rfl) ?_
      refine lv_iadd (pc := 34) hx hb dX12_resets_34 ?_
      obtain ⟨v9, e8, h⟩ := ob_out h
      refine c_sI (pc := 35) (rest := [.ref (G.2.1 1)]) F S (tX12_at1 e8) mfX12_at1 w900 ⟨Nat.le_of_ble_eq_true rfl, Nat.le_of_ble_eq_true rfl⟩ rfl hl.1 rfl (Nat.le_of_ble_eq_true rfl) dX12_resets_35 (fun H locs S => ?_)
      refine lv_iconst (pc := 38) (v := 0) hx hb dX12_resets_38 (by decide) ?_
      obtain ⟨M10, e11, h⟩ := ob_out h
      refine r_nS (pc := 39) F S e11 dX12_resets_39 (fun H locs S => ?_)
      refine lv_aload_n (pc := 40) hx hb dX12_resets_40 rfl (lv_at hl 1 rfl) ?_
      refine r_gR (pc := 41) (k := 0) (x := 1) (i := 0) (ci := 12) F S (by decide) (by decide) cl12 inRX12 (by decide) w903 (fun _ => rfl) dX12_resets_41 ?_
      refine lv_iload_n (pc := 44) hx hb dX12_resets_44 rfl (lv_at hl 2 rfl) ?_
      refine lv_bipush (pc := 45) (v := 102) hx hb dX12_resets_45 (by decide) ?_
      refine lv_iload_n (pc := 47) hx hb dX12_resets_47 rfl (lv_at hl 3 rfl) ?_
      refine lv_iadd (pc := 48) hx hb dX12_resets_48 ?_
      obtain ⟨v13, e12, h⟩ := ob_out h
      refine c_sI (pc := 49) (rest := [.ref (G.2.1 1)]) F S (tX12_at1 e12) mfX12_at1 w900 ⟨Nat.le_of_ble_eq_true rfl, Nat.le_of_ble_eq_true rfl⟩ rfl hl.1 rfl (Nat.le_of_ble_eq_true rfl) dX12_resets_49 (fun H locs S => ?_)
      refine lv_iconst (pc := 52) (v := 0) hx hb dX12_resets_52 (by decide) ?_
      obtain ⟨M14, e15, h⟩ := ob_out h
      refine r_nS (pc := 53) F S e15 dX12_resets_53 (fun H locs S => ?_)
      refine lv_iinc (pc := 54) (lv' := [(3, .int (a3 + 1)), (2, .int v6), (0, .ref (G.2.1 0)), (1, .int a1)]) hx hb dX12_resets_54 hl (k := 3) rfl (iinc_n (by decide)) (by decide) rfl (fun ls hl => ?_)
      refine lv_goto (pc := 57) (tgt := 4) hx hb dX12_resets_57 (by decide) ?_
      exact ih S (lv_sub hl [2, 3, 1, 0] rfl) h K1
set_option maxHeartbeats 4000000 in
theorem tX12_resets {l : Launch} {G : GD} {M N Mo : Mem} {a1 : Int32} {r : Int32} (h : fX12_resets N a1 = some (r, Mo)) : MI l yX12_resets cX12_resets 4 .int 1 21 G [.ref (G.2.1 0), .int a1] M N r M Mo := by
  unfold fX12_resets at h
  refine MI_of (own := RX12) (by decide) rfl (Nat.le_of_ble_eq_true rfl) ?_
  intro p e s m args below meth c F S ls hl
  have hx := F.1
  have hb := F.2.1
  have hown := F.2.2.2.2.1
  have hts := F.2.2.2.2.2.1
  have hZ := F.2.2.2.2.2.2.2.2.2
  have hl : lv_has ls 4 [(0, .ref (G.2.1 0)), (1, .int a1)] := hl
  generalize s.heap = H, ([] : List Loc) = locs at S ⊢
  refine lv_iconst (pc := 0) (v := 0) hx hb dX12_resets_0 (by decide) ?_
  refine lv_istore_n (pc := 1) (lv' := [(2, .int 0), (0, .ref (G.2.1 0)), (1, .int a1)]) hx hb dX12_resets_1 rfl hl (by decide) rfl (fun ls hl => ?_)
  refine lv_iconst (pc := 2) (v := 0) hx hb dX12_resets_2 (by decide) ?_
  refine lv_istore_n (pc := 3) (lv' := [(3, .int 0), (2, .int 0), (0, .ref (G.2.1 0)), (1, .int a1)]) hx hb dX12_resets_3 rfl hl (by decide) rfl (fun ls hl => ?_)
  obtain ⟨v2, M1, e3, h⟩ := ob2_out h
  refine pX12_resets_L4 F 5000 S (lv_sub hl [2, 3, 1, 0] rfl) e3 (fun H locs ls S hl => ?_)
  refine lv_iload_n (pc := 60) hx hb dX12_resets_60 rfl (lv_at hl 0 rfl) ?_
  cases h
  exact r_iret (pc := 61) F S rfl dX12_resets_61
theorem mfX12_reset : MF true yX12_reset RX12 cX12_reset 2 (some .int) 1 := ⟨w1073, w13, by rw [if_pos rfl]; exact ⟨w1071, w1072⟩, ⟨by decide, by decide⟩, by decide +kernel⟩
set_option maxHeartbeats 4000000 in
theorem tX12_reset {l : Launch} {G : GD} {M N Mo : Mem} {a1 : Int32} {r : Int32} (h : fX12_reset N a1 = some (r, Mo)) : MI l yX12_reset cX12_reset 2 .int 2 44 G [.ref (G.2.1 0), .int a1] M N r M Mo := by
  unfold fX12_reset at h
  refine MI_of (own := RX12) (by decide) rfl (Nat.le_of_ble_eq_true rfl) ?_
  intro p e s m args below meth c F S ls hl
  have hx := F.1
  have hb := F.2.1
  have hown := F.2.2.2.2.1
  have hts := F.2.2.2.2.2.1
  have hZ := F.2.2.2.2.2.2.2.2.2
  have hl : lv_has ls 2 [(0, .ref (G.2.1 0)), (1, .int a1)] := hl
  generalize s.heap = H, ([] : List Loc) = locs at S ⊢
  refine lv_iload_n (pc := 0) hx hb dX12_reset_0 rfl (lv_at hl 1 rfl) ?_
  obtain ⟨v2, e1, h⟩ := ob_out h
  refine c_sI (pc := 1) (rest := []) F S (tX12_isPremiere e1) mfX12_isPremiere w987 ⟨Nat.le_of_ble_eq_true rfl, Nat.le_of_ble_eq_true rfl⟩ rfl hl.1 rfl (Nat.le_of_ble_eq_true rfl) dX12_reset_1 (fun H locs S => ?_)
  refine lv_if_ne (pc := 4) (tgt := 9) hx hb dX12_reset_4 (by decide) (fun c3 => ?_) (fun c3 => ?_)
  · replace h := (if_neg c3).symm.trans h
    refine lv_aload_n (pc := 9) hx hb dX12_reset_9 rfl (lv_at hl 0 rfl) ?_
    obtain ⟨M5, e4, h⟩ := ob_out h
    refine c_vV (pc := 10) (rest := []) F S (tX12_know e4) mfX12_know (by decide) (by decide) cl12 w975 ⟨Nat.le_of_ble_eq_true rfl, Nat.le_of_ble_eq_true rfl⟩ rfl hl.1 rfl (Nat.le_of_ble_eq_true rfl) dX12_reset_10 (fun H locs S => ?_)
    refine lv_aload_n (pc := 13) hx hb dX12_reset_13 rfl (lv_at hl 0 rfl) ?_
    refine lv_iload_n (pc := 14) hx hb dX12_reset_14 rfl (lv_at hl 1 rfl) ?_
    obtain ⟨v7, M8, e6, h⟩ := ob2_out h
    refine c_vI (pc := 15) (rest := []) F S (tX12_resets e6) mfX12_resets (by decide) (by decide) cl12 w1074 ⟨Nat.le_of_ble_eq_true rfl, Nat.le_of_ble_eq_true rfl⟩ rfl hl.1 rfl (Nat.le_of_ble_eq_true rfl) dX12_reset_15 (fun H locs S => ?_)
    cases h
    exact r_iret (pc := 18) F S rfl dX12_reset_18
  · replace h := (if_pos c3).symm.trans h
    refine lv_iconst (pc := 7) (v := (-1)) hx hb dX12_reset_7 (by decide) ?_
    cases h
    exact r_iret (pc := 8) F S rfl dX12_reset_8
theorem mfX12_tick : MF true yX12_tick RX12 cX12_tick 5 (some .int) 1 := ⟨w1081, w13, by rw [if_pos rfl]; exact ⟨w1079, w1080⟩, ⟨by decide, by decide⟩, by decide +kernel⟩
set_option maxHeartbeats 4000000 in
theorem pX12_tick_L29 {p : Program} {l : Launch} {e : Env} {s : State} {m : MethodId} {args : Array Value} {below : List Frame} {meth : Method} {c : Code} {Q : State → Prop} {G : GD} (F : FX p s m args meth c RX12 cX12_tick 5 (some .int) G) : ∀ (n : Nat) {M N : Mem} {a1 : Int32} {a2 : Int32} {a3 : Int32} {a4 : Int32} {H : Heap} {locs : List Loc} {ls : Array Slot} {o2 : Int32} {Mo : Mem}, ST G M N s H locs → lv_has ls 5 [(0, .ref (G.2.1 0)), (1, .int a1), (2, .int a2), (3, .int a3), (4, .int a4)] → fX12_tick_L29 n N a1 a2 a3 a4 = some (o2, Mo) → (K1 : ∀ (H : Heap) (locs : List Loc) (ls : Array Slot), ST G M Mo s H locs → lv_has ls 5 [(0, .ref (G.2.1 0)), (1, .int a1), (2, .int o2), (3, .int a3)] → W p l e (Rm 7 167) s m args below meth c H locs 0 0 Q (F0 m 50 ls [])) → W p l e (Rm 7 167) s m args below meth c H locs 0 0 Q (F0 m 29 ls []) := by
  intro n
  induction n with
  | zero => intro M N a1 a2 a3 a4 H locs ls o2 Mo S hl h K1; cases h
  | succ n ih =>
    intro M N a1 a2 a3 a4 H locs ls o2 Mo S hl h K1
    rw [fX12_tick_L29] at h
    have hx := F.1
    have hb := F.2.1
    have hown := F.2.2.2.2.1
    have hts := F.2.2.2.2.2.1
    have hZ := F.2.2.2.2.2.2.2.2.2
    refine lv_iload (pc := 29) hx hb dX12_tick_29 (lv_at hl 4 rfl) ?_
    refine lv_iconst (pc := 31) (v := 3) hx hb dX12_tick_31 (by decide) ?_
    refine lv_icmp_ge (pc := 32) (tgt := 50) hx hb dX12_tick_32 (by decide) (fun c7 => ?_) (fun c7 => ?_)
    · replace h := (if_pos c7).symm.trans h
      cases h
      exact K1 H locs ls S (lv_sub hl [0, 1, 2, 3] rfl)
    · replace h := (if_neg c7).symm.trans h
      refine lv_iload_n (pc := 35) hx hb dX12_tick_35 rfl (lv_at hl 2 rfl) ?_
      refine lv_aload_n (pc := 36) hx hb dX12_tick_36 rfl (lv_at hl 0 rfl) ?_
      refine lv_iload (pc := 37) hx hb dX12_tick_37 (lv_at hl 4 rfl) ?_
      obtain ⟨v9, M10, e8, h⟩ := ob2_out h
      refine c_vI (pc := 39) (rest := [.int a2]) F S (tX12_turn e8) mfX12_turn (by decide) (by decide) cl12 w1082 ⟨Nat.le_of_ble_eq_true rfl, Nat.le_of_ble_eq_true rfl⟩ rfl hl.1 rfl (Nat.le_of_ble_eq_true rfl) dX12_tick_39 (fun H locs S => ?_)
      refine lv_iadd (pc := 42) hx hb dX12_tick_42 ?_
      obtain ⟨v11, e12, h⟩ := lt1_out h
      refine nm_i e12 ?_
      refine lv_istore_n (pc := 43) (lv' := [(2, .int v11), (0, .ref (G.2.1 0)), (1, .int a1), (3, .int a3), (4, .int a4)]) hx hb dX12_tick_43 rfl hl (by decide) rfl (fun ls hl => ?_)
      refine lv_iinc (pc := 44) (lv' := [(4, .int (a4 + 1)), (2, .int v11), (0, .ref (G.2.1 0)), (1, .int a1), (3, .int a3)]) hx hb dX12_tick_44 hl (k := 4) rfl (iinc_n (by decide)) (by decide) rfl (fun ls hl => ?_)
      refine lv_goto (pc := 47) (tgt := 29) hx hb dX12_tick_47 (by decide) ?_
      exact ih S (lv_sub hl [2, 3, 1, 4, 0] rfl) h K1
set_option maxHeartbeats 4000000 in
theorem pX12_tick_L21 {p : Program} {l : Launch} {e : Env} {s : State} {m : MethodId} {args : Array Value} {below : List Frame} {meth : Method} {c : Code} {Q : State → Prop} {G : GD} (F : FX p s m args meth c RX12 cX12_tick 5 (some .int) G) : ∀ (n : Nat) {M N : Mem} {a1 : Int32} {a2 : Int32} {a3 : Int32} {H : Heap} {locs : List Loc} {ls : Array Slot} {o2 : Int32} {Mo : Mem}, ST G M N s H locs → lv_has ls 5 [(0, .ref (G.2.1 0)), (1, .int a1), (2, .int a2), (3, .int a3)] → fX12_tick_L21 n N a1 a2 a3 = some (o2, Mo) → (K1 : ∀ (H : Heap) (locs : List Loc) (ls : Array Slot), ST G M Mo s H locs → lv_has ls 5 [(2, .int o2)] → W p l e (Rm 7 167) s m args below meth c H locs 0 0 Q (F0 m 56 ls [])) → W p l e (Rm 7 167) s m args below meth c H locs 0 0 Q (F0 m 21 ls []) := by
  intro n
  induction n with
  | zero => intro M N a1 a2 a3 H locs ls o2 Mo S hl h K1; cases h
  | succ n ih =>
    intro M N a1 a2 a3 H locs ls o2 Mo S hl h K1
    rw [fX12_tick_L21] at h
    have hx := F.1
    have hb := F.2.1
    have hown := F.2.2.2.2.1
    have hts := F.2.2.2.2.2.1
    have hZ := F.2.2.2.2.2.2.2.2.2
    refine lv_iload_n (pc := 21) hx hb dX12_tick_21 rfl (lv_at hl 3 rfl) ?_
    refine lv_iload_n (pc := 22) hx hb dX12_tick_22 rfl (lv_at hl 1 rfl) ?_
    refine lv_icmp_ge (pc := 23) (tgt := 56) hx hb dX12_tick_23 (by decide) (fun c6 => ?_) (fun c6 => ?_)
    · replace h := (if_pos c6).symm.trans h
      cases h
      exact K1 H locs ls S (lv_sub hl [2] rfl)
    · replace h := (if_neg c6).symm.trans h
      refine lv_iconst (pc := 26) (v := 0) hx hb dX12_tick_26 (by decide) ?_
      refine lv_istore (pc := 27) (lv' := [(4, .int 0), (0, .ref (G.2.1 0)), (1, .int a1), (2, .int a2), (3, .int a3)]) hx hb dX12_tick_27 hl (by decide) rfl (fun ls hl => ?_)
      obtain ⟨v8, M7, e9, h⟩ := ob2_out h
      refine pX12_tick_L29 F 5000 S (lv_sub hl [1, 2, 3, 4, 0] rfl) e9 (fun H locs ls S hl => ?_)
      refine lv_iinc (pc := 50) (lv' := [(3, .int (a3 + 1)), (0, .ref (G.2.1 0)), (1, .int a1), (2, .int v8)]) hx hb dX12_tick_50 hl (k := 3) rfl (iinc_n (by decide)) (by decide) rfl (fun ls hl => ?_)
      refine lv_goto (pc := 53) (tgt := 21) hx hb dX12_tick_53 (by decide) ?_
      exact ih S (lv_sub hl [1, 2, 3, 0] rfl) h K1
set_option maxHeartbeats 4000000 in
theorem tX12_tick {l : Launch} {G : GD} {M N Mo : Mem} {a1 : Int32} {r : Int32} (h : fX12_tick N a1 = some (r, Mo)) : MI l yX12_tick cX12_tick 5 .int 7 167 G [.ref (G.2.1 0), .int a1] M N r M Mo := by
  unfold fX12_tick at h
  refine MI_of (own := RX12) (by decide) rfl (Nat.le_of_ble_eq_true rfl) ?_
  intro p e s m args below meth c F S ls hl
  have hx := F.1
  have hb := F.2.1
  have hown := F.2.2.2.2.1
  have hts := F.2.2.2.2.2.1
  have hZ := F.2.2.2.2.2.2.2.2.2
  have hl : lv_has ls 5 [(0, .ref (G.2.1 0)), (1, .int a1)] := hl
  generalize s.heap = H, ([] : List Loc) = locs at S ⊢
  refine lv_iload_n (pc := 0) hx hb dX12_tick_0 rfl (lv_at hl 1 rfl) ?_
  refine lv_iconst (pc := 1) (v := 1) hx hb dX12_tick_1 (by decide) ?_
  refine lv_bipush (pc := 2) (v := 100) hx hb dX12_tick_2 (by decide) ?_
  obtain ⟨v2, e1, h⟩ := ob_out h
  refine c_sI (pc := 4) (rest := []) F S (tX12_in e1) mfX12_in w972 ⟨Nat.le_of_ble_eq_true rfl, Nat.le_of_ble_eq_true rfl⟩ rfl hl.1 rfl (Nat.le_of_ble_eq_true rfl) dX12_tick_4 (fun H locs S => ?_)
  refine lv_if_ne (pc := 7) (tgt := 13) hx hb dX12_tick_7 (by decide) (fun c3 => ?_) (fun c3 => ?_)
  · replace h := (if_neg c3).symm.trans h
    refine lv_aload_n (pc := 13) hx hb dX12_tick_13 rfl (lv_at hl 0 rfl) ?_
    obtain ⟨M5, e4, h⟩ := ob_out h
    refine c_vV (pc := 14) (rest := []) F S (tX12_know e4) mfX12_know (by decide) (by decide) cl12 w975 ⟨Nat.le_of_ble_eq_true rfl, Nat.le_of_ble_eq_true rfl⟩ rfl hl.1 rfl (Nat.le_of_ble_eq_true rfl) dX12_tick_14 (fun H locs S => ?_)
    refine lv_iconst (pc := 17) (v := 0) hx hb dX12_tick_17 (by decide) ?_
    refine lv_istore_n (pc := 18) (lv' := [(2, .int 0), (0, .ref (G.2.1 0)), (1, .int a1)]) hx hb dX12_tick_18 rfl hl (by decide) rfl (fun ls hl => ?_)
    refine lv_iconst (pc := 19) (v := 0) hx hb dX12_tick_19 (by decide) ?_
    refine lv_istore_n (pc := 20) (lv' := [(3, .int 0), (2, .int 0), (0, .ref (G.2.1 0)), (1, .int a1)]) hx hb dX12_tick_20 rfl hl (by decide) rfl (fun ls hl => ?_)
    obtain ⟨v7, M6, e8, h⟩ := ob2_out h
    refine pX12_tick_L21 F 5000 S (lv_sub hl [2, 3, 1, 0] rfl) e8 (fun H locs ls S hl => ?_)
    refine lv_iload_n (pc := 56) hx hb dX12_tick_56 rfl (lv_at hl 0 rfl) ?_
    cases h
    exact r_iret (pc := 57) F S rfl dX12_tick_57
  · replace h := (if_pos c3).symm.trans h
    refine lv_bipush (pc := 10) (v := (-2)) hx hb dX12_tick_10 (by decide) ?_
    cases h
    exact r_iret (pc := 12) F S rfl dX12_tick_12
theorem mfX12_put : MF true yX12_put RX12 cX12_put 8 (some .int) 1 := ⟨w1101, w13, by rw [if_pos rfl]; exact ⟨w1099, w1100⟩, ⟨by decide, by decide⟩, by decide +kernel⟩
set_option maxHeartbeats 4000000 in
theorem pX12_put_L8 {p : Program} {l : Launch} {e : Env} {s : State} {m : MethodId} {args : Array Value} {below : List Frame} {meth : Method} {c : Code} {Q : State → Prop} {G : GD} (F : FX p s m args meth c RX12 cX12_put 8 (some .int) G) : ∀ (n : Nat) {M N : Mem} {a1 : Int64} {a3 : Int32} {a4 : Int32} {a5 : Int32} {H : Heap} {locs : List Loc} {ls : Array Slot} {o3 : Int32} {o4 : Int32}, ST G M N s H locs → lv_has ls 8 [(0, .ref (G.2.1 0)), (1, .long a1), (3, .int a3), (4, .int a4), (5, .int a5)] → fX12_put_L8 n a1 a3 a4 a5 = some (o3, o4) → (K1 : ∀ (H : Heap) (locs : List Loc) (ls : Array Slot), ST G M N s H locs → lv_has ls 8 [(0, .ref (G.2.1 0)), (1, .long a1), (3, .int o3), (4, .int o4)] → W p l e (Rm 1 22) s m args below meth c H locs 0 0 Q (F0 m 101 ls [])) → W p l e (Rm 1 22) s m args below meth c H locs 0 0 Q (F0 m 8 ls []) := by
  intro n
  induction n with
  | zero => intro M N a1 a3 a4 a5 H locs ls o3 o4 S hl h K1; cases h
  | succ n ih =>
    intro M N a1 a3 a4 a5 H locs ls o3 o4 S hl h K1
    rw [fX12_put_L8] at h
    have hx := F.1
    have hb := F.2.1
    have hown := F.2.2.2.2.1
    have hts := F.2.2.2.2.2.1
    have hZ := F.2.2.2.2.2.2.2.2.2
    refine lv_iload (pc := 8) hx hb dX12_put_8 (lv_at hl 4 rfl) ?_
    refine lv_bipush (pc := 10) (v := 8) hx hb dX12_put_10 (by decide) ?_
    refine lv_icmp_ge (pc := 12) (tgt := 101) hx hb dX12_put_12 (by decide) (fun c1 => ?_) (fun c1 => ?_)
    · replace h := (if_pos c1).symm.trans h
      cases h
      exact K1 H locs ls S (lv_sub hl [0, 1, 2, 3] rfl)
    · replace h := (if_neg c1).symm.trans h
      refine lv_lload_n (pc := 15) hx hb dX12_put_15 rfl (lv_at hl 1 rfl) ?_
      refine lv_bipush (pc := 16) (v := 8) hx hb dX12_put_16 (by decide) ?_
      refine lv_iload (pc := 18) hx hb dX12_put_18 (lv_at hl 4 rfl) ?_
      refine lv_imul (pc := 20) hx hb dX12_put_20 ?_
      refine lv_lushr (pc := 21) (v := (a1.toUInt64 >>> ((8 * a5).toInt64.toUInt64 &&& Int64.toUInt64 63)).toInt64) hx hb dX12_put_21 rfl ?_
      refine lv_ldc2 (pc := 22) (v := 255) hx hb hown (hts _ w1102) dX12_put_22 ?_
      refine lv_land (pc := 25) hx hb dX12_put_25 ?_
      refine lv_l2i (pc := 26) (v := (((a1.toUInt64 >>> ((8 * a5).toInt64.toUInt64 &&& Int64.toUInt64 63)).toInt64) &&& 255).toInt32) hx hb dX12_put_26 rfl ?_
      obtain ⟨v2, e3, h⟩ := lt1_out h
      refine nm_i e3 ?_
      refine lv_istore (pc := 27) (lv' := [(6, .int v2), (0, .ref (G.2.1 0)), (1, .long a1), (3, .int a3), (4, .int a4), (5, .int a5)]) hx hb dX12_put_27 hl (by decide) rfl (fun ls hl => ?_)
      refine lv_iload (pc := 29) hx hb dX12_put_29 (lv_at hl 5 rfl) ?_
      obtain ⟨v4, d5, h⟩ := ob_out h
      have J6 : ∀ (H : Heap) (locs : List Loc) (ls : Array Slot), ST G M N s H locs → lv_has ls 8 [(0, .ref (G.2.1 0)), (1, .long a1), (3, .int a3), (4, .int a4), (5, .int a5), (6, .int v2)] → W p l e (Rm 1 22) s m args below meth c H locs 0 0 Q (F0 m 51 ls [.int v4]) := by
        intro H locs ls S hl
        refine lv_istore (pc := 51) (lv' := [(7, .int v4), (0, .ref (G.2.1 0)), (1, .long a1), (3, .int a3), (4, .int a4), (5, .int a5), (6, .int v2)]) hx hb dX12_put_51 hl (by decide) rfl (fun ls hl => ?_)
        refine lv_iload (pc := 53) hx hb dX12_put_53 (lv_at hl 4 rfl) ?_
        obtain ⟨v7, d8, h⟩ := ob_out h
        have J9 : ∀ (H : Heap) (locs : List Loc) (ls : Array Slot), ST G M N s H locs → lv_has ls 8 [(0, .ref (G.2.1 0)), (1, .long a1), (3, .int a3), (5, .int a5), (7, .int v4)] → W p l e (Rm 1 22) s m args below meth c H locs 0 0 Q (F0 m 80 ls [.int v7]) := by
          intro H locs ls S hl
          refine lv_istore (pc := 80) (lv' := [(4, .int v7), (0, .ref (G.2.1 0)), (1, .long a1), (3, .int a3), (5, .int a5), (7, .int v4)]) hx hb dX12_put_80 hl (by decide) rfl (fun ls hl => ?_)
          refine lv_iload_n (pc := 82) hx hb dX12_put_82 rfl (lv_at hl 3 rfl) ?_
          refine lv_iload (pc := 83) hx hb dX12_put_83 (lv_at hl 5 rfl) ?_
          refine lv_if_eq (pc := 85) (tgt := 92) hx hb dX12_put_85 (by decide) (fun c10 => ?_) (fun c10 => ?_)
          · replace h := (if_pos c10).symm.trans h
            refine lv_iconst (pc := 92) (v := 1) hx hb dX12_put_92 (by decide) ?_
            refine lv_iadd (pc := 93) hx hb dX12_put_93 ?_
            obtain ⟨v11, e12, h⟩ := lt1_out h
            refine nm_i e12 ?_
            refine lv_istore_n (pc := 94) (lv' := [(3, .int v11), (4, .int v7), (0, .ref (G.2.1 0)), (1, .long a1), (5, .int a5), (7, .int v4)]) hx hb dX12_put_94 rfl hl (by decide) rfl (fun ls hl => ?_)
            refine lv_iinc (pc := 95) (lv' := [(5, .int (a5 + 1)), (3, .int v11), (4, .int v7), (0, .ref (G.2.1 0)), (1, .long a1), (7, .int v4)]) hx hb dX12_put_95 hl (k := 4) rfl (iinc_n (by decide)) (by decide) rfl (fun ls hl => ?_)
            refine lv_goto (pc := 98) (tgt := 8) hx hb dX12_put_98 (by decide) ?_
            exact ih S (lv_sub hl [3, 4, 1, 2, 0] rfl) h K1
          · replace h := (if_neg c10).symm.trans h
            refine lv_iconst (pc := 88) (v := 0) hx hb dX12_put_88 (by decide) ?_
            refine lv_goto (pc := 89) (tgt := 93) hx hb dX12_put_89 (by decide) ?_
            refine lv_iadd (pc := 93) hx hb dX12_put_93 ?_
            obtain ⟨v13, e14, h⟩ := lt1_out h
            refine nm_i e14 ?_
            refine lv_istore_n (pc := 94) (lv' := [(3, .int v13), (4, .int v7), (0, .ref (G.2.1 0)), (1, .long a1), (5, .int a5), (7, .int v4)]) hx hb dX12_put_94 rfl hl (by decide) rfl (fun ls hl => ?_)
            refine lv_iinc (pc := 95) (lv' := [(5, .int (a5 + 1)), (3, .int v13), (4, .int v7), (0, .ref (G.2.1 0)), (1, .long a1), (7, .int v4)]) hx hb dX12_put_95 hl (k := 4) rfl (iinc_n (by decide)) (by decide) rfl (fun ls hl => ?_)
            refine lv_goto (pc := 98) (tgt := 8) hx hb dX12_put_98 (by decide) ?_
            exact ih S (lv_sub hl [3, 4, 1, 2, 0] rfl) h K1
        refine lv_if_ne (pc := 55) (tgt := 75) hx hb dX12_put_55 (by decide) (fun c15 => ?_) (fun c15 => ?_)
        · replace d8 := (if_neg c15).symm.trans d8
          refine lv_iconst (pc := 75) (v := 1) hx hb dX12_put_75 (by decide) ?_
          refine lv_goto (pc := 76) (tgt := 80) hx hb dX12_put_76 (by decide) ?_
          cases d8
          exact J9 H locs ls S (lv_sub hl [1, 2, 3, 5, 0] rfl)
        · replace d8 := (if_pos c15).symm.trans d8
          refine lv_iload (pc := 58) hx hb dX12_put_58 (lv_at hl 0 rfl) ?_
          refine lv_if_ne (pc := 60) (tgt := 79) hx hb dX12_put_60 (by decide) (fun c16 => ?_) (fun c16 => ?_)
          · replace d8 := (if_neg c16).symm.trans d8
            refine lv_iconst (pc := 79) (v := 0) hx hb dX12_put_79 (by decide) ?_
            cases d8
            exact J9 H locs ls S (lv_sub hl [1, 2, 3, 5, 0] rfl)
          · replace d8 := (if_pos c16).symm.trans d8
            refine lv_iload (pc := 63) hx hb dX12_put_63 (lv_at hl 6 rfl) ?_
            refine lv_bipush (pc := 65) (v := 33) hx hb dX12_put_65 (by decide) ?_
            refine lv_bipush (pc := 67) (v := 126) hx hb dX12_put_67 (by decide) ?_
            obtain ⟨v18, e17, d8⟩ := ob_out d8
            refine c_sI (pc := 69) (rest := []) F S (tX12_in e17) mfX12_in w972 ⟨Nat.le_of_ble_eq_true rfl, Nat.le_of_ble_eq_true rfl⟩ rfl hl.1 rfl (Nat.le_of_ble_eq_true rfl) dX12_put_69 (fun H locs S => ?_)
            refine lv_if_ne (pc := 72) (tgt := 79) hx hb dX12_put_72 (by decide) (fun c19 => ?_) (fun c19 => ?_)
            · replace d8 := (if_neg c19).symm.trans d8
              refine lv_iconst (pc := 79) (v := 0) hx hb dX12_put_79 (by decide) ?_
              cases d8
              exact J9 H locs ls S (lv_sub hl [1, 2, 3, 5, 0] rfl)
            · replace d8 := (if_pos c19).symm.trans d8
              refine lv_iconst (pc := 75) (v := 1) hx hb dX12_put_75 (by decide) ?_
              refine lv_goto (pc := 76) (tgt := 80) hx hb dX12_put_76 (by decide) ?_
              cases d8
              exact J9 H locs ls S (lv_sub hl [1, 2, 3, 5, 0] rfl)
      refine lv_if_le (pc := 31) (tgt := 50) hx hb dX12_put_31 (by decide) (fun c20 => ?_) (fun c20 => ?_)
      · replace d5 := (if_pos c20).symm.trans d5
        refine lv_iconst (pc := 50) (v := 0) hx hb dX12_put_50 (by decide) ?_
        cases d5
        exact J6 H locs ls S (lv_sub hl [1, 2, 3, 4, 5, 0] rfl)
      · replace d5 := (if_neg c20).symm.trans d5
        refine lv_lload_n (pc := 34) hx hb dX12_put_34 rfl (lv_at hl 2 rfl) ?_
        refine lv_bipush (pc := 35) (v := 8) hx hb dX12_put_35 (by decide) ?_
        refine lv_iload (pc := 37) hx hb dX12_put_37 (lv_at hl 5 rfl) ?_
        refine lv_imul (pc := 39) hx hb dX12_put_39 ?_
        refine lv_lushr (pc := 40) (v := (a1.toUInt64 >>> ((8 * a5).toInt64.toUInt64 &&& Int64.toUInt64 63)).toInt64) hx hb dX12_put_40 rfl ?_
        refine lv_lconst (pc := 41) (v := 0) hx hb dX12_put_41 rfl ?_
        refine W.lcmp (pc := 42) hx hb dX12_put_42 ?_
        refine lv_if_ne (pc := 43) (tgt := 50) hx hb dX12_put_43 (by decide) (fun c21 => ?_) (fun c21 => ?_)
        · replace d5 := (if_neg c21).symm.trans d5
          refine lv_iconst (pc := 50) (v := 0) hx hb dX12_put_50 (by decide) ?_
          cases d5
          exact J6 H locs ls S (lv_sub hl [1, 2, 3, 4, 5, 0] rfl)
        · replace d5 := (if_pos c21).symm.trans d5
          refine lv_iconst (pc := 46) (v := 1) hx hb dX12_put_46 (by decide) ?_
          refine lv_goto (pc := 47) (tgt := 51) hx hb dX12_put_47 (by decide) ?_
          cases d5
          exact J6 H locs ls S (lv_sub hl [1, 2, 3, 4, 5, 0] rfl)
set_option maxHeartbeats 4000000 in
theorem pX12_put_L126 {p : Program} {l : Launch} {e : Env} {s : State} {m : MethodId} {args : Array Value} {below : List Frame} {meth : Method} {c : Code} {Q : State → Prop} {G : GD} (F : FX p s m args meth c RX12 cX12_put 8 (some .int) G) : ∀ (n : Nat) {M N : Mem} {a1 : Int64} {a3 : Int32} {a5 : Int32} {H : Heap} {locs : List Loc} {ls : Array Slot} {Mo : Mem}, ST G M N s H locs → lv_has ls 8 [(0, .ref (G.2.1 0)), (1, .long a1), (3, .int a3), (5, .int a5)] → fX12_put_L126 n N a1 a3 a5 = some Mo → (K1 : ∀ (H : Heap) (locs : List Loc) (ls : Array Slot), ST G M Mo s H locs → lv_has ls 8 [(0, .ref (G.2.1 0)), (3, .int a3)] → W p l e (Rm 1 22) s m args below meth c H locs 0 0 Q (F0 m 166 ls [])) → W p l e (Rm 1 22) s m args below meth c H locs 0 0 Q (F0 m 126 ls []) := by
  intro n
  induction n with
  | zero => intro M N a1 a3 a5 H locs ls Mo S hl h K1; cases h
  | succ n ih =>
    intro M N a1 a3 a5 H locs ls Mo S hl h K1
    rw [fX12_put_L126] at h
    have hx := F.1
    have hb := F.2.1
    have hown := F.2.2.2.2.1
    have hts := F.2.2.2.2.2.1
    have hZ := F.2.2.2.2.2.2.2.2.2
    refine lv_iload (pc := 126) hx hb dX12_put_126 (lv_at hl 3 rfl) ?_
    refine lv_iload_n (pc := 128) hx hb dX12_put_128 rfl (lv_at hl 2 rfl) ?_
    refine lv_icmp_ge (pc := 129) (tgt := 166) hx hb dX12_put_129 (by decide) (fun c8 => ?_) (fun c8 => ?_)
    · replace h := (if_pos c8).symm.trans h
      cases h
      exact K1 H locs ls S (lv_sub hl [0, 2] rfl)
    · replace h := (if_neg c8).symm.trans h
      refine lv_aload_n (pc := 132) hx hb dX12_put_132 rfl (lv_at hl 0 rfl) ?_
      refine r_gR (pc := 133) (k := 6) (x := 6) (i := 0) (ci := 12) F S (by decide) (by decide) cl12 inRX12 (by decide) w909 (fun _ => rfl) dX12_put_133 ?_
      refine lv_aload_n (pc := 136) hx hb dX12_put_136 rfl (lv_at hl 0 rfl) ?_
      obtain ⟨v9, e10, h⟩ := ob_out h
      refine r_gN (pc := 137) (k := 7) F S e10 (by decide) cl12 inRX12 (by decide) w910 (fun _ => rfl) dX12_put_137 ?_
      refine lv_iload_n (pc := 140) hx hb dX12_put_140 rfl (lv_at hl 2 rfl) ?_
      refine lv_iadd (pc := 141) hx hb dX12_put_141 ?_
      refine lv_iconst (pc := 142) (v := 1) hx hb dX12_put_142 (by decide) ?_
      refine lv_isub (pc := 143) hx hb dX12_put_143 ?_
      refine lv_iload (pc := 144) hx hb dX12_put_144 (lv_at hl 3 rfl) ?_
      refine lv_isub (pc := 146) hx hb dX12_put_146 ?_
      refine lv_lload_n (pc := 147) hx hb dX12_put_147 rfl (lv_at hl 1 rfl) ?_
      refine lv_bipush (pc := 148) (v := 8) hx hb dX12_put_148 (by decide) ?_
      refine lv_iload (pc := 150) hx hb dX12_put_150 (lv_at hl 3 rfl) ?_
      refine lv_imul (pc := 152) hx hb dX12_put_152 ?_
      refine lv_lushr (pc := 153) (v := (a1.toUInt64 >>> ((8 * a5).toInt64.toUInt64 &&& Int64.toUInt64 63)).toInt64) hx hb dX12_put_153 rfl ?_
      refine lv_ldc2 (pc := 154) (v := 255) hx hb hown (hts _ w1102) dX12_put_154 ?_
      refine lv_land (pc := 157) hx hb dX12_put_157 ?_
      refine lv_l2i (pc := 158) (v := (((a1.toUInt64 >>> ((8 * a5).toInt64.toUInt64 &&& Int64.toUInt64 63)).toInt64) &&& 255).toInt32) hx hb dX12_put_158 rfl ?_
      obtain ⟨M11, e12, h⟩ := ob_out h
      refine r_nS (pc := 159) F S e12 dX12_put_159 (fun H locs S => ?_)
      refine lv_iinc (pc := 160) (lv' := [(5, .int (a5 + 1)), (0, .ref (G.2.1 0)), (1, .long a1), (3, .int a3)]) hx hb dX12_put_160 hl (k := 3) rfl (iinc_n (by decide)) (by decide) rfl (fun ls hl => ?_)
      refine lv_goto (pc := 163) (tgt := 126) hx hb dX12_put_163 (by decide) ?_
      exact ih S (lv_sub hl [1, 2, 3, 0] rfl) h K1
set_option maxHeartbeats 4000000 in
theorem tX12_put {l : Launch} {G : GD} {M N Mo : Mem} {a1 : Int64} {r : Int32} (h : fX12_put N a1 = some (r, Mo)) : MI l yX12_put cX12_put 8 .int 1 22 G [.ref (G.2.1 0), .long a1] M N r M Mo := by
  unfold fX12_put at h
  refine MI_of (own := RX12) (by decide) rfl (Nat.le_of_ble_eq_true rfl) ?_
  intro p e s m args below meth c F S ls hl
  have hx := F.1
  have hb := F.2.1
  have hown := F.2.2.2.2.1
  have hts := F.2.2.2.2.2.1
  have hZ := F.2.2.2.2.2.2.2.2.2
  have hl : lv_has ls 8 [(0, .ref (G.2.1 0)), (1, .long a1)] := hl
  generalize s.heap = H, ([] : List Loc) = locs at S ⊢
  refine lv_iconst (pc := 0) (v := 0) hx hb dX12_put_0 (by decide) ?_
  refine lv_istore_n (pc := 1) (lv' := [(3, .int 0), (0, .ref (G.2.1 0)), (1, .long a1)]) hx hb dX12_put_1 rfl hl (by decide) rfl (fun ls hl => ?_)
  refine lv_iconst (pc := 2) (v := 0) hx hb dX12_put_2 (by decide) ?_
  refine lv_istore (pc := 3) (lv' := [(4, .int 0), (3, .int 0), (0, .ref (G.2.1 0)), (1, .long a1)]) hx hb dX12_put_3 hl (by decide) rfl (fun ls hl => ?_)
  refine lv_iconst (pc := 5) (v := 0) hx hb dX12_put_5 (by decide) ?_
  refine lv_istore (pc := 6) (lv' := [(5, .int 0), (4, .int 0), (3, .int 0), (0, .ref (G.2.1 0)), (1, .long a1)]) hx hb dX12_put_6 hl (by decide) rfl (fun ls hl => ?_)
  obtain ⟨v1, v2, e3, h⟩ := ob2_out h
  refine pX12_put_L8 F 5000 S (lv_sub hl [3, 4, 2, 1, 0] rfl) e3 (fun H locs ls S hl => ?_)
  refine lv_iload (pc := 101) hx hb dX12_put_101 (lv_at hl 3 rfl) ?_
  refine lv_if_eq (pc := 103) (tgt := 109) hx hb dX12_put_103 (by decide) (fun c4 => ?_) (fun c4 => ?_)
  · replace h := (if_pos c4).symm.trans h
    refine lv_aload_n (pc := 109) hx hb dX12_put_109 rfl (lv_at hl 0 rfl) ?_
    obtain ⟨v5, e6, h⟩ := ob_out h
    refine r_gN (pc := 110) (k := 7) F S e6 (by decide) cl12 inRX12 (by decide) w910 (fun _ => rfl) dX12_put_110 ?_
    refine lv_iload_n (pc := 113) hx hb dX12_put_113 rfl (lv_at hl 2 rfl) ?_
    refine lv_iadd (pc := 114) hx hb dX12_put_114 ?_
    refine lv_bipush (pc := 115) (v := 60) hx hb dX12_put_115 (by decide) ?_
    refine lv_icmp_le (pc := 117) (tgt := 123) hx hb dX12_put_117 (by decide) (fun c7 => ?_) (fun c7 => ?_)
    · replace h := (if_pos c7).symm.trans h
      refine lv_iconst (pc := 123) (v := 0) hx hb dX12_put_123 (by decide) ?_
      refine lv_istore (pc := 124) (lv' := [(5, .int 0), (0, .ref (G.2.1 0)), (1, .long a1), (3, .int v1), (4, .int v2)]) hx hb dX12_put_124 hl (by decide) rfl (fun ls hl => ?_)
      obtain ⟨M8, e9, h⟩ := ob_out h
      refine pX12_put_L126 F 5000 S (lv_sub hl [1, 2, 3, 0] rfl) e9 (fun H locs ls S hl => ?_)
      refine lv_aload_n (pc := 166) hx hb dX12_put_166 rfl (lv_at hl 0 rfl) ?_
      refine lv_dup (pc := 167) hx hb dX12_put_167 rfl ?_
      obtain ⟨v10, e11, h⟩ := ob_out h
      refine r_gN (pc := 168) (k := 7) F S e11 (by decide) cl12 inRX12 (by decide) w910 (fun _ => rfl) dX12_put_168 ?_
      refine lv_iload_n (pc := 171) hx hb dX12_put_171 rfl (lv_at hl 1 rfl) ?_
      refine lv_iadd (pc := 172) hx hb dX12_put_172 ?_
      obtain ⟨M12, e13, h⟩ := ob_out h
      refine r_pN (pc := 173) (k := 7) (ty0 := tyX12) F S e13 (by decide) cl12 inRX12 tyX12_ok nmX12 (by decide) w910 rfl (by decide +kernel) (fun _ => Nat.le_of_ble_eq_true rfl) (fun _ => pf_12_7) dX12_put_173 (fun H locs S => ?_)
      refine lv_aload_n (pc := 176) hx hb dX12_put_176 rfl (lv_at hl 0 rfl) ?_
      obtain ⟨v14, e15, h⟩ := ob_out h
      refine r_gN (pc := 177) (k := 7) F S e15 (by decide) cl12 inRX12 (by decide) w910 (fun _ => rfl) dX12_put_177 ?_
      cases h
      exact r_iret (pc := 180) F S rfl dX12_put_180
    · replace h := (if_neg c7).symm.trans h
      refine lv_bipush (pc := 120) (v := (-4)) hx hb dX12_put_120 (by decide) ?_
      cases h
      exact r_iret (pc := 122) F S rfl dX12_put_122
  · replace h := (if_neg c4).symm.trans h
    refine lv_bipush (pc := 106) (v := (-2)) hx hb dX12_put_106 (by decide) ?_
    cases h
    exact r_iret (pc := 108) F S rfl dX12_put_108
theorem mfX12_wipe : MF true yX12_wipe RX12 cX12_wipe 2 (some .int) 0 := ⟨w1106, w13, by rw [if_pos rfl]; exact ⟨w1104, w1105⟩, ⟨by decide, by decide⟩, by decide +kernel⟩
set_option maxHeartbeats 4000000 in
theorem tX12_wipe {l : Launch} {G : GD} {M N Mo : Mem} {r : Int32} (h : fX12_wipe N = some (r, Mo)) : MI l yX12_wipe cX12_wipe 2 .int 0 0 G [.ref (G.2.1 0)] M N r M Mo := by
  unfold fX12_wipe at h
  refine MI_of (own := RX12) (by decide) rfl (Nat.le_of_ble_eq_true rfl) ?_
  intro p e s m args below meth c F S ls hl
  have hx := F.1
  have hb := F.2.1
  have hown := F.2.2.2.2.1
  have hts := F.2.2.2.2.2.1
  have hZ := F.2.2.2.2.2.2.2.2.2
  have hl : lv_has ls 2 [(0, .ref (G.2.1 0))] := hl
  generalize s.heap = H, ([] : List Loc) = locs at S ⊢
  refine lv_aload_n (pc := 0) hx hb dX12_wipe_0 rfl (lv_at hl 0 rfl) ?_
  obtain ⟨v1, e2, h⟩ := ob_out h
  refine r_gN (pc := 1) (k := 7) F S e2 (by decide) cl12 inRX12 (by decide) w910 (fun _ => rfl) dX12_wipe_1 ?_
  refine lv_istore_n (pc := 4) (lv' := [(1, .int v1), (0, .ref (G.2.1 0))]) hx hb dX12_wipe_4 rfl hl (by decide) rfl (fun ls hl => ?_)
  refine lv_aload_n (pc := 5) hx hb dX12_wipe_5 rfl (lv_at hl 1 rfl) ?_
  refine lv_iconst (pc := 6) (v := 0) hx hb dX12_wipe_6 (by decide) ?_
  obtain ⟨M3, e4, h⟩ := ob_out h
  refine r_pN (pc := 7) (k := 7) (ty0 := tyX12) F S e4 (by decide) cl12 inRX12 tyX12_ok nmX12 (by decide) w910 rfl (by decide +kernel) (fun _ => Nat.le_of_ble_eq_true rfl) (fun _ => pf_12_7) dX12_wipe_7 (fun H locs S => ?_)
  refine lv_iload_n (pc := 10) hx hb dX12_wipe_10 rfl (lv_at hl 0 rfl) ?_
  cases h
  exact r_iret (pc := 11) F S rfl dX12_wipe_11
theorem mfX12_sign : MF true yX12_sign RX12 cX12_sign 4 (some .int) 2 := ⟨w1130, w13, by rw [if_pos rfl]; exact ⟨w1129, wp38⟩, ⟨by decide, by decide⟩, by decide +kernel⟩
set_option maxHeartbeats 4000000 in
theorem tX12_sign {l : Launch} {G : GD} {M N Mo : Mem} {a1 : Int32} {a2 : Int32} {r : Int32} (h : fX12_sign N a1 a2 = some (r, Mo)) : MI l yX12_sign cX12_sign 4 .int 1 22 G [.ref (G.2.1 0), .int a1, .int a2] M N r M Mo := by
  unfold fX12_sign at h
  refine MI_of (own := RX12) (by decide) rfl (Nat.le_of_ble_eq_true rfl) ?_
  intro p e s m args below meth c F S ls hl
  have hx := F.1
  have hb := F.2.1
  have hown := F.2.2.2.2.1
  have hts := F.2.2.2.2.2.1
  have hZ := F.2.2.2.2.2.2.2.2.2
  have hl : lv_has ls 4 [(0, .ref (G.2.1 0)), (1, .int a1), (2, .int a2)] := hl
  generalize s.heap = H, ([] : List Loc) = locs at S ⊢
  refine lv_aload_n (pc := 0) hx hb dX12_sign_0 rfl (lv_at hl 0 rfl) ?_
  obtain ⟨v1, e2, h⟩ := ob_out h
  refine r_gN (pc := 1) (k := 10) F S e2 (by decide) cl12 inRX12 (by decide) w913 (fun _ => rfl) dX12_sign_1 ?_
  refine lv_aload_n (pc := 4) hx hb dX12_sign_4 rfl (lv_at hl 0 rfl) ?_
  obtain ⟨v3, e4, h⟩ := ob_out h
  refine r_gN (pc := 5) (k := 7) F S e4 (by decide) cl12 inRX12 (by decide) w910 (fun _ => rfl) dX12_sign_5 ?_
  obtain ⟨v5, d6, h⟩ := ob_out h
  have J7 : ∀ (H : Heap) (locs : List Loc) (ls : Array Slot), ST G M N s H locs → lv_has ls 4 [(0, .ref (G.2.1 0)), (1, .int a1), (2, .int a2)] → W p l e (Rm 1 22) s m args below meth c H locs 0 0 (MQ below (va_Qi (fun r' (_ : Unit) => r' = r) (fun _ t => Wd G M Mo t) (AG G.2.1)) args s 0 0 (AG G.2.1)) (F0 m 24 ls [.int v5]) := by
    intro H locs ls S hl
    refine lv_istore_n (pc := 24) (lv' := [(3, .int v5), (0, .ref (G.2.1 0)), (1, .int a1), (2, .int a2)]) hx hb dX12_sign_24 rfl hl (by decide) rfl (fun ls hl => ?_)
    refine lv_aload_n (pc := 25) hx hb dX12_sign_25 rfl (lv_at hl 1 rfl) ?_
    refine lv_aload_n (pc := 26) hx hb dX12_sign_26 rfl (lv_at hl 1 rfl) ?_
    obtain ⟨v8, e9, h⟩ := ob_out h
    refine r_gN (pc := 27) (k := 11) F S e9 (by decide) cl12 inRX12 (by decide) w914 (fun _ => rfl) dX12_sign_27 ?_
    obtain ⟨v10, d11, h⟩ := ob_out h
    have J12 : ∀ (H : Heap) (locs : List Loc) (ls : Array Slot), ST G M N s H locs → lv_has ls 4 [(0, .ref (G.2.1 0)), (3, .int v5)] → W p l e (Rm 1 22) s m args below meth c H locs 0 0 (MQ below (va_Qi (fun r' (_ : Unit) => r' = r) (fun _ t => Wd G M Mo t) (AG G.2.1)) args s 0 0 (AG G.2.1)) (F0 m 47 ls [.int v10, .ref (G.2.1 0)]) := by
      intro H locs ls S hl
      obtain ⟨M13, e14, h⟩ := ob_out h
      refine r_pZ (pc := 47) (k := 11) (ty0 := tyX12) F S e14 (by decide) cl12 inRX12 tyX12_ok nmX12 (by decide) w914 rfl (by decide +kernel) (fun _ => Nat.le_of_ble_eq_true rfl) (fun _ => pf_12_11) dX12_sign_47 (fun H locs S => ?_)
      refine lv_aload_n (pc := 50) hx hb dX12_sign_50 rfl (lv_at hl 0 rfl) ?_
      refine lv_dup (pc := 51) hx hb dX12_sign_51 rfl ?_
      obtain ⟨v15, e16, h⟩ := ob_out h
      refine r_gN (pc := 52) (k := 10) F S e16 (by decide) cl12 inRX12 (by decide) w913 (fun _ => rfl) dX12_sign_52 ?_
      refine lv_aload_n (pc := 55) hx hb dX12_sign_55 rfl (lv_at hl 0 rfl) ?_
      obtain ⟨v17, e18, h⟩ := ob_out h
      refine r_gN (pc := 56) (k := 11) F S e18 (by decide) cl12 inRX12 (by decide) w914 (fun _ => rfl) dX12_sign_56 ?_
      refine lv_if_eq (pc := 59) (tgt := 66) hx hb dX12_sign_59 (by decide) (fun c19 => ?_) (fun c19 => ?_)
      · replace h := (if_pos c19).symm.trans h
        refine lv_iconst (pc := 66) (v := 1) hx hb dX12_sign_66 (by decide) ?_
        refine lv_iadd (pc := 67) hx hb dX12_sign_67 ?_
        obtain ⟨M20, e21, h⟩ := ob_out h
        refine r_pN (pc := 68) (k := 10) (ty0 := tyX12) F S e21 (by decide) cl12 inRX12 tyX12_ok nmX12 (by decide) w913 rfl (by decide +kernel) (fun _ => Nat.le_of_ble_eq_true rfl) (fun _ => pf_12_10) dX12_sign_68 (fun H locs S => ?_)
        refine lv_iload_n (pc := 71) hx hb dX12_sign_71 rfl (lv_at hl 1 rfl) ?_
        cases h
        exact r_iret (pc := 72) F S rfl dX12_sign_72
      · replace h := (if_neg c19).symm.trans h
        refine lv_iconst (pc := 62) (v := 0) hx hb dX12_sign_62 (by decide) ?_
        refine lv_goto (pc := 63) (tgt := 67) hx hb dX12_sign_63 (by decide) ?_
        refine lv_iadd (pc := 67) hx hb dX12_sign_67 ?_
        obtain ⟨M22, e23, h⟩ := ob_out h
        refine r_pN (pc := 68) (k := 10) (ty0 := tyX12) F S e23 (by decide) cl12 inRX12 tyX12_ok nmX12 (by decide) w913 rfl (by decide +kernel) (fun _ => Nat.le_of_ble_eq_true rfl) (fun _ => pf_12_10) dX12_sign_68 (fun H locs S => ?_)
        refine lv_iload_n (pc := 71) hx hb dX12_sign_71 rfl (lv_at hl 1 rfl) ?_
        cases h
        exact r_iret (pc := 72) F S rfl dX12_sign_72
    refine lv_if_ne (pc := 30) (tgt := 42) hx hb dX12_sign_30 (by decide) (fun c24 => ?_) (fun c24 => ?_)
    · replace d11 := (if_neg c24).symm.trans d11
      refine lv_iconst (pc := 42) (v := 1) hx hb dX12_sign_42 (by decide) ?_
      refine lv_goto (pc := 43) (tgt := 47) hx hb dX12_sign_43 (by decide) ?_
      cases d11
      exact J12 H locs ls S (lv_sub hl [1, 0] rfl)
    · replace d11 := (if_pos c24).symm.trans d11
      refine lv_iload_n (pc := 33) hx hb dX12_sign_33 rfl (lv_at hl 0 rfl) ?_
      refine lv_iload_n (pc := 34) hx hb dX12_sign_34 rfl (lv_at hl 2 rfl) ?_
      refine lv_iload_n (pc := 35) hx hb dX12_sign_35 rfl (lv_at hl 3 rfl) ?_
      obtain ⟨v26, e25, d11⟩ := ob_out d11
      refine c_sI (pc := 36) (rest := [.ref (G.2.1 0)]) F S (tX12_in e25) mfX12_in w972 ⟨Nat.le_of_ble_eq_true rfl, Nat.le_of_ble_eq_true rfl⟩ rfl hl.1 rfl (Nat.le_of_ble_eq_true rfl) dX12_sign_36 (fun H locs S => ?_)
      refine lv_if_ne (pc := 39) (tgt := 46) hx hb dX12_sign_39 (by decide) (fun c27 => ?_) (fun c27 => ?_)
      · replace d11 := (if_neg c27).symm.trans d11
        refine lv_iconst (pc := 46) (v := 0) hx hb dX12_sign_46 (by decide) ?_
        cases d11
        exact J12 H locs ls S (lv_sub hl [1, 0] rfl)
      · replace d11 := (if_pos c27).symm.trans d11
        refine lv_iconst (pc := 42) (v := 1) hx hb dX12_sign_42 (by decide) ?_
        refine lv_goto (pc := 43) (tgt := 47) hx hb dX12_sign_43 (by decide) ?_
        cases d11
        exact J12 H locs ls S (lv_sub hl [1, 0] rfl)
  refine lv_icmp_ge (pc := 8) (tgt := 23) hx hb dX12_sign_8 (by decide) (fun c28 => ?_) (fun c28 => ?_)
  · replace d6 := (if_pos c28).symm.trans d6
    refine lv_iconst (pc := 23) (v := 0) hx hb dX12_sign_23 (by decide) ?_
    cases d6
    exact J7 H locs ls S (lv_sub hl [0, 1, 2] rfl)
  · replace d6 := (if_neg c28).symm.trans d6
    refine lv_aload_n (pc := 11) hx hb dX12_sign_11 rfl (lv_at hl 0 rfl) ?_
    refine r_gR (pc := 12) (k := 6) (x := 6) (i := 0) (ci := 12) F S (by decide) (by decide) cl12 inRX12 (by decide) w909 (fun _ => rfl) dX12_sign_12 ?_
    refine lv_aload_n (pc := 15) hx hb dX12_sign_15 rfl (lv_at hl 0 rfl) ?_
    obtain ⟨v29, e30, d6⟩ := ob_out d6
    refine r_gN (pc := 16) (k := 10) F S e30 (by decide) cl12 inRX12 (by decide) w913 (fun _ => rfl) dX12_sign_16 ?_
    obtain ⟨v31, e32, d6⟩ := ob_out d6
    refine r_nL (pc := 19) F S e32 dX12_sign_19 ?_
    refine lv_goto (pc := 20) (tgt := 24) hx hb dX12_sign_20 (by decide) ?_
    cases d6
    exact J7 H locs ls S (lv_sub hl [0, 1, 2] rfl)
theorem mfX12_isNext : MF true yX12_isNext RX12 cX12_isNext 3 (some .boolean) 2 := ⟨w1134, w13, by rw [if_pos rfl]; exact ⟨w1133, wp39⟩, ⟨by decide, by decide⟩, by decide +kernel⟩
set_option maxHeartbeats 4000000 in
theorem tX12_isNext {l : Launch} {G : GD} {M N : Mem} {a1 : Int32} {a2 : Int32} {r : Int32} (h : fX12_isNext N a1 a2 = some r) : MI l yX12_isNext cX12_isNext 3 .boolean 1 22 G [.ref (G.2.1 0), .int a1, .int a2] M N r M N := by
  unfold fX12_isNext at h
  refine MI_of (own := RX12) (by decide) rfl (Nat.le_of_ble_eq_true rfl) ?_
  intro p e s m args below meth c F S ls hl
  have hx := F.1
  have hb := F.2.1
  have hown := F.2.2.2.2.1
  have hts := F.2.2.2.2.2.1
  have hZ := F.2.2.2.2.2.2.2.2.2
  have hl : lv_has ls 3 [(0, .ref (G.2.1 0)), (1, .int a1), (2, .int a2)] := hl
  generalize s.heap = H, ([] : List Loc) = locs at S ⊢
  refine lv_aload_n (pc := 0) hx hb dX12_isNext_0 rfl (lv_at hl 0 rfl) ?_
  obtain ⟨v1, e2, h⟩ := ob_out h
  refine r_gN (pc := 1) (k := 11) F S e2 (by decide) cl12 inRX12 (by decide) w914 (fun _ => rfl) dX12_isNext_1 ?_
  refine lv_if_ne (pc := 4) (tgt := 39) hx hb dX12_isNext_4 (by decide) (fun c3 => ?_) (fun c3 => ?_)
  · replace h := (if_neg c3).symm.trans h
    refine lv_iconst (pc := 39) (v := 0) hx hb dX12_isNext_39 (by decide) ?_
    cases h
    exact r_iret (pc := 40) F S rfl dX12_isNext_40
  · replace h := (if_pos c3).symm.trans h
    refine lv_aload_n (pc := 7) hx hb dX12_isNext_7 rfl (lv_at hl 0 rfl) ?_
    obtain ⟨v4, e5, h⟩ := ob_out h
    refine r_gN (pc := 8) (k := 10) F S e5 (by decide) cl12 inRX12 (by decide) w913 (fun _ => rfl) dX12_isNext_8 ?_
    refine lv_aload_n (pc := 11) hx hb dX12_isNext_11 rfl (lv_at hl 0 rfl) ?_
    obtain ⟨v6, e7, h⟩ := ob_out h
    refine r_gN (pc := 12) (k := 7) F S e7 (by decide) cl12 inRX12 (by decide) w910 (fun _ => rfl) dX12_isNext_12 ?_
    refine lv_icmp_ge (pc := 15) (tgt := 39) hx hb dX12_isNext_15 (by decide) (fun c8 => ?_) (fun c8 => ?_)
    · replace h := (if_pos c8).symm.trans h
      refine lv_iconst (pc := 39) (v := 0) hx hb dX12_isNext_39 (by decide) ?_
      cases h
      exact r_iret (pc := 40) F S rfl dX12_isNext_40
    · replace h := (if_neg c8).symm.trans h
      refine lv_aload_n (pc := 18) hx hb dX12_isNext_18 rfl (lv_at hl 0 rfl) ?_
      refine r_gR (pc := 19) (k := 6) (x := 6) (i := 0) (ci := 12) F S (by decide) (by decide) cl12 inRX12 (by decide) w909 (fun _ => rfl) dX12_isNext_19 ?_
      refine lv_aload_n (pc := 22) hx hb dX12_isNext_22 rfl (lv_at hl 0 rfl) ?_
      obtain ⟨v9, e10, h⟩ := ob_out h
      refine r_gN (pc := 23) (k := 10) F S e10 (by decide) cl12 inRX12 (by decide) w913 (fun _ => rfl) dX12_isNext_23 ?_
      obtain ⟨v11, e12, h⟩ := ob_out h
      refine r_nL (pc := 26) F S e12 dX12_isNext_26 ?_
      refine lv_iload_n (pc := 27) hx hb dX12_isNext_27 rfl (lv_at hl 1 rfl) ?_
      refine lv_iload_n (pc := 28) hx hb dX12_isNext_28 rfl (lv_at hl 2 rfl) ?_
      obtain ⟨v14, e13, h⟩ := ob_out h
      refine c_sI (pc := 29) (rest := []) F S (tX12_in e13) mfX12_in w972 ⟨Nat.le_of_ble_eq_true rfl, Nat.le_of_ble_eq_true rfl⟩ rfl hl.1 rfl (Nat.le_of_ble_eq_true rfl) dX12_isNext_29 (fun H locs S => ?_)
      refine lv_if_eq (pc := 32) (tgt := 39) hx hb dX12_isNext_32 (by decide) (fun c15 => ?_) (fun c15 => ?_)
      · replace h := (if_pos c15).symm.trans h
        refine lv_iconst (pc := 39) (v := 0) hx hb dX12_isNext_39 (by decide) ?_
        cases h
        exact r_iret (pc := 40) F S rfl dX12_isNext_40
      · replace h := (if_neg c15).symm.trans h
        refine lv_iconst (pc := 35) (v := 1) hx hb dX12_isNext_35 (by decide) ?_
        refine lv_goto (pc := 36) (tgt := 40) hx hb dX12_isNext_36 (by decide) ?_
        cases h
        exact r_iret (pc := 40) F S rfl dX12_isNext_40
theorem mfX12_number : MF true yX12_number RX12 cX12_number 4 (some .int) 2 := ⟨w1126, w13, by rw [if_pos rfl]; exact ⟨w1125, wp37⟩, ⟨by decide, by decide⟩, by decide +kernel⟩
set_option maxHeartbeats 4000000 in
theorem pX12_number_L14 {p : Program} {l : Launch} {e : Env} {s : State} {m : MethodId} {args : Array Value} {below : List Frame} {meth : Method} {c : Code} {Q : State → Prop} {G : GD} (F : FX p s m args meth c RX12 cX12_number 4 (some .int) G) : ∀ (n : Nat) {M N : Mem} {a2 : Int32} {a3 : Int32} {H : Heap} {locs : List Loc} {ls : Array Slot} {o3 : Int32} {Mo : Mem}, ST G M N s H locs → lv_has ls 4 [(0, .ref (G.2.1 0)), (2, .int a2), (3, .int a3)] → fX12_number_L14 n N a2 a3 = some (o3, Mo) → (K1 : ∀ (H : Heap) (locs : List Loc) (ls : Array Slot), ST G M Mo s H locs → lv_has ls 4 [(3, .int o3)] → W p l e (Rm 2 45) s m args below meth c H locs 0 0 Q (F0 m 70 ls [])) → W p l e (Rm 2 45) s m args below meth c H locs 0 0 Q (F0 m 14 ls []) := by
  intro n
  induction n with
  | zero => intro M N a2 a3 H locs ls o3 Mo S hl h K1; cases h
  | succ n ih =>
    intro M N a2 a3 H locs ls o3 Mo S hl h K1
    rw [fX12_number_L14] at h
    have hx := F.1
    have hb := F.2.1
    have hown := F.2.2.2.2.1
    have hts := F.2.2.2.2.2.1
    have hZ := F.2.2.2.2.2.2.2.2.2
    refine lv_iload_n (pc := 14) hx hb dX12_number_14 rfl (lv_at hl 2 rfl) ?_
    refine lv_if_le (pc := 15) (tgt := 70) hx hb dX12_number_15 (by decide) (fun c6 => ?_) (fun c6 => ?_)
    · replace h := (if_pos c6).symm.trans h
      cases h
      exact K1 H locs ls S (lv_sub hl [2] rfl)
    · replace h := (if_neg c6).symm.trans h
      refine lv_aload_n (pc := 18) hx hb dX12_number_18 rfl (lv_at hl 0 rfl) ?_
      refine lv_bipush (pc := 19) (v := 48) hx hb dX12_number_19 (by decide) ?_
      refine lv_bipush (pc := 21) (v := 57) hx hb dX12_number_21 (by decide) ?_
      obtain ⟨v8, e7, h⟩ := ob_out h
      refine c_vI (pc := 23) (rest := []) F S (tX12_isNext e7) mfX12_isNext (by decide) (by decide) cl12 w1131 ⟨Nat.le_of_ble_eq_true rfl, Nat.le_of_ble_eq_true rfl⟩ rfl hl.1 rfl (Nat.le_of_ble_eq_true rfl) dX12_number_23 (fun H locs S => ?_)
      refine lv_if_eq (pc := 26) (tgt := 70) hx hb dX12_number_26 (by decide) (fun c9 => ?_) (fun c9 => ?_)
      · replace h := (if_pos c9).symm.trans h
        cases h
        exact K1 H locs ls S (lv_sub hl [2] rfl)
      · replace h := (if_neg c9).symm.trans h
        refine lv_bipush (pc := 29) (v := 10) hx hb dX12_number_29 (by decide) ?_
        refine lv_iload_n (pc := 31) hx hb dX12_number_31 rfl (lv_at hl 2 rfl) ?_
        refine lv_imul (pc := 32) hx hb dX12_number_32 ?_
        refine lv_aload_n (pc := 33) hx hb dX12_number_33 rfl (lv_at hl 0 rfl) ?_
        refine r_gR (pc := 34) (k := 6) (x := 6) (i := 0) (ci := 12) F S (by decide) (by decide) cl12 inRX12 (by decide) w909 (fun _ => rfl) dX12_number_34 ?_
        refine lv_aload_n (pc := 37) hx hb dX12_number_37 rfl (lv_at hl 0 rfl) ?_
        obtain ⟨v10, e11, h⟩ := ob_out h
        refine r_gN (pc := 38) (k := 10) F S e11 (by decide) cl12 inRX12 (by decide) w913 (fun _ => rfl) dX12_number_38 ?_
        obtain ⟨v12, e13, h⟩ := ob_out h
        refine r_nL (pc := 41) F S e13 dX12_number_41 ?_
        refine lv_iadd (pc := 42) hx hb dX12_number_42 ?_
        refine lv_bipush (pc := 43) (v := 48) hx hb dX12_number_43 (by decide) ?_
        refine lv_isub (pc := 45) hx hb dX12_number_45 ?_
        refine lv_iload_n (pc := 46) hx hb dX12_number_46 rfl (lv_at hl 1 rfl) ?_
        refine lv_icmp_gt (pc := 47) (tgt := 70) hx hb dX12_number_47 (by decide) (fun c14 => ?_) (fun c14 => ?_)
        · replace h := (if_pos c14).symm.trans h
          cases h
          exact K1 H locs ls S (lv_sub hl [2] rfl)
        · replace h := (if_neg c14).symm.trans h
          refine lv_bipush (pc := 50) (v := 10) hx hb dX12_number_50 (by decide) ?_
          refine lv_iload_n (pc := 52) hx hb dX12_number_52 rfl (lv_at hl 2 rfl) ?_
          refine lv_imul (pc := 53) hx hb dX12_number_53 ?_
          refine lv_aload_n (pc := 54) hx hb dX12_number_54 rfl (lv_at hl 0 rfl) ?_
          refine lv_bipush (pc := 55) (v := 48) hx hb dX12_number_55 (by decide) ?_
          refine lv_bipush (pc := 57) (v := 57) hx hb dX12_number_57 (by decide) ?_
          obtain ⟨v16, M17, e15, h⟩ := ob2_out h
          refine c_vI (pc := 59) (rest := [.int (10 * a3)]) F S (tX12_sign e15) mfX12_sign (by decide) (by decide) cl12 w1127 ⟨Nat.le_of_ble_eq_true rfl, Nat.le_of_ble_eq_true rfl⟩ rfl hl.1 rfl (Nat.le_of_ble_eq_true rfl) dX12_number_59 (fun H locs S => ?_)
          refine lv_iadd (pc := 62) hx hb dX12_number_62 ?_
          refine lv_bipush (pc := 63) (v := 48) hx hb dX12_number_63 (by decide) ?_
          refine lv_isub (pc := 65) hx hb dX12_number_65 ?_
          obtain ⟨v18, e19, h⟩ := lt1_out h
          refine nm_i e19 ?_
          refine lv_istore_n (pc := 66) (lv' := [(3, .int v18), (0, .ref (G.2.1 0)), (2, .int a2)]) hx hb dX12_number_66 rfl hl (by decide) rfl (fun ls hl => ?_)
          refine lv_goto (pc := 67) (tgt := 14) hx hb dX12_number_67 (by decide) ?_
          exact ih S (lv_sub hl [1, 2, 0] rfl) h K1
set_option maxHeartbeats 4000000 in
theorem tX12_number {l : Launch} {G : GD} {M N Mo : Mem} {a1 : Int32} {a2 : Int32} {r : Int32} (h : fX12_number N a1 a2 = some (r, Mo)) : MI l yX12_number cX12_number 4 .int 2 45 G [.ref (G.2.1 0), .int a1, .int a2] M N r M Mo := by
  unfold fX12_number at h
  refine MI_of (own := RX12) (by decide) rfl (Nat.le_of_ble_eq_true rfl) ?_
  intro p e s m args below meth c F S ls hl
  have hx := F.1
  have hb := F.2.1
  have hown := F.2.2.2.2.1
  have hts := F.2.2.2.2.2.1
  have hZ := F.2.2.2.2.2.2.2.2.2
  have hl : lv_has ls 4 [(0, .ref (G.2.1 0)), (1, .int a1), (2, .int a2)] := hl
  generalize s.heap = H, ([] : List Loc) = locs at S ⊢
  refine lv_aload_n (pc := 0) hx hb dX12_number_0 rfl (lv_at hl 0 rfl) ?_
  refine lv_bipush (pc := 1) (v := 48) hx hb dX12_number_1 (by decide) ?_
  refine lv_iload_n (pc := 3) hx hb dX12_number_3 rfl (lv_at hl 1 rfl) ?_
  refine lv_iadd (pc := 4) hx hb dX12_number_4 ?_
  refine lv_bipush (pc := 5) (v := 57) hx hb dX12_number_5 (by decide) ?_
  obtain ⟨v2, M3, e1, h⟩ := ob2_out h
  refine c_vI (pc := 7) (rest := []) F S (tX12_sign e1) mfX12_sign (by decide) (by decide) cl12 w1127 ⟨Nat.le_of_ble_eq_true rfl, Nat.le_of_ble_eq_true rfl⟩ rfl hl.1 rfl (Nat.le_of_ble_eq_true rfl) dX12_number_7 (fun H locs S => ?_)
  refine lv_bipush (pc := 10) (v := 48) hx hb dX12_number_10 (by decide) ?_
  refine lv_isub (pc := 12) hx hb dX12_number_12 ?_
  obtain ⟨v4, e5, h⟩ := lt1_out h
  refine nm_i e5 ?_
  refine lv_istore_n (pc := 13) (lv' := [(3, .int v4), (0, .ref (G.2.1 0)), (1, .int a1), (2, .int a2)]) hx hb dX12_number_13 rfl hl (by decide) rfl (fun ls hl => ?_)
  obtain ⟨v7, M6, e8, h⟩ := ob2_out h
  refine pX12_number_L14 F 5000 S (lv_sub hl [1, 3, 0] rfl) e8 (fun H locs ls S hl => ?_)
  refine lv_iload_n (pc := 70) hx hb dX12_number_70 rfl (lv_at hl 0 rfl) ?_
  cases h
  exact r_iret (pc := 71) F S rfl dX12_number_71
theorem mfX12_readLamps : MF true yX12_readLamps RX12 cX12_readLamps 6 none 0 := ⟨w1122, w13, by rw [if_pos rfl]; exact ⟨w1121, wp36⟩, ⟨by decide, by decide⟩, by decide +kernel⟩
set_option maxHeartbeats 4000000 in
theorem pX12_readLamps_L7 {p : Program} {l : Launch} {e : Env} {s : State} {m : MethodId} {args : Array Value} {below : List Frame} {meth : Method} {c : Code} {Q : State → Prop} {G : GD} (F : FX p s m args meth c RX12 cX12_readLamps 6 none G) : ∀ (n : Nat) {M N : Mem} {a1 : Int32} {H : Heap} {locs : List Loc} {ls : Array Slot} {Mo : Mem}, ST G M N s H locs → lv_has ls 6 [(0, .ref (G.2.1 0)), (1, .int a1)] → fX12_readLamps_L7 n N a1 = some Mo → (K1 : ∀ (H : Heap) (locs : List Loc) (ls : Array Slot), ST G M Mo s H locs → lv_has ls 6 [(0, .ref (G.2.1 0))] → W p l e (Rm 3 68) s m args below meth c H locs 0 0 Q (F0 m 130 ls [])) → W p l e (Rm 3 68) s m args below meth c H locs 0 0 Q (F0 m 7 ls []) := by
  intro n
  induction n with
  | zero => intro M N a1 H locs ls Mo S hl h K1; cases h
  | succ n ih =>
    intro M N a1 H locs ls Mo S hl h K1
    rw [fX12_readLamps_L7] at h
    have hx := F.1
    have hb := F.2.1
    have hown := F.2.2.2.2.1
    have hts := F.2.2.2.2.2.1
    have hZ := F.2.2.2.2.2.2.2.2.2
    refine lv_iload_n (pc := 7) hx hb dX12_readLamps_7 rfl (lv_at hl 1 rfl) ?_
    refine lv_if_eq (pc := 8) (tgt := 130) hx hb dX12_readLamps_8 (by decide) (fun c3 => ?_) (fun c3 => ?_)
    · replace h := (if_pos c3).symm.trans h
      cases h
      exact K1 H locs ls S (lv_sub hl [0] rfl)
    · replace h := (if_neg c3).symm.trans h
      refine lv_aload_n (pc := 11) hx hb dX12_readLamps_11 rfl (lv_at hl 0 rfl) ?_
      refine lv_iconst (pc := 12) (v := 0) hx hb dX12_readLamps_12 (by decide) ?_
      refine lv_bipush (pc := 13) (v := 11) hx hb dX12_readLamps_13 (by decide) ?_
      obtain ⟨v5, M6, e4, h⟩ := ob2_out h
      refine c_vI (pc := 15) (rest := []) F S (tX12_number e4) mfX12_number (by decide) (by decide) cl12 w1123 ⟨Nat.le_of_ble_eq_true rfl, Nat.le_of_ble_eq_true rfl⟩ rfl hl.1 rfl (Nat.le_of_ble_eq_true rfl) dX12_readLamps_15 (fun H locs S => ?_)
      refine lv_istore_n (pc := 18) (lv' := [(2, .int v5), (0, .ref (G.2.1 0)), (1, .int a1)]) hx hb dX12_readLamps_18 rfl hl (by decide) rfl (fun ls hl => ?_)
      refine lv_aload_n (pc := 19) hx hb dX12_readLamps_19 rfl (lv_at hl 1 rfl) ?_
      refine lv_bipush (pc := 20) (v := 62) hx hb dX12_readLamps_20 (by decide) ?_
      refine lv_bipush (pc := 22) (v := 62) hx hb dX12_readLamps_22 (by decide) ?_
      obtain ⟨v8, e7, h⟩ := ob_out h
      refine c_vI (pc := 24) (rest := []) F S (tX12_isNext e7) mfX12_isNext (by decide) (by decide) cl12 w1131 ⟨Nat.le_of_ble_eq_true rfl, Nat.le_of_ble_eq_true rfl⟩ rfl hl.1 rfl (Nat.le_of_ble_eq_true rfl) dX12_readLamps_24 (fun H locs S => ?_)
      refine lv_istore_n (pc := 27) (lv' := [(3, .int v8), (2, .int v5), (0, .ref (G.2.1 0)), (1, .int a1)]) hx hb dX12_readLamps_27 rfl hl (by decide) rfl (fun ls hl => ?_)
      refine lv_iload_n (pc := 28) hx hb dX12_readLamps_28 rfl (lv_at hl 0 rfl) ?_
      obtain ⟨v9, M10, d11, h⟩ := ob2_out h
      have J12 : ∀ (H : Heap) (locs : List Loc) (ls : Array Slot), ST G M M10 s H locs → lv_has ls 6 [(0, .ref (G.2.1 0)), (2, .int v5), (3, .int v8)] → W p l e (Rm 3 68) s m args below meth c H locs 0 0 Q (F0 m 44 ls [.int v9]) := by
        intro H locs ls S hl
        refine lv_istore (pc := 44) (lv' := [(4, .int v9), (0, .ref (G.2.1 0)), (2, .int v5), (3, .int v8)]) hx hb dX12_readLamps_44 hl (by decide) rfl (fun ls hl => ?_)
        refine lv_iload_n (pc := 46) hx hb dX12_readLamps_46 rfl (lv_at hl 3 rfl) ?_
        obtain ⟨v13, M14, d15, h⟩ := ob2_out h
        have J16 : ∀ (H : Heap) (locs : List Loc) (ls : Array Slot), ST G M M14 s H locs → lv_has ls 6 [(0, .ref (G.2.1 0)), (2, .int v5)] → W p l e (Rm 3 68) s m args below meth c H locs 0 0 Q (F0 m 61 ls [.int v13]) := by
          intro H locs ls S hl
          refine lv_istore (pc := 61) (lv' := [(4, .int v13), (0, .ref (G.2.1 0)), (2, .int v5)]) hx hb dX12_readLamps_61 hl (by decide) rfl (fun ls hl => ?_)
          refine lv_aload_n (pc := 63) hx hb dX12_readLamps_63 rfl (lv_at hl 1 rfl) ?_
          refine r_gR (pc := 64) (k := 12) (x := 9) (i := 0) (ci := 12) F S (by decide) (by decide) cl12 inRX12 (by decide) w915 (fun _ => rfl) dX12_readLamps_64 ?_
          refine lv_iconst (pc := 67) (v := 2) hx hb dX12_readLamps_67 (by decide) ?_
          refine lv_aload_n (pc := 68) hx hb dX12_readLamps_68 rfl (lv_at hl 1 rfl) ?_
          obtain ⟨v17, e18, h⟩ := ob_out h
          refine r_gN (pc := 69) (k := 13) F S e18 (by decide) cl12 inRX12 (by decide) w916 (fun _ => rfl) dX12_readLamps_69 ?_
          refine lv_imul (pc := 72) hx hb dX12_readLamps_72 ?_
          refine lv_iload_n (pc := 73) hx hb dX12_readLamps_73 rfl (lv_at hl 2 rfl) ?_
          obtain ⟨M19, e20, h⟩ := ob_out h
          refine r_nS (pc := 74) F S e20 dX12_readLamps_74 (fun H locs S => ?_)
          refine lv_aload_n (pc := 75) hx hb dX12_readLamps_75 rfl (lv_at hl 1 rfl) ?_
          refine r_gR (pc := 76) (k := 12) (x := 9) (i := 0) (ci := 12) F S (by decide) (by decide) cl12 inRX12 (by decide) w915 (fun _ => rfl) dX12_readLamps_76 ?_
          refine lv_iconst (pc := 79) (v := 2) hx hb dX12_readLamps_79 (by decide) ?_
          refine lv_aload_n (pc := 80) hx hb dX12_readLamps_80 rfl (lv_at hl 1 rfl) ?_
          obtain ⟨v21, e22, h⟩ := ob_out h
          refine r_gN (pc := 81) (k := 13) F S e22 (by decide) cl12 inRX12 (by decide) w916 (fun _ => rfl) dX12_readLamps_81 ?_
          refine lv_imul (pc := 84) hx hb dX12_readLamps_84 ?_
          refine lv_iconst (pc := 85) (v := 1) hx hb dX12_readLamps_85 (by decide) ?_
          refine lv_iadd (pc := 86) hx hb dX12_readLamps_86 ?_
          refine lv_iload (pc := 87) hx hb dX12_readLamps_87 (lv_at hl 0 rfl) ?_
          obtain ⟨M23, e24, h⟩ := ob_out h
          refine r_nS (pc := 89) F S e24 dX12_readLamps_89 (fun H locs S => ?_)
          refine lv_aload_n (pc := 90) hx hb dX12_readLamps_90 rfl (lv_at hl 1 rfl) ?_
          refine lv_dup (pc := 91) hx hb dX12_readLamps_91 rfl ?_
          obtain ⟨v25, e26, h⟩ := ob_out h
          refine r_gN (pc := 92) (k := 13) F S e26 (by decide) cl12 inRX12 (by decide) w916 (fun _ => rfl) dX12_readLamps_92 ?_
          refine lv_iconst (pc := 95) (v := 1) hx hb dX12_readLamps_95 (by decide) ?_
          refine lv_iadd (pc := 96) hx hb dX12_readLamps_96 ?_
          obtain ⟨M27, e28, h⟩ := ob_out h
          refine r_pN (pc := 97) (k := 13) (ty0 := tyX12) F S e28 (by decide) cl12 inRX12 tyX12_ok nmX12 (by decide) w916 rfl (by decide +kernel) (fun _ => Nat.le_of_ble_eq_true rfl) (fun _ => pf_12_13) dX12_readLamps_97 (fun H locs S => ?_)
          refine lv_aload_n (pc := 100) hx hb dX12_readLamps_100 rfl (lv_at hl 1 rfl) ?_
          refine lv_bipush (pc := 101) (v := 43) hx hb dX12_readLamps_101 (by decide) ?_
          refine lv_bipush (pc := 103) (v := 43) hx hb dX12_readLamps_103 (by decide) ?_
          obtain ⟨v30, e29, h⟩ := ob_out h
          refine c_vI (pc := 105) (rest := []) F S (tX12_isNext e29) mfX12_isNext (by decide) (by decide) cl12 w1131 ⟨Nat.le_of_ble_eq_true rfl, Nat.le_of_ble_eq_true rfl⟩ rfl hl.1 rfl (Nat.le_of_ble_eq_true rfl) dX12_readLamps_105 (fun H locs S => ?_)
          refine lv_istore_n (pc := 108) (lv' := [(1, .int v30), (4, .int v13), (0, .ref (G.2.1 0)), (2, .int v5)]) hx hb dX12_readLamps_108 rfl hl (by decide) rfl (fun ls hl => ?_)
          refine lv_iload_n (pc := 109) hx hb dX12_readLamps_109 rfl (lv_at hl 0 rfl) ?_
          refine lv_if_eq (pc := 110) (tgt := 124) hx hb dX12_readLamps_110 (by decide) (fun c31 => ?_) (fun c31 => ?_)
          · replace h := (if_pos c31).symm.trans h
            refine lv_iconst (pc := 124) (v := 0) hx hb dX12_readLamps_124 (by decide) ?_
            refine lv_istore (pc := 125) (lv' := [(5, .int 0), (1, .int v30), (4, .int v13), (0, .ref (G.2.1 0)), (2, .int v5)]) hx hb dX12_readLamps_125 hl (by decide) rfl (fun ls hl => ?_)
            refine lv_goto (pc := 127) (tgt := 7) hx hb dX12_readLamps_127 (by decide) ?_
            exact ih S (lv_sub hl [3, 1] rfl) h K1
          · replace h := (if_neg c31).symm.trans h
            refine lv_aload_n (pc := 113) hx hb dX12_readLamps_113 rfl (lv_at hl 2 rfl) ?_
            refine lv_bipush (pc := 114) (v := 43) hx hb dX12_readLamps_114 (by decide) ?_
            refine lv_bipush (pc := 116) (v := 43) hx hb dX12_readLamps_116 (by decide) ?_
            obtain ⟨v33, M34, e32, h⟩ := ob2_out h
            refine c_vI (pc := 118) (rest := []) F S (tX12_sign e32) mfX12_sign (by decide) (by decide) cl12 w1127 ⟨Nat.le_of_ble_eq_true rfl, Nat.le_of_ble_eq_true rfl⟩ rfl hl.1 rfl (Nat.le_of_ble_eq_true rfl) dX12_readLamps_118 (fun H locs S => ?_)
            refine lv_goto (pc := 121) (tgt := 125) hx hb dX12_readLamps_121 (by decide) ?_
            refine lv_istore (pc := 125) (lv' := [(5, .int v33), (1, .int v30), (4, .int v13), (0, .ref (G.2.1 0)), (2, .int v5)]) hx hb dX12_readLamps_125 hl (by decide) rfl (fun ls hl => ?_)
            refine lv_goto (pc := 127) (tgt := 7) hx hb dX12_readLamps_127 (by decide) ?_
            exact ih S (lv_sub hl [3, 1] rfl) h K1
        refine lv_if_eq (pc := 47) (tgt := 60) hx hb dX12_readLamps_47 (by decide) (fun c35 => ?_) (fun c35 => ?_)
        · replace d15 := (if_pos c35).symm.trans d15
          refine lv_iload_n (pc := 60) hx hb dX12_readLamps_60 rfl (lv_at hl 2 rfl) ?_
          cases d15
          exact J16 H locs ls S (lv_sub hl [1, 2] rfl)
        · replace d15 := (if_neg c35).symm.trans d15
          refine lv_aload_n (pc := 50) hx hb dX12_readLamps_50 rfl (lv_at hl 1 rfl) ?_
          refine lv_iconst (pc := 51) (v := 0) hx hb dX12_readLamps_51 (by decide) ?_
          refine lv_bipush (pc := 52) (v := 11) hx hb dX12_readLamps_52 (by decide) ?_
          obtain ⟨v37, M38, e36, d15⟩ := ob2_out d15
          refine c_vI (pc := 54) (rest := []) F S (tX12_number e36) mfX12_number (by decide) (by decide) cl12 w1123 ⟨Nat.le_of_ble_eq_true rfl, Nat.le_of_ble_eq_true rfl⟩ rfl hl.1 rfl (Nat.le_of_ble_eq_true rfl) dX12_readLamps_54 (fun H locs S => ?_)
          refine lv_goto (pc := 57) (tgt := 61) hx hb dX12_readLamps_57 (by decide) ?_
          cases d15
          exact J16 H locs ls S (lv_sub hl [1, 2] rfl)
      refine lv_if_eq (pc := 29) (tgt := 43) hx hb dX12_readLamps_29 (by decide) (fun c39 => ?_) (fun c39 => ?_)
      · replace d11 := (if_pos c39).symm.trans d11
        refine lv_iconst (pc := 43) (v := 0) hx hb dX12_readLamps_43 (by decide) ?_
        cases d11
        exact J12 H locs ls S (lv_sub hl [2, 1, 0] rfl)
      · replace d11 := (if_neg c39).symm.trans d11
        refine lv_aload_n (pc := 32) hx hb dX12_readLamps_32 rfl (lv_at hl 2 rfl) ?_
        refine lv_bipush (pc := 33) (v := 62) hx hb dX12_readLamps_33 (by decide) ?_
        refine lv_bipush (pc := 35) (v := 62) hx hb dX12_readLamps_35 (by decide) ?_
        obtain ⟨v41, M42, e40, d11⟩ := ob2_out d11
        refine c_vI (pc := 37) (rest := []) F S (tX12_sign e40) mfX12_sign (by decide) (by decide) cl12 w1127 ⟨Nat.le_of_ble_eq_true rfl, Nat.le_of_ble_eq_true rfl⟩ rfl hl.1 rfl (Nat.le_of_ble_eq_true rfl) dX12_readLamps_37 (fun H locs S => ?_)
        refine lv_goto (pc := 40) (tgt := 44) hx hb dX12_readLamps_40 (by decide) ?_
        cases d11
        exact J12 H locs ls S (lv_sub hl [2, 1, 0] rfl)
set_option maxHeartbeats 4000000 in
theorem tX12_readLamps {l : Launch} {G : GD} {M N Mo : Mem} (h : fX12_readLamps N = some Mo) : MV l yX12_readLamps cX12_readLamps 6 3 68 G [.ref (G.2.1 0)] M N M Mo := by
  unfold fX12_readLamps at h
  refine MV_of (own := RX12) (by decide) rfl (Nat.le_of_ble_eq_true rfl) ?_
  intro p e s m args below meth c F S ls hl
  have hx := F.1
  have hb := F.2.1
  have hown := F.2.2.2.2.1
  have hts := F.2.2.2.2.2.1
  have hZ := F.2.2.2.2.2.2.2.2.2
  have hl : lv_has ls 6 [(0, .ref (G.2.1 0))] := hl
  generalize s.heap = H, ([] : List Loc) = locs at S ⊢
  refine lv_aload_n (pc := 0) hx hb dX12_readLamps_0 rfl (lv_at hl 0 rfl) ?_
  refine lv_iconst (pc := 1) (v := 0) hx hb dX12_readLamps_1 (by decide) ?_
  obtain ⟨M1, e2, h⟩ := ob_out h
  refine r_pN (pc := 2) (k := 13) (ty0 := tyX12) F S e2 (by decide) cl12 inRX12 tyX12_ok nmX12 (by decide) w916 rfl (by decide +kernel) (fun _ => Nat.le_of_ble_eq_true rfl) (fun _ => pf_12_13) dX12_readLamps_2 (fun H locs S => ?_)
  refine lv_iconst (pc := 5) (v := 1) hx hb dX12_readLamps_5 (by decide) ?_
  refine lv_istore_n (pc := 6) (lv' := [(1, .int 1), (0, .ref (G.2.1 0))]) hx hb dX12_readLamps_6 rfl hl (by decide) rfl (fun ls hl => ?_)
  obtain ⟨M3, e4, h⟩ := ob_out h
  refine pX12_readLamps_L7 F 5000 S (lv_sub hl [1, 0] rfl) e4 (fun H locs ls S hl => ?_)
  refine lv_aload_n (pc := 130) hx hb dX12_readLamps_130 rfl (lv_at hl 0 rfl) ?_
  refine lv_bipush (pc := 131) (v := 64) hx hb dX12_readLamps_131 (by decide) ?_
  refine lv_bipush (pc := 133) (v := 64) hx hb dX12_readLamps_133 (by decide) ?_
  obtain ⟨v6, M7, e5, h⟩ := ob2_out h
  refine c_vI (pc := 135) (rest := []) F S (tX12_sign e5) mfX12_sign (by decide) (by decide) cl12 w1127 ⟨Nat.le_of_ble_eq_true rfl, Nat.le_of_ble_eq_true rfl⟩ rfl hl.1 rfl (Nat.le_of_ble_eq_true rfl) dX12_readLamps_135 (fun H locs S => ?_)
  refine lv_istore_n (pc := 138) (lv' := [(2, .int v6), (0, .ref (G.2.1 0))]) hx hb dX12_readLamps_138 rfl hl (by decide) rfl (fun ls hl => ?_)
  refine lv_aload_n (pc := 139) hx hb dX12_readLamps_139 rfl (lv_at hl 1 rfl) ?_
  refine lv_aload_n (pc := 140) hx hb dX12_readLamps_140 rfl (lv_at hl 1 rfl) ?_
  refine lv_iconst (pc := 141) (v := 0) hx hb dX12_readLamps_141 (by decide) ?_
  refine lv_bipush (pc := 142) (v := 100) hx hb dX12_readLamps_142 (by decide) ?_
  obtain ⟨v9, M10, e8, h⟩ := ob2_out h
  refine c_vI (pc := 144) (rest := [.ref (G.2.1 0)]) F S (tX12_number e8) mfX12_number (by decide) (by decide) cl12 w1123 ⟨Nat.le_of_ble_eq_true rfl, Nat.le_of_ble_eq_true rfl⟩ rfl hl.1 rfl (Nat.le_of_ble_eq_true rfl) dX12_readLamps_144 (fun H locs S => ?_)
  obtain ⟨M11, e12, h⟩ := ob_out h
  refine r_pN (pc := 147) (k := 15) (ty0 := tyX12) F S e12 (by decide) cl12 inRX12 tyX12_ok nmX12 (by decide) w918 rfl (by decide +kernel) (fun _ => Nat.le_of_ble_eq_true rfl) (fun _ => pf_12_15) dX12_readLamps_147 (fun H locs S => ?_)
  cases h
  exact r_vret (pc := 150) F S dX12_readLamps_150
