/-! the walks: each method does what its function says -/
theorem mfX12_inCue : MF true yX12_inCue RX12 cX12_inCue 4 (some .int) 3 := ⟨w1174, w13, by rw [if_pos rfl]; exact ⟨w1172, w1173⟩, ⟨by decide, by decide⟩, by decide +kernel⟩
set_option maxHeartbeats 4000000 in
theorem tX12_inCue {l : Launch} {G : GD} {M N : Mem} {a1 : Int32} {a2 : Int32} {a3 : Int32} {r : Int32} (h : fX12_inCue N a1 a2 a3 = some r) : MI l yX12_inCue cX12_inCue 4 .int 3 64 G [.ref (G.2.1 0), .int a1, .int a2, .int a3] M N r M N := by
  unfold fX12_inCue at h
  refine MI_of (own := RX12) (by decide) rfl (Nat.le_of_ble_eq_true rfl) ?_
  intro p e s m args below meth c F S ls hl
  have hx := F.1
  have hb := F.2.1
  have hown := F.2.2.2.2.1
  have hts := F.2.2.2.2.2.1
  have hZ := F.2.2.2.2.2.2.2.2.2
  have hl : lv_has ls 4 [(0, .ref (G.2.1 0)), (1, .int a1), (2, .int a2), (3, .int a3)] := hl
  generalize s.heap = H, ([] : List Loc) = locs at S ⊢
  refine lv_iload_n (pc := 0) hx hb dX12_inCue_0 rfl (lv_at hl 1 rfl) ?_
  refine lv_iload_n (pc := 1) hx hb dX12_inCue_1 rfl (lv_at hl 2 rfl) ?_
  obtain ⟨v2, e1, h⟩ := ob_out h
  refine c_sI (pc := 2) (rest := []) F S (tX12_isCue e1) mfX12_isCue w1051 ⟨Nat.le_of_ble_eq_true rfl, Nat.le_of_ble_eq_true rfl⟩ rfl hl.1 rfl (Nat.le_of_ble_eq_true rfl) dX12_inCue_2 (fun H locs S => ?_)
  refine lv_if_eq (pc := 5) (tgt := 17) hx hb dX12_inCue_5 (by decide) (fun c3 => ?_) (fun c3 => ?_)
  · replace h := (if_pos c3).symm.trans h
    refine lv_iconst (pc := 17) (v := (-1)) hx hb dX12_inCue_17 (by decide) ?_
    cases h
    exact r_iret (pc := 18) F S rfl dX12_inCue_18
  · replace h := (if_neg c3).symm.trans h
    refine lv_aload_n (pc := 8) hx hb dX12_inCue_8 rfl (lv_at hl 0 rfl) ?_
    refine lv_iload_n (pc := 9) hx hb dX12_inCue_9 rfl (lv_at hl 1 rfl) ?_
    refine lv_iload_n (pc := 10) hx hb dX12_inCue_10 rfl (lv_at hl 3 rfl) ?_
    obtain ⟨v5, e4, h⟩ := ob_out h
    refine c_vI (pc := 11) (rest := []) F S (tX12_isLamp e4) mfX12_isLamp (by decide) (by decide) cl12 w1007 ⟨Nat.le_of_ble_eq_true rfl, Nat.le_of_ble_eq_true rfl⟩ rfl hl.1 rfl (Nat.le_of_ble_eq_true rfl) dX12_inCue_11 (fun H locs S => ?_)
    refine lv_if_ne (pc := 14) (tgt := 19) hx hb dX12_inCue_14 (by decide) (fun c6 => ?_) (fun c6 => ?_)
    · replace h := (if_neg c6).symm.trans h
      refine lv_aload_n (pc := 19) hx hb dX12_inCue_19 rfl (lv_at hl 0 rfl) ?_
      refine r_gR (pc := 20) (k := 0) (x := 1) (i := 0) (ci := 12) F S (by decide) (by decide) cl12 inRX12 (by decide) w903 (fun _ => rfl) dX12_inCue_20 ?_
      refine lv_iload_n (pc := 23) hx hb dX12_inCue_23 rfl (lv_at hl 1 rfl) ?_
      refine lv_iload_n (pc := 24) hx hb dX12_inCue_24 rfl (lv_at hl 2 rfl) ?_
      obtain ⟨v8, e7, h⟩ := ob_out h
      refine c_sI (pc := 25) (rest := [.ref (G.2.1 1)]) F S (tX12_ofCue e7) mfX12_ofCue w1000 ⟨Nat.le_of_ble_eq_true rfl, Nat.le_of_ble_eq_true rfl⟩ rfl hl.1 rfl (Nat.le_of_ble_eq_true rfl) dX12_inCue_25 (fun H locs S => ?_)
      obtain ⟨v9, e10, h⟩ := ob_out h
      refine r_nL (pc := 28) F S e10 dX12_inCue_28 ?_
      refine lv_if_ne (pc := 29) (tgt := 37) hx hb dX12_inCue_29 (by decide) (fun c11 => ?_) (fun c11 => ?_)
      · replace h := (if_neg c11).symm.trans h
        refine lv_aload_n (pc := 37) hx hb dX12_inCue_37 rfl (lv_at hl 0 rfl) ?_
        refine r_gR (pc := 38) (k := 0) (x := 1) (i := 0) (ci := 12) F S (by decide) (by decide) cl12 inRX12 (by decide) w903 (fun _ => rfl) dX12_inCue_38 ?_
        refine lv_iload_n (pc := 41) hx hb dX12_inCue_41 rfl (lv_at hl 1 rfl) ?_
        refine lv_iload_n (pc := 42) hx hb dX12_inCue_42 rfl (lv_at hl 2 rfl) ?_
        obtain ⟨v13, e12, h⟩ := ob_out h
        refine c_sI (pc := 43) (rest := [.ref (G.2.1 1)]) F S (tX12_ofCue e12) mfX12_ofCue w1000 ⟨Nat.le_of_ble_eq_true rfl, Nat.le_of_ble_eq_true rfl⟩ rfl hl.1 rfl (Nat.le_of_ble_eq_true rfl) dX12_inCue_43 (fun H locs S => ?_)
        refine lv_iconst (pc := 46) (v := 1) hx hb dX12_inCue_46 (by decide) ?_
        refine lv_iadd (pc := 47) hx hb dX12_inCue_47 ?_
        refine lv_iload_n (pc := 48) hx hb dX12_inCue_48 rfl (lv_at hl 3 rfl) ?_
        refine lv_iadd (pc := 49) hx hb dX12_inCue_49 ?_
        obtain ⟨v14, e15, h⟩ := ob_out h
        refine r_nL (pc := 50) F S e15 dX12_inCue_50 ?_
        cases h
        exact r_iret (pc := 51) F S rfl dX12_inCue_51
      · replace h := (if_pos c11).symm.trans h
        refine lv_bipush (pc := 32) (v := (-6)) hx hb dX12_inCue_32 (by decide) ?_
        refine lv_goto (pc := 34) (tgt := 51) hx hb dX12_inCue_34 (by decide) ?_
        cases h
        exact r_iret (pc := 51) F S rfl dX12_inCue_51
    · replace h := (if_pos c6).symm.trans h
      refine lv_iconst (pc := 17) (v := (-1)) hx hb dX12_inCue_17 (by decide) ?_
      cases h
      exact r_iret (pc := 18) F S rfl dX12_inCue_18
theorem mfX12_loadOf : MF true yX12_loadOf RX12 cX12_loadOf 2 (some .int) 1 := ⟨w1186, w13, by rw [if_pos rfl]; exact ⟨w1185, wp45⟩, ⟨by decide, by decide⟩, by decide +kernel⟩
set_option maxHeartbeats 4000000 in
theorem tX12_loadOf {l : Launch} {G : GD} {M N : Mem} {a1 : Int32} {r : Int32} (h : fX12_loadOf N a1 = some r) : MI l yX12_loadOf cX12_loadOf 2 .int 5 115 G [.ref (G.2.1 0), .int a1] M N r M N := by
  unfold fX12_loadOf at h
  refine MI_of (own := RX12) (by decide) rfl (Nat.le_of_ble_eq_true rfl) ?_
  intro p e s m args below meth c F S ls hl
  have hx := F.1
  have hb := F.2.1
  have hown := F.2.2.2.2.1
  have hts := F.2.2.2.2.2.1
  have hZ := F.2.2.2.2.2.2.2.2.2
  have hl : lv_has ls 2 [(0, .ref (G.2.1 0)), (1, .int a1)] := hl
  generalize s.heap = H, ([] : List Loc) = locs at S ⊢
  refine lv_aload_n (pc := 0) hx hb dX12_loadOf_0 rfl (lv_at hl 0 rfl) ?_
  refine lv_iload_n (pc := 1) hx hb dX12_loadOf_1 rfl (lv_at hl 1 rfl) ?_
  refine lv_bipush (pc := 2) (v := 12) hx hb dX12_loadOf_2 (by decide) ?_
  obtain ⟨v2, e1, h⟩ := ob_out h
  refine c_vI (pc := 4) (rest := []) F S (tX12_load e1) mfX12_load (by decide) (by decide) cl12 w1090 ⟨Nat.le_of_ble_eq_true rfl, Nat.le_of_ble_eq_true rfl⟩ rfl hl.1 rfl (Nat.le_of_ble_eq_true rfl) dX12_loadOf_4 (fun H locs S => ?_)
  refine lv_aload_n (pc := 7) hx hb dX12_loadOf_7 rfl (lv_at hl 0 rfl) ?_
  refine lv_iload_n (pc := 8) hx hb dX12_loadOf_8 rfl (lv_at hl 1 rfl) ?_
  refine lv_bipush (pc := 9) (v := 13) hx hb dX12_loadOf_9 (by decide) ?_
  obtain ⟨v4, e3, h⟩ := ob_out h
  refine c_vI (pc := 11) (rest := [.int v2]) F S (tX12_load e3) mfX12_load (by decide) (by decide) cl12 w1090 ⟨Nat.le_of_ble_eq_true rfl, Nat.le_of_ble_eq_true rfl⟩ rfl hl.1 rfl (Nat.le_of_ble_eq_true rfl) dX12_loadOf_11 (fun H locs S => ?_)
  refine lv_iadd (pc := 14) hx hb dX12_loadOf_14 ?_
  refine lv_aload_n (pc := 15) hx hb dX12_loadOf_15 rfl (lv_at hl 0 rfl) ?_
  refine lv_iload_n (pc := 16) hx hb dX12_loadOf_16 rfl (lv_at hl 1 rfl) ?_
  refine lv_bipush (pc := 17) (v := 14) hx hb dX12_loadOf_17 (by decide) ?_
  obtain ⟨v6, e5, h⟩ := ob_out h
  refine c_vI (pc := 19) (rest := [.int (v2 + v4)]) F S (tX12_load e5) mfX12_load (by decide) (by decide) cl12 w1090 ⟨Nat.le_of_ble_eq_true rfl, Nat.le_of_ble_eq_true rfl⟩ rfl hl.1 rfl (Nat.le_of_ble_eq_true rfl) dX12_loadOf_19 (fun H locs S => ?_)
  refine lv_iadd (pc := 22) hx hb dX12_loadOf_22 ?_
  cases h
  exact r_iret (pc := 23) F S rfl dX12_loadOf_23
theorem mfX12_apart : MF true yX12_apart RX12 cX12_apart 6 (some .int) 1 := ⟨w1194, w13, by rw [if_pos rfl]; exact ⟨w1193, wp47⟩, ⟨by decide, by decide⟩, by decide +kernel⟩
set_option maxHeartbeats 4000000 in
theorem pX12_apart_L13 {p : Program} {l : Launch} {e : Env} {s : State} {m : MethodId} {args : Array Value} {below : List Frame} {meth : Method} {c : Code} {Q : State → Prop} {G : GD} (F : FX p s m args meth c RX12 cX12_apart 6 (some .int) G) : ∀ (n : Nat) {M N : Mem} {a1 : Int32} {a2 : Int32} {a3 : Int32} {a4 : Int32} {H : Heap} {locs : List Loc} {ls : Array Slot} {o2 : Int32} {o3 : Int32}, ST G M N s H locs → lv_has ls 6 [(0, .ref (G.2.1 0)), (1, .int a1), (2, .int a2), (3, .int a3), (4, .int a4)] → fX12_apart_L13 n N a1 a2 a3 a4 = some (o2, o3) → (K1 : ∀ (H : Heap) (locs : List Loc) (ls : Array Slot), ST G M N s H locs → lv_has ls 6 [(2, .int o2), (3, .int o3)] → W p l e (Rm 5 115) s m args below meth c H locs 0 0 Q (F0 m 63 ls [])) → W p l e (Rm 5 115) s m args below meth c H locs 0 0 Q (F0 m 13 ls []) := by
  intro n
  induction n with
  | zero => intro M N a1 a2 a3 a4 H locs ls o2 o3 S hl h K1; cases h
  | succ n ih =>
    intro M N a1 a2 a3 a4 H locs ls o2 o3 S hl h K1
    rw [fX12_apart_L13] at h
    have hx := F.1
    have hb := F.2.1
    have hown := F.2.2.2.2.1
    have hts := F.2.2.2.2.2.1
    have hZ := F.2.2.2.2.2.2.2.2.2
    refine lv_iload (pc := 13) hx hb dX12_apart_13 (lv_at hl 4 rfl) ?_
    refine lv_iconst (pc := 15) (v := 3) hx hb dX12_apart_15 (by decide) ?_
    refine lv_icmp_ge (pc := 16) (tgt := 63) hx hb dX12_apart_16 (by decide) (fun c3 => ?_) (fun c3 => ?_)
    · replace h := (if_pos c3).symm.trans h
      cases h
      exact K1 H locs ls S (lv_sub hl [2, 3] rfl)
    · replace h := (if_neg c3).symm.trans h
      refine lv_aload_n (pc := 19) hx hb dX12_apart_19 rfl (lv_at hl 0 rfl) ?_
      refine lv_iload_n (pc := 20) hx hb dX12_apart_20 rfl (lv_at hl 1 rfl) ?_
      refine lv_bipush (pc := 21) (v := 12) hx hb dX12_apart_21 (by decide) ?_
      refine lv_iload (pc := 23) hx hb dX12_apart_23 (lv_at hl 4 rfl) ?_
      refine lv_iadd (pc := 25) hx hb dX12_apart_25 ?_
      obtain ⟨v5, e4, h⟩ := ob_out h
      refine c_vI (pc := 26) (rest := []) F S (tX12_load e4) mfX12_load (by decide) (by decide) cl12 w1090 ⟨Nat.le_of_ble_eq_true rfl, Nat.le_of_ble_eq_true rfl⟩ rfl hl.1 rfl (Nat.le_of_ble_eq_true rfl) dX12_apart_26 (fun H locs S => ?_)
      refine lv_istore (pc := 29) (lv' := [(5, .int v5), (0, .ref (G.2.1 0)), (1, .int a1), (2, .int a2), (3, .int a3), (4, .int a4)]) hx hb dX12_apart_29 hl (by decide) rfl (fun ls hl => ?_)
      refine lv_iload (pc := 31) hx hb dX12_apart_31 (lv_at hl 0 rfl) ?_
      refine lv_iload_n (pc := 33) hx hb dX12_apart_33 rfl (lv_at hl 3 rfl) ?_
      obtain ⟨v6, d7, h⟩ := ob_out h
      have J8 : ∀ (H : Heap) (locs : List Loc) (ls : Array Slot), ST G M N s H locs → lv_has ls 6 [(0, .ref (G.2.1 0)), (1, .int a1), (3, .int a3), (4, .int a4), (5, .int v5)] → W p l e (Rm 5 115) s m args below meth c H locs 0 0 Q (F0 m 43 ls [.int v6]) := by
        intro H locs ls S hl
        refine lv_istore_n (pc := 43) (lv' := [(2, .int v6), (0, .ref (G.2.1 0)), (1, .int a1), (3, .int a3), (4, .int a4), (5, .int v5)]) hx hb dX12_apart_43 rfl hl (by decide) rfl (fun ls hl => ?_)
        refine lv_iload (pc := 44) hx hb dX12_apart_44 (lv_at hl 5 rfl) ?_
        refine lv_iload_n (pc := 46) hx hb dX12_apart_46 rfl (lv_at hl 3 rfl) ?_
        refine lv_icmp_le (pc := 47) (tgt := 55) hx hb dX12_apart_47 (by decide) (fun c9 => ?_) (fun c9 => ?_)
        · replace h := (if_pos c9).symm.trans h
          refine lv_iload_n (pc := 55) hx hb dX12_apart_55 rfl (lv_at hl 3 rfl) ?_
          refine lv_istore_n (pc := 56) (lv' := [(3, .int a3), (2, .int v6), (0, .ref (G.2.1 0)), (1, .int a1), (4, .int a4), (5, .int v5)]) hx hb dX12_apart_56 rfl hl (by decide) rfl (fun ls hl => ?_)
          refine lv_iinc (pc := 57) (lv' := [(4, .int (a4 + 1)), (3, .int a3), (2, .int v6), (0, .ref (G.2.1 0)), (1, .int a1), (5, .int v5)]) hx hb dX12_apart_57 hl (k := 4) rfl (iinc_n (by decide)) (by decide) rfl (fun ls hl => ?_)
          refine lv_goto (pc := 60) (tgt := 13) hx hb dX12_apart_60 (by decide) ?_
          exact ih S (lv_sub hl [3, 4, 2, 1, 0] rfl) h K1
        · replace h := (if_neg c9).symm.trans h
          refine lv_iload (pc := 50) hx hb dX12_apart_50 (lv_at hl 5 rfl) ?_
          refine lv_goto (pc := 52) (tgt := 56) hx hb dX12_apart_52 (by decide) ?_
          refine lv_istore_n (pc := 56) (lv' := [(3, .int v5), (2, .int v6), (0, .ref (G.2.1 0)), (1, .int a1), (4, .int a4), (5, .int v5)]) hx hb dX12_apart_56 rfl hl (by decide) rfl (fun ls hl => ?_)
          refine lv_iinc (pc := 57) (lv' := [(4, .int (a4 + 1)), (3, .int v5), (2, .int v6), (0, .ref (G.2.1 0)), (1, .int a1), (5, .int v5)]) hx hb dX12_apart_57 hl (k := 4) rfl (iinc_n (by decide)) (by decide) rfl (fun ls hl => ?_)
          refine lv_goto (pc := 60) (tgt := 13) hx hb dX12_apart_60 (by decide) ?_
          exact ih S (lv_sub hl [3, 4, 2, 1, 0] rfl) h K1
      refine lv_icmp_ge (pc := 34) (tgt := 42) hx hb dX12_apart_34 (by decide) (fun c10 => ?_) (fun c10 => ?_)
      · replace d7 := (if_pos c10).symm.trans d7
        refine lv_iload_n (pc := 42) hx hb dX12_apart_42 rfl (lv_at hl 3 rfl) ?_
        cases d7
        exact J8 H locs ls S (lv_sub hl [1, 2, 4, 5, 0] rfl)
      · replace d7 := (if_neg c10).symm.trans d7
        refine lv_iload (pc := 37) hx hb dX12_apart_37 (lv_at hl 0 rfl) ?_
        refine lv_goto (pc := 39) (tgt := 43) hx hb dX12_apart_39 (by decide) ?_
        cases d7
        exact J8 H locs ls S (lv_sub hl [1, 2, 4, 5, 0] rfl)
set_option maxHeartbeats 4000000 in
theorem tX12_apart {l : Launch} {G : GD} {M N : Mem} {a1 : Int32} {r : Int32} (h : fX12_apart N a1 = some r) : MI l yX12_apart cX12_apart 6 .int 5 115 G [.ref (G.2.1 0), .int a1] M N r M N := by
  unfold fX12_apart at h
  refine MI_of (own := RX12) (by decide) rfl (Nat.le_of_ble_eq_true rfl) ?_
  intro p e s m args below meth c F S ls hl
  have hx := F.1
  have hb := F.2.1
  have hown := F.2.2.2.2.1
  have hts := F.2.2.2.2.2.1
  have hZ := F.2.2.2.2.2.2.2.2.2
  have hl : lv_has ls 6 [(0, .ref (G.2.1 0)), (1, .int a1)] := hl
  generalize s.heap = H, ([] : List Loc) = locs at S ⊢
  refine lv_aload_n (pc := 0) hx hb dX12_apart_0 rfl (lv_at hl 0 rfl) ?_
  refine lv_iload_n (pc := 1) hx hb dX12_apart_1 rfl (lv_at hl 1 rfl) ?_
  refine lv_bipush (pc := 2) (v := 12) hx hb dX12_apart_2 (by decide) ?_
  obtain ⟨v2, e1, h⟩ := ob_out h
  refine c_vI (pc := 4) (rest := []) F S (tX12_load e1) mfX12_load (by decide) (by decide) cl12 w1090 ⟨Nat.le_of_ble_eq_true rfl, Nat.le_of_ble_eq_true rfl⟩ rfl hl.1 rfl (Nat.le_of_ble_eq_true rfl) dX12_apart_4 (fun H locs S => ?_)
  refine lv_istore_n (pc := 7) (lv' := [(2, .int v2), (0, .ref (G.2.1 0)), (1, .int a1)]) hx hb dX12_apart_7 rfl hl (by decide) rfl (fun ls hl => ?_)
  refine lv_iload_n (pc := 8) hx hb dX12_apart_8 rfl (lv_at hl 0 rfl) ?_
  refine lv_istore_n (pc := 9) (lv' := [(3, .int v2), (2, .int v2), (0, .ref (G.2.1 0)), (1, .int a1)]) hx hb dX12_apart_9 rfl hl (by decide) rfl (fun ls hl => ?_)
  refine lv_iconst (pc := 10) (v := 1) hx hb dX12_apart_10 (by decide) ?_
  refine lv_istore (pc := 11) (lv' := [(4, .int 1), (3, .int v2), (2, .int v2), (0, .ref (G.2.1 0)), (1, .int a1)]) hx hb dX12_apart_11 hl (by decide) rfl (fun ls hl => ?_)
  obtain ⟨v3, v4, e5, h⟩ := ob2_out h
  refine pX12_apart_L13 F 5000 S (lv_sub hl [3, 4, 2, 1, 0] rfl) e5 (fun H locs ls S hl => ?_)
  refine lv_iload_n (pc := 63) hx hb dX12_apart_63 rfl (lv_at hl 1 rfl) ?_
  refine lv_iload_n (pc := 64) hx hb dX12_apart_64 rfl (lv_at hl 0 rfl) ?_
  refine lv_isub (pc := 65) hx hb dX12_apart_65 ?_
  cases h
  exact r_iret (pc := 66) F S rfl dX12_apart_66
theorem mfX12_tripped : MF true yX12_tripped RX12 cX12_tripped 6 (some .int) 3 := ⟨w1190, w13, by rw [if_pos rfl]; exact ⟨w1189, wp46⟩, ⟨by decide, by decide⟩, by decide +kernel⟩
set_option maxHeartbeats 4000000 in
theorem pX12_tripped_L6 {p : Program} {l : Launch} {e : Env} {s : State} {m : MethodId} {args : Array Value} {below : List Frame} {meth : Method} {c : Code} {Q : State → Prop} {G : GD} (F : FX p s m args meth c RX12 cX12_tripped 6 (some .int) G) : ∀ (n : Nat) {M N : Mem} {a1 : Int32} {a2 : Int32} {a3 : Int32} {a4 : Int32} {a5 : Int32} {H : Heap} {locs : List Loc} {ls : Array Slot} {o4 : Int32}, ST G M N s H locs → lv_has ls 6 [(0, .ref (G.2.1 0)), (1, .int a1), (2, .int a2), (3, .int a3), (4, .int a4), (5, .int a5)] → fX12_tripped_L6 n N a1 a2 a3 a4 a5 = some o4 → (K1 : ∀ (H : Heap) (locs : List Loc) (ls : Array Slot), ST G M N s H locs → lv_has ls 6 [(4, .int o4)] → W p l e (Rm 1 21) s m args below meth c H locs 0 0 Q (F0 m 42 ls [])) → W p l e (Rm 1 21) s m args below meth c H locs 0 0 Q (F0 m 6 ls []) := by
  intro n
  induction n with
  | zero => intro M N a1 a2 a3 a4 a5 H locs ls o4 S hl h K1; cases h
  | succ n ih =>
    intro M N a1 a2 a3 a4 a5 H locs ls o4 S hl h K1
    rw [fX12_tripped_L6] at h
    have hx := F.1
    have hb := F.2.1
    have hown := F.2.2.2.2.1
    have hts := F.2.2.2.2.2.1
    have hZ := F.2.2.2.2.2.2.2.2.2
    refine lv_iload (pc := 6) hx hb dX12_tripped_6 (lv_at hl 5 rfl) ?_
    refine lv_iload_n (pc := 8) hx hb dX12_tripped_8 rfl (lv_at hl 3 rfl) ?_
    refine lv_icmp_ge (pc := 9) (tgt := 42) hx hb dX12_tripped_9 (by decide) (fun c1 => ?_) (fun c1 => ?_)
    · replace h := (if_pos c1).symm.trans h
      cases h
      exact K1 H locs ls S (lv_sub hl [4] rfl)
    · replace h := (if_neg c1).symm.trans h
      refine lv_iload (pc := 12) hx hb dX12_tripped_12 (lv_at hl 4 rfl) ?_
      refine lv_aload_n (pc := 14) hx hb dX12_tripped_14 rfl (lv_at hl 0 rfl) ?_
      refine r_gR (pc := 15) (k := 0) (x := 1) (i := 0) (ci := 12) F S (by decide) (by decide) cl12 inRX12 (by decide) w903 (fun _ => rfl) dX12_tripped_15 ?_
      refine lv_iload_n (pc := 18) hx hb dX12_tripped_18 rfl (lv_at hl 1 rfl) ?_
      refine lv_bipush (pc := 19) (v := 87) hx hb dX12_tripped_19 (by decide) ?_
      refine lv_iload_n (pc := 21) hx hb dX12_tripped_21 rfl (lv_at hl 2 rfl) ?_
      refine lv_iadd (pc := 22) hx hb dX12_tripped_22 ?_
      refine lv_iload (pc := 23) hx hb dX12_tripped_23 (lv_at hl 5 rfl) ?_
      refine lv_iadd (pc := 25) hx hb dX12_tripped_25 ?_
      obtain ⟨v3, e2, h⟩ := ob_out h
      refine c_sI (pc := 26) (rest := [.ref (G.2.1 1), .int a4]) F S (tX12_at1 e2) mfX12_at1 w900 ⟨Nat.le_of_ble_eq_true rfl, Nat.le_of_ble_eq_true rfl⟩ rfl hl.1 rfl (Nat.le_of_ble_eq_true rfl) dX12_tripped_26 (fun H locs S => ?_)
      obtain ⟨v4, e5, h⟩ := ob_out h
      refine r_nL (pc := 29) F S e5 dX12_tripped_29 ?_
      refine lv_iload (pc := 30) hx hb dX12_tripped_30 (lv_at hl 5 rfl) ?_
      refine lv_ishl (pc := 32) hx hb dX12_tripped_32 ?_
      refine lv_ior (pc := 33) hx hb dX12_tripped_33 ?_
      obtain ⟨v6, e7, h⟩ := lt1_out h
      refine nm_i e7 ?_
      refine lv_istore (pc := 34) (lv' := [(4, .int v6), (0, .ref (G.2.1 0)), (1, .int a1), (2, .int a2), (3, .int a3), (5, .int a5)]) hx hb dX12_tripped_34 hl (by decide) rfl (fun ls hl => ?_)
      refine lv_iinc (pc := 36) (lv' := [(5, .int (a5 + 1)), (4, .int v6), (0, .ref (G.2.1 0)), (1, .int a1), (2, .int a2), (3, .int a3)]) hx hb dX12_tripped_36 hl (k := 5) rfl (iinc_n (by decide)) (by decide) rfl (fun ls hl => ?_)
      refine lv_goto (pc := 39) (tgt := 6) hx hb dX12_tripped_39 (by decide) ?_
      exact ih S (lv_sub hl [2, 3, 4, 5, 1, 0] rfl) h K1
set_option maxHeartbeats 4000000 in
theorem tX12_tripped {l : Launch} {G : GD} {M N : Mem} {a1 : Int32} {a2 : Int32} {a3 : Int32} {r : Int32} (h : fX12_tripped N a1 a2 a3 = some r) : MI l yX12_tripped cX12_tripped 6 .int 1 21 G [.ref (G.2.1 0), .int a1, .int a2, .int a3] M N r M N := by
  unfold fX12_tripped at h
  refine MI_of (own := RX12) (by decide) rfl (Nat.le_of_ble_eq_true rfl) ?_
  intro p e s m args below meth c F S ls hl
  have hx := F.1
  have hb := F.2.1
  have hown := F.2.2.2.2.1
  have hts := F.2.2.2.2.2.1
  have hZ := F.2.2.2.2.2.2.2.2.2
  have hl : lv_has ls 6 [(0, .ref (G.2.1 0)), (1, .int a1), (2, .int a2), (3, .int a3)] := hl
  generalize s.heap = H, ([] : List Loc) = locs at S ⊢
  refine lv_iconst (pc := 0) (v := 0) hx hb dX12_tripped_0 (by decide) ?_
  refine lv_istore (pc := 1) (lv' := [(4, .int 0), (0, .ref (G.2.1 0)), (1, .int a1), (2, .int a2), (3, .int a3)]) hx hb dX12_tripped_1 hl (by decide) rfl (fun ls hl => ?_)
  refine lv_iconst (pc := 3) (v := 0) hx hb dX12_tripped_3 (by decide) ?_
  refine lv_istore (pc := 4) (lv' := [(5, .int 0), (4, .int 0), (0, .ref (G.2.1 0)), (1, .int a1), (2, .int a2), (3, .int a3)]) hx hb dX12_tripped_4 hl (by decide) rfl (fun ls hl => ?_)
  obtain ⟨v1, e2, h⟩ := ob_out h
  refine pX12_tripped_L6 F 5000 S (lv_sub hl [2, 3, 4, 5, 1, 0] rfl) e2 (fun H locs ls S hl => ?_)
  refine lv_iload (pc := 42) hx hb dX12_tripped_42 (lv_at hl 0 rfl) ?_
  cases h
  exact r_iret (pc := 44) F S rfl dX12_tripped_44
theorem mfX12_recorded : MF true yX12_recorded RX12 cX12_recorded 4 (some .int) 1 := ⟨w1182, w13, by rw [if_pos rfl]; exact ⟨w1181, wp44⟩, ⟨by decide, by decide⟩, by decide +kernel⟩
set_option maxHeartbeats 4000000 in
theorem pX12_recorded_L4 {p : Program} {l : Launch} {e : Env} {s : State} {m : MethodId} {args : Array Value} {below : List Frame} {meth : Method} {c : Code} {Q : State → Prop} {G : GD} (F : FX p s m args meth c RX12 cX12_recorded 4 (some .int) G) : ∀ (n : Nat) {M N : Mem} {a1 : Int32} {a2 : Int32} {a3 : Int32} {H : Heap} {locs : List Loc} {ls : Array Slot} {o2 : Int32}, ST G M N s H locs → lv_has ls 4 [(0, .ref (G.2.1 0)), (1, .int a1), (2, .int a2), (3, .int a3)] → fX12_recorded_L4 n N a1 a2 a3 = some o2 → (K1 : ∀ (H : Heap) (locs : List Loc) (ls : Array Slot), ST G M N s H locs → lv_has ls 4 [(2, .int o2)] → W p l e (Rm 2 42) s m args below meth c H locs 0 0 Q (F0 m 39 ls [])) → W p l e (Rm 2 42) s m args below meth c H locs 0 0 Q (F0 m 4 ls []) := by
  intro n
  induction n with
  | zero => intro M N a1 a2 a3 H locs ls o2 S hl h K1; cases h
  | succ n ih =>
    intro M N a1 a2 a3 H locs ls o2 S hl h K1
    rw [fX12_recorded_L4] at h
    have hx := F.1
    have hb := F.2.1
    have hown := F.2.2.2.2.1
    have hts := F.2.2.2.2.2.1
    have hZ := F.2.2.2.2.2.2.2.2.2
    refine lv_iload_n (pc := 4) hx hb dX12_recorded_4 rfl (lv_at hl 3 rfl) ?_
    refine lv_bipush (pc := 5) (v := 8) hx hb dX12_recorded_5 (by decide) ?_
    refine lv_icmp_ge (pc := 7) (tgt := 39) hx hb dX12_recorded_7 (by decide) (fun c1 => ?_) (fun c1 => ?_)
    · replace h := (if_pos c1).symm.trans h
      cases h
      exact K1 H locs ls S (lv_sub hl [2] rfl)
    · replace h := (if_neg c1).symm.trans h
      refine lv_iload_n (pc := 10) hx hb dX12_recorded_10 rfl (lv_at hl 2 rfl) ?_
      refine lv_aload_n (pc := 11) hx hb dX12_recorded_11 rfl (lv_at hl 0 rfl) ?_
      refine r_gR (pc := 12) (k := 0) (x := 1) (i := 0) (ci := 12) F S (by decide) (by decide) cl12 inRX12 (by decide) w903 (fun _ => rfl) dX12_recorded_12 ?_
      refine lv_iload_n (pc := 15) hx hb dX12_recorded_15 rfl (lv_at hl 1 rfl) ?_
      refine lv_iload_n (pc := 16) hx hb dX12_recorded_16 rfl (lv_at hl 3 rfl) ?_
      obtain ⟨v3, e2, h⟩ := ob_out h
      refine c_sI (pc := 17) (rest := [.ref (G.2.1 1), .int a2]) F S (tX12_ofCue e2) mfX12_ofCue w1000 ⟨Nat.le_of_ble_eq_true rfl, Nat.le_of_ble_eq_true rfl⟩ rfl hl.1 rfl (Nat.le_of_ble_eq_true rfl) dX12_recorded_17 (fun H locs S => ?_)
      obtain ⟨v4, e5, h⟩ := ob_out h
      refine r_nL (pc := 20) F S e5 dX12_recorded_20 ?_
      refine lv_if_le (pc := 21) (tgt := 30) hx hb dX12_recorded_21 (by decide) (fun c6 => ?_) (fun c6 => ?_)
      · replace h := (if_pos c6).symm.trans h
        refine lv_iconst (pc := 30) (v := 0) hx hb dX12_recorded_30 (by decide) ?_
        refine lv_ior (pc := 31) hx hb dX12_recorded_31 ?_
        obtain ⟨v7, e8, h⟩ := lt1_out h
        refine nm_i e8 ?_
        refine lv_istore_n (pc := 32) (lv' := [(2, .int v7), (0, .ref (G.2.1 0)), (1, .int a1), (3, .int a3)]) hx hb dX12_recorded_32 rfl hl (by decide) rfl (fun ls hl => ?_)
        refine lv_iinc (pc := 33) (lv' := [(3, .int (a3 + 1)), (2, .int v7), (0, .ref (G.2.1 0)), (1, .int a1)]) hx hb dX12_recorded_33 hl (k := 3) rfl (iinc_n (by decide)) (by decide) rfl (fun ls hl => ?_)
        refine lv_goto (pc := 36) (tgt := 4) hx hb dX12_recorded_36 (by decide) ?_
        exact ih S (lv_sub hl [2, 3, 1, 0] rfl) h K1
      · replace h := (if_neg c6).symm.trans h
        refine lv_iconst (pc := 24) (v := 1) hx hb dX12_recorded_24 (by decide) ?_
        refine lv_iload_n (pc := 25) hx hb dX12_recorded_25 rfl (lv_at hl 3 rfl) ?_
        refine lv_ishl (pc := 26) hx hb dX12_recorded_26 ?_
        refine lv_goto (pc := 27) (tgt := 31) hx hb dX12_recorded_27 (by decide) ?_
        refine lv_ior (pc := 31) hx hb dX12_recorded_31 ?_
        obtain ⟨v9, e10, h⟩ := lt1_out h
        refine nm_i e10 ?_
        refine lv_istore_n (pc := 32) (lv' := [(2, .int v9), (0, .ref (G.2.1 0)), (1, .int a1), (3, .int a3)]) hx hb dX12_recorded_32 rfl hl (by decide) rfl (fun ls hl => ?_)
        refine lv_iinc (pc := 33) (lv' := [(3, .int (a3 + 1)), (2, .int v9), (0, .ref (G.2.1 0)), (1, .int a1)]) hx hb dX12_recorded_33 hl (k := 3) rfl (iinc_n (by decide)) (by decide) rfl (fun ls hl => ?_)
        refine lv_goto (pc := 36) (tgt := 4) hx hb dX12_recorded_36 (by decide) ?_
        exact ih S (lv_sub hl [2, 3, 1, 0] rfl) h K1
set_option maxHeartbeats 4000000 in
theorem tX12_recorded {l : Launch} {G : GD} {M N : Mem} {a1 : Int32} {r : Int32} (h : fX12_recorded N a1 = some r) : MI l yX12_recorded cX12_recorded 4 .int 2 42 G [.ref (G.2.1 0), .int a1] M N r M N := by
  unfold fX12_recorded at h
  refine MI_of (own := RX12) (by decide) rfl (Nat.le_of_ble_eq_true rfl) ?_
  intro p e s m args below meth c F S ls hl
  have hx := F.1
  have hb := F.2.1
  have hown := F.2.2.2.2.1
  have hts := F.2.2.2.2.2.1
  have hZ := F.2.2.2.2.2.2.2.2.2
  have hl : lv_has ls 4 [(0, .ref (G.2.1 0)), (1, .int a1)] := hl
  generalize s.heap = H, ([] : List Loc) = locs at S ⊢
  refine lv_iconst (pc := 0) (v := 0) hx hb dX12_recorded_0 (by decide) ?_
  refine lv_istore_n (pc := 1) (lv' := [(2, .int 0), (0, .ref (G.2.1 0)), (1, .int a1)]) hx hb dX12_recorded_1 rfl hl (by decide) rfl (fun ls hl => ?_)
  refine lv_iconst (pc := 2) (v := 0) hx hb dX12_recorded_2 (by decide) ?_
  refine lv_istore_n (pc := 3) (lv' := [(3, .int 0), (2, .int 0), (0, .ref (G.2.1 0)), (1, .int a1)]) hx hb dX12_recorded_3 rfl hl (by decide) rfl (fun ls hl => ?_)
  obtain ⟨v1, e2, h⟩ := ob_out h
  refine pX12_recorded_L4 F 5000 S (lv_sub hl [2, 3, 1, 0] rfl) e2 (fun H locs ls S hl => ?_)
  refine lv_iload_n (pc := 39) hx hb dX12_recorded_39 rfl (lv_at hl 0 rfl) ?_
  cases h
  exact r_iret (pc := 40) F S rfl dX12_recorded_40
theorem mfX12_of : MF true yX12_of RX12 cX12_of 3 (some .int) 2 := ⟨w1178, w13, by rw [if_pos rfl]; exact ⟨w1176, w1177⟩, ⟨by decide, by decide⟩, by decide +kernel⟩
set_option maxHeartbeats 4000000 in
theorem tX12_of {l : Launch} {G : GD} {M N : Mem} {a1 : Int32} {a2 : Int32} {r : Int32} (h : fX12_of N a1 a2 = some r) : MI l yX12_of cX12_of 3 .int 6 140 G [.ref (G.2.1 0), .int a1, .int a2] M N r M N := by
  unfold fX12_of at h
  refine MI_of (own := RX12) (by decide) rfl (Nat.le_of_ble_eq_true rfl) ?_
  intro p e s m args below meth c F S ls hl
  have hx := F.1
  have hb := F.2.1
  have hown := F.2.2.2.2.1
  have hts := F.2.2.2.2.2.1
  have hZ := F.2.2.2.2.2.2.2.2.2
  have hl : lv_has ls 3 [(0, .ref (G.2.1 0)), (1, .int a1), (2, .int a2)] := hl
  generalize s.heap = H, ([] : List Loc) = locs at S ⊢
  refine lv_iload_n (pc := 0) hx hb dX12_of_0 rfl (lv_at hl 1 rfl) ?_
  obtain ⟨v2, e1, h⟩ := ob_out h
  refine c_sI (pc := 1) (rest := []) F S (tX12_isPremiere e1) mfX12_isPremiere w987 ⟨Nat.le_of_ble_eq_true rfl, Nat.le_of_ble_eq_true rfl⟩ rfl hl.1 rfl (Nat.le_of_ble_eq_true rfl) dX12_of_1 (fun H locs S => ?_)
  refine lv_if_ne (pc := 4) (tgt := 9) hx hb dX12_of_4 (by decide) (fun c3 => ?_) (fun c3 => ?_)
  · replace h := (if_neg c3).symm.trans h
    refine lv_iload_n (pc := 9) hx hb dX12_of_9 rfl (lv_at hl 2 rfl) ?_
    rcases Classical.em (a2 = 0) with c4 | c4
    · replace h := (if_pos c4).symm.trans h
      refine lv_tableIn (pc := 10) (tgt := 60) hx hb dX12_of_10 (by rw [c4]; decide) (by rw [c4]; decide) (off := 50) (by rw [c4]; rfl) (by decide) ?_
      refine lv_aload_n (pc := 60) hx hb dX12_of_60 rfl (lv_at hl 0 rfl) ?_
      refine r_gR (pc := 61) (k := 0) (x := 1) (i := 0) (ci := 12) F S (by decide) (by decide) cl12 inRX12 (by decide) w903 (fun _ => rfl) dX12_of_61 ?_
      refine lv_iload_n (pc := 64) hx hb dX12_of_64 rfl (lv_at hl 1 rfl) ?_
      refine lv_iload_n (pc := 65) hx hb dX12_of_65 rfl (lv_at hl 2 rfl) ?_
      obtain ⟨v6, e5, h⟩ := ob_out h
      refine c_sI (pc := 66) (rest := [.ref (G.2.1 1)]) F S (tX12_at1 e5) mfX12_at1 w900 ⟨Nat.le_of_ble_eq_true rfl, Nat.le_of_ble_eq_true rfl⟩ rfl hl.1 rfl (Nat.le_of_ble_eq_true rfl) dX12_of_66 (fun H locs S => ?_)
      obtain ⟨v7, e8, h⟩ := ob_out h
      refine r_nL (pc := 69) F S e8 dX12_of_69 ?_
      cases h
      exact r_iret (pc := 70) F S rfl dX12_of_70
    replace h := (if_neg c4).symm.trans h
    rcases Classical.em (a2 = 1) with c9 | c9
    · replace h := (if_pos c9).symm.trans h
      refine lv_tableIn (pc := 10) (tgt := 60) hx hb dX12_of_10 (by rw [c9]; decide) (by rw [c9]; decide) (off := 50) (by rw [c9]; rfl) (by decide) ?_
      refine lv_aload_n (pc := 60) hx hb dX12_of_60 rfl (lv_at hl 0 rfl) ?_
      refine r_gR (pc := 61) (k := 0) (x := 1) (i := 0) (ci := 12) F S (by decide) (by decide) cl12 inRX12 (by decide) w903 (fun _ => rfl) dX12_of_61 ?_
      refine lv_iload_n (pc := 64) hx hb dX12_of_64 rfl (lv_at hl 1 rfl) ?_
      refine lv_iload_n (pc := 65) hx hb dX12_of_65 rfl (lv_at hl 2 rfl) ?_
      obtain ⟨v11, e10, h⟩ := ob_out h
      refine c_sI (pc := 66) (rest := [.ref (G.2.1 1)]) F S (tX12_at1 e10) mfX12_at1 w900 ⟨Nat.le_of_ble_eq_true rfl, Nat.le_of_ble_eq_true rfl⟩ rfl hl.1 rfl (Nat.le_of_ble_eq_true rfl) dX12_of_66 (fun H locs S => ?_)
      obtain ⟨v12, e13, h⟩ := ob_out h
      refine r_nL (pc := 69) F S e13 dX12_of_69 ?_
      cases h
      exact r_iret (pc := 70) F S rfl dX12_of_70
    replace h := (if_neg c9).symm.trans h
    rcases Classical.em (a2 = 2) with c14 | c14
    · replace h := (if_pos c14).symm.trans h
      refine lv_tableIn (pc := 10) (tgt := 60) hx hb dX12_of_10 (by rw [c14]; decide) (by rw [c14]; decide) (off := 50) (by rw [c14]; rfl) (by decide) ?_
      refine lv_aload_n (pc := 60) hx hb dX12_of_60 rfl (lv_at hl 0 rfl) ?_
      refine r_gR (pc := 61) (k := 0) (x := 1) (i := 0) (ci := 12) F S (by decide) (by decide) cl12 inRX12 (by decide) w903 (fun _ => rfl) dX12_of_61 ?_
      refine lv_iload_n (pc := 64) hx hb dX12_of_64 rfl (lv_at hl 1 rfl) ?_
      refine lv_iload_n (pc := 65) hx hb dX12_of_65 rfl (lv_at hl 2 rfl) ?_
      obtain ⟨v16, e15, h⟩ := ob_out h
      refine c_sI (pc := 66) (rest := [.ref (G.2.1 1)]) F S (tX12_at1 e15) mfX12_at1 w900 ⟨Nat.le_of_ble_eq_true rfl, Nat.le_of_ble_eq_true rfl⟩ rfl hl.1 rfl (Nat.le_of_ble_eq_true rfl) dX12_of_66 (fun H locs S => ?_)
      obtain ⟨v17, e18, h⟩ := ob_out h
      refine r_nL (pc := 69) F S e18 dX12_of_69 ?_
      cases h
      exact r_iret (pc := 70) F S rfl dX12_of_70
    replace h := (if_neg c14).symm.trans h
    rcases Classical.em (a2 = 3) with c19 | c19
    · replace h := (if_pos c19).symm.trans h
      refine lv_tableIn (pc := 10) (tgt := 71) hx hb dX12_of_10 (by rw [c19]; decide) (by rw [c19]; decide) (off := 61) (by rw [c19]; rfl) (by decide) ?_
      refine lv_aload_n (pc := 71) hx hb dX12_of_71 rfl (lv_at hl 0 rfl) ?_
      refine lv_iload_n (pc := 72) hx hb dX12_of_72 rfl (lv_at hl 1 rfl) ?_
      obtain ⟨v21, e20, h⟩ := ob_out h
      refine c_vI (pc := 73) (rest := []) F S (tX12_recorded e20) mfX12_recorded (by decide) (by decide) cl12 w1179 ⟨Nat.le_of_ble_eq_true rfl, Nat.le_of_ble_eq_true rfl⟩ rfl hl.1 rfl (Nat.le_of_ble_eq_true rfl) dX12_of_73 (fun H locs S => ?_)
      cases h
      exact r_iret (pc := 76) F S rfl dX12_of_76
    replace h := (if_neg c19).symm.trans h
    rcases Classical.em (a2 = 4) with c22 | c22
    · replace h := (if_pos c22).symm.trans h
      refine lv_tableIn (pc := 10) (tgt := 77) hx hb dX12_of_10 (by rw [c22]; decide) (by rw [c22]; decide) (off := 67) (by rw [c22]; rfl) (by decide) ?_
      refine lv_aload_n (pc := 77) hx hb dX12_of_77 rfl (lv_at hl 0 rfl) ?_
      refine r_gR (pc := 78) (k := 0) (x := 1) (i := 0) (ci := 12) F S (by decide) (by decide) cl12 inRX12 (by decide) w903 (fun _ => rfl) dX12_of_78 ?_
      refine lv_iload_n (pc := 81) hx hb dX12_of_81 rfl (lv_at hl 1 rfl) ?_
      refine lv_sipush (pc := 82) (v := 221) hx hb dX12_of_82 (by decide) ?_
      obtain ⟨v24, e23, h⟩ := ob_out h
      refine c_sI (pc := 85) (rest := [.ref (G.2.1 1)]) F S (tX12_at1 e23) mfX12_at1 w900 ⟨Nat.le_of_ble_eq_true rfl, Nat.le_of_ble_eq_true rfl⟩ rfl hl.1 rfl (Nat.le_of_ble_eq_true rfl) dX12_of_85 (fun H locs S => ?_)
      obtain ⟨v25, e26, h⟩ := ob_out h
      refine r_nL (pc := 88) F S e26 dX12_of_88 ?_
      refine lv_if_ne (pc := 89) (tgt := 96) hx hb dX12_of_89 (by decide) (fun c27 => ?_) (fun c27 => ?_)
      · replace h := (if_neg c27).symm.trans h
        refine lv_aload_n (pc := 96) hx hb dX12_of_96 rfl (lv_at hl 0 rfl) ?_
        refine r_gR (pc := 97) (k := 0) (x := 1) (i := 0) (ci := 12) F S (by decide) (by decide) cl12 inRX12 (by decide) w903 (fun _ => rfl) dX12_of_97 ?_
        refine lv_iload_n (pc := 100) hx hb dX12_of_100 rfl (lv_at hl 1 rfl) ?_
        refine lv_sipush (pc := 101) (v := 221) hx hb dX12_of_101 (by decide) ?_
        obtain ⟨v29, e28, h⟩ := ob_out h
        refine c_sI (pc := 104) (rest := [.ref (G.2.1 1)]) F S (tX12_at1 e28) mfX12_at1 w900 ⟨Nat.le_of_ble_eq_true rfl, Nat.le_of_ble_eq_true rfl⟩ rfl hl.1 rfl (Nat.le_of_ble_eq_true rfl) dX12_of_104 (fun H locs S => ?_)
        obtain ⟨v30, e31, h⟩ := ob_out h
        refine r_nL (pc := 107) F S e31 dX12_of_107 ?_
        refine lv_aload_n (pc := 108) hx hb dX12_of_108 rfl (lv_at hl 0 rfl) ?_
        refine r_gR (pc := 109) (k := 0) (x := 1) (i := 0) (ci := 12) F S (by decide) (by decide) cl12 inRX12 (by decide) w903 (fun _ => rfl) dX12_of_109 ?_
        refine lv_iload_n (pc := 112) hx hb dX12_of_112 rfl (lv_at hl 1 rfl) ?_
        refine lv_sipush (pc := 113) (v := 222) hx hb dX12_of_113 (by decide) ?_
        obtain ⟨v33, e32, h⟩ := ob_out h
        refine c_sI (pc := 116) (rest := [.ref (G.2.1 1), .int v30]) F S (tX12_at1 e32) mfX12_at1 w900 ⟨Nat.le_of_ble_eq_true rfl, Nat.le_of_ble_eq_true rfl⟩ rfl hl.1 rfl (Nat.le_of_ble_eq_true rfl) dX12_of_116 (fun H locs S => ?_)
        obtain ⟨v34, e35, h⟩ := ob_out h
        refine r_nL (pc := 119) F S e35 dX12_of_119 ?_
        refine lv_isub (pc := 120) hx hb dX12_of_120 ?_
        cases h
        exact r_iret (pc := 121) F S rfl dX12_of_121
      · replace h := (if_pos c27).symm.trans h
        refine lv_iconst (pc := 92) (v := 0) hx hb dX12_of_92 (by decide) ?_
        refine lv_goto (pc := 93) (tgt := 121) hx hb dX12_of_93 (by decide) ?_
        cases h
        exact r_iret (pc := 121) F S rfl dX12_of_121
    replace h := (if_neg c22).symm.trans h
    rcases Classical.em (a2 = 5) with c36 | c36
    · replace h := (if_pos c36).symm.trans h
      refine lv_tableIn (pc := 10) (tgt := 122) hx hb dX12_of_10 (by rw [c36]; decide) (by rw [c36]; decide) (off := 112) (by rw [c36]; rfl) (by decide) ?_
      refine lv_aload_n (pc := 122) hx hb dX12_of_122 rfl (lv_at hl 0 rfl) ?_
      refine lv_iload_n (pc := 123) hx hb dX12_of_123 rfl (lv_at hl 1 rfl) ?_
      obtain ⟨v38, e37, h⟩ := ob_out h
      refine c_vI (pc := 124) (rest := []) F S (tX12_loadOf e37) mfX12_loadOf (by decide) (by decide) cl12 w1183 ⟨Nat.le_of_ble_eq_true rfl, Nat.le_of_ble_eq_true rfl⟩ rfl hl.1 rfl (Nat.le_of_ble_eq_true rfl) dX12_of_124 (fun H locs S => ?_)
      cases h
      exact r_iret (pc := 127) F S rfl dX12_of_127
    replace h := (if_neg c36).symm.trans h
    rcases Classical.em (a2 = 6) with c39 | c39
    · replace h := (if_pos c39).symm.trans h
      refine lv_tableIn (pc := 10) (tgt := 128) hx hb dX12_of_10 (by rw [c39]; decide) (by rw [c39]; decide) (off := 118) (by rw [c39]; rfl) (by decide) ?_
      refine lv_aload_n (pc := 128) hx hb dX12_of_128 rfl (lv_at hl 0 rfl) ?_
      refine lv_iload_n (pc := 129) hx hb dX12_of_129 rfl (lv_at hl 1 rfl) ?_
      refine lv_iconst (pc := 130) (v := 0) hx hb dX12_of_130 (by decide) ?_
      refine lv_bipush (pc := 131) (v := 12) hx hb dX12_of_131 (by decide) ?_
      obtain ⟨v41, e40, h⟩ := ob_out h
      refine c_vI (pc := 133) (rest := []) F S (tX12_tripped e40) mfX12_tripped (by decide) (by decide) cl12 w1187 ⟨Nat.le_of_ble_eq_true rfl, Nat.le_of_ble_eq_true rfl⟩ rfl hl.1 rfl (Nat.le_of_ble_eq_true rfl) dX12_of_133 (fun H locs S => ?_)
      cases h
      exact r_iret (pc := 136) F S rfl dX12_of_136
    replace h := (if_neg c39).symm.trans h
    rcases Classical.em (a2 = 7) with c42 | c42
    · replace h := (if_pos c42).symm.trans h
      refine lv_tableIn (pc := 10) (tgt := 137) hx hb dX12_of_10 (by rw [c42]; decide) (by rw [c42]; decide) (off := 127) (by rw [c42]; rfl) (by decide) ?_
      refine lv_aload_n (pc := 137) hx hb dX12_of_137 rfl (lv_at hl 0 rfl) ?_
      refine lv_iload_n (pc := 138) hx hb dX12_of_138 rfl (lv_at hl 1 rfl) ?_
      refine lv_bipush (pc := 139) (v := 12) hx hb dX12_of_139 (by decide) ?_
      refine lv_iconst (pc := 141) (v := 3) hx hb dX12_of_141 (by decide) ?_
      obtain ⟨v44, e43, h⟩ := ob_out h
      refine c_vI (pc := 142) (rest := []) F S (tX12_tripped e43) mfX12_tripped (by decide) (by decide) cl12 w1187 ⟨Nat.le_of_ble_eq_true rfl, Nat.le_of_ble_eq_true rfl⟩ rfl hl.1 rfl (Nat.le_of_ble_eq_true rfl) dX12_of_142 (fun H locs S => ?_)
      cases h
      exact r_iret (pc := 145) F S rfl dX12_of_145
    replace h := (if_neg c42).symm.trans h
    rcases Classical.em (a2 = 8) with c45 | c45
    · replace h := (if_pos c45).symm.trans h
      refine lv_tableIn (pc := 10) (tgt := 146) hx hb dX12_of_10 (by rw [c45]; decide) (by rw [c45]; decide) (off := 136) (by rw [c45]; rfl) (by decide) ?_
      refine lv_aload_n (pc := 146) hx hb dX12_of_146 rfl (lv_at hl 0 rfl) ?_
      refine lv_iload_n (pc := 147) hx hb dX12_of_147 rfl (lv_at hl 1 rfl) ?_
      obtain ⟨v47, e46, h⟩ := ob_out h
      refine c_vI (pc := 148) (rest := []) F S (tX12_apart e46) mfX12_apart (by decide) (by decide) cl12 w1191 ⟨Nat.le_of_ble_eq_true rfl, Nat.le_of_ble_eq_true rfl⟩ rfl hl.1 rfl (Nat.le_of_ble_eq_true rfl) dX12_of_148 (fun H locs S => ?_)
      cases h
      exact r_iret (pc := 151) F S rfl dX12_of_151
    replace h := (if_neg c45).symm.trans h
    refine lv_tableOut (pc := 10) (tgt := 152) hx hb dX12_of_10 (tbl_out (fun k h1 h2 => ?_)) (by decide) ?_
    · rcases (show k = 0 ∨ k = 1 ∨ k = 2 ∨ k = 3 ∨ k = 4 ∨ k = 5 ∨ k = 6 ∨ k = 7 ∨ k = 8 by omega) with rfl | rfl | rfl | rfl | rfl | rfl | rfl | rfl | rfl
      · exact lv_neT c4 (by decide)
      · exact lv_neT c9 (by decide)
      · exact lv_neT c14 (by decide)
      · exact lv_neT c19 (by decide)
      · exact lv_neT c22 (by decide)
      · exact lv_neT c36 (by decide)
      · exact lv_neT c39 (by decide)
      · exact lv_neT c42 (by decide)
      · exact lv_neT c45 (by decide)
    refine lv_bipush (pc := 152) (v := (-2)) hx hb dX12_of_152 (by decide) ?_
    cases h
    exact r_iret (pc := 154) F S rfl dX12_of_154
  · replace h := (if_pos c3).symm.trans h
    refine lv_iconst (pc := 7) (v := (-1)) hx hb dX12_of_7 (by decide) ?_
    cases h
    exact r_iret (pc := 8) F S rfl dX12_of_8
theorem mfX12_needed : MF true yX12_needed RX12 cX12_needed 6 (some .int) 2 := ⟨w1206, w13, by rw [if_pos rfl]; exact ⟨w1205, wp49⟩, ⟨by decide, by decide⟩, by decide +kernel⟩
set_option maxHeartbeats 4000000 in
theorem pX12_needed_L14 {p : Program} {l : Launch} {e : Env} {s : State} {m : MethodId} {args : Array Value} {below : List Frame} {meth : Method} {c : Code} {Q : State → Prop} {G : GD} (F : FX p s m args meth c RX12 cX12_needed 6 (some .int) G) : ∀ (n : Nat) {M N : Mem} {a1 : Int32} {a2 : Int32} {a3 : Int32} {a4 : Int32} {a5 : Int32} {H : Heap} {locs : List Loc} {ls : Array Slot} {o3 : Int32}, ST G M N s H locs → lv_has ls 6 [(0, .ref (G.2.1 0)), (1, .int a1), (2, .int a2), (3, .int a3), (4, .int a4), (5, .int a5)] → fX12_needed_L14 n N a1 a2 a3 a4 a5 = some o3 → (K1 : ∀ (H : Heap) (locs : List Loc) (ls : Array Slot), ST G M N s H locs → lv_has ls 6 [(0, .ref (G.2.1 0)), (1, .int a1), (2, .int a2), (3, .int o3), (4, .int a4)] → W p l e (Rm 2 43) s m args below meth c H locs 0 0 Q (F0 m 90 ls [])) → W p l e (Rm 2 43) s m args below meth c H locs 0 0 Q (F0 m 14 ls []) := by
  intro n
  induction n with
  | zero => intro M N a1 a2 a3 a4 a5 H locs ls o3 S hl h K1; cases h
  | succ n ih =>
    intro M N a1 a2 a3 a4 a5 H locs ls o3 S hl h K1
    rw [fX12_needed_L14] at h
    have hx := F.1
    have hb := F.2.1
    have hown := F.2.2.2.2.1
    have hts := F.2.2.2.2.2.1
    have hZ := F.2.2.2.2.2.2.2.2.2
    refine lv_iload (pc := 14) hx hb dX12_needed_14 (lv_at hl 5 rfl) ?_
    refine lv_aload_n (pc := 16) hx hb dX12_needed_16 rfl (lv_at hl 0 rfl) ?_
    refine r_gR (pc := 17) (k := 0) (x := 1) (i := 0) (ci := 12) F S (by decide) (by decide) cl12 inRX12 (by decide) w903 (fun _ => rfl) dX12_needed_17 ?_
    refine lv_iload (pc := 20) hx hb dX12_needed_20 (lv_at hl 4 rfl) ?_
    refine lv_iconst (pc := 22) (v := 2) hx hb dX12_needed_22 (by decide) ?_
    obtain ⟨v3, e2, h⟩ := ob_out h
    refine c_sI (pc := 23) (rest := [.ref (G.2.1 1), .int a5]) F S (tX12_at1 e2) mfX12_at1 w900 ⟨Nat.le_of_ble_eq_true rfl, Nat.le_of_ble_eq_true rfl⟩ rfl hl.1 rfl (Nat.le_of_ble_eq_true rfl) dX12_needed_23 (fun H locs S => ?_)
    obtain ⟨v4, e5, h⟩ := ob_out h
    refine r_nL (pc := 26) F S e5 dX12_needed_26 ?_
    refine lv_icmp_ge (pc := 27) (tgt := 90) hx hb dX12_needed_27 (by decide) (fun c6 => ?_) (fun c6 => ?_)
    · replace h := (if_pos c6).symm.trans h
      cases h
      exact K1 H locs ls S (lv_sub hl [0, 1, 2, 3, 4] rfl)
    · replace h := (if_neg c6).symm.trans h
      refine lv_iload_n (pc := 30) hx hb dX12_needed_30 rfl (lv_at hl 2 rfl) ?_
      refine lv_aload_n (pc := 31) hx hb dX12_needed_31 rfl (lv_at hl 0 rfl) ?_
      refine r_gR (pc := 32) (k := 0) (x := 1) (i := 0) (ci := 12) F S (by decide) (by decide) cl12 inRX12 (by decide) w903 (fun _ => rfl) dX12_needed_32 ?_
      refine lv_iload (pc := 35) hx hb dX12_needed_35 (lv_at hl 4 rfl) ?_
      refine lv_iconst (pc := 37) (v := 0) hx hb dX12_needed_37 (by decide) ?_
      obtain ⟨v8, e7, h⟩ := ob_out h
      refine c_sI (pc := 38) (rest := [.ref (G.2.1 1), .int a2]) F S (tX12_at1 e7) mfX12_at1 w900 ⟨Nat.le_of_ble_eq_true rfl, Nat.le_of_ble_eq_true rfl⟩ rfl hl.1 rfl (Nat.le_of_ble_eq_true rfl) dX12_needed_38 (fun H locs S => ?_)
      obtain ⟨v9, e10, h⟩ := ob_out h
      refine r_nL (pc := 41) F S e10 dX12_needed_41 ?_
      refine lv_aload_n (pc := 42) hx hb dX12_needed_42 rfl (lv_at hl 0 rfl) ?_
      refine r_gR (pc := 43) (k := 0) (x := 1) (i := 0) (ci := 12) F S (by decide) (by decide) cl12 inRX12 (by decide) w903 (fun _ => rfl) dX12_needed_43 ?_
      refine lv_iload (pc := 46) hx hb dX12_needed_46 (lv_at hl 4 rfl) ?_
      refine lv_iconst (pc := 48) (v := 1) hx hb dX12_needed_48 (by decide) ?_
      obtain ⟨v12, e11, h⟩ := ob_out h
      refine c_sI (pc := 49) (rest := [.ref (G.2.1 1), .int v9, .int a2]) F S (tX12_at1 e11) mfX12_at1 w900 ⟨Nat.le_of_ble_eq_true rfl, Nat.le_of_ble_eq_true rfl⟩ rfl hl.1 rfl (Nat.le_of_ble_eq_true rfl) dX12_needed_49 (fun H locs S => ?_)
      obtain ⟨v13, e14, h⟩ := ob_out h
      refine r_nL (pc := 52) F S e14 dX12_needed_52 ?_
      obtain ⟨v16, e15, h⟩ := ob_out h
      refine c_sI (pc := 53) (rest := []) F S (tX12_in e15) mfX12_in w972 ⟨Nat.le_of_ble_eq_true rfl, Nat.le_of_ble_eq_true rfl⟩ rfl hl.1 rfl (Nat.le_of_ble_eq_true rfl) dX12_needed_53 (fun H locs S => ?_)
      refine lv_if_eq (pc := 56) (tgt := 90) hx hb dX12_needed_56 (by decide) (fun c17 => ?_) (fun c17 => ?_)
      · replace h := (if_pos c17).symm.trans h
        cases h
        exact K1 H locs ls S (lv_sub hl [0, 1, 2, 3, 4] rfl)
      · replace h := (if_neg c17).symm.trans h
        refine lv_iload_n (pc := 59) hx hb dX12_needed_59 rfl (lv_at hl 3 rfl) ?_
        refine lv_aload_n (pc := 60) hx hb dX12_needed_60 rfl (lv_at hl 0 rfl) ?_
        refine r_gR (pc := 61) (k := 0) (x := 1) (i := 0) (ci := 12) F S (by decide) (by decide) cl12 inRX12 (by decide) w903 (fun _ => rfl) dX12_needed_61 ?_
        refine lv_iload (pc := 64) hx hb dX12_needed_64 (lv_at hl 4 rfl) ?_
        refine lv_iload (pc := 66) hx hb dX12_needed_66 (lv_at hl 5 rfl) ?_
        refine lv_iconst (pc := 68) (v := 0) hx hb dX12_needed_68 (by decide) ?_
        obtain ⟨v19, e18, h⟩ := ob_out h
        refine c_sI (pc := 69) (rest := [.ref (G.2.1 1), .int a3]) F S (tX12_ofLamp e18) mfX12_ofLamp w997 ⟨Nat.le_of_ble_eq_true rfl, Nat.le_of_ble_eq_true rfl⟩ rfl hl.1 rfl (Nat.le_of_ble_eq_true rfl) dX12_needed_69 (fun H locs S => ?_)
        obtain ⟨v20, e21, h⟩ := ob_out h
        refine r_nL (pc := 72) F S e21 dX12_needed_72 ?_
        refine lv_iload_n (pc := 73) hx hb dX12_needed_73 rfl (lv_at hl 1 rfl) ?_
        refine lv_icmp_ne (pc := 74) (tgt := 81) hx hb dX12_needed_74 (by decide) (fun c22 => ?_) (fun c22 => ?_)
        · replace h := (if_neg c22).symm.trans h
          refine lv_iconst (pc := 81) (v := 0) hx hb dX12_needed_81 (by decide) ?_
          refine lv_iadd (pc := 82) hx hb dX12_needed_82 ?_
          obtain ⟨v23, e24, h⟩ := lt1_out h
          refine nm_i e24 ?_
          refine lv_istore_n (pc := 83) (lv' := [(3, .int v23), (0, .ref (G.2.1 0)), (1, .int a1), (2, .int a2), (4, .int a4), (5, .int a5)]) hx hb dX12_needed_83 rfl hl (by decide) rfl (fun ls hl => ?_)
          refine lv_iinc (pc := 84) (lv' := [(5, .int (a5 + 1)), (3, .int v23), (0, .ref (G.2.1 0)), (1, .int a1), (2, .int a2), (4, .int a4)]) hx hb dX12_needed_84 hl (k := 5) rfl (iinc_n (by decide)) (by decide) rfl (fun ls hl => ?_)
          refine lv_goto (pc := 87) (tgt := 14) hx hb dX12_needed_87 (by decide) ?_
          exact ih S (lv_sub hl [2, 3, 4, 1, 5, 0] rfl) h K1
        · replace h := (if_pos c22).symm.trans h
          refine lv_iconst (pc := 77) (v := 1) hx hb dX12_needed_77 (by decide) ?_
          refine lv_goto (pc := 78) (tgt := 82) hx hb dX12_needed_78 (by decide) ?_
          refine lv_iadd (pc := 82) hx hb dX12_needed_82 ?_
          obtain ⟨v25, e26, h⟩ := lt1_out h
          refine nm_i e26 ?_
          refine lv_istore_n (pc := 83) (lv' := [(3, .int v25), (0, .ref (G.2.1 0)), (1, .int a1), (2, .int a2), (4, .int a4), (5, .int a5)]) hx hb dX12_needed_83 rfl hl (by decide) rfl (fun ls hl => ?_)
          refine lv_iinc (pc := 84) (lv' := [(5, .int (a5 + 1)), (3, .int v25), (0, .ref (G.2.1 0)), (1, .int a1), (2, .int a2), (4, .int a4)]) hx hb dX12_needed_84 hl (k := 5) rfl (iinc_n (by decide)) (by decide) rfl (fun ls hl => ?_)
          refine lv_goto (pc := 87) (tgt := 14) hx hb dX12_needed_87 (by decide) ?_
          exact ih S (lv_sub hl [2, 3, 4, 1, 5, 0] rfl) h K1
set_option maxHeartbeats 4000000 in
theorem pX12_needed_L5 {p : Program} {l : Launch} {e : Env} {s : State} {m : MethodId} {args : Array Value} {below : List Frame} {meth : Method} {c : Code} {Q : State → Prop} {G : GD} (F : FX p s m args meth c RX12 cX12_needed 6 (some .int) G) : ∀ (n : Nat) {M N : Mem} {a1 : Int32} {a2 : Int32} {a3 : Int32} {a4 : Int32} {H : Heap} {locs : List Loc} {ls : Array Slot} {o3 : Int32}, ST G M N s H locs → lv_has ls 6 [(0, .ref (G.2.1 0)), (1, .int a1), (2, .int a2), (3, .int a3), (4, .int a4)] → fX12_needed_L5 n N a1 a2 a3 a4 = some o3 → (K1 : ∀ (H : Heap) (locs : List Loc) (ls : Array Slot), ST G M N s H locs → lv_has ls 6 [(3, .int o3)] → W p l e (Rm 2 43) s m args below meth c H locs 0 0 Q (F0 m 96 ls [])) → W p l e (Rm 2 43) s m args below meth c H locs 0 0 Q (F0 m 5 ls []) := by
  intro n
  induction n with
  | zero => intro M N a1 a2 a3 a4 H locs ls o3 S hl h K1; cases h
  | succ n ih =>
    intro M N a1 a2 a3 a4 H locs ls o3 S hl h K1
    rw [fX12_needed_L5] at h
    have hx := F.1
    have hb := F.2.1
    have hown := F.2.2.2.2.1
    have hts := F.2.2.2.2.2.1
    have hZ := F.2.2.2.2.2.2.2.2.2
    refine lv_iload (pc := 5) hx hb dX12_needed_5 (lv_at hl 4 rfl) ?_
    refine lv_iconst (pc := 7) (v := 3) hx hb dX12_needed_7 (by decide) ?_
    refine lv_icmp_ge (pc := 8) (tgt := 96) hx hb dX12_needed_8 (by decide) (fun c1 => ?_) (fun c1 => ?_)
    · replace h := (if_pos c1).symm.trans h
      cases h
      exact K1 H locs ls S (lv_sub hl [3] rfl)
    · replace h := (if_neg c1).symm.trans h
      refine lv_iconst (pc := 11) (v := 0) hx hb dX12_needed_11 (by decide) ?_
      refine lv_istore (pc := 12) (lv' := [(5, .int 0), (0, .ref (G.2.1 0)), (1, .int a1), (2, .int a2), (3, .int a3), (4, .int a4)]) hx hb dX12_needed_12 hl (by decide) rfl (fun ls hl => ?_)
      obtain ⟨v2, e3, h⟩ := ob_out h
      refine pX12_needed_L14 F 5000 S (lv_sub hl [1, 2, 3, 4, 5, 0] rfl) e3 (fun H locs ls S hl => ?_)
      refine lv_iinc (pc := 90) (lv' := [(4, .int (a4 + 1)), (0, .ref (G.2.1 0)), (1, .int a1), (2, .int a2), (3, .int v2)]) hx hb dX12_needed_90 hl (k := 4) rfl (iinc_n (by decide)) (by decide) rfl (fun ls hl => ?_)
      refine lv_goto (pc := 93) (tgt := 5) hx hb dX12_needed_93 (by decide) ?_
      exact ih S (lv_sub hl [1, 2, 3, 4, 0] rfl) h K1
set_option maxHeartbeats 4000000 in
theorem tX12_needed {l : Launch} {G : GD} {M N : Mem} {a1 : Int32} {a2 : Int32} {r : Int32} (h : fX12_needed N a1 a2 = some r) : MI l yX12_needed cX12_needed 6 .int 2 43 G [.ref (G.2.1 0), .int a1, .int a2] M N r M N := by
  unfold fX12_needed at h
  refine MI_of (own := RX12) (by decide) rfl (Nat.le_of_ble_eq_true rfl) ?_
  intro p e s m args below meth c F S ls hl
  have hx := F.1
  have hb := F.2.1
  have hown := F.2.2.2.2.1
  have hts := F.2.2.2.2.2.1
  have hZ := F.2.2.2.2.2.2.2.2.2
  have hl : lv_has ls 6 [(0, .ref (G.2.1 0)), (1, .int a1), (2, .int a2)] := hl
  generalize s.heap = H, ([] : List Loc) = locs at S ⊢
  refine lv_iconst (pc := 0) (v := 0) hx hb dX12_needed_0 (by decide) ?_
  refine lv_istore_n (pc := 1) (lv' := [(3, .int 0), (0, .ref (G.2.1 0)), (1, .int a1), (2, .int a2)]) hx hb dX12_needed_1 rfl hl (by decide) rfl (fun ls hl => ?_)
  refine lv_iconst (pc := 2) (v := 0) hx hb dX12_needed_2 (by decide) ?_
  refine lv_istore (pc := 3) (lv' := [(4, .int 0), (3, .int 0), (0, .ref (G.2.1 0)), (1, .int a1), (2, .int a2)]) hx hb dX12_needed_3 hl (by decide) rfl (fun ls hl => ?_)
  obtain ⟨v1, e2, h⟩ := ob_out h
  refine pX12_needed_L5 F 5000 S (lv_sub hl [2, 3, 4, 1, 0] rfl) e2 (fun H locs ls S hl => ?_)
  refine lv_iload_n (pc := 96) hx hb dX12_needed_96 rfl (lv_at hl 0 rfl) ?_
  cases h
  exact r_iret (pc := 97) F S rfl dX12_needed_97
theorem mfX12_hired : MF true yX12_hired RX12 cX12_hired 7 (some .int) 3 := ⟨w1202, w13, by rw [if_pos rfl]; exact ⟨w1201, wp48⟩, ⟨by decide, by decide⟩, by decide +kernel⟩
set_option maxHeartbeats 4000000 in
theorem tX12_hired {l : Launch} {G : GD} {M N : Mem} {a1 : Int32} {a2 : Int32} {a3 : Int32} {r : Int32} (h : fX12_hired N a1 a2 a3 = some r) : MI l yX12_hired cX12_hired 7 .int 3 68 G [.ref (G.2.1 0), .int a1, .int a2, .int a3] M N r M N := by
  unfold fX12_hired at h
  refine MI_of (own := RX12) (by decide) rfl (Nat.le_of_ble_eq_true rfl) ?_
  intro p e s m args below meth c F S ls hl
  have hx := F.1
  have hb := F.2.1
  have hown := F.2.2.2.2.1
  have hts := F.2.2.2.2.2.1
  have hZ := F.2.2.2.2.2.2.2.2.2
  have hl : lv_has ls 7 [(0, .ref (G.2.1 0)), (1, .int a1), (2, .int a2), (3, .int a3)] := hl
  generalize s.heap = H, ([] : List Loc) = locs at S ⊢
  refine lv_aload_n (pc := 0) hx hb dX12_hired_0 rfl (lv_at hl 0 rfl) ?_
  refine lv_iload_n (pc := 1) hx hb dX12_hired_1 rfl (lv_at hl 1 rfl) ?_
  refine lv_iload_n (pc := 2) hx hb dX12_hired_2 rfl (lv_at hl 2 rfl) ?_
  obtain ⟨v2, e1, h⟩ := ob_out h
  refine c_vI (pc := 3) (rest := []) F S (tX12_needed e1) mfX12_needed (by decide) (by decide) cl12 w1203 ⟨Nat.le_of_ble_eq_true rfl, Nat.le_of_ble_eq_true rfl⟩ rfl hl.1 rfl (Nat.le_of_ble_eq_true rfl) dX12_hired_3 (fun H locs S => ?_)
  refine lv_istore (pc := 6) (lv' := [(4, .int v2), (0, .ref (G.2.1 0)), (1, .int a1), (2, .int a2), (3, .int a3)]) hx hb dX12_hired_6 hl (by decide) rfl (fun ls hl => ?_)
  refine lv_aload_n (pc := 8) hx hb dX12_hired_8 rfl (lv_at hl 1 rfl) ?_
  refine r_gR (pc := 9) (k := 0) (x := 1) (i := 0) (ci := 12) F S (by decide) (by decide) cl12 inRX12 (by decide) w903 (fun _ => rfl) dX12_hired_9 ?_
  refine lv_iconst (pc := 12) (v := 4) hx hb dX12_hired_12 (by decide) ?_
  refine lv_iconst (pc := 13) (v := 3) hx hb dX12_hired_13 (by decide) ?_
  refine lv_iload_n (pc := 14) hx hb dX12_hired_14 rfl (lv_at hl 2 rfl) ?_
  refine lv_imul (pc := 15) hx hb dX12_hired_15 ?_
  refine lv_iadd (pc := 16) hx hb dX12_hired_16 ?_
  refine lv_iconst (pc := 17) (v := 1) hx hb dX12_hired_17 (by decide) ?_
  refine lv_iadd (pc := 18) hx hb dX12_hired_18 ?_
  obtain ⟨v3, e4, h⟩ := ob_out h
  refine r_nL (pc := 19) F S e4 dX12_hired_19 ?_
  refine lv_istore (pc := 20) (lv' := [(5, .int v3), (4, .int v2), (0, .ref (G.2.1 0)), (1, .int a1), (2, .int a2), (3, .int a3)]) hx hb dX12_hired_20 hl (by decide) rfl (fun ls hl => ?_)
  refine lv_iload (pc := 22) hx hb dX12_hired_22 (lv_at hl 1 rfl) ?_
  refine lv_iload (pc := 24) hx hb dX12_hired_24 (lv_at hl 0 rfl) ?_
  obtain ⟨v5, d6, h⟩ := ob_out h
  have J7 : ∀ (H : Heap) (locs : List Loc) (ls : Array Slot), ST G M N s H locs → lv_has ls 7 [(0, .ref (G.2.1 0)), (1, .int a1), (3, .int a3), (4, .int v2)] → W p l e (Rm 3 68) s m args below meth c H locs 0 0 (MQ below (va_Qi (fun r' (_ : Unit) => r' = r) (fun _ t => Wd G M N t) (AG G.2.1)) args s 0 0 (AG G.2.1)) (F0 m 38 ls [.int v5]) := by
    intro H locs ls S hl
    refine lv_istore (pc := 38) (lv' := [(6, .int v5), (0, .ref (G.2.1 0)), (1, .int a1), (3, .int a3), (4, .int v2)]) hx hb dX12_hired_38 hl (by decide) rfl (fun ls hl => ?_)
    refine lv_iload_n (pc := 40) hx hb dX12_hired_40 rfl (lv_at hl 3 rfl) ?_
    refine lv_if_ne (pc := 41) (tgt := 49) hx hb dX12_hired_41 (by decide) (fun c8 => ?_) (fun c8 => ?_)
    · replace h := (if_neg c8).symm.trans h
      refine lv_iload_n (pc := 49) hx hb dX12_hired_49 rfl (lv_at hl 3 rfl) ?_
      refine lv_iconst (pc := 50) (v := 1) hx hb dX12_hired_50 (by decide) ?_
      refine lv_icmp_ne (pc := 51) (tgt := 59) hx hb dX12_hired_51 (by decide) (fun c9 => ?_) (fun c9 => ?_)
      · replace h := (if_neg c9).symm.trans h
        refine lv_aload_n (pc := 59) hx hb dX12_hired_59 rfl (lv_at hl 1 rfl) ?_
        refine r_gR (pc := 60) (k := 0) (x := 1) (i := 0) (ci := 12) F S (by decide) (by decide) cl12 inRX12 (by decide) w903 (fun _ => rfl) dX12_hired_60 ?_
        refine lv_iconst (pc := 63) (v := 4) hx hb dX12_hired_63 (by decide) ?_
        refine lv_iconst (pc := 64) (v := 3) hx hb dX12_hired_64 (by decide) ?_
        refine lv_iload_n (pc := 65) hx hb dX12_hired_65 rfl (lv_at hl 2 rfl) ?_
        refine lv_imul (pc := 66) hx hb dX12_hired_66 ?_
        refine lv_iadd (pc := 67) hx hb dX12_hired_67 ?_
        refine lv_iconst (pc := 68) (v := 2) hx hb dX12_hired_68 (by decide) ?_
        refine lv_iadd (pc := 69) hx hb dX12_hired_69 ?_
        obtain ⟨v10, e11, h⟩ := ob_out h
        refine r_nL (pc := 70) F S e11 dX12_hired_70 ?_
        refine lv_iload (pc := 71) hx hb dX12_hired_71 (lv_at hl 4 rfl) ?_
        refine lv_iload (pc := 73) hx hb dX12_hired_73 (lv_at hl 0 rfl) ?_
        refine lv_isub (pc := 75) hx hb dX12_hired_75 ?_
        refine lv_imul (pc := 76) hx hb dX12_hired_76 ?_
        cases h
        exact r_iret (pc := 77) F S rfl dX12_hired_77
      · replace h := (if_pos c9).symm.trans h
        refine lv_iload (pc := 54) hx hb dX12_hired_54 (lv_at hl 0 rfl) ?_
        refine lv_goto (pc := 56) (tgt := 77) hx hb dX12_hired_56 (by decide) ?_
        cases h
        exact r_iret (pc := 77) F S rfl dX12_hired_77
    · replace h := (if_pos c8).symm.trans h
      refine lv_iload (pc := 44) hx hb dX12_hired_44 (lv_at hl 4 rfl) ?_
      refine lv_goto (pc := 46) (tgt := 77) hx hb dX12_hired_46 (by decide) ?_
      cases h
      exact r_iret (pc := 77) F S rfl dX12_hired_77
  refine lv_icmp_le (pc := 26) (tgt := 37) hx hb dX12_hired_26 (by decide) (fun c12 => ?_) (fun c12 => ?_)
  · replace d6 := (if_pos c12).symm.trans d6
    refine lv_iconst (pc := 37) (v := 0) hx hb dX12_hired_37 (by decide) ?_
    cases d6
    exact J7 H locs ls S (lv_sub hl [2, 3, 5, 1] rfl)
  · replace d6 := (if_neg c12).symm.trans d6
    refine lv_iload (pc := 29) hx hb dX12_hired_29 (lv_at hl 1 rfl) ?_
    refine lv_iload (pc := 31) hx hb dX12_hired_31 (lv_at hl 0 rfl) ?_
    refine lv_isub (pc := 33) hx hb dX12_hired_33 ?_
    refine lv_goto (pc := 34) (tgt := 38) hx hb dX12_hired_34 (by decide) ?_
    cases d6
    exact J7 H locs ls S (lv_sub hl [2, 3, 5, 1] rfl)
theorem mfX12_hire : MF true yX12_hire RX12 cX12_hire 4 (some .int) 3 := ⟨w1198, w13, by rw [if_pos rfl]; exact ⟨w1196, w1197⟩, ⟨by decide, by decide⟩, by decide +kernel⟩
set_option maxHeartbeats 4000000 in
theorem tX12_hire {l : Launch} {G : GD} {M N : Mem} {a1 : Int32} {a2 : Int32} {a3 : Int32} {r : Int32} (h : fX12_hire N a1 a2 a3 = some r) : MI l yX12_hire cX12_hire 4 .int 4 94 G [.ref (G.2.1 0), .int a1, .int a2, .int a3] M N r M N := by
  unfold fX12_hire at h
  refine MI_of (own := RX12) (by decide) rfl (Nat.le_of_ble_eq_true rfl) ?_
  intro p e s m args below meth c F S ls hl
  have hx := F.1
  have hb := F.2.1
  have hown := F.2.2.2.2.1
  have hts := F.2.2.2.2.2.1
  have hZ := F.2.2.2.2.2.2.2.2.2
  have hl : lv_has ls 4 [(0, .ref (G.2.1 0)), (1, .int a1), (2, .int a2), (3, .int a3)] := hl
  generalize s.heap = H, ([] : List Loc) = locs at S ⊢
  refine lv_iload_n (pc := 0) hx hb dX12_hire_0 rfl (lv_at hl 1 rfl) ?_
  refine lv_iconst (pc := 1) (v := 0) hx hb dX12_hire_1 (by decide) ?_
  refine lv_aload_n (pc := 2) hx hb dX12_hire_2 rfl (lv_at hl 0 rfl) ?_
  refine r_gR (pc := 3) (k := 0) (x := 1) (i := 0) (ci := 12) F S (by decide) (by decide) cl12 inRX12 (by decide) w903 (fun _ => rfl) dX12_hire_3 ?_
  refine lv_iconst (pc := 6) (v := 3) hx hb dX12_hire_6 (by decide) ?_
  obtain ⟨v1, e2, h⟩ := ob_out h
  refine r_nL (pc := 7) F S e2 dX12_hire_7 ?_
  refine lv_iconst (pc := 8) (v := 1) hx hb dX12_hire_8 (by decide) ?_
  refine lv_isub (pc := 9) hx hb dX12_hire_9 ?_
  obtain ⟨v4, e3, h⟩ := ob_out h
  refine c_sI (pc := 10) (rest := []) F S (tX12_in e3) mfX12_in w972 ⟨Nat.le_of_ble_eq_true rfl, Nat.le_of_ble_eq_true rfl⟩ rfl hl.1 rfl (Nat.le_of_ble_eq_true rfl) dX12_hire_10 (fun H locs S => ?_)
  refine lv_if_ne (pc := 13) (tgt := 18) hx hb dX12_hire_13 (by decide) (fun c5 => ?_) (fun c5 => ?_)
  · replace h := (if_neg c5).symm.trans h
    refine lv_iload_n (pc := 18) hx hb dX12_hire_18 rfl (lv_at hl 2 rfl) ?_
    refine lv_iconst (pc := 19) (v := 0) hx hb dX12_hire_19 (by decide) ?_
    refine lv_bipush (pc := 20) (v := 6) hx hb dX12_hire_20 (by decide) ?_
    obtain ⟨v7, e6, h⟩ := ob_out h
    refine c_sI (pc := 22) (rest := []) F S (tX12_in e6) mfX12_in w972 ⟨Nat.le_of_ble_eq_true rfl, Nat.le_of_ble_eq_true rfl⟩ rfl hl.1 rfl (Nat.le_of_ble_eq_true rfl) dX12_hire_22 (fun H locs S => ?_)
    refine lv_if_eq (pc := 25) (tgt := 47) hx hb dX12_hire_25 (by decide) (fun c8 => ?_) (fun c8 => ?_)
    · replace h := (if_pos c8).symm.trans h
      refine lv_bipush (pc := 47) (v := (-2)) hx hb dX12_hire_47 (by decide) ?_
      cases h
      exact r_iret (pc := 49) F S rfl dX12_hire_49
    · replace h := (if_neg c8).symm.trans h
      refine lv_iload_n (pc := 28) hx hb dX12_hire_28 rfl (lv_at hl 3 rfl) ?_
      refine lv_iconst (pc := 29) (v := 0) hx hb dX12_hire_29 (by decide) ?_
      refine lv_iconst (pc := 30) (v := 2) hx hb dX12_hire_30 (by decide) ?_
      obtain ⟨v10, e9, h⟩ := ob_out h
      refine c_sI (pc := 31) (rest := []) F S (tX12_in e9) mfX12_in w972 ⟨Nat.le_of_ble_eq_true rfl, Nat.le_of_ble_eq_true rfl⟩ rfl hl.1 rfl (Nat.le_of_ble_eq_true rfl) dX12_hire_31 (fun H locs S => ?_)
      refine lv_if_eq (pc := 34) (tgt := 47) hx hb dX12_hire_34 (by decide) (fun c11 => ?_) (fun c11 => ?_)
      · replace h := (if_pos c11).symm.trans h
        refine lv_bipush (pc := 47) (v := (-2)) hx hb dX12_hire_47 (by decide) ?_
        cases h
        exact r_iret (pc := 49) F S rfl dX12_hire_49
      · replace h := (if_neg c11).symm.trans h
        refine lv_aload_n (pc := 37) hx hb dX12_hire_37 rfl (lv_at hl 0 rfl) ?_
        refine lv_iload_n (pc := 38) hx hb dX12_hire_38 rfl (lv_at hl 1 rfl) ?_
        refine lv_iload_n (pc := 39) hx hb dX12_hire_39 rfl (lv_at hl 2 rfl) ?_
        refine lv_iload_n (pc := 40) hx hb dX12_hire_40 rfl (lv_at hl 3 rfl) ?_
        obtain ⟨v13, e12, h⟩ := ob_out h
        refine c_vI (pc := 41) (rest := []) F S (tX12_hired e12) mfX12_hired (by decide) (by decide) cl12 w1199 ⟨Nat.le_of_ble_eq_true rfl, Nat.le_of_ble_eq_true rfl⟩ rfl hl.1 rfl (Nat.le_of_ble_eq_true rfl) dX12_hire_41 (fun H locs S => ?_)
        refine lv_goto (pc := 44) (tgt := 49) hx hb dX12_hire_44 (by decide) ?_
        cases h
        exact r_iret (pc := 49) F S rfl dX12_hire_49
  · replace h := (if_pos c5).symm.trans h
    refine lv_iconst (pc := 16) (v := (-1)) hx hb dX12_hire_16 (by decide) ?_
    cases h
    exact r_iret (pc := 17) F S rfl dX12_hire_17
theorem mfX12_sum : MF true yX12_sum RX12 cX12_sum 4 (some .int) 1 := ⟨w1214, w13, by rw [if_pos rfl]; exact ⟨w1213, wp50⟩, ⟨by decide, by decide⟩, by decide +kernel⟩
set_option maxHeartbeats 4000000 in
theorem pX12_sum_L4 {p : Program} {l : Launch} {e : Env} {s : State} {m : MethodId} {args : Array Value} {below : List Frame} {meth : Method} {c : Code} {Q : State → Prop} {G : GD} (F : FX p s m args meth c RX12 cX12_sum 4 (some .int) G) : ∀ (n : Nat) {M N : Mem} {a1 : Int32} {a2 : Int32} {a3 : Int32} {H : Heap} {locs : List Loc} {ls : Array Slot} {o2 : Int32}, ST G M N s H locs → lv_has ls 4 [(0, .ref (G.2.1 0)), (1, .int a1), (2, .int a2), (3, .int a3)] → fX12_sum_L4 n N a1 a2 a3 = some o2 → (K1 : ∀ (H : Heap) (locs : List Loc) (ls : Array Slot), ST G M N s H locs → lv_has ls 4 [(2, .int o2)] → W p l e (Rm 4 94) s m args below meth c H locs 0 0 Q (F0 m 39 ls [])) → W p l e (Rm 4 94) s m args below meth c H locs 0 0 Q (F0 m 4 ls []) := by
  intro n
  induction n with
  | zero => intro M N a1 a2 a3 H locs ls o2 S hl h K1; cases h
  | succ n ih =>
    intro M N a1 a2 a3 H locs ls o2 S hl h K1
    rw [fX12_sum_L4] at h
    have hx := F.1
    have hb := F.2.1
    have hown := F.2.2.2.2.1
    have hts := F.2.2.2.2.2.1
    have hZ := F.2.2.2.2.2.2.2.2.2
    refine lv_iload_n (pc := 4) hx hb dX12_sum_4 rfl (lv_at hl 3 rfl) ?_
    refine lv_bipush (pc := 5) (v := 7) hx hb dX12_sum_5 (by decide) ?_
    refine lv_aload_n (pc := 7) hx hb dX12_sum_7 rfl (lv_at hl 0 rfl) ?_
    refine r_gR (pc := 8) (k := 0) (x := 1) (i := 0) (ci := 12) F S (by decide) (by decide) cl12 inRX12 (by decide) w903 (fun _ => rfl) dX12_sum_8 ?_
    refine lv_iconst (pc := 11) (v := 3) hx hb dX12_sum_11 (by decide) ?_
    obtain ⟨v1, e2, h⟩ := ob_out h
    refine r_nL (pc := 12) F S e2 dX12_sum_12 ?_
    refine lv_imul (pc := 13) hx hb dX12_sum_13 ?_
    refine lv_icmp_ge (pc := 14) (tgt := 39) hx hb dX12_sum_14 (by decide) (fun c3 => ?_) (fun c3 => ?_)
    · replace h := (if_pos c3).symm.trans h
      cases h
      exact K1 H locs ls S (lv_sub hl [2] rfl)
    · replace h := (if_neg c3).symm.trans h
      refine lv_iload_n (pc := 17) hx hb dX12_sum_17 rfl (lv_at hl 2 rfl) ?_
      refine lv_aload_n (pc := 18) hx hb dX12_sum_18 rfl (lv_at hl 0 rfl) ?_
      refine lv_iload_n (pc := 19) hx hb dX12_sum_19 rfl (lv_at hl 3 rfl) ?_
      refine lv_bipush (pc := 20) (v := 7) hx hb dX12_sum_20 (by decide) ?_
      obtain ⟨v4, e5, h⟩ := ob_out h
      refine lv_idiv (pc := 22) hx hb dX12_sum_22 (dv_out e5).1 ?_
      refine nm_i (dv_out e5).2 ?_
      refine lv_iload_n (pc := 23) hx hb dX12_sum_23 rfl (lv_at hl 3 rfl) ?_
      refine lv_bipush (pc := 24) (v := 7) hx hb dX12_sum_24 (by decide) ?_
      obtain ⟨v6, e7, h⟩ := ob_out h
      refine lv_irem (pc := 26) hx hb dX12_sum_26 (rmd_out e7).1 ?_
      refine nm_i (rmd_out e7).2 ?_
      refine lv_iload_n (pc := 27) hx hb dX12_sum_27 rfl (lv_at hl 1 rfl) ?_
      obtain ⟨v9, e8, h⟩ := ob_out h
      refine c_vI (pc := 28) (rest := [.int a2]) F S (tX12_hired e8) mfX12_hired (by decide) (by decide) cl12 w1199 ⟨Nat.le_of_ble_eq_true rfl, Nat.le_of_ble_eq_true rfl⟩ rfl hl.1 rfl (Nat.le_of_ble_eq_true rfl) dX12_sum_28 (fun H locs S => ?_)
      refine lv_iadd (pc := 31) hx hb dX12_sum_31 ?_
      obtain ⟨v10, e11, h⟩ := lt1_out h
      refine nm_i e11 ?_
      refine lv_istore_n (pc := 32) (lv' := [(2, .int v10), (0, .ref (G.2.1 0)), (1, .int a1), (3, .int a3)]) hx hb dX12_sum_32 rfl hl (by decide) rfl (fun ls hl => ?_)
      refine lv_iinc (pc := 33) (lv' := [(3, .int (a3 + 1)), (2, .int v10), (0, .ref (G.2.1 0)), (1, .int a1)]) hx hb dX12_sum_33 hl (k := 3) rfl (iinc_n (by decide)) (by decide) rfl (fun ls hl => ?_)
      refine lv_goto (pc := 36) (tgt := 4) hx hb dX12_sum_36 (by decide) ?_
      exact ih S (lv_sub hl [2, 3, 1, 0] rfl) h K1
set_option maxHeartbeats 4000000 in
theorem tX12_sum {l : Launch} {G : GD} {M N : Mem} {a1 : Int32} {r : Int32} (h : fX12_sum N a1 = some r) : MI l yX12_sum cX12_sum 4 .int 4 94 G [.ref (G.2.1 0), .int a1] M N r M N := by
  unfold fX12_sum at h
  refine MI_of (own := RX12) (by decide) rfl (Nat.le_of_ble_eq_true rfl) ?_
  intro p e s m args below meth c F S ls hl
  have hx := F.1
  have hb := F.2.1
  have hown := F.2.2.2.2.1
  have hts := F.2.2.2.2.2.1
  have hZ := F.2.2.2.2.2.2.2.2.2
  have hl : lv_has ls 4 [(0, .ref (G.2.1 0)), (1, .int a1)] := hl
  generalize s.heap = H, ([] : List Loc) = locs at S ⊢
  refine lv_iconst (pc := 0) (v := 0) hx hb dX12_sum_0 (by decide) ?_
  refine lv_istore_n (pc := 1) (lv' := [(2, .int 0), (0, .ref (G.2.1 0)), (1, .int a1)]) hx hb dX12_sum_1 rfl hl (by decide) rfl (fun ls hl => ?_)
  refine lv_iconst (pc := 2) (v := 0) hx hb dX12_sum_2 (by decide) ?_
  refine lv_istore_n (pc := 3) (lv' := [(3, .int 0), (2, .int 0), (0, .ref (G.2.1 0)), (1, .int a1)]) hx hb dX12_sum_3 rfl hl (by decide) rfl (fun ls hl => ?_)
  obtain ⟨v1, e2, h⟩ := ob_out h
  refine pX12_sum_L4 F 5000 S (lv_sub hl [2, 3, 1, 0] rfl) e2 (fun H locs ls S hl => ?_)
  refine lv_iload_n (pc := 39) hx hb dX12_sum_39 rfl (lv_at hl 0 rfl) ?_
  cases h
  exact r_iret (pc := 40) F S rfl dX12_sum_40
theorem mfX12_fullest : MF true yX12_fullest RX12 cX12_fullest 6 (some .int) 0 := ⟨w1218, w13, by rw [if_pos rfl]; exact ⟨w1217, wp51⟩, ⟨by decide, by decide⟩, by decide +kernel⟩
set_option maxHeartbeats 4000000 in
theorem pX12_fullest_L18 {p : Program} {l : Launch} {e : Env} {s : State} {m : MethodId} {args : Array Value} {below : List Frame} {meth : Method} {c : Code} {Q : State → Prop} {G : GD} (F : FX p s m args meth c RX12 cX12_fullest 6 (some .int) G) : ∀ (n : Nat) {M N : Mem} {a1 : Int32} {a2 : Int32} {a3 : Int32} {a4 : Int32} {a5 : Int32} {H : Heap} {locs : List Loc} {ls : Array Slot} {o4 : Int32}, ST G M N s H locs → lv_has ls 6 [(0, .ref (G.2.1 0)), (1, .int a1), (2, .int a2), (3, .int a3), (4, .int a4), (5, .int a5)] → fX12_fullest_L18 n N a1 a2 a3 a4 a5 = some o4 → (K1 : ∀ (H : Heap) (locs : List Loc) (ls : Array Slot), ST G M N s H locs → lv_has ls 6 [(0, .ref (G.2.1 0)), (1, .int a1), (2, .int a2), (3, .int a3), (4, .int o4)] → W p l e (Rm 3 68) s m args below meth c H locs 0 0 Q (F0 m 47 ls [])) → W p l e (Rm 3 68) s m args below meth c H locs 0 0 Q (F0 m 18 ls []) := by
  intro n
  induction n with
  | zero => intro M N a1 a2 a3 a4 a5 H locs ls o4 S hl h K1; cases h
  | succ n ih =>
    intro M N a1 a2 a3 a4 a5 H locs ls o4 S hl h K1
    rw [fX12_fullest_L18] at h
    have hx := F.1
    have hb := F.2.1
    have hown := F.2.2.2.2.1
    have hts := F.2.2.2.2.2.1
    have hZ := F.2.2.2.2.2.2.2.2.2
    refine lv_iload (pc := 18) hx hb dX12_fullest_18 (lv_at hl 5 rfl) ?_
    refine lv_aload_n (pc := 20) hx hb dX12_fullest_20 rfl (lv_at hl 0 rfl) ?_
    refine r_gR (pc := 21) (k := 0) (x := 1) (i := 0) (ci := 12) F S (by decide) (by decide) cl12 inRX12 (by decide) w903 (fun _ => rfl) dX12_fullest_21 ?_
    refine lv_iconst (pc := 24) (v := 3) hx hb dX12_fullest_24 (by decide) ?_
    obtain ⟨v2, e3, h⟩ := ob_out h
    refine r_nL (pc := 25) F S e3 dX12_fullest_25 ?_
    refine lv_icmp_ge (pc := 26) (tgt := 47) hx hb dX12_fullest_26 (by decide) (fun c4 => ?_) (fun c4 => ?_)
    · replace h := (if_pos c4).symm.trans h
      cases h
      exact K1 H locs ls S (lv_sub hl [0, 1, 2, 3, 4] rfl)
    · replace h := (if_neg c4).symm.trans h
      refine lv_iload (pc := 29) hx hb dX12_fullest_29 (lv_at hl 4 rfl) ?_
      refine lv_aload_n (pc := 31) hx hb dX12_fullest_31 rfl (lv_at hl 0 rfl) ?_
      refine lv_iload (pc := 32) hx hb dX12_fullest_32 (lv_at hl 5 rfl) ?_
      refine lv_iload_n (pc := 34) hx hb dX12_fullest_34 rfl (lv_at hl 3 rfl) ?_
      obtain ⟨v6, e5, h⟩ := ob_out h
      refine c_vI (pc := 35) (rest := [.int a4]) F S (tX12_needed e5) mfX12_needed (by decide) (by decide) cl12 w1203 ⟨Nat.le_of_ble_eq_true rfl, Nat.le_of_ble_eq_true rfl⟩ rfl hl.1 rfl (Nat.le_of_ble_eq_true rfl) dX12_fullest_35 (fun H locs S => ?_)
      refine lv_iadd (pc := 38) hx hb dX12_fullest_38 ?_
      obtain ⟨v7, e8, h⟩ := lt1_out h
      refine nm_i e8 ?_
      refine lv_istore (pc := 39) (lv' := [(4, .int v7), (0, .ref (G.2.1 0)), (1, .int a1), (2, .int a2), (3, .int a3), (5, .int a5)]) hx hb dX12_fullest_39 hl (by decide) rfl (fun ls hl => ?_)
      refine lv_iinc (pc := 41) (lv' := [(5, .int (a5 + 1)), (4, .int v7), (0, .ref (G.2.1 0)), (1, .int a1), (2, .int a2), (3, .int a3)]) hx hb dX12_fullest_41 hl (k := 5) rfl (iinc_n (by decide)) (by decide) rfl (fun ls hl => ?_)
      refine lv_goto (pc := 44) (tgt := 18) hx hb dX12_fullest_44 (by decide) ?_
      exact ih S (lv_sub hl [2, 3, 4, 5, 1, 0] rfl) h K1
set_option maxHeartbeats 4000000 in
theorem pX12_fullest_L6 {p : Program} {l : Launch} {e : Env} {s : State} {m : MethodId} {args : Array Value} {below : List Frame} {meth : Method} {c : Code} {Q : State → Prop} {G : GD} (F : FX p s m args meth c RX12 cX12_fullest 6 (some .int) G) : ∀ (n : Nat) {M N : Mem} {a1 : Int32} {a2 : Int32} {a3 : Int32} {H : Heap} {locs : List Loc} {ls : Array Slot} {o1 : Int32}, ST G M N s H locs → lv_has ls 6 [(0, .ref (G.2.1 0)), (1, .int a1), (2, .int a2), (3, .int a3)] → fX12_fullest_L6 n N a1 a2 a3 = some o1 → (K1 : ∀ (H : Heap) (locs : List Loc) (ls : Array Slot), ST G M N s H locs → lv_has ls 6 [(1, .int o1)] → W p l e (Rm 3 68) s m args below meth c H locs 0 0 Q (F0 m 78 ls [])) → W p l e (Rm 3 68) s m args below meth c H locs 0 0 Q (F0 m 6 ls []) := by
  intro n
  induction n with
  | zero => intro M N a1 a2 a3 H locs ls o1 S hl h K1; cases h
  | succ n ih =>
    intro M N a1 a2 a3 H locs ls o1 S hl h K1
    rw [fX12_fullest_L6] at h
    have hx := F.1
    have hb := F.2.1
    have hown := F.2.2.2.2.1
    have hts := F.2.2.2.2.2.1
    have hZ := F.2.2.2.2.2.2.2.2.2
    refine lv_iload_n (pc := 6) hx hb dX12_fullest_6 rfl (lv_at hl 3 rfl) ?_
    refine lv_bipush (pc := 7) (v := 7) hx hb dX12_fullest_7 (by decide) ?_
    refine lv_icmp_ge (pc := 9) (tgt := 78) hx hb dX12_fullest_9 (by decide) (fun c1 => ?_) (fun c1 => ?_)
    · replace h := (if_pos c1).symm.trans h
      cases h
      exact K1 H locs ls S (lv_sub hl [1] rfl)
    · replace h := (if_neg c1).symm.trans h
      refine lv_iconst (pc := 12) (v := 0) hx hb dX12_fullest_12 (by decide) ?_
      refine lv_istore (pc := 13) (lv' := [(4, .int 0), (0, .ref (G.2.1 0)), (1, .int a1), (2, .int a2), (3, .int a3)]) hx hb dX12_fullest_13 hl (by decide) rfl (fun ls hl => ?_)
      refine lv_iconst (pc := 15) (v := 0) hx hb dX12_fullest_15 (by decide) ?_
      refine lv_istore (pc := 16) (lv' := [(5, .int 0), (4, .int 0), (0, .ref (G.2.1 0)), (1, .int a1), (2, .int a2), (3, .int a3)]) hx hb dX12_fullest_16 hl (by decide) rfl (fun ls hl => ?_)
      obtain ⟨v2, e3, h⟩ := ob_out h
      refine pX12_fullest_L18 F 5000 S (lv_sub hl [2, 3, 4, 5, 1, 0] rfl) e3 (fun H locs ls S hl => ?_)
      refine lv_iload (pc := 47) hx hb dX12_fullest_47 (lv_at hl 4 rfl) ?_
      refine lv_iload_n (pc := 49) hx hb dX12_fullest_49 rfl (lv_at hl 2 rfl) ?_
      obtain ⟨v4, d5, h⟩ := ob_out h
      have J6 : ∀ (H : Heap) (locs : List Loc) (ls : Array Slot), ST G M N s H locs → lv_has ls 6 [(0, .ref (G.2.1 0)), (2, .int a2), (3, .int a3), (4, .int v2)] → W p l e (Rm 3 68) s m args below meth c H locs 0 0 Q (F0 m 58 ls [.int v4]) := by
        intro H locs ls S hl
        refine lv_istore_n (pc := 58) (lv' := [(1, .int v4), (0, .ref (G.2.1 0)), (2, .int a2), (3, .int a3), (4, .int v2)]) hx hb dX12_fullest_58 rfl hl (by decide) rfl (fun ls hl => ?_)
        refine lv_iload (pc := 59) hx hb dX12_fullest_59 (lv_at hl 4 rfl) ?_
        refine lv_iload_n (pc := 61) hx hb dX12_fullest_61 rfl (lv_at hl 2 rfl) ?_
        refine lv_icmp_le (pc := 62) (tgt := 70) hx hb dX12_fullest_62 (by decide) (fun c7 => ?_) (fun c7 => ?_)
        · replace h := (if_pos c7).symm.trans h
          refine lv_iload_n (pc := 70) hx hb dX12_fullest_70 rfl (lv_at hl 2 rfl) ?_
          refine lv_istore_n (pc := 71) (lv' := [(2, .int a2), (1, .int v4), (0, .ref (G.2.1 0)), (3, .int a3), (4, .int v2)]) hx hb dX12_fullest_71 rfl hl (by decide) rfl (fun ls hl => ?_)
          refine lv_iinc (pc := 72) (lv' := [(3, .int (a3 + 1)), (2, .int a2), (1, .int v4), (0, .ref (G.2.1 0)), (4, .int v2)]) hx hb dX12_fullest_72 hl (k := 3) rfl (iinc_n (by decide)) (by decide) rfl (fun ls hl => ?_)
          refine lv_goto (pc := 75) (tgt := 6) hx hb dX12_fullest_75 (by decide) ?_
          exact ih S (lv_sub hl [3, 2, 1, 0] rfl) h K1
        · replace h := (if_neg c7).symm.trans h
          refine lv_iload (pc := 65) hx hb dX12_fullest_65 (lv_at hl 4 rfl) ?_
          refine lv_goto (pc := 67) (tgt := 71) hx hb dX12_fullest_67 (by decide) ?_
          refine lv_istore_n (pc := 71) (lv' := [(2, .int v2), (1, .int v4), (0, .ref (G.2.1 0)), (3, .int a3), (4, .int v2)]) hx hb dX12_fullest_71 rfl hl (by decide) rfl (fun ls hl => ?_)
          refine lv_iinc (pc := 72) (lv' := [(3, .int (a3 + 1)), (2, .int v2), (1, .int v4), (0, .ref (G.2.1 0)), (4, .int v2)]) hx hb dX12_fullest_72 hl (k := 3) rfl (iinc_n (by decide)) (by decide) rfl (fun ls hl => ?_)
          refine lv_goto (pc := 75) (tgt := 6) hx hb dX12_fullest_75 (by decide) ?_
          exact ih S (lv_sub hl [3, 2, 1, 0] rfl) h K1
      refine lv_icmp_le (pc := 50) (tgt := 57) hx hb dX12_fullest_50 (by decide) (fun c8 => ?_) (fun c8 => ?_)
      · replace d5 := (if_pos c8).symm.trans d5
        refine lv_iload_n (pc := 57) hx hb dX12_fullest_57 rfl (lv_at hl 1 rfl) ?_
        cases d5
        exact J6 H locs ls S (lv_sub hl [0, 2, 3, 4] rfl)
      · replace d5 := (if_neg c8).symm.trans d5
        refine lv_iload_n (pc := 53) hx hb dX12_fullest_53 rfl (lv_at hl 3 rfl) ?_
        refine lv_goto (pc := 54) (tgt := 58) hx hb dX12_fullest_54 (by decide) ?_
        cases d5
        exact J6 H locs ls S (lv_sub hl [0, 2, 3, 4] rfl)
set_option maxHeartbeats 4000000 in
theorem tX12_fullest {l : Launch} {G : GD} {M N : Mem} {r : Int32} (h : fX12_fullest N = some r) : MI l yX12_fullest cX12_fullest 6 .int 3 68 G [.ref (G.2.1 0)] M N r M N := by
  unfold fX12_fullest at h
  refine MI_of (own := RX12) (by decide) rfl (Nat.le_of_ble_eq_true rfl) ?_
  intro p e s m args below meth c F S ls hl
  have hx := F.1
  have hb := F.2.1
  have hown := F.2.2.2.2.1
  have hts := F.2.2.2.2.2.1
  have hZ := F.2.2.2.2.2.2.2.2.2
  have hl : lv_has ls 6 [(0, .ref (G.2.1 0))] := hl
  generalize s.heap = H, ([] : List Loc) = locs at S ⊢
  refine lv_iconst (pc := 0) (v := 0) hx hb dX12_fullest_0 (by decide) ?_
  refine lv_istore_n (pc := 1) (lv' := [(1, .int 0), (0, .ref (G.2.1 0))]) hx hb dX12_fullest_1 rfl hl (by decide) rfl (fun ls hl => ?_)
  refine lv_iconst (pc := 2) (v := (-1)) hx hb dX12_fullest_2 (by decide) ?_
  refine lv_istore_n (pc := 3) (lv' := [(2, .int (-1)), (1, .int 0), (0, .ref (G.2.1 0))]) hx hb dX12_fullest_3 rfl hl (by decide) rfl (fun ls hl => ?_)
  refine lv_iconst (pc := 4) (v := 0) hx hb dX12_fullest_4 (by decide) ?_
  refine lv_istore_n (pc := 5) (lv' := [(3, .int 0), (2, .int (-1)), (1, .int 0), (0, .ref (G.2.1 0))]) hx hb dX12_fullest_5 rfl hl (by decide) rfl (fun ls hl => ?_)
  obtain ⟨v1, e2, h⟩ := ob_out h
  refine pX12_fullest_L6 F 5000 S (lv_sub hl [3, 2, 1, 0] rfl) e2 (fun H locs ls S hl => ?_)
  refine lv_iload_n (pc := 78) hx hb dX12_fullest_78 rfl (lv_at hl 0 rfl) ?_
  cases h
  exact r_iret (pc := 79) F S rfl dX12_fullest_79
theorem mfX12_count : MF true yX12_count RX12 cX12_count 2 (some .int) 1 := ⟨w1210, w13, by rw [if_pos rfl]; exact ⟨w1208, w1209⟩, ⟨by decide, by decide⟩, by decide +kernel⟩
set_option maxHeartbeats 4000000 in
theorem tX12_count {l : Launch} {G : GD} {M N : Mem} {a1 : Int32} {r : Int32} (h : fX12_count N a1 = some r) : MI l yX12_count cX12_count 2 .int 5 117 G [.ref (G.2.1 0), .int a1] M N r M N := by
  unfold fX12_count at h
  refine MI_of (own := RX12) (by decide) rfl (Nat.le_of_ble_eq_true rfl) ?_
  intro p e s m args below meth c F S ls hl
  have hx := F.1
  have hb := F.2.1
  have hown := F.2.2.2.2.1
  have hts := F.2.2.2.2.2.1
  have hZ := F.2.2.2.2.2.2.2.2.2
  have hl : lv_has ls 2 [(0, .ref (G.2.1 0)), (1, .int a1)] := hl
  generalize s.heap = H, ([] : List Loc) = locs at S ⊢
  refine lv_iload_n (pc := 0) hx hb dX12_count_0 rfl (lv_at hl 1 rfl) ?_
  rcases Classical.em (a1 = 0) with c1 | c1
  · replace h := (if_pos c1).symm.trans h
    refine lv_tableIn (pc := 1) (tgt := 52) hx hb dX12_count_1 (by rw [c1]; decide) (by rw [c1]; decide) (off := 51) (by rw [c1]; rfl) (by decide) ?_
    refine lv_aload_n (pc := 52) hx hb dX12_count_52 rfl (lv_at hl 0 rfl) ?_
    refine r_gR (pc := 53) (k := 0) (x := 1) (i := 0) (ci := 12) F S (by decide) (by decide) cl12 inRX12 (by decide) w903 (fun _ => rfl) dX12_count_53 ?_
    refine lv_iconst (pc := 56) (v := 3) hx hb dX12_count_56 (by decide) ?_
    obtain ⟨v2, e3, h⟩ := ob_out h
    refine r_nL (pc := 57) F S e3 dX12_count_57 ?_
    cases h
    exact r_iret (pc := 58) F S rfl dX12_count_58
  replace h := (if_neg c1).symm.trans h
  rcases Classical.em (a1 = 1) with c4 | c4
  · replace h := (if_pos c4).symm.trans h
    refine lv_tableIn (pc := 1) (tgt := 59) hx hb dX12_count_1 (by rw [c4]; decide) (by rw [c4]; decide) (off := 58) (by rw [c4]; rfl) (by decide) ?_
    refine lv_aload_n (pc := 59) hx hb dX12_count_59 rfl (lv_at hl 0 rfl) ?_
    refine lv_iconst (pc := 60) (v := 2) hx hb dX12_count_60 (by decide) ?_
    obtain ⟨v6, e5, h⟩ := ob_out h
    refine c_vI (pc := 61) (rest := []) F S (tX12_sum e5) mfX12_sum (by decide) (by decide) cl12 w1211 ⟨Nat.le_of_ble_eq_true rfl, Nat.le_of_ble_eq_true rfl⟩ rfl hl.1 rfl (Nat.le_of_ble_eq_true rfl) dX12_count_61 (fun H locs S => ?_)
    cases h
    exact r_iret (pc := 64) F S rfl dX12_count_64
  replace h := (if_neg c4).symm.trans h
  rcases Classical.em (a1 = 2) with c7 | c7
  · replace h := (if_pos c7).symm.trans h
    refine lv_tableIn (pc := 1) (tgt := 65) hx hb dX12_count_1 (by rw [c7]; decide) (by rw [c7]; decide) (off := 64) (by rw [c7]; rfl) (by decide) ?_
    refine lv_aload_n (pc := 65) hx hb dX12_count_65 rfl (lv_at hl 0 rfl) ?_
    refine lv_iconst (pc := 66) (v := 1) hx hb dX12_count_66 (by decide) ?_
    obtain ⟨v9, e8, h⟩ := ob_out h
    refine c_vI (pc := 67) (rest := []) F S (tX12_sum e8) mfX12_sum (by decide) (by decide) cl12 w1211 ⟨Nat.le_of_ble_eq_true rfl, Nat.le_of_ble_eq_true rfl⟩ rfl hl.1 rfl (Nat.le_of_ble_eq_true rfl) dX12_count_67 (fun H locs S => ?_)
    cases h
    exact r_iret (pc := 70) F S rfl dX12_count_70
  replace h := (if_neg c7).symm.trans h
  rcases Classical.em (a1 = 3) with c10 | c10
  · replace h := (if_pos c10).symm.trans h
    refine lv_tableIn (pc := 1) (tgt := 71) hx hb dX12_count_1 (by rw [c10]; decide) (by rw [c10]; decide) (off := 70) (by rw [c10]; rfl) (by decide) ?_
    refine lv_aload_n (pc := 71) hx hb dX12_count_71 rfl (lv_at hl 0 rfl) ?_
    obtain ⟨v12, e11, h⟩ := ob_out h
    refine c_vI (pc := 72) (rest := []) F S (tX12_fullest e11) mfX12_fullest (by decide) (by decide) cl12 w1215 ⟨Nat.le_of_ble_eq_true rfl, Nat.le_of_ble_eq_true rfl⟩ rfl hl.1 rfl (Nat.le_of_ble_eq_true rfl) dX12_count_72 (fun H locs S => ?_)
    cases h
    exact r_iret (pc := 75) F S rfl dX12_count_75
  replace h := (if_neg c10).symm.trans h
  rcases Classical.em (a1 = 4) with c13 | c13
  · replace h := (if_pos c13).symm.trans h
    refine lv_tableIn (pc := 1) (tgt := 76) hx hb dX12_count_1 (by rw [c13]; decide) (by rw [c13]; decide) (off := 75) (by rw [c13]; rfl) (by decide) ?_
    refine lv_aload_n (pc := 76) hx hb dX12_count_76 rfl (lv_at hl 0 rfl) ?_
    refine r_gR (pc := 77) (k := 0) (x := 1) (i := 0) (ci := 12) F S (by decide) (by decide) cl12 inRX12 (by decide) w903 (fun _ => rfl) dX12_count_77 ?_
    refine lv_iconst (pc := 80) (v := 0) hx hb dX12_count_80 (by decide) ?_
    refine lv_iload_n (pc := 81) hx hb dX12_count_81 rfl (lv_at hl 1 rfl) ?_
    refine lv_iadd (pc := 82) hx hb dX12_count_82 ?_
    refine lv_iconst (pc := 83) (v := 4) hx hb dX12_count_83 (by decide) ?_
    refine lv_isub (pc := 84) hx hb dX12_count_84 ?_
    obtain ⟨v14, e15, h⟩ := ob_out h
    refine r_nL (pc := 85) F S e15 dX12_count_85 ?_
    cases h
    exact r_iret (pc := 86) F S rfl dX12_count_86
  replace h := (if_neg c13).symm.trans h
  rcases Classical.em (a1 = 5) with c16 | c16
  · replace h := (if_pos c16).symm.trans h
    refine lv_tableIn (pc := 1) (tgt := 76) hx hb dX12_count_1 (by rw [c16]; decide) (by rw [c16]; decide) (off := 75) (by rw [c16]; rfl) (by decide) ?_
    refine lv_aload_n (pc := 76) hx hb dX12_count_76 rfl (lv_at hl 0 rfl) ?_
    refine r_gR (pc := 77) (k := 0) (x := 1) (i := 0) (ci := 12) F S (by decide) (by decide) cl12 inRX12 (by decide) w903 (fun _ => rfl) dX12_count_77 ?_
    refine lv_iconst (pc := 80) (v := 0) hx hb dX12_count_80 (by decide) ?_
    refine lv_iload_n (pc := 81) hx hb dX12_count_81 rfl (lv_at hl 1 rfl) ?_
    refine lv_iadd (pc := 82) hx hb dX12_count_82 ?_
    refine lv_iconst (pc := 83) (v := 4) hx hb dX12_count_83 (by decide) ?_
    refine lv_isub (pc := 84) hx hb dX12_count_84 ?_
    obtain ⟨v17, e18, h⟩ := ob_out h
    refine r_nL (pc := 85) F S e18 dX12_count_85 ?_
    cases h
    exact r_iret (pc := 86) F S rfl dX12_count_86
  replace h := (if_neg c16).symm.trans h
  rcases Classical.em (a1 = 6) with c19 | c19
  · replace h := (if_pos c19).symm.trans h
    refine lv_tableIn (pc := 1) (tgt := 76) hx hb dX12_count_1 (by rw [c19]; decide) (by rw [c19]; decide) (off := 75) (by rw [c19]; rfl) (by decide) ?_
    refine lv_aload_n (pc := 76) hx hb dX12_count_76 rfl (lv_at hl 0 rfl) ?_
    refine r_gR (pc := 77) (k := 0) (x := 1) (i := 0) (ci := 12) F S (by decide) (by decide) cl12 inRX12 (by decide) w903 (fun _ => rfl) dX12_count_77 ?_
    refine lv_iconst (pc := 80) (v := 0) hx hb dX12_count_80 (by decide) ?_
    refine lv_iload_n (pc := 81) hx hb dX12_count_81 rfl (lv_at hl 1 rfl) ?_
    refine lv_iadd (pc := 82) hx hb dX12_count_82 ?_
    refine lv_iconst (pc := 83) (v := 4) hx hb dX12_count_83 (by decide) ?_
    refine lv_isub (pc := 84) hx hb dX12_count_84 ?_
    obtain ⟨v20, e21, h⟩ := ob_out h
    refine r_nL (pc := 85) F S e21 dX12_count_85 ?_
    cases h
    exact r_iret (pc := 86) F S rfl dX12_count_86
  replace h := (if_neg c19).symm.trans h
  rcases Classical.em (a1 = 7) with c22 | c22
  · replace h := (if_pos c22).symm.trans h
    refine lv_tableIn (pc := 1) (tgt := 87) hx hb dX12_count_1 (by rw [c22]; decide) (by rw [c22]; decide) (off := 86) (by rw [c22]; rfl) (by decide) ?_
    refine lv_aload_n (pc := 87) hx hb dX12_count_87 rfl (lv_at hl 0 rfl) ?_
    obtain ⟨v23, e24, h⟩ := ob_out h
    refine r_gN (pc := 88) (k := 7) F S e24 (by decide) cl12 inRX12 (by decide) w910 (fun _ => rfl) dX12_count_88 ?_
    cases h
    exact r_iret (pc := 91) F S rfl dX12_count_91
  replace h := (if_neg c22).symm.trans h
  rcases Classical.em (a1 = 8) with c25 | c25
  · replace h := (if_pos c25).symm.trans h
    refine lv_tableIn (pc := 1) (tgt := 92) hx hb dX12_count_1 (by rw [c25]; decide) (by rw [c25]; decide) (off := 91) (by rw [c25]; rfl) (by decide) ?_
    refine lv_aload_n (pc := 92) hx hb dX12_count_92 rfl (lv_at hl 0 rfl) ?_
    obtain ⟨v26, e27, h⟩ := ob_out h
    refine r_gN (pc := 93) (k := 3) F S e27 (by decide) cl12 inRX12 (by decide) w906 (fun _ => rfl) dX12_count_93 ?_
    cases h
    exact r_iret (pc := 96) F S rfl dX12_count_96
  replace h := (if_neg c25).symm.trans h
  refine lv_tableOut (pc := 1) (tgt := 97) hx hb dX12_count_1 (tbl_out (fun k h1 h2 => ?_)) (by decide) ?_
  · rcases (show k = 0 ∨ k = 1 ∨ k = 2 ∨ k = 3 ∨ k = 4 ∨ k = 5 ∨ k = 6 ∨ k = 7 ∨ k = 8 by omega) with rfl | rfl | rfl | rfl | rfl | rfl | rfl | rfl | rfl
    · exact lv_neT c1 (by decide)
    · exact lv_neT c4 (by decide)
    · exact lv_neT c7 (by decide)
    · exact lv_neT c10 (by decide)
    · exact lv_neT c13 (by decide)
    · exact lv_neT c16 (by decide)
    · exact lv_neT c19 (by decide)
    · exact lv_neT c22 (by decide)
    · exact lv_neT c25 (by decide)
  refine lv_bipush (pc := 97) (v := (-2)) hx hb dX12_count_97 (by decide) ?_
  cases h
  exact r_iret (pc := 99) F S rfl dX12_count_99
