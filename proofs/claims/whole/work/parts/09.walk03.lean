/-! the walks: each method does what its function says -/
theorem sX6_passTick {M : Mem} {a0 : Nat} {a1 : Nat} {a2 : Nat} {r : (Int32 × Mem)} (h : fX6_passTick M a0 a1 a2 = some r) : shp a0 = 6 := by
  unfold fX6_passTick at h
  exact (ck_out h).1
theorem mfX6_passTick : MF true yX6_passTick RX6 cX6_passTick 6 (some .int) 2 := ⟨w600, w4, by rw [if_pos rfl]; exact ⟨w598, w599⟩, ⟨by decide, by decide⟩, by decide +kernel⟩
set_option maxHeartbeats 4000000 in
theorem tX6_passTick {l : Launch} {G : GD} {M N Mo : Mem} {a0 : Nat} {a1 : Nat} {a2 : Nat} {r : Int32} (h : fX6_passTick M a0 a1 a2 = some (r, Mo)) : MI l yX6_passTick cX6_passTick 6 .int 4 90 G [.ref (G.2.1 a0), .ref (G.2.1 a1), .ref (G.2.1 a2)] M N r Mo N := by
  unfold fX6_passTick at h
  obtain ⟨hsh, h⟩ := ck_out h
  refine MI_of (own := RX6) (by decide) rfl (Nat.le_of_ble_eq_true rfl) ?_
  intro p e s m args below meth c F S ls hl
  have hx := F.1
  have hb := F.2.1
  have hown := F.2.2.2.2.1
  have hts := F.2.2.2.2.2.1
  have hZ := F.2.2.2.2.2.2.2.2.2
  have hl : lv_has ls 6 [(0, .ref (G.2.1 a0)), (1, .ref (G.2.1 a1)), (2, .ref (G.2.1 a2))] := hl
  generalize s.heap = H, ([] : List Loc) = locs at S ⊢
  refine lv_aload_n (pc := 0) hx hb dX6_passTick_0 rfl (lv_at hl 1 rfl) ?_
  obtain ⟨x1, e2, h⟩ := ob_out h
  refine r_gR (pc := 1) (k := 0) F S e2 (by decide) cl7 inRX7 (by decide) w166 (fun _ => rfl) dX6_passTick_1 ?_
  refine lv_iconst (pc := 4) (v := 2) hx hb dX6_passTick_4 (by decide) ?_
  obtain ⟨v3, e4, h⟩ := ob_out h
  refine r_aL (pc := 5) F S e4 dX6_passTick_5 ?_
  refine lv_istore_n (pc := 6) (lv' := [(3, .int v3), (0, .ref (G.2.1 a0)), (1, .ref (G.2.1 a1)), (2, .ref (G.2.1 a2))]) hx hb dX6_passTick_6 rfl hl (by decide) rfl (fun ls hl => ?_)
  refine lv_aload_n (pc := 7) hx hb dX6_passTick_7 rfl (lv_at hl 1 rfl) ?_
  obtain ⟨x5, e6, h⟩ := ob_out h
  refine r_gR (pc := 8) (k := 10) F S e6 (by decide) cl6 inRX6 (by decide) w130 (fun _ => rfl) dX6_passTick_8 ?_
  refine lv_aload_n (pc := 11) hx hb dX6_passTick_11 rfl (lv_at hl 1 rfl) ?_
  obtain ⟨x7, e8, h⟩ := ob_out h
  refine r_gR (pc := 12) (k := 6) F S e8 (by decide) cl6 inRX6 (by decide) w119 (fun _ => rfl) dX6_passTick_12 ?_
  obtain ⟨M10, e9, h⟩ := ob_out h
  refine c_vV (pc := 15) (rest := []) F S (tX1_step e9) mfX1_step (sX1_step e9) (by decide) cl1 w601 ⟨Nat.le_of_ble_eq_true rfl, Nat.le_of_ble_eq_true rfl⟩ rfl hl.1 rfl (Nat.le_of_ble_eq_true rfl) dX6_passTick_15 (fun H locs S => ?_)
  refine lv_aload_n (pc := 18) hx hb dX6_passTick_18 rfl (lv_at hl 3 rfl) ?_
  refine lv_aload_n (pc := 19) hx hb dX6_passTick_19 rfl (lv_at hl 1 rfl) ?_
  refine lv_aload_n (pc := 20) hx hb dX6_passTick_20 rfl (lv_at hl 2 rfl) ?_
  obtain ⟨x11, e12, h⟩ := ob_out h
  refine r_gR (pc := 21) (k := 1) F S e12 (by decide) cl7 inRX7 (by decide) w169 (fun _ => rfl) dX6_passTick_21 ?_
  obtain ⟨M14, e13, h⟩ := ob_out h
  refine c_vV (pc := 24) (rest := []) F S (tX3_measureNow e13) mfX3_measureNow (sX3_measureNow e13) (by decide) cl3 w605 ⟨Nat.le_of_ble_eq_true rfl, Nat.le_of_ble_eq_true rfl⟩ rfl hl.1 rfl (Nat.le_of_ble_eq_true rfl) dX6_passTick_24 (fun H locs S => ?_)
  refine lv_aload_n (pc := 27) hx hb dX6_passTick_27 rfl (lv_at hl 1 rfl) ?_
  obtain ⟨x15, e16, h⟩ := ob_out h
  refine r_gR (pc := 28) (k := 11) F S e16 (by decide) cl6 inRX6 (by decide) w132 (fun _ => rfl) dX6_passTick_28 ?_
  refine lv_aload_n (pc := 31) hx hb dX6_passTick_31 rfl (lv_at hl 3 rfl) ?_
  obtain ⟨x17, e18, h⟩ := ob_out h
  refine r_gR (pc := 32) (k := 0) F S e18 (by decide) cl3 inRX3 (by decide) w264 (fun _ => rfl) dX6_passTick_32 ?_
  refine lv_aload_n (pc := 35) hx hb dX6_passTick_35 rfl (lv_at hl 2 rfl) ?_
  obtain ⟨x19, e20, h⟩ := ob_out h
  refine r_gR (pc := 36) (k := 0) F S e20 (by decide) cl7 inRX7 (by decide) w166 (fun _ => rfl) dX6_passTick_36 ?_
  refine lv_iconst (pc := 39) (v := 0) hx hb dX6_passTick_39 (by decide) ?_
  obtain ⟨v21, e22, h⟩ := ob_out h
  refine r_aL (pc := 40) F S e22 dX6_passTick_40 ?_
  refine lv_iload_n (pc := 41) hx hb dX6_passTick_41 rfl (lv_at hl 0 rfl) ?_
  obtain ⟨v24, M25, e23, h⟩ := ob2_out h
  refine c_vI (pc := 42) (rest := []) F S (tX0_check e23) mfX0_check (sX0_check e23) (by decide) cl0 w624 ⟨Nat.le_of_ble_eq_true rfl, Nat.le_of_ble_eq_true rfl⟩ rfl hl.1 rfl (Nat.le_of_ble_eq_true rfl) dX6_passTick_42 (fun H locs S => ?_)
  refine lv_istore (pc := 45) (lv' := [(4, .int v24), (3, .int v3), (0, .ref (G.2.1 a0)), (1, .ref (G.2.1 a1)), (2, .ref (G.2.1 a2))]) hx hb dX6_passTick_45 hl (by decide) rfl (fun ls hl => ?_)
  refine lv_iload (pc := 47) hx hb dX6_passTick_47 (lv_at hl 0 rfl) ?_
  obtain ⟨M26, d27, h⟩ := ob_out h
  have J28 : ∀ (H : Heap) (locs : List Loc) (ls : Array Slot), ST G M26 N s H locs → lv_has ls 6 [(0, .ref (G.2.1 a0)), (1, .ref (G.2.1 a1)), (2, .ref (G.2.1 a2)), (3, .int v3), (4, .int v24)] → W p l e (Rm 4 90) s m args below meth c H locs 0 0 (MQ below (va_Qi (fun r' (_ : Unit) => r' = r) (fun _ t => Wd G Mo N t) (AG G.2.1)) args s 0 0 (AG G.2.1)) (F0 m 61 ls []) := by
    intro H locs ls S hl
    refine lv_aload_n (pc := 61) hx hb dX6_passTick_61 rfl (lv_at hl 0 rfl) ?_
    obtain ⟨x29, e30, h⟩ := ob_out h
    refine r_gR (pc := 62) (k := 12) F S e30 (by decide) cl6 inRX6 (by decide) w134 (fun _ => rfl) dX6_passTick_62 ?_
    refine lv_aload_n (pc := 65) hx hb dX6_passTick_65 rfl (lv_at hl 2 rfl) ?_
    obtain ⟨x31, e32, h⟩ := ob_out h
    refine r_gR (pc := 66) (k := 1) F S e32 (by decide) cl3 inRX3 (by decide) w269 (fun _ => rfl) dX6_passTick_66 ?_
    refine lv_aload_n (pc := 69) hx hb dX6_passTick_69 rfl (lv_at hl 1 rfl) ?_
    obtain ⟨x33, e34, h⟩ := ob_out h
    refine r_gR (pc := 70) (k := 0) F S e34 (by decide) cl7 inRX7 (by decide) w166 (fun _ => rfl) dX6_passTick_70 ?_
    refine lv_iconst (pc := 73) (v := 1) hx hb dX6_passTick_73 (by decide) ?_
    obtain ⟨v35, e36, h⟩ := ob_out h
    refine r_aL (pc := 74) F S e36 dX6_passTick_74 ?_
    refine lv_iload_n (pc := 75) hx hb dX6_passTick_75 rfl (lv_at hl 3 rfl) ?_
    obtain ⟨v38, M39, e37, h⟩ := ob2_out h
    refine c_vI (pc := 76) (rest := []) F S (tX0_check e37) mfX0_check (sX0_check e37) (by decide) cl0 w624 ⟨Nat.le_of_ble_eq_true rfl, Nat.le_of_ble_eq_true rfl⟩ rfl hl.1 rfl (Nat.le_of_ble_eq_true rfl) dX6_passTick_76 (fun H locs S => ?_)
    refine lv_istore (pc := 79) (lv' := [(5, .int v38), (0, .ref (G.2.1 a0)), (1, .ref (G.2.1 a1)), (2, .ref (G.2.1 a2)), (3, .int v3), (4, .int v24)]) hx hb dX6_passTick_79 hl (by decide) rfl (fun ls hl => ?_)
    refine lv_iload (pc := 81) hx hb dX6_passTick_81 (lv_at hl 0 rfl) ?_
    refine lv_if_le (pc := 83) (tgt := 95) hx hb dX6_passTick_83 (by decide) (fun c40 => ?_) (fun c40 => ?_)
    · replace h := (if_pos c40).symm.trans h
      refine lv_iload (pc := 95) hx hb dX6_passTick_95 (lv_at hl 5 rfl) ?_
      refine lv_iload (pc := 97) hx hb dX6_passTick_97 (lv_at hl 0 rfl) ?_
      refine lv_iadd (pc := 99) hx hb dX6_passTick_99 ?_
      cases h
      exact r_iret (pc := 100) F S rfl dX6_passTick_100
    · replace h := (if_neg c40).symm.trans h
      refine lv_aload_n (pc := 86) hx hb dX6_passTick_86 rfl (lv_at hl 3 rfl) ?_
      refine lv_aload_n (pc := 87) hx hb dX6_passTick_87 rfl (lv_at hl 1 rfl) ?_
      refine lv_aload_n (pc := 88) hx hb dX6_passTick_88 rfl (lv_at hl 2 rfl) ?_
      obtain ⟨x41, e42, h⟩ := ob_out h
      refine r_gR (pc := 89) (k := 1) F S e42 (by decide) cl7 inRX7 (by decide) w169 (fun _ => rfl) dX6_passTick_89 ?_
      obtain ⟨M44, e43, h⟩ := ob_out h
      refine c_vV (pc := 92) (rest := []) F S (tX3_measureNow e43) mfX3_measureNow (sX3_measureNow e43) (by decide) cl3 w605 ⟨Nat.le_of_ble_eq_true rfl, Nat.le_of_ble_eq_true rfl⟩ rfl hl.1 rfl (Nat.le_of_ble_eq_true rfl) dX6_passTick_92 (fun H locs S => ?_)
      refine lv_iload (pc := 95) hx hb dX6_passTick_95 (lv_at hl 5 rfl) ?_
      refine lv_iload (pc := 97) hx hb dX6_passTick_97 (lv_at hl 0 rfl) ?_
      refine lv_iadd (pc := 99) hx hb dX6_passTick_99 ?_
      cases h
      exact r_iret (pc := 100) F S rfl dX6_passTick_100
  refine lv_if_le (pc := 49) (tgt := 61) hx hb dX6_passTick_49 (by decide) (fun c45 => ?_) (fun c45 => ?_)
  · replace d27 := (if_pos c45).symm.trans d27
    cases d27
    exact J28 H locs ls S (lv_sub hl [2, 3, 4, 1, 0] rfl)
  · replace d27 := (if_neg c45).symm.trans d27
    refine lv_aload_n (pc := 52) hx hb dX6_passTick_52 rfl (lv_at hl 4 rfl) ?_
    refine lv_aload_n (pc := 53) hx hb dX6_passTick_53 rfl (lv_at hl 2 rfl) ?_
    refine lv_aload_n (pc := 54) hx hb dX6_passTick_54 rfl (lv_at hl 3 rfl) ?_
    obtain ⟨x46, e47, d27⟩ := ob_out d27
    refine r_gR (pc := 55) (k := 1) F S e47 (by decide) cl7 inRX7 (by decide) w169 (fun _ => rfl) dX6_passTick_55 ?_
    obtain ⟨M49, e48, d27⟩ := ob_out d27
    refine c_vV (pc := 58) (rest := []) F S (tX3_measureNow e48) mfX3_measureNow (sX3_measureNow e48) (by decide) cl3 w605 ⟨Nat.le_of_ble_eq_true rfl, Nat.le_of_ble_eq_true rfl⟩ rfl hl.1 rfl (Nat.le_of_ble_eq_true rfl) dX6_passTick_58 (fun H locs S => ?_)
    cases d27
    exact J28 H locs ls S (lv_sub hl [2, 3, 4, 1, 0] rfl)
theorem mfX11_tick : MF true yX11_tick RX11 cX11_tick 8 (some .int) 1 := ⟨w596, w1, by rw [if_pos rfl]; exact ⟨w594, w595⟩, ⟨by decide, by decide⟩, by decide +kernel⟩
set_option maxHeartbeats 4000000 in
theorem pX11_tick_L50 {p : Program} {l : Launch} {e : Env} {s : State} {m : MethodId} {args : Array Value} {below : List Frame} {meth : Method} {c : Code} {Q : State → Prop} {G : GD} (F : FX p s m args meth c RX11 cX11_tick 8 (some .int) G) : ∀ (n : Nat) {M N : Mem} {a1 : Int32} {a2 : Int32} {a3 : Int32} {a5 : Int32} {a6 : Int32} {H : Heap} {locs : List Loc} {ls : Array Slot} {o2 : Int32} {Mo : Mem}, ST G M N s H locs → lv_has ls 8 [(0, .ref (G.2.1 10)), (1, .int a1), (2, .int a2), (3, .int a3), (4, .ref (G.2.1 40)), (5, .int a5), (6, .int a6)] → fX11_tick_L50 n M a1 a2 a3 a5 a6 = some (o2, Mo) → (K1 : ∀ (H : Heap) (locs : List Loc) (ls : Array Slot), ST G Mo N s H locs → lv_has ls 8 [(0, .ref (G.2.1 10)), (1, .int a1), (2, .int o2), (3, .int a3)] → W p l e (Rm 5 115) s m args below meth c H locs 0 0 Q (F0 m 86 ls [])) → W p l e (Rm 5 115) s m args below meth c H locs 0 0 Q (F0 m 50 ls []) := by
  intro n
  induction n with
  | zero => intro M N a1 a2 a3 a5 a6 H locs ls o2 Mo S hl h K1; cases h
  | succ n ih =>
    intro M N a1 a2 a3 a5 a6 H locs ls o2 Mo S hl h K1
    rw [fX11_tick_L50] at h
    have hx := F.1
    have hb := F.2.1
    have hown := F.2.2.2.2.1
    have hts := F.2.2.2.2.2.1
    have hZ := F.2.2.2.2.2.2.2.2.2
    refine lv_iload (pc := 50) hx hb dX11_tick_50 (lv_at hl 6 rfl) ?_
    refine lv_iload (pc := 52) hx hb dX11_tick_52 (lv_at hl 5 rfl) ?_
    refine lv_icmp_ge (pc := 54) (tgt := 86) hx hb dX11_tick_54 (by decide) (fun c7 => ?_) (fun c7 => ?_)
    · replace h := (if_pos c7).symm.trans h
      cases h
      exact K1 H locs ls S (lv_sub hl [0, 1, 2, 3] rfl)
    · replace h := (if_neg c7).symm.trans h
      refine lv_aload (pc := 57) hx hb dX11_tick_57 (lv_at hl 4 rfl) ?_
      refine lv_iload (pc := 59) hx hb dX11_tick_59 (lv_at hl 6 rfl) ?_
      obtain ⟨x8, e9, h⟩ := ob_out h
      refine r_aR22 (pc := 61) F S e9 dX11_tick_61 ?_
      refine lv_astore (pc := 62) (lv' := [(7, .ref (G.2.1 x8)), (0, .ref (G.2.1 10)), (1, .int a1), (2, .int a2), (3, .int a3), (4, .ref (G.2.1 40)), (5, .int a5), (6, .int a6)]) hx hb dX11_tick_62 hl (by decide) rfl (fun ls hl => ?_)
      refine lv_iload_n (pc := 64) hx hb dX11_tick_64 rfl (lv_at hl 3 rfl) ?_
      refine lv_aload (pc := 65) hx hb dX11_tick_65 (lv_at hl 0 rfl) ?_
      refine lv_aload_n (pc := 67) hx hb dX11_tick_67 rfl (lv_at hl 1 rfl) ?_
      refine r_gR (pc := 68) (k := 0) (x := 34) (i := 10) (ci := 11) F S (by decide) (by decide) cl11 inRX11 (by decide) w319 (fun _ => rfl) dX11_tick_68 ?_
      refine lv_aload_n (pc := 71) hx hb dX11_tick_71 rfl (lv_at hl 1 rfl) ?_
      refine r_gR (pc := 72) (k := 6) (x := 23) (i := 10) (ci := 11) F S (by decide) (by decide) cl11 inRX11 (by decide) w325 (fun _ => rfl) dX11_tick_72 ?_
      obtain ⟨v11, M12, e10, h⟩ := ob2_out h
      refine c_vI (pc := 75) (rest := [.int a2]) F S (tX6_passTick e10) mfX6_passTick (sX6_passTick e10) (by decide) cl6 w597 ⟨Nat.le_of_ble_eq_true rfl, Nat.le_of_ble_eq_true rfl⟩ rfl hl.1 rfl (Nat.le_of_ble_eq_true rfl) dX11_tick_75 (fun H locs S => ?_)
      refine lv_iadd (pc := 78) hx hb dX11_tick_78 ?_
      obtain ⟨v13, e14, h⟩ := lt1_out h
      refine nm_i e14 ?_
      refine lv_istore_n (pc := 79) (lv' := [(2, .int v13), (7, .ref (G.2.1 x8)), (0, .ref (G.2.1 10)), (1, .int a1), (3, .int a3), (4, .ref (G.2.1 40)), (5, .int a5), (6, .int a6)]) hx hb dX11_tick_79 rfl hl (by decide) rfl (fun ls hl => ?_)
      refine lv_iinc (pc := 80) (lv' := [(6, .int (a6 + 1)), (2, .int v13), (7, .ref (G.2.1 x8)), (0, .ref (G.2.1 10)), (1, .int a1), (3, .int a3), (4, .ref (G.2.1 40)), (5, .int a5)]) hx hb dX11_tick_80 hl (k := 7) rfl (iinc_n (by decide)) (by decide) rfl (fun ls hl => ?_)
      refine lv_goto (pc := 83) (tgt := 50) hx hb dX11_tick_83 (by decide) ?_
      exact ih S (lv_sub hl [3, 4, 1, 5, 6, 7, 0] rfl) h K1
set_option maxHeartbeats 4000000 in
theorem pX11_tick_L28 {p : Program} {l : Launch} {e : Env} {s : State} {m : MethodId} {args : Array Value} {below : List Frame} {meth : Method} {c : Code} {Q : State → Prop} {G : GD} (F : FX p s m args meth c RX11 cX11_tick 8 (some .int) G) : ∀ (n : Nat) {M N : Mem} {a1 : Int32} {a2 : Int32} {a3 : Int32} {H : Heap} {locs : List Loc} {ls : Array Slot} {o2 : Int32} {Mo : Mem}, ST G M N s H locs → lv_has ls 8 [(0, .ref (G.2.1 10)), (1, .int a1), (2, .int a2), (3, .int a3)] → fX11_tick_L28 n M a1 a2 a3 = some (o2, Mo) → (K1 : ∀ (H : Heap) (locs : List Loc) (ls : Array Slot), ST G Mo N s H locs → lv_has ls 8 [(2, .int o2)] → W p l e (Rm 5 115) s m args below meth c H locs 0 0 Q (F0 m 92 ls [])) → W p l e (Rm 5 115) s m args below meth c H locs 0 0 Q (F0 m 28 ls []) := by
  intro n
  induction n with
  | zero => intro M N a1 a2 a3 H locs ls o2 Mo S hl h K1; cases h
  | succ n ih =>
    intro M N a1 a2 a3 H locs ls o2 Mo S hl h K1
    rw [fX11_tick_L28] at h
    have hx := F.1
    have hb := F.2.1
    have hown := F.2.2.2.2.1
    have hts := F.2.2.2.2.2.1
    have hZ := F.2.2.2.2.2.2.2.2.2
    refine lv_iload_n (pc := 28) hx hb dX11_tick_28 rfl (lv_at hl 3 rfl) ?_
    refine lv_iload_n (pc := 29) hx hb dX11_tick_29 rfl (lv_at hl 1 rfl) ?_
    refine lv_icmp_ge (pc := 30) (tgt := 92) hx hb dX11_tick_30 (by decide) (fun c6 => ?_) (fun c6 => ?_)
    · replace h := (if_pos c6).symm.trans h
      cases h
      exact K1 H locs ls S (lv_sub hl [2] rfl)
    · replace h := (if_neg c6).symm.trans h
      refine lv_aload_n (pc := 33) hx hb dX11_tick_33 rfl (lv_at hl 0 rfl) ?_
      refine r_gR (pc := 34) (k := 0) (x := 34) (i := 10) (ci := 11) F S (by decide) (by decide) cl11 inRX11 (by decide) w319 (fun _ => rfl) dX11_tick_34 ?_
      refine r_gR (pc := 37) (k := 2) (x := 40) (i := 34) (ci := 7) F S (by decide) (by decide) cl7 inRX7 (by decide) w171 (fun _ => rfl) dX11_tick_37 ?_
      refine lv_astore (pc := 40) (lv' := [(4, .ref (G.2.1 40)), (0, .ref (G.2.1 10)), (1, .int a1), (2, .int a2), (3, .int a3)]) hx hb dX11_tick_40 hl (by decide) rfl (fun ls hl => ?_)
      refine lv_aload (pc := 42) hx hb dX11_tick_42 (lv_at hl 0 rfl) ?_
      refine r_aN (pc := 44) (t := 22) (i := 40) (x := 3) F S (by decide) (by decide) dX11_tick_44 ?_
      refine lv_istore (pc := 45) (lv' := [(5, .int 3), (4, .ref (G.2.1 40)), (0, .ref (G.2.1 10)), (1, .int a1), (2, .int a2), (3, .int a3)]) hx hb dX11_tick_45 hl (by decide) rfl (fun ls hl => ?_)
      refine lv_iconst (pc := 47) (v := 0) hx hb dX11_tick_47 (by decide) ?_
      refine lv_istore (pc := 48) (lv' := [(6, .int 0), (5, .int 3), (4, .ref (G.2.1 40)), (0, .ref (G.2.1 10)), (1, .int a1), (2, .int a2), (3, .int a3)]) hx hb dX11_tick_48 hl (by decide) rfl (fun ls hl => ?_)
      obtain ⟨v8, M7, e9, h⟩ := ob2_out h
      refine pX11_tick_L50 F 5000 S (lv_sub hl [3, 4, 5, 6, 2, 1, 0] rfl) e9 (fun H locs ls S hl => ?_)
      refine lv_iinc (pc := 86) (lv' := [(3, .int (a3 + 1)), (0, .ref (G.2.1 10)), (1, .int a1), (2, .int v8)]) hx hb dX11_tick_86 hl (k := 3) rfl (iinc_n (by decide)) (by decide) rfl (fun ls hl => ?_)
      refine lv_goto (pc := 89) (tgt := 28) hx hb dX11_tick_89 (by decide) ?_
      exact ih S (lv_sub hl [1, 2, 3, 0] rfl) h K1
set_option maxHeartbeats 4000000 in
theorem tX11_tick {l : Launch} {G : GD} {M N Mo : Mem} {a1 : Int32} {r : Int32} (h : fX11_tick M a1 = some (r, Mo)) : MI l yX11_tick cX11_tick 8 .int 5 115 G [.ref (G.2.1 10), .int a1] M N r Mo N := by
  unfold fX11_tick at h
  refine MI_of (own := RX11) (by decide) rfl (Nat.le_of_ble_eq_true rfl) ?_
  intro p e s m args below meth c F S ls hl
  have hx := F.1
  have hb := F.2.1
  have hown := F.2.2.2.2.1
  have hts := F.2.2.2.2.2.1
  have hZ := F.2.2.2.2.2.2.2.2.2
  have hl : lv_has ls 8 [(0, .ref (G.2.1 10)), (1, .int a1)] := hl
  generalize s.heap = H, ([] : List Loc) = locs at S ⊢
  refine lv_iload_n (pc := 0) hx hb dX11_tick_0 rfl (lv_at hl 1 rfl) ?_
  refine lv_iconst (pc := 1) (v := 1) hx hb dX11_tick_1 (by decide) ?_
  refine lv_bipush (pc := 2) (v := 100) hx hb dX11_tick_2 (by decide) ?_
  obtain ⟨v2, e1, h⟩ := ob_out h
  refine c_sI (pc := 4) (rest := []) F S (tX11_isIn e1) mfX11_isIn w353 ⟨Nat.le_of_ble_eq_true rfl, Nat.le_of_ble_eq_true rfl⟩ rfl hl.1 rfl (Nat.le_of_ble_eq_true rfl) dX11_tick_4 (fun H locs S => ?_)
  refine lv_if_ne (pc := 7) (tgt := 13) hx hb dX11_tick_7 (by decide) (fun c3 => ?_) (fun c3 => ?_)
  · replace h := (if_neg c3).symm.trans h
    refine lv_aload_n (pc := 13) hx hb dX11_tick_13 rfl (lv_at hl 0 rfl) ?_
    refine r_gR (pc := 14) (k := 1) (x := 12) (i := 10) (ci := 11) F S (by decide) (by decide) cl11 inRX11 (by decide) w320 (fun _ => rfl) dX11_tick_14 ?_
    refine lv_aload_n (pc := 17) hx hb dX11_tick_17 rfl (lv_at hl 0 rfl) ?_
    refine r_gR (pc := 18) (k := 0) (x := 34) (i := 10) (ci := 11) F S (by decide) (by decide) cl11 inRX11 (by decide) w319 (fun _ => rfl) dX11_tick_18 ?_
    obtain ⟨M5, e4, h⟩ := ob_out h
    refine c_vV (pc := 21) (rest := []) F S (tX2_push e4) mfX2_push (by decide) (by decide) cl2 w358 ⟨Nat.le_of_ble_eq_true rfl, Nat.le_of_ble_eq_true rfl⟩ rfl hl.1 rfl (Nat.le_of_ble_eq_true rfl) dX11_tick_21 (fun H locs S => ?_)
    refine lv_iconst (pc := 24) (v := 0) hx hb dX11_tick_24 (by decide) ?_
    refine lv_istore_n (pc := 25) (lv' := [(2, .int 0), (0, .ref (G.2.1 10)), (1, .int a1)]) hx hb dX11_tick_25 rfl hl (by decide) rfl (fun ls hl => ?_)
    refine lv_iconst (pc := 26) (v := 0) hx hb dX11_tick_26 (by decide) ?_
    refine lv_istore_n (pc := 27) (lv' := [(3, .int 0), (2, .int 0), (0, .ref (G.2.1 10)), (1, .int a1)]) hx hb dX11_tick_27 rfl hl (by decide) rfl (fun ls hl => ?_)
    obtain ⟨v7, M6, e8, h⟩ := ob2_out h
    refine pX11_tick_L28 F 5000 S (lv_sub hl [2, 3, 1, 0] rfl) e8 (fun H locs ls S hl => ?_)
    refine lv_iload_n (pc := 92) hx hb dX11_tick_92 rfl (lv_at hl 0 rfl) ?_
    cases h
    exact r_iret (pc := 93) F S rfl dX11_tick_93
  · replace h := (if_pos c3).symm.trans h
    refine lv_bipush (pc := 10) (v := (-2)) hx hb dX11_tick_10 (by decide) ?_
    cases h
    exact r_iret (pc := 12) F S rfl dX11_tick_12
theorem mfX4_stepTo : MF true yX4_stepTo RX4 cX4_stepTo 2 none 1 := ⟨w639, w8, by rw [if_pos rfl]; exact ⟨w638, wp3⟩, ⟨by decide, by decide⟩, by decide +kernel⟩
set_option maxHeartbeats 4000000 in
theorem tX4_stepTo {l : Launch} {G : GD} {M N Mo : Mem} {a1 : Int32} (h : fX4_stepTo M a1 = some Mo) : MV l yX4_stepTo cX4_stepTo 2 0 0 G [.ref (G.2.1 14), .int a1] M N Mo N := by
  unfold fX4_stepTo at h
  refine MV_of (own := RX4) (by decide) rfl (Nat.le_of_ble_eq_true rfl) ?_
  intro p e s m args below meth c F S ls hl
  have hx := F.1
  have hb := F.2.1
  have hown := F.2.2.2.2.1
  have hts := F.2.2.2.2.2.1
  have hZ := F.2.2.2.2.2.2.2.2.2
  have hl : lv_has ls 2 [(0, .ref (G.2.1 14)), (1, .int a1)] := hl
  generalize s.heap = H, ([] : List Loc) = locs at S ⊢
  refine lv_aload_n (pc := 0) hx hb dX4_stepTo_0 rfl (lv_at hl 0 rfl) ?_
  refine lv_iload_n (pc := 1) hx hb dX4_stepTo_1 rfl (lv_at hl 1 rfl) ?_
  obtain ⟨M1, e2, h⟩ := ob_out h
  refine r_pI (pc := 2) (k := 1) (ty0 := tyX4) F S e2 (by decide) cl4 inRX4 tyX4_ok nmX4 (by decide) w220 rfl (by decide +kernel) (fun _ => Nat.le_of_ble_eq_true rfl) (fun _ => pf_4_1) dX4_stepTo_2 (fun H locs S => ?_)
  refine lv_aload_n (pc := 5) hx hb dX4_stepTo_5 rfl (lv_at hl 0 rfl) ?_
  refine lv_iload_n (pc := 6) hx hb dX4_stepTo_6 rfl (lv_at hl 1 rfl) ?_
  refine lv_if_lt (pc := 7) (tgt := 39) hx hb dX4_stepTo_7 (by decide) (fun c3 => ?_) (fun c3 => ?_)
  · replace h := (if_pos c3).symm.trans h
    refine lv_bipush (pc := 39) (v := (-6)) hx hb dX4_stepTo_39 (by decide) ?_
    obtain ⟨M4, e5, h⟩ := ob_out h
    refine r_pI (pc := 41) (k := 2) (ty0 := tyX4) F S e5 (by decide) cl4 inRX4 tyX4_ok nmX4 (by decide) w222 rfl (by decide +kernel) (fun _ => Nat.le_of_ble_eq_true rfl) (fun _ => pf_4_2) dX4_stepTo_41 (fun H locs S => ?_)
    cases h
    exact r_vret (pc := 44) F S dX4_stepTo_44
  · replace h := (if_neg c3).symm.trans h
    refine lv_iload_n (pc := 10) hx hb dX4_stepTo_10 rfl (lv_at hl 1 rfl) ?_
    refine lv_aload_n (pc := 11) hx hb dX4_stepTo_11 rfl (lv_at hl 0 rfl) ?_
    refine r_gR (pc := 12) (k := 0) (x := 15) (i := 14) (ci := 4) F S (by decide) (by decide) cl4 inRX4 (by decide) w218 (fun _ => rfl) dX4_stepTo_12 ?_
    obtain ⟨v6, e7, h⟩ := ob_out h
    refine r_gI (pc := 15) (k := 1) F S e7 (by decide) cl5 inRX5 (by decide) w210 (fun _ => rfl) dX4_stepTo_15 ?_
    refine lv_icmp_ge (pc := 18) (tgt := 39) hx hb dX4_stepTo_18 (by decide) (fun c8 => ?_) (fun c8 => ?_)
    · replace h := (if_pos c8).symm.trans h
      refine lv_bipush (pc := 39) (v := (-6)) hx hb dX4_stepTo_39 (by decide) ?_
      obtain ⟨M9, e10, h⟩ := ob_out h
      refine r_pI (pc := 41) (k := 2) (ty0 := tyX4) F S e10 (by decide) cl4 inRX4 tyX4_ok nmX4 (by decide) w222 rfl (by decide +kernel) (fun _ => Nat.le_of_ble_eq_true rfl) (fun _ => pf_4_2) dX4_stepTo_41 (fun H locs S => ?_)
      cases h
      exact r_vret (pc := 44) F S dX4_stepTo_44
    · replace h := (if_neg c8).symm.trans h
      refine lv_iload_n (pc := 21) hx hb dX4_stepTo_21 rfl (lv_at hl 1 rfl) ?_
      refine lv_bipush (pc := 22) (v := 60) hx hb dX4_stepTo_22 (by decide) ?_
      refine lv_icmp_ge (pc := 24) (tgt := 39) hx hb dX4_stepTo_24 (by decide) (fun c11 => ?_) (fun c11 => ?_)
      · replace h := (if_pos c11).symm.trans h
        refine lv_bipush (pc := 39) (v := (-6)) hx hb dX4_stepTo_39 (by decide) ?_
        obtain ⟨M12, e13, h⟩ := ob_out h
        refine r_pI (pc := 41) (k := 2) (ty0 := tyX4) F S e13 (by decide) cl4 inRX4 tyX4_ok nmX4 (by decide) w222 rfl (by decide +kernel) (fun _ => Nat.le_of_ble_eq_true rfl) (fun _ => pf_4_2) dX4_stepTo_41 (fun H locs S => ?_)
        cases h
        exact r_vret (pc := 44) F S dX4_stepTo_44
      · replace h := (if_neg c11).symm.trans h
        refine lv_aload_n (pc := 27) hx hb dX4_stepTo_27 rfl (lv_at hl 0 rfl) ?_
        refine r_gR (pc := 28) (k := 0) (x := 15) (i := 14) (ci := 4) F S (by decide) (by decide) cl4 inRX4 (by decide) w218 (fun _ => rfl) dX4_stepTo_28 ?_
        refine r_gR (pc := 31) (k := 0) (x := 16) (i := 15) (ci := 5) F S (by decide) (by decide) cl5 inRX5 (by decide) w209 (fun _ => rfl) dX4_stepTo_31 ?_
        refine lv_iload_n (pc := 34) hx hb dX4_stepTo_34 rfl (lv_at hl 1 rfl) ?_
        obtain ⟨v14, e15, h⟩ := ob_out h
        refine r_aL (pc := 35) F S e15 dX4_stepTo_35 ?_
        refine lv_goto (pc := 36) (tgt := 41) hx hb dX4_stepTo_36 (by decide) ?_
        obtain ⟨M16, e17, h⟩ := ob_out h
        refine r_pI (pc := 41) (k := 2) (ty0 := tyX4) F S e17 (by decide) cl4 inRX4 tyX4_ok nmX4 (by decide) w222 rfl (by decide +kernel) (fun _ => Nat.le_of_ble_eq_true rfl) (fun _ => pf_4_2) dX4_stepTo_41 (fun H locs S => ?_)
        cases h
        exact r_vret (pc := 44) F S dX4_stepTo_44
theorem mfX4_take : MF true yX4_take RX4 cX4_take 2 (some .boolean) 1 := ⟨w647, w8, by rw [if_pos rfl]; exact ⟨w646, wp5⟩, ⟨by decide, by decide⟩, by decide +kernel⟩
set_option maxHeartbeats 4000000 in
theorem tX4_take {l : Launch} {G : GD} {M N Mo : Mem} {a1 : Int32} {r : Int32} (h : fX4_take M a1 = some (r, Mo)) : MI l yX4_take cX4_take 2 .boolean 1 21 G [.ref (G.2.1 14), .int a1] M N r Mo N := by
  unfold fX4_take at h
  refine MI_of (own := RX4) (by decide) rfl (Nat.le_of_ble_eq_true rfl) ?_
  intro p e s m args below meth c F S ls hl
  have hx := F.1
  have hb := F.2.1
  have hown := F.2.2.2.2.1
  have hts := F.2.2.2.2.2.1
  have hZ := F.2.2.2.2.2.2.2.2.2
  have hl : lv_has ls 2 [(0, .ref (G.2.1 14)), (1, .int a1)] := hl
  generalize s.heap = H, ([] : List Loc) = locs at S ⊢
  refine lv_aload_n (pc := 0) hx hb dX4_take_0 rfl (lv_at hl 0 rfl) ?_
  obtain ⟨v1, e2, h⟩ := ob_out h
  refine r_gI (pc := 1) (k := 2) F S e2 (by decide) cl4 inRX4 (by decide) w222 (fun _ => rfl) dX4_take_1 ?_
  refine lv_iload_n (pc := 4) hx hb dX4_take_4 rfl (lv_at hl 1 rfl) ?_
  refine lv_icmp_eq (pc := 5) (tgt := 10) hx hb dX4_take_5 (by decide) (fun c3 => ?_) (fun c3 => ?_)
  · replace h := (if_pos c3).symm.trans h
    refine lv_aload_n (pc := 10) hx hb dX4_take_10 rfl (lv_at hl 0 rfl) ?_
    refine lv_aload_n (pc := 11) hx hb dX4_take_11 rfl (lv_at hl 0 rfl) ?_
    obtain ⟨v4, e5, h⟩ := ob_out h
    refine r_gI (pc := 12) (k := 1) F S e5 (by decide) cl4 inRX4 (by decide) w220 (fun _ => rfl) dX4_take_12 ?_
    refine lv_iconst (pc := 15) (v := 1) hx hb dX4_take_15 (by decide) ?_
    refine lv_iadd (pc := 16) hx hb dX4_take_16 ?_
    obtain ⟨M7, e6, h⟩ := ob_out h
    refine c_vV (pc := 17) (rest := []) F S (tX4_stepTo e6) mfX4_stepTo (by decide) (by decide) cl4 w636 ⟨Nat.le_of_ble_eq_true rfl, Nat.le_of_ble_eq_true rfl⟩ rfl hl.1 rfl (Nat.le_of_ble_eq_true rfl) dX4_take_17 (fun H locs S => ?_)
    refine lv_iconst (pc := 20) (v := 1) hx hb dX4_take_20 (by decide) ?_
    cases h
    exact r_iret (pc := 21) F S rfl dX4_take_21
  · replace h := (if_neg c3).symm.trans h
    refine lv_iconst (pc := 8) (v := 0) hx hb dX4_take_8 (by decide) ?_
    cases h
    exact r_iret (pc := 9) F S rfl dX4_take_9
theorem mfX4_digitHere : MF true yX4_digitHere RX4 cX4_digitHere 1 (some .int) 0 := ⟨w659, w8, by rw [if_pos rfl]; exact ⟨w658, wp8⟩, ⟨by decide, by decide⟩, by decide +kernel⟩
set_option maxHeartbeats 4000000 in
theorem tX4_digitHere {l : Launch} {G : GD} {M N : Mem} {r : Int32} (h : fX4_digitHere M = some r) : MI l yX4_digitHere cX4_digitHere 1 .int 0 0 G [.ref (G.2.1 14)] M N r M N := by
  unfold fX4_digitHere at h
  refine MI_of (own := RX4) (by decide) rfl (Nat.le_of_ble_eq_true rfl) ?_
  intro p e s m args below meth c F S ls hl
  have hx := F.1
  have hb := F.2.1
  have hown := F.2.2.2.2.1
  have hts := F.2.2.2.2.2.1
  have hZ := F.2.2.2.2.2.2.2.2.2
  have hl : lv_has ls 1 [(0, .ref (G.2.1 14))] := hl
  generalize s.heap = H, ([] : List Loc) = locs at S ⊢
  refine lv_aload_n (pc := 0) hx hb dX4_digitHere_0 rfl (lv_at hl 0 rfl) ?_
  obtain ⟨v1, e2, h⟩ := ob_out h
  refine r_gI (pc := 1) (k := 2) F S e2 (by decide) cl4 inRX4 (by decide) w222 (fun _ => rfl) dX4_digitHere_1 ?_
  refine lv_bipush (pc := 4) (v := 48) hx hb dX4_digitHere_4 (by decide) ?_
  refine lv_icmp_lt (pc := 6) (tgt := 28) hx hb dX4_digitHere_6 (by decide) (fun c3 => ?_) (fun c3 => ?_)
  · replace h := (if_pos c3).symm.trans h
    refine lv_bipush (pc := 28) (v := (-6)) hx hb dX4_digitHere_28 (by decide) ?_
    cases h
    exact r_iret (pc := 30) F S rfl dX4_digitHere_30
  · replace h := (if_neg c3).symm.trans h
    refine lv_aload_n (pc := 9) hx hb dX4_digitHere_9 rfl (lv_at hl 0 rfl) ?_
    obtain ⟨v4, e5, h⟩ := ob_out h
    refine r_gI (pc := 10) (k := 2) F S e5 (by decide) cl4 inRX4 (by decide) w222 (fun _ => rfl) dX4_digitHere_10 ?_
    refine lv_bipush (pc := 13) (v := 57) hx hb dX4_digitHere_13 (by decide) ?_
    refine lv_icmp_gt (pc := 15) (tgt := 28) hx hb dX4_digitHere_15 (by decide) (fun c6 => ?_) (fun c6 => ?_)
    · replace h := (if_pos c6).symm.trans h
      refine lv_bipush (pc := 28) (v := (-6)) hx hb dX4_digitHere_28 (by decide) ?_
      cases h
      exact r_iret (pc := 30) F S rfl dX4_digitHere_30
    · replace h := (if_neg c6).symm.trans h
      refine lv_aload_n (pc := 18) hx hb dX4_digitHere_18 rfl (lv_at hl 0 rfl) ?_
      obtain ⟨v7, e8, h⟩ := ob_out h
      refine r_gI (pc := 19) (k := 2) F S e8 (by decide) cl4 inRX4 (by decide) w222 (fun _ => rfl) dX4_digitHere_19 ?_
      refine lv_bipush (pc := 22) (v := 48) hx hb dX4_digitHere_22 (by decide) ?_
      refine lv_isub (pc := 24) hx hb dX4_digitHere_24 ?_
      refine lv_goto (pc := 25) (tgt := 30) hx hb dX4_digitHere_25 (by decide) ?_
      cases h
      exact r_iret (pc := 30) F S rfl dX4_digitHere_30
theorem mfX4_readNumber : MF true yX4_readNumber RX4 cX4_readNumber 6 (some .int) 2 := ⟨w655, w8, by rw [if_pos rfl]; exact ⟨w654, wp7⟩, ⟨by decide, by decide⟩, by decide +kernel⟩
set_option maxHeartbeats 4000000 in
theorem pX4_readNumber_L31 {p : Program} {l : Launch} {e : Env} {s : State} {m : MethodId} {args : Array Value} {below : List Frame} {meth : Method} {c : Code} {Q : State → Prop} {G : GD} (F : FX p s m args meth c RX4 cX4_readNumber 6 (some .int) G) : ∀ (n : Nat) {M N : Mem} {a2 : Int32} {a3 : Int32} {a4 : Int32} {H : Heap} {locs : List Loc} {ls : Array Slot} {z : (Int32 × Mem) ⊕ (Int32 × Mem)}, ST G M N s H locs → lv_has ls 6 [(0, .ref (G.2.1 14)), (2, .int a2), (3, .int a3), (4, .int a4)] → fX4_readNumber_L31 n M a2 a3 a4 = some z → (K1 : ∀ (o3 : Int32) (Mo : Mem), z = .inl (o3, Mo) → ∀ (H : Heap) (locs : List Loc) (ls : Array Slot), ST G Mo N s H locs → lv_has ls 6 [(3, .int o3)] → W p l e (Rm 1 21) s m args below meth c H locs 0 0 Q (F0 m 91 ls [])) → (K2 : ∀ (r : Int32) (Mr : Mem), z = .inr (r, Mr) → ∀ (H : Heap) (locs : List Loc) (ls : Array Slot) (pcr : Nat), ST G Mr N s H locs → decode cX4_readNumber pcr = .ok (.ireturn, 1) → W p l e (Rm 1 21) s m args below meth c H locs 0 0 Q (F0 m pcr ls [.int r])) → W p l e (Rm 1 21) s m args below meth c H locs 0 0 Q (F0 m 31 ls []) := by
  intro n
  induction n with
  | zero => intro M N a2 a3 a4 H locs ls z S hl h K1 K2; cases h
  | succ n ih =>
    intro M N a2 a3 a4 H locs ls z S hl h K1 K2
    rw [fX4_readNumber_L31] at h
    have hx := F.1
    have hb := F.2.1
    have hown := F.2.2.2.2.1
    have hts := F.2.2.2.2.2.1
    have hZ := F.2.2.2.2.2.2.2.2.2
    refine lv_iload (pc := 31) hx hb dX4_readNumber_31 (lv_at hl 3 rfl) ?_
    refine lv_iconst (pc := 33) (v := 3) hx hb dX4_readNumber_33 (by decide) ?_
    refine lv_icmp_ge (pc := 34) (tgt := 91) hx hb dX4_readNumber_34 (by decide) (fun c9 => ?_) (fun c9 => ?_)
    · replace h := (if_pos c9).symm.trans h
      cases h
      exact K1 _ _ rfl H locs ls S (lv_sub hl [2] rfl)
    · replace h := (if_neg c9).symm.trans h
      refine lv_iload_n (pc := 37) hx hb dX4_readNumber_37 rfl (lv_at hl 2 rfl) ?_
      refine lv_if_le (pc := 38) (tgt := 91) hx hb dX4_readNumber_38 (by decide) (fun c10 => ?_) (fun c10 => ?_)
      · replace h := (if_pos c10).symm.trans h
        cases h
        exact K1 _ _ rfl H locs ls S (lv_sub hl [2] rfl)
      · replace h := (if_neg c10).symm.trans h
        refine lv_aload_n (pc := 41) hx hb dX4_readNumber_41 rfl (lv_at hl 0 rfl) ?_
        obtain ⟨v12, e11, h⟩ := ob_out h
        refine c_vI (pc := 42) (rest := []) F S (tX4_digitHere e11) mfX4_digitHere (by decide) (by decide) cl4 w656 ⟨Nat.le_of_ble_eq_true rfl, Nat.le_of_ble_eq_true rfl⟩ rfl hl.1 rfl (Nat.le_of_ble_eq_true rfl) dX4_readNumber_42 (fun H locs S => ?_)
        refine lv_istore (pc := 45) (lv' := [(5, .int v12), (0, .ref (G.2.1 14)), (2, .int a2), (3, .int a3), (4, .int a4)]) hx hb dX4_readNumber_45 hl (by decide) rfl (fun ls hl => ?_)
        refine lv_iload (pc := 47) hx hb dX4_readNumber_47 (lv_at hl 0 rfl) ?_
        refine lv_bipush (pc := 49) (v := (-6)) hx hb dX4_readNumber_49 (by decide) ?_
        refine lv_icmp_eq (pc := 51) (tgt := 65) hx hb dX4_readNumber_51 (by decide) (fun c13 => ?_) (fun c13 => ?_)
        · replace h := (if_pos c13).symm.trans h
          refine lv_iload_n (pc := 65) hx hb dX4_readNumber_65 rfl (lv_at hl 3 rfl) ?_
          cases h
          exact K2 _ _ rfl H locs ls 66 S dX4_readNumber_66
        · replace h := (if_neg c13).symm.trans h
          refine lv_iload_n (pc := 54) hx hb dX4_readNumber_54 rfl (lv_at hl 3 rfl) ?_
          refine lv_bipush (pc := 55) (v := 10) hx hb dX4_readNumber_55 (by decide) ?_
          refine lv_imul (pc := 57) hx hb dX4_readNumber_57 ?_
          refine lv_iload (pc := 58) hx hb dX4_readNumber_58 (lv_at hl 0 rfl) ?_
          refine lv_iadd (pc := 60) hx hb dX4_readNumber_60 ?_
          refine lv_iload_n (pc := 61) hx hb dX4_readNumber_61 rfl (lv_at hl 2 rfl) ?_
          refine lv_icmp_le (pc := 62) (tgt := 67) hx hb dX4_readNumber_62 (by decide) (fun c14 => ?_) (fun c14 => ?_)
          · replace h := (if_pos c14).symm.trans h
            refine lv_iload_n (pc := 67) hx hb dX4_readNumber_67 rfl (lv_at hl 3 rfl) ?_
            refine lv_bipush (pc := 68) (v := 10) hx hb dX4_readNumber_68 (by decide) ?_
            refine lv_imul (pc := 70) hx hb dX4_readNumber_70 ?_
            refine lv_iload (pc := 71) hx hb dX4_readNumber_71 (lv_at hl 0 rfl) ?_
            refine lv_iadd (pc := 73) hx hb dX4_readNumber_73 ?_
            obtain ⟨v15, e16, h⟩ := lt1_out h
            refine nm_i e16 ?_
            refine lv_istore_n (pc := 74) (lv' := [(3, .int v15), (5, .int v12), (0, .ref (G.2.1 14)), (2, .int a2), (4, .int a4)]) hx hb dX4_readNumber_74 rfl hl (by decide) rfl (fun ls hl => ?_)
            refine lv_aload_n (pc := 75) hx hb dX4_readNumber_75 rfl (lv_at hl 2 rfl) ?_
            refine lv_aload_n (pc := 76) hx hb dX4_readNumber_76 rfl (lv_at hl 2 rfl) ?_
            obtain ⟨v17, e18, h⟩ := ob_out h
            refine r_gI (pc := 77) (k := 1) F S e18 (by decide) cl4 inRX4 (by decide) w220 (fun _ => rfl) dX4_readNumber_77 ?_
            refine lv_iconst (pc := 80) (v := 1) hx hb dX4_readNumber_80 (by decide) ?_
            refine lv_iadd (pc := 81) hx hb dX4_readNumber_81 ?_
            obtain ⟨M20, e19, h⟩ := ob_out h
            refine c_vV (pc := 82) (rest := []) F S (tX4_stepTo e19) mfX4_stepTo (by decide) (by decide) cl4 w636 ⟨Nat.le_of_ble_eq_true rfl, Nat.le_of_ble_eq_true rfl⟩ rfl hl.1 rfl (Nat.le_of_ble_eq_true rfl) dX4_readNumber_82 (fun H locs S => ?_)
            refine lv_iinc (pc := 85) (lv' := [(4, .int (a4 + 1)), (3, .int v15), (5, .int v12), (0, .ref (G.2.1 14)), (2, .int a2)]) hx hb dX4_readNumber_85 hl (k := 4) rfl (iinc_n (by decide)) (by decide) rfl (fun ls hl => ?_)
            refine lv_goto (pc := 88) (tgt := 31) hx hb dX4_readNumber_88 (by decide) ?_
            exact ih S (lv_sub hl [3, 4, 1, 0] rfl) h K1 K2
          · replace h := (if_neg c14).symm.trans h
            refine lv_iload_n (pc := 65) hx hb dX4_readNumber_65 rfl (lv_at hl 3 rfl) ?_
            cases h
            exact K2 _ _ rfl H locs ls 66 S dX4_readNumber_66
set_option maxHeartbeats 4000000 in
theorem tX4_readNumber {l : Launch} {G : GD} {M N Mo : Mem} {a1 : Int32} {a2 : Int32} {r : Int32} (h : fX4_readNumber M a1 a2 = some (r, Mo)) : MI l yX4_readNumber cX4_readNumber 6 .int 1 21 G [.ref (G.2.1 14), .int a1, .int a2] M N r Mo N := by
  unfold fX4_readNumber at h
  refine MI_of (own := RX4) (by decide) rfl (Nat.le_of_ble_eq_true rfl) ?_
  intro p e s m args below meth c F S ls hl
  have hx := F.1
  have hb := F.2.1
  have hown := F.2.2.2.2.1
  have hts := F.2.2.2.2.2.1
  have hZ := F.2.2.2.2.2.2.2.2.2
  have hl : lv_has ls 6 [(0, .ref (G.2.1 14)), (1, .int a1), (2, .int a2)] := hl
  generalize s.heap = H, ([] : List Loc) = locs at S ⊢
  refine lv_aload_n (pc := 0) hx hb dX4_readNumber_0 rfl (lv_at hl 0 rfl) ?_
  obtain ⟨v2, e1, h⟩ := ob_out h
  refine c_vI (pc := 1) (rest := []) F S (tX4_digitHere e1) mfX4_digitHere (by decide) (by decide) cl4 w656 ⟨Nat.le_of_ble_eq_true rfl, Nat.le_of_ble_eq_true rfl⟩ rfl hl.1 rfl (Nat.le_of_ble_eq_true rfl) dX4_readNumber_1 (fun H locs S => ?_)
  refine lv_istore_n (pc := 4) (lv' := [(3, .int v2), (0, .ref (G.2.1 14)), (1, .int a1), (2, .int a2)]) hx hb dX4_readNumber_4 rfl hl (by decide) rfl (fun ls hl => ?_)
  refine lv_iload_n (pc := 5) hx hb dX4_readNumber_5 rfl (lv_at hl 0 rfl) ?_
  refine lv_iload_n (pc := 6) hx hb dX4_readNumber_6 rfl (lv_at hl 2 rfl) ?_
  refine lv_icmp_lt (pc := 7) (tgt := 15) hx hb dX4_readNumber_7 (by decide) (fun c3 => ?_) (fun c3 => ?_)
  · replace h := (if_pos c3).symm.trans h
    refine lv_bipush (pc := 15) (v := (-6)) hx hb dX4_readNumber_15 (by decide) ?_
    cases h
    exact r_iret (pc := 17) F S rfl dX4_readNumber_17
  · replace h := (if_neg c3).symm.trans h
    refine lv_iload_n (pc := 10) hx hb dX4_readNumber_10 rfl (lv_at hl 0 rfl) ?_
    refine lv_iload_n (pc := 11) hx hb dX4_readNumber_11 rfl (lv_at hl 3 rfl) ?_
    refine lv_icmp_le (pc := 12) (tgt := 18) hx hb dX4_readNumber_12 (by decide) (fun c4 => ?_) (fun c4 => ?_)
    · replace h := (if_pos c4).symm.trans h
      refine lv_aload_n (pc := 18) hx hb dX4_readNumber_18 rfl (lv_at hl 1 rfl) ?_
      refine lv_aload_n (pc := 19) hx hb dX4_readNumber_19 rfl (lv_at hl 1 rfl) ?_
      obtain ⟨v5, e6, h⟩ := ob_out h
      refine r_gI (pc := 20) (k := 1) F S e6 (by decide) cl4 inRX4 (by decide) w220 (fun _ => rfl) dX4_readNumber_20 ?_
      refine lv_iconst (pc := 23) (v := 1) hx hb dX4_readNumber_23 (by decide) ?_
      refine lv_iadd (pc := 24) hx hb dX4_readNumber_24 ?_
      obtain ⟨M8, e7, h⟩ := ob_out h
      refine c_vV (pc := 25) (rest := []) F S (tX4_stepTo e7) mfX4_stepTo (by decide) (by decide) cl4 w636 ⟨Nat.le_of_ble_eq_true rfl, Nat.le_of_ble_eq_true rfl⟩ rfl hl.1 rfl (Nat.le_of_ble_eq_true rfl) dX4_readNumber_25 (fun H locs S => ?_)
      refine lv_iconst (pc := 28) (v := 1) hx hb dX4_readNumber_28 (by decide) ?_
      refine lv_istore (pc := 29) (lv' := [(4, .int 1), (3, .int v2), (0, .ref (G.2.1 14)), (1, .int a1), (2, .int a2)]) hx hb dX4_readNumber_29 hl (by decide) rfl (fun ls hl => ?_)
      obtain ⟨z12, e11, h⟩ := ob_out h
      refine pX4_readNumber_L31 F 5000 S (lv_sub hl [2, 4, 1, 0] rfl) e11 (fun v10 M9 e13 H locs ls S hl => ?_) (fun v14 M15 e13 H locs ls pcr S hdr => ?_)
      rotate_left
      · subst e13
        replace h := caseS_r h
        cases h
        exact r_iret F S rfl hdr
      subst e13
      replace h := caseS_l h
      refine lv_iload_n (pc := 91) hx hb dX4_readNumber_91 rfl (lv_at hl 0 rfl) ?_
      cases h
      exact r_iret (pc := 92) F S rfl dX4_readNumber_92
    · replace h := (if_neg c4).symm.trans h
      refine lv_bipush (pc := 15) (v := (-6)) hx hb dX4_readNumber_15 (by decide) ?_
      cases h
      exact r_iret (pc := 17) F S rfl dX4_readNumber_17
theorem mfX4_note : MF true yX4_note RX4 cX4_note 4 (some .boolean) 3 := ⟨w663, w8, by rw [if_pos rfl]; exact ⟨w662, wp9⟩, ⟨by decide, by decide⟩, by decide +kernel⟩
set_option maxHeartbeats 4000000 in
theorem tX4_note {l : Launch} {G : GD} {M N Mo : Mem} {a1 : Int32} {a2 : Int32} {a3 : Int32} {r : Int32} (h : fX4_note M a1 a2 a3 = some (r, Mo)) : MI l yX4_note cX4_note 4 .boolean 0 0 G [.ref (G.2.1 14), .int a1, .int a2, .int a3] M N r Mo N := by
  unfold fX4_note at h
  refine MI_of (own := RX4) (by decide) rfl (Nat.le_of_ble_eq_true rfl) ?_
  intro p e s m args below meth c F S ls hl
  have hx := F.1
  have hb := F.2.1
  have hown := F.2.2.2.2.1
  have hts := F.2.2.2.2.2.1
  have hZ := F.2.2.2.2.2.2.2.2.2
  have hl : lv_has ls 4 [(0, .ref (G.2.1 14)), (1, .int a1), (2, .int a2), (3, .int a3)] := hl
  generalize s.heap = H, ([] : List Loc) = locs at S ⊢
  refine lv_aload_n (pc := 0) hx hb dX4_note_0 rfl (lv_at hl 0 rfl) ?_
  obtain ⟨v1, e2, h⟩ := ob_out h
  refine r_gI (pc := 1) (k := 3) F S e2 (by decide) cl4 inRX4 (by decide) w223 (fun _ => rfl) dX4_note_1 ?_
  refine lv_bipush (pc := 4) (v := 60) hx hb dX4_note_4 (by decide) ?_
  refine lv_icmp_lt (pc := 6) (tgt := 11) hx hb dX4_note_6 (by decide) (fun c3 => ?_) (fun c3 => ?_)
  · replace h := (if_pos c3).symm.trans h
    refine lv_aload_n (pc := 11) hx hb dX4_note_11 rfl (lv_at hl 0 rfl) ?_
    refine r_gR (pc := 12) (k := 4) (x := 17) (i := 14) (ci := 4) F S (by decide) (by decide) cl4 inRX4 (by decide) w224 (fun _ => rfl) dX4_note_12 ?_
    refine lv_aload_n (pc := 15) hx hb dX4_note_15 rfl (lv_at hl 0 rfl) ?_
    obtain ⟨v4, e5, h⟩ := ob_out h
    refine r_gI (pc := 16) (k := 3) F S e5 (by decide) cl4 inRX4 (by decide) w223 (fun _ => rfl) dX4_note_16 ?_
    refine lv_iload_n (pc := 19) hx hb dX4_note_19 rfl (lv_at hl 1 rfl) ?_
    obtain ⟨M6, e7, h⟩ := ob_out h
    refine r_aS (pc := 20) F S e7 dX4_note_20 (fun H locs S => ?_)
    refine lv_aload_n (pc := 21) hx hb dX4_note_21 rfl (lv_at hl 0 rfl) ?_
    refine r_gR (pc := 22) (k := 5) (x := 18) (i := 14) (ci := 4) F S (by decide) (by decide) cl4 inRX4 (by decide) w225 (fun _ => rfl) dX4_note_22 ?_
    refine lv_aload_n (pc := 25) hx hb dX4_note_25 rfl (lv_at hl 0 rfl) ?_
    obtain ⟨v8, e9, h⟩ := ob_out h
    refine r_gI (pc := 26) (k := 3) F S e9 (by decide) cl4 inRX4 (by decide) w223 (fun _ => rfl) dX4_note_26 ?_
    refine lv_iload_n (pc := 29) hx hb dX4_note_29 rfl (lv_at hl 2 rfl) ?_
    obtain ⟨M10, e11, h⟩ := ob_out h
    refine r_aS (pc := 30) F S e11 dX4_note_30 (fun H locs S => ?_)
    refine lv_aload_n (pc := 31) hx hb dX4_note_31 rfl (lv_at hl 0 rfl) ?_
    refine r_gR (pc := 32) (k := 6) (x := 19) (i := 14) (ci := 4) F S (by decide) (by decide) cl4 inRX4 (by decide) w226 (fun _ => rfl) dX4_note_32 ?_
    refine lv_aload_n (pc := 35) hx hb dX4_note_35 rfl (lv_at hl 0 rfl) ?_
    obtain ⟨v12, e13, h⟩ := ob_out h
    refine r_gI (pc := 36) (k := 3) F S e13 (by decide) cl4 inRX4 (by decide) w223 (fun _ => rfl) dX4_note_36 ?_
    refine lv_iload_n (pc := 39) hx hb dX4_note_39 rfl (lv_at hl 3 rfl) ?_
    obtain ⟨M14, e15, h⟩ := ob_out h
    refine r_aS (pc := 40) F S e15 dX4_note_40 (fun H locs S => ?_)
    refine lv_aload_n (pc := 41) hx hb dX4_note_41 rfl (lv_at hl 0 rfl) ?_
    refine r_gR (pc := 42) (k := 7) (x := 20) (i := 14) (ci := 4) F S (by decide) (by decide) cl4 inRX4 (by decide) w227 (fun _ => rfl) dX4_note_42 ?_
    refine lv_aload_n (pc := 45) hx hb dX4_note_45 rfl (lv_at hl 0 rfl) ?_
    obtain ⟨v16, e17, h⟩ := ob_out h
    refine r_gI (pc := 46) (k := 3) F S e17 (by decide) cl4 inRX4 (by decide) w223 (fun _ => rfl) dX4_note_46 ?_
    refine lv_aload_n (pc := 49) hx hb dX4_note_49 rfl (lv_at hl 0 rfl) ?_
    obtain ⟨v18, e19, h⟩ := ob_out h
    refine r_gI (pc := 50) (k := 8) F S e19 (by decide) cl4 inRX4 (by decide) w228 (fun _ => rfl) dX4_note_50 ?_
    obtain ⟨M20, e21, h⟩ := ob_out h
    refine r_aS (pc := 53) F S e21 dX4_note_53 (fun H locs S => ?_)
    refine lv_aload_n (pc := 54) hx hb dX4_note_54 rfl (lv_at hl 0 rfl) ?_
    refine lv_dup (pc := 55) hx hb dX4_note_55 rfl ?_
    obtain ⟨v22, e23, h⟩ := ob_out h
    refine r_gI (pc := 56) (k := 3) F S e23 (by decide) cl4 inRX4 (by decide) w223 (fun _ => rfl) dX4_note_56 ?_
    refine lv_iconst (pc := 59) (v := 1) hx hb dX4_note_59 (by decide) ?_
    refine lv_iadd (pc := 60) hx hb dX4_note_60 ?_
    obtain ⟨M24, e25, h⟩ := ob_out h
    refine r_pI (pc := 61) (k := 3) (ty0 := tyX4) F S e25 (by decide) cl4 inRX4 tyX4_ok nmX4 (by decide) w223 rfl (by decide +kernel) (fun _ => Nat.le_of_ble_eq_true rfl) (fun _ => pf_4_3) dX4_note_61 (fun H locs S => ?_)
    refine lv_iconst (pc := 64) (v := 1) hx hb dX4_note_64 (by decide) ?_
    cases h
    exact r_iret (pc := 65) F S rfl dX4_note_65
  · replace h := (if_neg c3).symm.trans h
    refine lv_iconst (pc := 9) (v := 0) hx hb dX4_note_9 (by decide) ?_
    cases h
    exact r_iret (pc := 10) F S rfl dX4_note_10
theorem mfX4_readRecord : MF true yX4_readRecord RX4 cX4_readRecord 3 (some .boolean) 0 := ⟨w651, w8, by rw [if_pos rfl]; exact ⟨w650, wp6⟩, ⟨by decide, by decide⟩, by decide +kernel⟩
set_option maxHeartbeats 4000000 in
theorem tX4_readRecord {l : Launch} {G : GD} {M N Mo : Mem} {r : Int32} (h : fX4_readRecord M = some (r, Mo)) : MI l yX4_readRecord cX4_readRecord 3 .boolean 2 46 G [.ref (G.2.1 14)] M N r Mo N := by
  unfold fX4_readRecord at h
  refine MI_of (own := RX4) (by decide) rfl (Nat.le_of_ble_eq_true rfl) ?_
  intro p e s m args below meth c F S ls hl
  have hx := F.1
  have hb := F.2.1
  have hown := F.2.2.2.2.1
  have hts := F.2.2.2.2.2.1
  have hZ := F.2.2.2.2.2.2.2.2.2
  have hl : lv_has ls 3 [(0, .ref (G.2.1 14))] := hl
  generalize s.heap = H, ([] : List Loc) = locs at S ⊢
  refine lv_aload_n (pc := 0) hx hb dX4_readRecord_0 rfl (lv_at hl 0 rfl) ?_
  refine lv_iconst (pc := 1) (v := 0) hx hb dX4_readRecord_1 (by decide) ?_
  refine lv_bipush (pc := 2) (v := 7) hx hb dX4_readRecord_2 (by decide) ?_
  obtain ⟨v2, M3, e1, h⟩ := ob2_out h
  refine c_vI (pc := 4) (rest := []) F S (tX4_readNumber e1) mfX4_readNumber (by decide) (by decide) cl4 w652 ⟨Nat.le_of_ble_eq_true rfl, Nat.le_of_ble_eq_true rfl⟩ rfl hl.1 rfl (Nat.le_of_ble_eq_true rfl) dX4_readRecord_4 (fun H locs S => ?_)
  refine lv_istore_n (pc := 7) (lv' := [(1, .int v2), (0, .ref (G.2.1 14))]) hx hb dX4_readRecord_7 rfl hl (by decide) rfl (fun ls hl => ?_)
  refine lv_iload_n (pc := 8) hx hb dX4_readRecord_8 rfl (lv_at hl 0 rfl) ?_
  refine lv_bipush (pc := 9) (v := (-6)) hx hb dX4_readRecord_9 (by decide) ?_
  refine lv_icmp_eq (pc := 11) (tgt := 23) hx hb dX4_readRecord_11 (by decide) (fun c4 => ?_) (fun c4 => ?_)
  · replace h := (if_pos c4).symm.trans h
    refine lv_iconst (pc := 23) (v := 0) hx hb dX4_readRecord_23 (by decide) ?_
    cases h
    exact r_iret (pc := 24) F S rfl dX4_readRecord_24
  · replace h := (if_neg c4).symm.trans h
    refine lv_aload_n (pc := 14) hx hb dX4_readRecord_14 rfl (lv_at hl 1 rfl) ?_
    refine lv_bipush (pc := 15) (v := 47) hx hb dX4_readRecord_15 (by decide) ?_
    obtain ⟨v6, M7, e5, h⟩ := ob2_out h
    refine c_vI (pc := 17) (rest := []) F S (tX4_take e5) mfX4_take (by decide) (by decide) cl4 w644 ⟨Nat.le_of_ble_eq_true rfl, Nat.le_of_ble_eq_true rfl⟩ rfl hl.1 rfl (Nat.le_of_ble_eq_true rfl) dX4_readRecord_17 (fun H locs S => ?_)
    refine lv_if_ne (pc := 20) (tgt := 25) hx hb dX4_readRecord_20 (by decide) (fun c8 => ?_) (fun c8 => ?_)
    · replace h := (if_neg c8).symm.trans h
      refine lv_aload_n (pc := 25) hx hb dX4_readRecord_25 rfl (lv_at hl 1 rfl) ?_
      refine lv_iconst (pc := 26) (v := 1) hx hb dX4_readRecord_26 (by decide) ?_
      refine lv_bipush (pc := 27) (v := 50) hx hb dX4_readRecord_27 (by decide) ?_
      obtain ⟨v10, M11, e9, h⟩ := ob2_out h
      refine c_vI (pc := 29) (rest := []) F S (tX4_readNumber e9) mfX4_readNumber (by decide) (by decide) cl4 w652 ⟨Nat.le_of_ble_eq_true rfl, Nat.le_of_ble_eq_true rfl⟩ rfl hl.1 rfl (Nat.le_of_ble_eq_true rfl) dX4_readRecord_29 (fun H locs S => ?_)
      refine lv_istore_n (pc := 32) (lv' := [(2, .int v10), (1, .int v2), (0, .ref (G.2.1 14))]) hx hb dX4_readRecord_32 rfl hl (by decide) rfl (fun ls hl => ?_)
      refine lv_iload_n (pc := 33) hx hb dX4_readRecord_33 rfl (lv_at hl 0 rfl) ?_
      refine lv_bipush (pc := 34) (v := (-6)) hx hb dX4_readRecord_34 (by decide) ?_
      refine lv_icmp_eq (pc := 36) (tgt := 53) hx hb dX4_readRecord_36 (by decide) (fun c12 => ?_) (fun c12 => ?_)
      · replace h := (if_pos c12).symm.trans h
        refine lv_iconst (pc := 53) (v := 0) hx hb dX4_readRecord_53 (by decide) ?_
        cases h
        exact r_iret (pc := 54) F S rfl dX4_readRecord_54
      · replace h := (if_neg c12).symm.trans h
        refine lv_aload_n (pc := 39) hx hb dX4_readRecord_39 rfl (lv_at hl 2 rfl) ?_
        refine lv_iconst (pc := 40) (v := 1) hx hb dX4_readRecord_40 (by decide) ?_
        refine lv_iload_n (pc := 41) hx hb dX4_readRecord_41 rfl (lv_at hl 1 rfl) ?_
        refine lv_iload_n (pc := 42) hx hb dX4_readRecord_42 rfl (lv_at hl 0 rfl) ?_
        obtain ⟨v14, M15, e13, h⟩ := ob2_out h
        refine c_vI (pc := 43) (rest := []) F S (tX4_note e13) mfX4_note (by decide) (by decide) cl4 w660 ⟨Nat.le_of_ble_eq_true rfl, Nat.le_of_ble_eq_true rfl⟩ rfl hl.1 rfl (Nat.le_of_ble_eq_true rfl) dX4_readRecord_43 (fun H locs S => ?_)
        refine lv_if_eq (pc := 46) (tgt := 53) hx hb dX4_readRecord_46 (by decide) (fun c16 => ?_) (fun c16 => ?_)
        · replace h := (if_pos c16).symm.trans h
          refine lv_iconst (pc := 53) (v := 0) hx hb dX4_readRecord_53 (by decide) ?_
          cases h
          exact r_iret (pc := 54) F S rfl dX4_readRecord_54
        · replace h := (if_neg c16).symm.trans h
          refine lv_iconst (pc := 49) (v := 1) hx hb dX4_readRecord_49 (by decide) ?_
          refine lv_goto (pc := 50) (tgt := 54) hx hb dX4_readRecord_50 (by decide) ?_
          cases h
          exact r_iret (pc := 54) F S rfl dX4_readRecord_54
    · replace h := (if_pos c8).symm.trans h
      refine lv_iconst (pc := 23) (v := 0) hx hb dX4_readRecord_23 (by decide) ?_
      cases h
      exact r_iret (pc := 24) F S rfl dX4_readRecord_24
theorem mfX4_readGo : MF true yX4_readGo RX4 cX4_readGo 2 (some .boolean) 0 := ⟨w667, w8, by rw [if_pos rfl]; exact ⟨w666, wp10⟩, ⟨by decide, by decide⟩, by decide +kernel⟩
set_option maxHeartbeats 4000000 in
theorem tX4_readGo {l : Launch} {G : GD} {M N Mo : Mem} {r : Int32} (h : fX4_readGo M = some (r, Mo)) : MI l yX4_readGo cX4_readGo 2 .boolean 2 46 G [.ref (G.2.1 14)] M N r Mo N := by
  unfold fX4_readGo at h
  refine MI_of (own := RX4) (by decide) rfl (Nat.le_of_ble_eq_true rfl) ?_
  intro p e s m args below meth c F S ls hl
  have hx := F.1
  have hb := F.2.1
  have hown := F.2.2.2.2.1
  have hts := F.2.2.2.2.2.1
  have hZ := F.2.2.2.2.2.2.2.2.2
  have hl : lv_has ls 2 [(0, .ref (G.2.1 14))] := hl
  generalize s.heap = H, ([] : List Loc) = locs at S ⊢
  refine lv_aload_n (pc := 0) hx hb dX4_readGo_0 rfl (lv_at hl 0 rfl) ?_
  refine lv_iconst (pc := 1) (v := 0) hx hb dX4_readGo_1 (by decide) ?_
  refine lv_bipush (pc := 2) (v := 7) hx hb dX4_readGo_2 (by decide) ?_
  obtain ⟨v2, M3, e1, h⟩ := ob2_out h
  refine c_vI (pc := 4) (rest := []) F S (tX4_readNumber e1) mfX4_readNumber (by decide) (by decide) cl4 w652 ⟨Nat.le_of_ble_eq_true rfl, Nat.le_of_ble_eq_true rfl⟩ rfl hl.1 rfl (Nat.le_of_ble_eq_true rfl) dX4_readGo_4 (fun H locs S => ?_)
  refine lv_istore_n (pc := 7) (lv' := [(1, .int v2), (0, .ref (G.2.1 14))]) hx hb dX4_readGo_7 rfl hl (by decide) rfl (fun ls hl => ?_)
  refine lv_iload_n (pc := 8) hx hb dX4_readGo_8 rfl (lv_at hl 0 rfl) ?_
  refine lv_bipush (pc := 9) (v := (-6)) hx hb dX4_readGo_9 (by decide) ?_
  refine lv_icmp_eq (pc := 11) (tgt := 28) hx hb dX4_readGo_11 (by decide) (fun c4 => ?_) (fun c4 => ?_)
  · replace h := (if_pos c4).symm.trans h
    refine lv_iconst (pc := 28) (v := 0) hx hb dX4_readGo_28 (by decide) ?_
    cases h
    exact r_iret (pc := 29) F S rfl dX4_readGo_29
  · replace h := (if_neg c4).symm.trans h
    refine lv_aload_n (pc := 14) hx hb dX4_readGo_14 rfl (lv_at hl 1 rfl) ?_
    refine lv_iconst (pc := 15) (v := 2) hx hb dX4_readGo_15 (by decide) ?_
    refine lv_iload_n (pc := 16) hx hb dX4_readGo_16 rfl (lv_at hl 0 rfl) ?_
    refine lv_iconst (pc := 17) (v := 0) hx hb dX4_readGo_17 (by decide) ?_
    obtain ⟨v6, M7, e5, h⟩ := ob2_out h
    refine c_vI (pc := 18) (rest := []) F S (tX4_note e5) mfX4_note (by decide) (by decide) cl4 w660 ⟨Nat.le_of_ble_eq_true rfl, Nat.le_of_ble_eq_true rfl⟩ rfl hl.1 rfl (Nat.le_of_ble_eq_true rfl) dX4_readGo_18 (fun H locs S => ?_)
    refine lv_if_eq (pc := 21) (tgt := 28) hx hb dX4_readGo_21 (by decide) (fun c8 => ?_) (fun c8 => ?_)
    · replace h := (if_pos c8).symm.trans h
      refine lv_iconst (pc := 28) (v := 0) hx hb dX4_readGo_28 (by decide) ?_
      cases h
      exact r_iret (pc := 29) F S rfl dX4_readGo_29
    · replace h := (if_neg c8).symm.trans h
      refine lv_iconst (pc := 24) (v := 1) hx hb dX4_readGo_24 (by decide) ?_
      refine lv_goto (pc := 25) (tgt := 29) hx hb dX4_readGo_25 (by decide) ?_
      cases h
      exact r_iret (pc := 29) F S rfl dX4_readGo_29
theorem mfX4_readSpan : MF true yX4_readSpan RX4 cX4_readSpan 3 (some .boolean) 0 := ⟨w675, w8, by rw [if_pos rfl]; exact ⟨w674, wp12⟩, ⟨by decide, by decide⟩, by decide +kernel⟩
set_option maxHeartbeats 4000000 in
theorem tX4_readSpan {l : Launch} {G : GD} {M N Mo : Mem} {r : Int32} (h : fX4_readSpan M = some (r, Mo)) : MI l yX4_readSpan cX4_readSpan 3 .boolean 2 46 G [.ref (G.2.1 14)] M N r Mo N := by
  unfold fX4_readSpan at h
  refine MI_of (own := RX4) (by decide) rfl (Nat.le_of_ble_eq_true rfl) ?_
  intro p e s m args below meth c F S ls hl
  have hx := F.1
  have hb := F.2.1
  have hown := F.2.2.2.2.1
  have hts := F.2.2.2.2.2.1
  have hZ := F.2.2.2.2.2.2.2.2.2
  have hl : lv_has ls 3 [(0, .ref (G.2.1 14))] := hl
  generalize s.heap = H, ([] : List Loc) = locs at S ⊢
  refine lv_aload_n (pc := 0) hx hb dX4_readSpan_0 rfl (lv_at hl 0 rfl) ?_
  refine lv_iconst (pc := 1) (v := 0) hx hb dX4_readSpan_1 (by decide) ?_
  refine lv_bipush (pc := 2) (v := 11) hx hb dX4_readSpan_2 (by decide) ?_
  obtain ⟨v2, M3, e1, h⟩ := ob2_out h
  refine c_vI (pc := 4) (rest := []) F S (tX4_readNumber e1) mfX4_readNumber (by decide) (by decide) cl4 w652 ⟨Nat.le_of_ble_eq_true rfl, Nat.le_of_ble_eq_true rfl⟩ rfl hl.1 rfl (Nat.le_of_ble_eq_true rfl) dX4_readSpan_4 (fun H locs S => ?_)
  refine lv_istore_n (pc := 7) (lv' := [(1, .int v2), (0, .ref (G.2.1 14))]) hx hb dX4_readSpan_7 rfl hl (by decide) rfl (fun ls hl => ?_)
  refine lv_iload_n (pc := 8) hx hb dX4_readSpan_8 rfl (lv_at hl 0 rfl) ?_
  refine lv_bipush (pc := 9) (v := (-6)) hx hb dX4_readSpan_9 (by decide) ?_
  refine lv_icmp_ne (pc := 11) (tgt := 16) hx hb dX4_readSpan_11 (by decide) (fun c4 => ?_) (fun c4 => ?_)
  · replace h := (if_neg c4).symm.trans h
    refine lv_aload_n (pc := 16) hx hb dX4_readSpan_16 rfl (lv_at hl 1 rfl) ?_
    refine lv_bipush (pc := 17) (v := 62) hx hb dX4_readSpan_17 (by decide) ?_
    obtain ⟨v6, M7, e5, h⟩ := ob2_out h
    refine c_vI (pc := 19) (rest := []) F S (tX4_take e5) mfX4_take (by decide) (by decide) cl4 w644 ⟨Nat.le_of_ble_eq_true rfl, Nat.le_of_ble_eq_true rfl⟩ rfl hl.1 rfl (Nat.le_of_ble_eq_true rfl) dX4_readSpan_19 (fun H locs S => ?_)
    obtain ⟨v8, M9, d10, h⟩ := ob2_out h
    have J11 : ∀ (H : Heap) (locs : List Loc) (ls : Array Slot), ST G M9 N s H locs → lv_has ls 3 [(0, .ref (G.2.1 14)), (1, .int v2)] → W p l e (Rm 2 46) s m args below meth c H locs 0 0 (MQ below (va_Qi (fun r' (_ : Unit) => r' = r) (fun _ t => Wd G Mo N t) (AG G.2.1)) args s 0 0 (AG G.2.1)) (F0 m 36 ls [.int v8]) := by
      intro H locs ls S hl
      refine lv_istore_n (pc := 36) (lv' := [(2, .int v8), (0, .ref (G.2.1 14)), (1, .int v2)]) hx hb dX4_readSpan_36 rfl hl (by decide) rfl (fun ls hl => ?_)
      refine lv_iload_n (pc := 37) hx hb dX4_readSpan_37 rfl (lv_at hl 0 rfl) ?_
      refine lv_bipush (pc := 38) (v := (-6)) hx hb dX4_readSpan_38 (by decide) ?_
      refine lv_icmp_eq (pc := 40) (tgt := 52) hx hb dX4_readSpan_40 (by decide) (fun c12 => ?_) (fun c12 => ?_)
      · replace h := (if_pos c12).symm.trans h
        refine lv_iconst (pc := 52) (v := 0) hx hb dX4_readSpan_52 (by decide) ?_
        cases h
        exact r_iret (pc := 53) F S rfl dX4_readSpan_53
      · replace h := (if_neg c12).symm.trans h
        refine lv_aload_n (pc := 43) hx hb dX4_readSpan_43 rfl (lv_at hl 1 rfl) ?_
        obtain ⟨v13, e14, h⟩ := ob_out h
        refine r_gI (pc := 44) (k := 8) F S e14 (by decide) cl4 inRX4 (by decide) w228 (fun _ => rfl) dX4_readSpan_44 ?_
        refine lv_bipush (pc := 47) (v := 60) hx hb dX4_readSpan_47 (by decide) ?_
        refine lv_icmp_lt (pc := 49) (tgt := 54) hx hb dX4_readSpan_49 (by decide) (fun c15 => ?_) (fun c15 => ?_)
        · replace h := (if_pos c15).symm.trans h
          refine lv_aload_n (pc := 54) hx hb dX4_readSpan_54 rfl (lv_at hl 1 rfl) ?_
          refine r_gR (pc := 55) (k := 9) (x := 21) (i := 14) (ci := 4) F S (by decide) (by decide) cl4 inRX4 (by decide) w229 (fun _ => rfl) dX4_readSpan_55 ?_
          refine lv_aload_n (pc := 58) hx hb dX4_readSpan_58 rfl (lv_at hl 1 rfl) ?_
          obtain ⟨v16, e17, h⟩ := ob_out h
          refine r_gI (pc := 59) (k := 8) F S e17 (by decide) cl4 inRX4 (by decide) w228 (fun _ => rfl) dX4_readSpan_59 ?_
          refine lv_iload_n (pc := 62) hx hb dX4_readSpan_62 rfl (lv_at hl 2 rfl) ?_
          obtain ⟨M18, e19, h⟩ := ob_out h
          refine r_aS (pc := 63) F S e19 dX4_readSpan_63 (fun H locs S => ?_)
          refine lv_aload_n (pc := 64) hx hb dX4_readSpan_64 rfl (lv_at hl 1 rfl) ?_
          refine r_gR (pc := 65) (k := 10) (x := 22) (i := 14) (ci := 4) F S (by decide) (by decide) cl4 inRX4 (by decide) w230 (fun _ => rfl) dX4_readSpan_65 ?_
          refine lv_aload_n (pc := 68) hx hb dX4_readSpan_68 rfl (lv_at hl 1 rfl) ?_
          obtain ⟨v20, e21, h⟩ := ob_out h
          refine r_gI (pc := 69) (k := 8) F S e21 (by decide) cl4 inRX4 (by decide) w228 (fun _ => rfl) dX4_readSpan_69 ?_
          refine lv_iload_n (pc := 72) hx hb dX4_readSpan_72 rfl (lv_at hl 0 rfl) ?_
          obtain ⟨M22, e23, h⟩ := ob_out h
          refine r_aS (pc := 73) F S e23 dX4_readSpan_73 (fun H locs S => ?_)
          refine lv_aload_n (pc := 74) hx hb dX4_readSpan_74 rfl (lv_at hl 1 rfl) ?_
          refine lv_dup (pc := 75) hx hb dX4_readSpan_75 rfl ?_
          obtain ⟨v24, e25, h⟩ := ob_out h
          refine r_gI (pc := 76) (k := 8) F S e25 (by decide) cl4 inRX4 (by decide) w228 (fun _ => rfl) dX4_readSpan_76 ?_
          refine lv_iconst (pc := 79) (v := 1) hx hb dX4_readSpan_79 (by decide) ?_
          refine lv_iadd (pc := 80) hx hb dX4_readSpan_80 ?_
          obtain ⟨M26, e27, h⟩ := ob_out h
          refine r_pI (pc := 81) (k := 8) (ty0 := tyX4) F S e27 (by decide) cl4 inRX4 tyX4_ok nmX4 (by decide) w228 rfl (by decide +kernel) (fun _ => Nat.le_of_ble_eq_true rfl) (fun _ => pf_4_8) dX4_readSpan_81 (fun H locs S => ?_)
          refine lv_iconst (pc := 84) (v := 1) hx hb dX4_readSpan_84 (by decide) ?_
          cases h
          exact r_iret (pc := 85) F S rfl dX4_readSpan_85
        · replace h := (if_neg c15).symm.trans h
          refine lv_iconst (pc := 52) (v := 0) hx hb dX4_readSpan_52 (by decide) ?_
          cases h
          exact r_iret (pc := 53) F S rfl dX4_readSpan_53
    refine lv_if_eq (pc := 22) (tgt := 35) hx hb dX4_readSpan_22 (by decide) (fun c28 => ?_) (fun c28 => ?_)
    · replace d10 := (if_pos c28).symm.trans d10
      refine lv_iload_n (pc := 35) hx hb dX4_readSpan_35 rfl (lv_at hl 0 rfl) ?_
      cases d10
      exact J11 H locs ls S (lv_sub hl [1, 0] rfl)
    · replace d10 := (if_neg c28).symm.trans d10
      refine lv_aload_n (pc := 25) hx hb dX4_readSpan_25 rfl (lv_at hl 1 rfl) ?_
      refine lv_iconst (pc := 26) (v := 0) hx hb dX4_readSpan_26 (by decide) ?_
      refine lv_bipush (pc := 27) (v := 11) hx hb dX4_readSpan_27 (by decide) ?_
      obtain ⟨v30, M31, e29, d10⟩ := ob2_out d10
      refine c_vI (pc := 29) (rest := []) F S (tX4_readNumber e29) mfX4_readNumber (by decide) (by decide) cl4 w652 ⟨Nat.le_of_ble_eq_true rfl, Nat.le_of_ble_eq_true rfl⟩ rfl hl.1 rfl (Nat.le_of_ble_eq_true rfl) dX4_readSpan_29 (fun H locs S => ?_)
      refine lv_goto (pc := 32) (tgt := 36) hx hb dX4_readSpan_32 (by decide) ?_
      cases d10
      exact J11 H locs ls S (lv_sub hl [1, 0] rfl)
  · replace h := (if_pos c4).symm.trans h
    refine lv_iconst (pc := 14) (v := 0) hx hb dX4_readSpan_14 (by decide) ?_
    cases h
    exact r_iret (pc := 15) F S rfl dX4_readSpan_15
theorem mfX4_readLevels : MF true yX4_readLevels RX4 cX4_readLevels 3 (some .boolean) 0 := ⟨w671, w8, by rw [if_pos rfl]; exact ⟨w670, wp11⟩, ⟨by decide, by decide⟩, by decide +kernel⟩
set_option maxHeartbeats 4000000 in
theorem pX4_readLevels_L4 {p : Program} {l : Launch} {e : Env} {s : State} {m : MethodId} {args : Array Value} {below : List Frame} {meth : Method} {c : Code} {Q : State → Prop} {G : GD} (F : FX p s m args meth c RX4 cX4_readLevels 3 (some .boolean) G) : ∀ (n : Nat) {M N : Mem} {a1 : Int32} {a2 : Int32} {H : Heap} {locs : List Loc} {ls : Array Slot} {z : (Mem) ⊕ (Int32 × Mem)}, ST G M N s H locs → lv_has ls 3 [(0, .ref (G.2.1 14)), (1, .int a1), (2, .int a2)] → fX4_readLevels_L4 n M a1 a2 = some z → (K1 : ∀ (Mo : Mem), z = .inl Mo → ∀ (H : Heap) (locs : List Loc) (ls : Array Slot), ST G Mo N s H locs → lv_has ls 3 [(0, .ref (G.2.1 14))] → W p l e (Rm 3 68) s m args below meth c H locs 0 0 Q (F0 m 36 ls [])) → (K2 : ∀ (r : Int32) (Mr : Mem), z = .inr (r, Mr) → ∀ (H : Heap) (locs : List Loc) (ls : Array Slot) (pcr : Nat), ST G Mr N s H locs → decode cX4_readLevels pcr = .ok (.ireturn, 1) → W p l e (Rm 3 68) s m args below meth c H locs 0 0 Q (F0 m pcr ls [.int r])) → W p l e (Rm 3 68) s m args below meth c H locs 0 0 Q (F0 m 4 ls []) := by
  intro n
  induction n with
  | zero => intro M N a1 a2 H locs ls z S hl h K1 K2; cases h
  | succ n ih =>
    intro M N a1 a2 H locs ls z S hl h K1 K2
    rw [fX4_readLevels_L4] at h
    have hx := F.1
    have hb := F.2.1
    have hown := F.2.2.2.2.1
    have hts := F.2.2.2.2.2.1
    have hZ := F.2.2.2.2.2.2.2.2.2
    refine lv_iload_n (pc := 4) hx hb dX4_readLevels_4 rfl (lv_at hl 2 rfl) ?_
    refine lv_bipush (pc := 5) (v := 60) hx hb dX4_readLevels_5 (by decide) ?_
    refine lv_icmp_ge (pc := 7) (tgt := 36) hx hb dX4_readLevels_7 (by decide) (fun c1 => ?_) (fun c1 => ?_)
    · replace h := (if_pos c1).symm.trans h
      cases h
      exact K1 _ rfl H locs ls S (lv_sub hl [0] rfl)
    · replace h := (if_neg c1).symm.trans h
      refine lv_iload_n (pc := 10) hx hb dX4_readLevels_10 rfl (lv_at hl 1 rfl) ?_
      refine lv_if_eq (pc := 11) (tgt := 36) hx hb dX4_readLevels_11 (by decide) (fun c2 => ?_) (fun c2 => ?_)
      · replace h := (if_pos c2).symm.trans h
        cases h
        exact K1 _ rfl H locs ls S (lv_sub hl [0] rfl)
      · replace h := (if_neg c2).symm.trans h
        refine lv_aload_n (pc := 14) hx hb dX4_readLevels_14 rfl (lv_at hl 0 rfl) ?_
        obtain ⟨v4, M5, e3, h⟩ := ob2_out h
        refine c_vI (pc := 15) (rest := []) F S (tX4_readSpan e3) mfX4_readSpan (by decide) (by decide) cl4 w672 ⟨Nat.le_of_ble_eq_true rfl, Nat.le_of_ble_eq_true rfl⟩ rfl hl.1 rfl (Nat.le_of_ble_eq_true rfl) dX4_readLevels_15 (fun H locs S => ?_)
        refine lv_if_ne (pc := 18) (tgt := 23) hx hb dX4_readLevels_18 (by decide) (fun c6 => ?_) (fun c6 => ?_)
        · replace h := (if_neg c6).symm.trans h
          refine lv_aload_n (pc := 23) hx hb dX4_readLevels_23 rfl (lv_at hl 0 rfl) ?_
          refine lv_bipush (pc := 24) (v := 43) hx hb dX4_readLevels_24 (by decide) ?_
          obtain ⟨v8, M9, e7, h⟩ := ob2_out h
          refine c_vI (pc := 26) (rest := []) F S (tX4_take e7) mfX4_take (by decide) (by decide) cl4 w644 ⟨Nat.le_of_ble_eq_true rfl, Nat.le_of_ble_eq_true rfl⟩ rfl hl.1 rfl (Nat.le_of_ble_eq_true rfl) dX4_readLevels_26 (fun H locs S => ?_)
          refine lv_istore_n (pc := 29) (lv' := [(1, .int v8), (0, .ref (G.2.1 14)), (2, .int a2)]) hx hb dX4_readLevels_29 rfl hl (by decide) rfl (fun ls hl => ?_)
          refine lv_iinc (pc := 30) (lv' := [(2, .int (a2 + 1)), (1, .int v8), (0, .ref (G.2.1 14))]) hx hb dX4_readLevels_30 hl (k := 2) rfl (iinc_n (by decide)) (by decide) rfl (fun ls hl => ?_)
          refine lv_goto (pc := 33) (tgt := 4) hx hb dX4_readLevels_33 (by decide) ?_
          exact ih S (lv_sub hl [2, 1, 0] rfl) h K1 K2
        · replace h := (if_pos c6).symm.trans h
          refine lv_iconst (pc := 21) (v := 0) hx hb dX4_readLevels_21 (by decide) ?_
          cases h
          exact K2 _ _ rfl H locs ls 22 S dX4_readLevels_22
set_option maxHeartbeats 4000000 in
theorem tX4_readLevels {l : Launch} {G : GD} {M N Mo : Mem} {r : Int32} (h : fX4_readLevels M = some (r, Mo)) : MI l yX4_readLevels cX4_readLevels 3 .boolean 3 68 G [.ref (G.2.1 14)] M N r Mo N := by
  unfold fX4_readLevels at h
  refine MI_of (own := RX4) (by decide) rfl (Nat.le_of_ble_eq_true rfl) ?_
  intro p e s m args below meth c F S ls hl
  have hx := F.1
  have hb := F.2.1
  have hown := F.2.2.2.2.1
  have hts := F.2.2.2.2.2.1
  have hZ := F.2.2.2.2.2.2.2.2.2
  have hl : lv_has ls 3 [(0, .ref (G.2.1 14))] := hl
  generalize s.heap = H, ([] : List Loc) = locs at S ⊢
  refine lv_iconst (pc := 0) (v := 1) hx hb dX4_readLevels_0 (by decide) ?_
  refine lv_istore_n (pc := 1) (lv' := [(1, .int 1), (0, .ref (G.2.1 14))]) hx hb dX4_readLevels_1 rfl hl (by decide) rfl (fun ls hl => ?_)
  refine lv_iconst (pc := 2) (v := 0) hx hb dX4_readLevels_2 (by decide) ?_
  refine lv_istore_n (pc := 3) (lv' := [(2, .int 0), (1, .int 1), (0, .ref (G.2.1 14))]) hx hb dX4_readLevels_3 rfl hl (by decide) rfl (fun ls hl => ?_)
  obtain ⟨z3, e2, h⟩ := ob_out h
  refine pX4_readLevels_L4 F 5000 S (lv_sub hl [2, 1, 0] rfl) e2 (fun M1 e4 H locs ls S hl => ?_) (fun v5 M6 e4 H locs ls pcr S hdr => ?_)
  rotate_left
  · subst e4
    replace h := caseS_r h
    obtain ⟨b7, e8, h⟩ := ob_out h
    cases h
    refine nm_i (bz_out e8).1 ?_
    exact r_iret F S (bool_narrow (by rw [← (bz_out e8).1]; exact (bz_out e8).2)).1 hdr
  subst e4
  replace h := caseS_l h
  refine lv_aload_n (pc := 36) hx hb dX4_readLevels_36 rfl (lv_at hl 0 rfl) ?_
  refine lv_bipush (pc := 37) (v := 64) hx hb dX4_readLevels_37 (by decide) ?_
  obtain ⟨v10, M11, e9, h⟩ := ob2_out h
  refine c_vI (pc := 39) (rest := []) F S (tX4_take e9) mfX4_take (by decide) (by decide) cl4 w644 ⟨Nat.le_of_ble_eq_true rfl, Nat.le_of_ble_eq_true rfl⟩ rfl hl.1 rfl (Nat.le_of_ble_eq_true rfl) dX4_readLevels_39 (fun H locs S => ?_)
  refine lv_if_ne (pc := 42) (tgt := 47) hx hb dX4_readLevels_42 (by decide) (fun c12 => ?_) (fun c12 => ?_)
  · replace h := (if_neg c12).symm.trans h
    refine lv_aload_n (pc := 47) hx hb dX4_readLevels_47 rfl (lv_at hl 0 rfl) ?_
    refine lv_iconst (pc := 48) (v := 0) hx hb dX4_readLevels_48 (by decide) ?_
    refine lv_bipush (pc := 49) (v := 100) hx hb dX4_readLevels_49 (by decide) ?_
    obtain ⟨v14, M15, e13, h⟩ := ob2_out h
    refine c_vI (pc := 51) (rest := []) F S (tX4_readNumber e13) mfX4_readNumber (by decide) (by decide) cl4 w652 ⟨Nat.le_of_ble_eq_true rfl, Nat.le_of_ble_eq_true rfl⟩ rfl hl.1 rfl (Nat.le_of_ble_eq_true rfl) dX4_readLevels_51 (fun H locs S => ?_)
    refine lv_istore_n (pc := 54) (lv' := [(2, .int v14), (0, .ref (G.2.1 14))]) hx hb dX4_readLevels_54 rfl hl (by decide) rfl (fun ls hl => ?_)
    refine lv_iload_n (pc := 55) hx hb dX4_readLevels_55 rfl (lv_at hl 0 rfl) ?_
    refine lv_bipush (pc := 56) (v := (-6)) hx hb dX4_readLevels_56 (by decide) ?_
    refine lv_icmp_eq (pc := 58) (tgt := 75) hx hb dX4_readLevels_58 (by decide) (fun c16 => ?_) (fun c16 => ?_)
    · replace h := (if_pos c16).symm.trans h
      refine lv_iconst (pc := 75) (v := 0) hx hb dX4_readLevels_75 (by decide) ?_
      cases h
      exact r_iret (pc := 76) F S rfl dX4_readLevels_76
    · replace h := (if_neg c16).symm.trans h
      refine lv_aload_n (pc := 61) hx hb dX4_readLevels_61 rfl (lv_at hl 1 rfl) ?_
      refine lv_iconst (pc := 62) (v := 0) hx hb dX4_readLevels_62 (by decide) ?_
      refine lv_iload_n (pc := 63) hx hb dX4_readLevels_63 rfl (lv_at hl 0 rfl) ?_
      refine lv_iconst (pc := 64) (v := 0) hx hb dX4_readLevels_64 (by decide) ?_
      obtain ⟨v18, M19, e17, h⟩ := ob2_out h
      refine c_vI (pc := 65) (rest := []) F S (tX4_note e17) mfX4_note (by decide) (by decide) cl4 w660 ⟨Nat.le_of_ble_eq_true rfl, Nat.le_of_ble_eq_true rfl⟩ rfl hl.1 rfl (Nat.le_of_ble_eq_true rfl) dX4_readLevels_65 (fun H locs S => ?_)
      refine lv_if_eq (pc := 68) (tgt := 75) hx hb dX4_readLevels_68 (by decide) (fun c20 => ?_) (fun c20 => ?_)
      · replace h := (if_pos c20).symm.trans h
        refine lv_iconst (pc := 75) (v := 0) hx hb dX4_readLevels_75 (by decide) ?_
        cases h
        exact r_iret (pc := 76) F S rfl dX4_readLevels_76
      · replace h := (if_neg c20).symm.trans h
        refine lv_iconst (pc := 71) (v := 1) hx hb dX4_readLevels_71 (by decide) ?_
        refine lv_goto (pc := 72) (tgt := 76) hx hb dX4_readLevels_72 (by decide) ?_
        cases h
        exact r_iret (pc := 76) F S rfl dX4_readLevels_76
  · replace h := (if_pos c12).symm.trans h
    refine lv_iconst (pc := 45) (v := 0) hx hb dX4_readLevels_45 (by decide) ?_
    cases h
    exact r_iret (pc := 46) F S rfl dX4_readLevels_46
theorem mfX4_readOrder : MF true yX4_readOrder RX4 cX4_readOrder 1 (some .boolean) 0 := ⟨w643, w8, by rw [if_pos rfl]; exact ⟨w642, wp4⟩, ⟨by decide, by decide⟩, by decide +kernel⟩
set_option maxHeartbeats 4000000 in
theorem tX4_readOrder {l : Launch} {G : GD} {M N Mo : Mem} {r : Int32} (h : fX4_readOrder M = some (r, Mo)) : MI l yX4_readOrder cX4_readOrder 1 .boolean 4 90 G [.ref (G.2.1 14)] M N r Mo N := by
  unfold fX4_readOrder at h
  refine MI_of (own := RX4) (by decide) rfl (Nat.le_of_ble_eq_true rfl) ?_
  intro p e s m args below meth c F S ls hl
  have hx := F.1
  have hb := F.2.1
  have hown := F.2.2.2.2.1
  have hts := F.2.2.2.2.2.1
  have hZ := F.2.2.2.2.2.2.2.2.2
  have hl : lv_has ls 1 [(0, .ref (G.2.1 14))] := hl
  generalize s.heap = H, ([] : List Loc) = locs at S ⊢
  refine lv_aload_n (pc := 0) hx hb dX4_readOrder_0 rfl (lv_at hl 0 rfl) ?_
  refine lv_bipush (pc := 1) (v := 114) hx hb dX4_readOrder_1 (by decide) ?_
  obtain ⟨v2, M3, e1, h⟩ := ob2_out h
  refine c_vI (pc := 3) (rest := []) F S (tX4_take e1) mfX4_take (by decide) (by decide) cl4 w644 ⟨Nat.le_of_ble_eq_true rfl, Nat.le_of_ble_eq_true rfl⟩ rfl hl.1 rfl (Nat.le_of_ble_eq_true rfl) dX4_readOrder_3 (fun H locs S => ?_)
  refine lv_if_eq (pc := 6) (tgt := 14) hx hb dX4_readOrder_6 (by decide) (fun c4 => ?_) (fun c4 => ?_)
  · replace h := (if_pos c4).symm.trans h
    refine lv_aload_n (pc := 14) hx hb dX4_readOrder_14 rfl (lv_at hl 0 rfl) ?_
    refine lv_bipush (pc := 15) (v := 103) hx hb dX4_readOrder_15 (by decide) ?_
    obtain ⟨v6, M7, e5, h⟩ := ob2_out h
    refine c_vI (pc := 17) (rest := []) F S (tX4_take e5) mfX4_take (by decide) (by decide) cl4 w644 ⟨Nat.le_of_ble_eq_true rfl, Nat.le_of_ble_eq_true rfl⟩ rfl hl.1 rfl (Nat.le_of_ble_eq_true rfl) dX4_readOrder_17 (fun H locs S => ?_)
    refine lv_if_eq (pc := 20) (tgt := 28) hx hb dX4_readOrder_20 (by decide) (fun c8 => ?_) (fun c8 => ?_)
    · replace h := (if_pos c8).symm.trans h
      refine lv_aload_n (pc := 28) hx hb dX4_readOrder_28 rfl (lv_at hl 0 rfl) ?_
      refine lv_bipush (pc := 29) (v := 120) hx hb dX4_readOrder_29 (by decide) ?_
      obtain ⟨v10, M11, e9, h⟩ := ob2_out h
      refine c_vI (pc := 31) (rest := []) F S (tX4_take e9) mfX4_take (by decide) (by decide) cl4 w644 ⟨Nat.le_of_ble_eq_true rfl, Nat.le_of_ble_eq_true rfl⟩ rfl hl.1 rfl (Nat.le_of_ble_eq_true rfl) dX4_readOrder_31 (fun H locs S => ?_)
      refine lv_if_eq (pc := 34) (tgt := 45) hx hb dX4_readOrder_34 (by decide) (fun c12 => ?_) (fun c12 => ?_)
      · replace h := (if_pos c12).symm.trans h
        refine lv_aload_n (pc := 45) hx hb dX4_readOrder_45 rfl (lv_at hl 0 rfl) ?_
        obtain ⟨v14, M15, e13, h⟩ := ob2_out h
        refine c_vI (pc := 46) (rest := []) F S (tX4_readLevels e13) mfX4_readLevels (by decide) (by decide) cl4 w668 ⟨Nat.le_of_ble_eq_true rfl, Nat.le_of_ble_eq_true rfl⟩ rfl hl.1 rfl (Nat.le_of_ble_eq_true rfl) dX4_readOrder_46 (fun H locs S => ?_)
        obtain ⟨b16, e17, h⟩ := ob_out h
        cases h
        refine nm_i (bz_out e17).1 ?_
        exact r_iret (pc := 49) F S (bool_narrow (by rw [← (bz_out e17).1]; exact (bz_out e17).2)).1 dX4_readOrder_49
      · replace h := (if_neg c12).symm.trans h
        refine lv_aload_n (pc := 37) hx hb dX4_readOrder_37 rfl (lv_at hl 0 rfl) ?_
        refine lv_iconst (pc := 38) (v := 3) hx hb dX4_readOrder_38 (by decide) ?_
        refine lv_iconst (pc := 39) (v := 0) hx hb dX4_readOrder_39 (by decide) ?_
        refine lv_iconst (pc := 40) (v := 0) hx hb dX4_readOrder_40 (by decide) ?_
        obtain ⟨v19, M20, e18, h⟩ := ob2_out h
        refine c_vI (pc := 41) (rest := []) F S (tX4_note e18) mfX4_note (by decide) (by decide) cl4 w660 ⟨Nat.le_of_ble_eq_true rfl, Nat.le_of_ble_eq_true rfl⟩ rfl hl.1 rfl (Nat.le_of_ble_eq_true rfl) dX4_readOrder_41 (fun H locs S => ?_)
        obtain ⟨b21, e22, h⟩ := ob_out h
        cases h
        refine nm_i (bz_out e22).1 ?_
        exact r_iret (pc := 44) F S (bool_narrow (by rw [← (bz_out e22).1]; exact (bz_out e22).2)).1 dX4_readOrder_44
    · replace h := (if_neg c8).symm.trans h
      refine lv_aload_n (pc := 23) hx hb dX4_readOrder_23 rfl (lv_at hl 0 rfl) ?_
      obtain ⟨v24, M25, e23, h⟩ := ob2_out h
      refine c_vI (pc := 24) (rest := []) F S (tX4_readGo e23) mfX4_readGo (by decide) (by decide) cl4 w664 ⟨Nat.le_of_ble_eq_true rfl, Nat.le_of_ble_eq_true rfl⟩ rfl hl.1 rfl (Nat.le_of_ble_eq_true rfl) dX4_readOrder_24 (fun H locs S => ?_)
      obtain ⟨b26, e27, h⟩ := ob_out h
      cases h
      refine nm_i (bz_out e27).1 ?_
      exact r_iret (pc := 27) F S (bool_narrow (by rw [← (bz_out e27).1]; exact (bz_out e27).2)).1 dX4_readOrder_27
  · replace h := (if_neg c4).symm.trans h
    refine lv_aload_n (pc := 9) hx hb dX4_readOrder_9 rfl (lv_at hl 0 rfl) ?_
    obtain ⟨v29, M30, e28, h⟩ := ob2_out h
    refine c_vI (pc := 10) (rest := []) F S (tX4_readRecord e28) mfX4_readRecord (by decide) (by decide) cl4 w648 ⟨Nat.le_of_ble_eq_true rfl, Nat.le_of_ble_eq_true rfl⟩ rfl hl.1 rfl (Nat.le_of_ble_eq_true rfl) dX4_readOrder_10 (fun H locs S => ?_)
    obtain ⟨b31, e32, h⟩ := ob_out h
    cases h
    refine nm_i (bz_out e32).1 ?_
    exact r_iret (pc := 13) F S (bool_narrow (by rw [← (bz_out e32).1]; exact (bz_out e32).2)).1 dX4_readOrder_13
theorem mfX4_read : MF true yX4_read RX4 cX4_read 2 (some .boolean) 0 := ⟨w635, w8, by rw [if_pos rfl]; exact ⟨w633, w634⟩, ⟨by decide, by decide⟩, by decide +kernel⟩
set_option maxHeartbeats 4000000 in
theorem pX4_read_L17 {p : Program} {l : Launch} {e : Env} {s : State} {m : MethodId} {args : Array Value} {below : List Frame} {meth : Method} {c : Code} {Q : State → Prop} {G : GD} (F : FX p s m args meth c RX4 cX4_read 2 (some .boolean) G) : ∀ (n : Nat) {M N : Mem} {a1 : Int32} {H : Heap} {locs : List Loc} {ls : Array Slot} {z : (Mem) ⊕ (Int32 × Mem)}, ST G M N s H locs → lv_has ls 2 [(0, .ref (G.2.1 14)), (1, .int a1)] → fX4_read_L17 n M a1 = some z → (K1 : ∀ (Mo : Mem), z = .inl Mo → ∀ (H : Heap) (locs : List Loc) (ls : Array Slot), ST G Mo N s H locs → lv_has ls 2 [] → W p l e (Rm 5 110) s m args below meth c H locs 0 0 Q (F0 m 65 ls [])) → (K2 : ∀ (r : Int32) (Mr : Mem), z = .inr (r, Mr) → ∀ (H : Heap) (locs : List Loc) (ls : Array Slot) (pcr : Nat), ST G Mr N s H locs → decode cX4_read pcr = .ok (.ireturn, 1) → W p l e (Rm 5 110) s m args below meth c H locs 0 0 Q (F0 m pcr ls [.int r])) → W p l e (Rm 5 110) s m args below meth c H locs 0 0 Q (F0 m 17 ls []) := by
  intro n
  induction n with
  | zero => intro M N a1 H locs ls z S hl h K1 K2; cases h
  | succ n ih =>
    intro M N a1 H locs ls z S hl h K1 K2
    rw [fX4_read_L17] at h
    have hx := F.1
    have hb := F.2.1
    have hown := F.2.2.2.2.1
    have hts := F.2.2.2.2.2.1
    have hZ := F.2.2.2.2.2.2.2.2.2
    refine lv_iload_n (pc := 17) hx hb dX4_read_17 rfl (lv_at hl 1 rfl) ?_
    refine lv_bipush (pc := 18) (v := 60) hx hb dX4_read_18 (by decide) ?_
    refine lv_icmp_ge (pc := 20) (tgt := 65) hx hb dX4_read_20 (by decide) (fun c7 => ?_) (fun c7 => ?_)
    · replace h := (if_pos c7).symm.trans h
      cases h
      exact K1 _ rfl H locs ls S (lv_sub hl [] rfl)
    · replace h := (if_neg c7).symm.trans h
      refine lv_aload_n (pc := 23) hx hb dX4_read_23 rfl (lv_at hl 0 rfl) ?_
      obtain ⟨v9, M10, e8, h⟩ := ob2_out h
      refine c_vI (pc := 24) (rest := []) F S (tX4_readOrder e8) mfX4_readOrder (by decide) (by decide) cl4 w640 ⟨Nat.le_of_ble_eq_true rfl, Nat.le_of_ble_eq_true rfl⟩ rfl hl.1 rfl (Nat.le_of_ble_eq_true rfl) dX4_read_24 (fun H locs S => ?_)
      refine lv_if_ne (pc := 27) (tgt := 32) hx hb dX4_read_27 (by decide) (fun c11 => ?_) (fun c11 => ?_)
      · replace h := (if_neg c11).symm.trans h
        refine lv_aload_n (pc := 32) hx hb dX4_read_32 rfl (lv_at hl 0 rfl) ?_
        obtain ⟨v12, e13, h⟩ := ob_out h
        refine r_gI (pc := 33) (k := 1) F S e13 (by decide) cl4 inRX4 (by decide) w220 (fun _ => rfl) dX4_read_33 ?_
        refine lv_aload_n (pc := 36) hx hb dX4_read_36 rfl (lv_at hl 0 rfl) ?_
        refine r_gR (pc := 37) (k := 0) (x := 15) (i := 14) (ci := 4) F S (by decide) (by decide) cl4 inRX4 (by decide) w218 (fun _ => rfl) dX4_read_37 ?_
        obtain ⟨v14, e15, h⟩ := ob_out h
        refine r_gI (pc := 40) (k := 1) F S e15 (by decide) cl5 inRX5 (by decide) w210 (fun _ => rfl) dX4_read_40 ?_
        refine lv_icmp_lt (pc := 43) (tgt := 48) hx hb dX4_read_43 (by decide) (fun c16 => ?_) (fun c16 => ?_)
        · replace h := (if_pos c16).symm.trans h
          refine lv_aload_n (pc := 48) hx hb dX4_read_48 rfl (lv_at hl 0 rfl) ?_
          refine lv_bipush (pc := 49) (v := 59) hx hb dX4_read_49 (by decide) ?_
          obtain ⟨v18, M19, e17, h⟩ := ob2_out h
          refine c_vI (pc := 51) (rest := []) F S (tX4_take e17) mfX4_take (by decide) (by decide) cl4 w644 ⟨Nat.le_of_ble_eq_true rfl, Nat.le_of_ble_eq_true rfl⟩ rfl hl.1 rfl (Nat.le_of_ble_eq_true rfl) dX4_read_51 (fun H locs S => ?_)
          refine lv_if_ne (pc := 54) (tgt := 59) hx hb dX4_read_54 (by decide) (fun c20 => ?_) (fun c20 => ?_)
          · replace h := (if_neg c20).symm.trans h
            refine lv_iinc (pc := 59) (lv' := [(1, .int (a1 + 1)), (0, .ref (G.2.1 14))]) hx hb dX4_read_59 hl (k := 1) rfl (iinc_n (by decide)) (by decide) rfl (fun ls hl => ?_)
            refine lv_goto (pc := 62) (tgt := 17) hx hb dX4_read_62 (by decide) ?_
            exact ih S (lv_sub hl [1, 0] rfl) h K1 K2
          · replace h := (if_pos c20).symm.trans h
            refine lv_iconst (pc := 57) (v := 0) hx hb dX4_read_57 (by decide) ?_
            cases h
            exact K2 _ _ rfl H locs ls 58 S dX4_read_58
        · replace h := (if_neg c16).symm.trans h
          refine lv_iconst (pc := 46) (v := 1) hx hb dX4_read_46 (by decide) ?_
          cases h
          exact K2 _ _ rfl H locs ls 47 S dX4_read_47
      · replace h := (if_pos c11).symm.trans h
        refine lv_iconst (pc := 30) (v := 0) hx hb dX4_read_30 (by decide) ?_
        cases h
        exact K2 _ _ rfl H locs ls 31 S dX4_read_31
set_option maxHeartbeats 4000000 in
theorem tX4_read {l : Launch} {G : GD} {M N Mo : Mem} {r : Int32} (h : fX4_read M = some (r, Mo)) : MI l yX4_read cX4_read 2 .boolean 5 110 G [.ref (G.2.1 14)] M N r Mo N := by
  unfold fX4_read at h
  refine MI_of (own := RX4) (by decide) rfl (Nat.le_of_ble_eq_true rfl) ?_
  intro p e s m args below meth c F S ls hl
  have hx := F.1
  have hb := F.2.1
  have hown := F.2.2.2.2.1
  have hts := F.2.2.2.2.2.1
  have hZ := F.2.2.2.2.2.2.2.2.2
  have hl : lv_has ls 2 [(0, .ref (G.2.1 14))] := hl
  generalize s.heap = H, ([] : List Loc) = locs at S ⊢
  refine lv_aload_n (pc := 0) hx hb dX4_read_0 rfl (lv_at hl 0 rfl) ?_
  refine lv_iconst (pc := 1) (v := 0) hx hb dX4_read_1 (by decide) ?_
  obtain ⟨M1, e2, h⟩ := ob_out h
  refine r_pI (pc := 2) (k := 3) (ty0 := tyX4) F S e2 (by decide) cl4 inRX4 tyX4_ok nmX4 (by decide) w223 rfl (by decide +kernel) (fun _ => Nat.le_of_ble_eq_true rfl) (fun _ => pf_4_3) dX4_read_2 (fun H locs S => ?_)
  refine lv_aload_n (pc := 5) hx hb dX4_read_5 rfl (lv_at hl 0 rfl) ?_
  refine lv_iconst (pc := 6) (v := 0) hx hb dX4_read_6 (by decide) ?_
  obtain ⟨M3, e4, h⟩ := ob_out h
  refine r_pI (pc := 7) (k := 8) (ty0 := tyX4) F S e4 (by decide) cl4 inRX4 tyX4_ok nmX4 (by decide) w228 rfl (by decide +kernel) (fun _ => Nat.le_of_ble_eq_true rfl) (fun _ => pf_4_8) dX4_read_7 (fun H locs S => ?_)
  refine lv_aload_n (pc := 10) hx hb dX4_read_10 rfl (lv_at hl 0 rfl) ?_
  refine lv_iconst (pc := 11) (v := 0) hx hb dX4_read_11 (by decide) ?_
  obtain ⟨M6, e5, h⟩ := ob_out h
  refine c_vV (pc := 12) (rest := []) F S (tX4_stepTo e5) mfX4_stepTo (by decide) (by decide) cl4 w636 ⟨Nat.le_of_ble_eq_true rfl, Nat.le_of_ble_eq_true rfl⟩ rfl hl.1 rfl (Nat.le_of_ble_eq_true rfl) dX4_read_12 (fun H locs S => ?_)
  refine lv_iconst (pc := 15) (v := 0) hx hb dX4_read_15 (by decide) ?_
  refine lv_istore_n (pc := 16) (lv' := [(1, .int 0), (0, .ref (G.2.1 14))]) hx hb dX4_read_16 rfl hl (by decide) rfl (fun ls hl => ?_)
  obtain ⟨z9, e8, h⟩ := ob_out h
  refine pX4_read_L17 F 5000 S (lv_sub hl [1, 0] rfl) e8 (fun M7 e10 H locs ls S hl => ?_) (fun v11 M12 e10 H locs ls pcr S hdr => ?_)
  rotate_left
  · subst e10
    replace h := caseS_r h
    obtain ⟨b13, e14, h⟩ := ob_out h
    cases h
    refine nm_i (bz_out e14).1 ?_
    exact r_iret F S (bool_narrow (by rw [← (bz_out e14).1]; exact (bz_out e14).2)).1 hdr
  subst e10
  replace h := caseS_l h
  refine lv_iconst (pc := 65) (v := 0) hx hb dX4_read_65 (by decide) ?_
  cases h
  exact r_iret (pc := 66) F S rfl dX4_read_66
theorem mfX4_changeSpan : MF true yX4_changeSpan RX4 cX4_changeSpan 9 (some .boolean) 4 := ⟨w691, w8, by rw [if_pos rfl]; exact ⟨w690, wp15⟩, ⟨by decide, by decide⟩, by decide +kernel⟩
set_option maxHeartbeats 4000000 in
theorem pX4_changeSpan_L23 {p : Program} {l : Launch} {e : Env} {s : State} {m : MethodId} {args : Array Value} {below : List Frame} {meth : Method} {c : Code} {Q : State → Prop} {G : GD} (F : FX p s m args meth c RX4 cX4_changeSpan 9 (some .boolean) G) : ∀ (n : Nat) {M N : Mem} {a1 : Nat} {a2 : Int32} {a4 : Int32} {a5 : Int32} {a6 : Int32} {a7 : Int32} {H : Heap} {locs : List Loc} {ls : Array Slot} {z : (Mem) ⊕ (Int32 × Mem)}, ST G M N s H locs → lv_has ls 9 [(1, .ref (G.2.1 a1)), (2, .int a2), (4, .int a4), (5, .int a5), (6, .int a6), (7, .int a7)] → fX4_changeSpan_L23 n M a1 a2 a4 a5 a6 a7 = some z → (K1 : ∀ (Mo : Mem), z = .inl Mo → ∀ (H : Heap) (locs : List Loc) (ls : Array Slot), ST G Mo N s H locs → lv_has ls 9 [] → W p l e (Rm 1 21) s m args below meth c H locs 0 0 Q (F0 m 72 ls [])) → (K2 : ∀ (r : Int32) (Mr : Mem), z = .inr (r, Mr) → ∀ (H : Heap) (locs : List Loc) (ls : Array Slot) (pcr : Nat), ST G Mr N s H locs → decode cX4_changeSpan pcr = .ok (.ireturn, 1) → W p l e (Rm 1 21) s m args below meth c H locs 0 0 Q (F0 m pcr ls [.int r])) → W p l e (Rm 1 21) s m args below meth c H locs 0 0 Q (F0 m 23 ls []) := by
  intro n
  induction n with
  | zero => intro M N a1 a2 a4 a5 a6 a7 H locs ls z S hl h K1 K2; cases h
  | succ n ih =>
    intro M N a1 a2 a4 a5 a6 a7 H locs ls z S hl h K1 K2
    rw [fX4_changeSpan_L23] at h
    have hx := F.1
    have hb := F.2.1
    have hown := F.2.2.2.2.1
    have hts := F.2.2.2.2.2.1
    have hZ := F.2.2.2.2.2.2.2.2.2
    refine lv_iload (pc := 23) hx hb dX4_changeSpan_23 (lv_at hl 5 rfl) ?_
    refine lv_iload (pc := 25) hx hb dX4_changeSpan_25 (lv_at hl 4 rfl) ?_
    refine lv_icmp_gt (pc := 27) (tgt := 72) hx hb dX4_changeSpan_27 (by decide) (fun c6 => ?_) (fun c6 => ?_)
    · replace h := (if_pos c6).symm.trans h
      cases h
      exact K1 _ rfl H locs ls S (lv_sub hl [] rfl)
    · replace h := (if_neg c6).symm.trans h
      refine lv_iload (pc := 30) hx hb dX4_changeSpan_30 (lv_at hl 5 rfl) ?_
      refine lv_bipush (pc := 32) (v := 12) hx hb dX4_changeSpan_32 (by decide) ?_
      refine lv_icmp_ge (pc := 34) (tgt := 72) hx hb dX4_changeSpan_34 (by decide) (fun c7 => ?_) (fun c7 => ?_)
      · replace h := (if_pos c7).symm.trans h
        cases h
        exact K1 _ rfl H locs ls S (lv_sub hl [] rfl)
      · replace h := (if_neg c7).symm.trans h
        refine lv_iload_n (pc := 37) hx hb dX4_changeSpan_37 rfl (lv_at hl 1 rfl) ?_
        refine lv_iload (pc := 38) hx hb dX4_changeSpan_38 (lv_at hl 5 rfl) ?_
        refine lv_iload (pc := 40) hx hb dX4_changeSpan_40 (lv_at hl 3 rfl) ?_
        refine lv_imul (pc := 42) hx hb dX4_changeSpan_42 ?_
        refine lv_iadd (pc := 43) hx hb dX4_changeSpan_43 ?_
        obtain ⟨v8, e9, h⟩ := lt1_out h
        refine nm_i e9 ?_
        refine lv_istore (pc := 44) (lv' := [(8, .int v8), (1, .ref (G.2.1 a1)), (2, .int a2), (4, .int a4), (5, .int a5), (6, .int a6), (7, .int a7)]) hx hb dX4_changeSpan_44 hl (by decide) rfl (fun ls hl => ?_)
        refine lv_aload_n (pc := 46) hx hb dX4_changeSpan_46 rfl (lv_at hl 1 rfl) ?_
        refine lv_iload (pc := 47) hx hb dX4_changeSpan_47 (lv_at hl 0 rfl) ?_
        obtain ⟨v11, e10, h⟩ := ob_out h
        refine c_vI (pc := 49) (rest := []) F S (tX6_hasLamp e10) mfX6_hasLamp (sX6_hasLamp e10) (by decide) cl6 w695 ⟨Nat.le_of_ble_eq_true rfl, Nat.le_of_ble_eq_true rfl⟩ rfl hl.1 rfl (Nat.le_of_ble_eq_true rfl) dX4_changeSpan_49 (fun H locs S => ?_)
        refine lv_if_ne (pc := 52) (tgt := 57) hx hb dX4_changeSpan_52 (by decide) (fun c12 => ?_) (fun c12 => ?_)
        · replace h := (if_neg c12).symm.trans h
          refine lv_aload_n (pc := 57) hx hb dX4_changeSpan_57 rfl (lv_at hl 1 rfl) ?_
          obtain ⟨x13, e14, h⟩ := ob_out h
          refine r_gR (pc := 58) (k := 5) F S e14 (by decide) cl6 inRX6 (by decide) w118 (fun _ => rfl) dX4_changeSpan_58 ?_
          refine lv_iload (pc := 61) hx hb dX4_changeSpan_61 (lv_at hl 0 rfl) ?_
          refine lv_iload (pc := 63) hx hb dX4_changeSpan_63 (lv_at hl 3 rfl) ?_
          obtain ⟨M15, e16, h⟩ := ob_out h
          refine r_aS (pc := 65) F S e16 dX4_changeSpan_65 (fun H locs S => ?_)
          refine lv_iinc (pc := 66) (lv' := [(7, .int (a7 + 1)), (8, .int v8), (1, .ref (G.2.1 a1)), (2, .int a2), (4, .int a4), (5, .int a5), (6, .int a6)]) hx hb dX4_changeSpan_66 hl (k := 6) rfl (iinc_n (by decide)) (by decide) rfl (fun ls hl => ?_)
          refine lv_goto (pc := 69) (tgt := 23) hx hb dX4_changeSpan_69 (by decide) ?_
          exact ih S (lv_sub hl [2, 3, 4, 5, 6, 0] rfl) h K1 K2
        · replace h := (if_pos c12).symm.trans h
          refine lv_iconst (pc := 55) (v := 0) hx hb dX4_changeSpan_55 (by decide) ?_
          cases h
          exact K2 _ _ rfl H locs ls 56 S dX4_changeSpan_56
set_option maxHeartbeats 4000000 in
theorem tX4_changeSpan {l : Launch} {G : GD} {M N Mo : Mem} {a1 : Nat} {a2 : Int32} {a3 : Int32} {a4 : Int32} {r : Int32} (h : fX4_changeSpan M a1 a2 a3 a4 = some (r, Mo)) : MI l yX4_changeSpan cX4_changeSpan 9 .boolean 1 21 G [.ref (G.2.1 14), .ref (G.2.1 a1), .int a2, .int a3, .int a4] M N r Mo N := by
  unfold fX4_changeSpan at h
  refine MI_of (own := RX4) (by decide) rfl (Nat.le_of_ble_eq_true rfl) ?_
  intro p e s m args below meth c F S ls hl
  have hx := F.1
  have hb := F.2.1
  have hown := F.2.2.2.2.1
  have hts := F.2.2.2.2.2.1
  have hZ := F.2.2.2.2.2.2.2.2.2
  have hl : lv_has ls 9 [(0, .ref (G.2.1 14)), (1, .ref (G.2.1 a1)), (2, .int a2), (3, .int a3), (4, .int a4)] := hl
  generalize s.heap = H, ([] : List Loc) = locs at S ⊢
  refine lv_iload_n (pc := 0) hx hb dX4_changeSpan_0 rfl (lv_at hl 3 rfl) ?_
  refine lv_iload_n (pc := 1) hx hb dX4_changeSpan_1 rfl (lv_at hl 2 rfl) ?_
  obtain ⟨v1, d2, h⟩ := ob_out h
  have J3 : ∀ (H : Heap) (locs : List Loc) (ls : Array Slot), ST G M N s H locs → lv_has ls 9 [(1, .ref (G.2.1 a1)), (2, .int a2), (3, .int a3), (4, .int a4)] → W p l e (Rm 1 21) s m args below meth c H locs 0 0 (MQ below (va_Qi (fun r' (_ : Unit) => r' = r) (fun _ t => Wd G Mo N t) (AG G.2.1)) args s 0 0 (AG G.2.1)) (F0 m 10 ls [.int v1]) := by
    intro H locs ls S hl
    refine lv_istore (pc := 10) (lv' := [(5, .int v1), (1, .ref (G.2.1 a1)), (2, .int a2), (3, .int a3), (4, .int a4)]) hx hb dX4_changeSpan_10 hl (by decide) rfl (fun ls hl => ?_)
    refine lv_iload_n (pc := 12) hx hb dX4_changeSpan_12 rfl (lv_at hl 3 rfl) ?_
    refine lv_iload_n (pc := 13) hx hb dX4_changeSpan_13 rfl (lv_at hl 2 rfl) ?_
    refine lv_isub (pc := 14) hx hb dX4_changeSpan_14 ?_
    refine c_abs (pc := 15) F w692 w693 w14 w694 (Nat.le_of_ble_eq_true rfl) hl.1 (Nat.le_of_ble_eq_true rfl) dX4_changeSpan_15 ?_
    obtain ⟨v4, e5, h⟩ := lt1_out h
    refine nm_i e5 ?_
    refine lv_istore (pc := 18) (lv' := [(6, .int v4), (5, .int v1), (1, .ref (G.2.1 a1)), (2, .int a2), (3, .int a3), (4, .int a4)]) hx hb dX4_changeSpan_18 hl (by decide) rfl (fun ls hl => ?_)
    refine lv_iconst (pc := 20) (v := 0) hx hb dX4_changeSpan_20 (by decide) ?_
    refine lv_istore (pc := 21) (lv' := [(7, .int 0), (6, .int v4), (5, .int v1), (1, .ref (G.2.1 a1)), (2, .int a2), (3, .int a3), (4, .int a4)]) hx hb dX4_changeSpan_21 hl (by decide) rfl (fun ls hl => ?_)
    obtain ⟨z8, e7, h⟩ := ob_out h
    refine pX4_changeSpan_L23 F 5000 S (lv_sub hl [3, 4, 6, 2, 1, 0] rfl) e7 (fun M6 e9 H locs ls S hl => ?_) (fun v10 M11 e9 H locs ls pcr S hdr => ?_)
    rotate_left
    · subst e9
      replace h := caseS_r h
      obtain ⟨b12, e13, h⟩ := ob_out h
      cases h
      refine nm_i (bz_out e13).1 ?_
      exact r_iret F S (bool_narrow (by rw [← (bz_out e13).1]; exact (bz_out e13).2)).1 hdr
    subst e9
    replace h := caseS_l h
    refine lv_iconst (pc := 72) (v := 1) hx hb dX4_changeSpan_72 (by decide) ?_
    cases h
    exact r_iret (pc := 73) F S rfl dX4_changeSpan_73
  refine lv_icmp_ge (pc := 2) (tgt := 9) hx hb dX4_changeSpan_2 (by decide) (fun c14 => ?_) (fun c14 => ?_)
  · replace d2 := (if_pos c14).symm.trans d2
    refine lv_iconst (pc := 9) (v := 1) hx hb dX4_changeSpan_9 (by decide) ?_
    cases d2
    exact J3 H locs ls S (lv_sub hl [1, 2, 3, 4] rfl)
  · replace d2 := (if_neg c14).symm.trans d2
    refine lv_iconst (pc := 5) (v := (-1)) hx hb dX4_changeSpan_5 (by decide) ?_
    refine lv_goto (pc := 6) (tgt := 10) hx hb dX4_changeSpan_6 (by decide) ?_
    cases d2
    exact J3 H locs ls S (lv_sub hl [1, 2, 3, 4] rfl)
theorem mfX4_changeLevels : MF true yX4_changeLevels RX4 cX4_changeLevels 5 (some .boolean) 2 := ⟨w687, w8, by rw [if_pos rfl]; exact ⟨w686, wp14⟩, ⟨by decide, by decide⟩, by decide +kernel⟩
set_option maxHeartbeats 4000000 in
theorem pX4_changeLevels_L20 {p : Program} {l : Launch} {e : Env} {s : State} {m : MethodId} {args : Array Value} {below : List Frame} {meth : Method} {c : Code} {Q : State → Prop} {G : GD} (F : FX p s m args meth c RX4 cX4_changeLevels 5 (some .boolean) G) : ∀ (n : Nat) {M N : Mem} {a1 : Int32} {a2 : Nat} {a4 : Int32} {H : Heap} {locs : List Loc} {ls : Array Slot} {z : (Mem) ⊕ (Int32 × Mem)}, ST G M N s H locs → lv_has ls 5 [(0, .ref (G.2.1 14)), (1, .int a1), (2, .ref (G.2.1 a2)), (4, .int a4)] → fX4_changeLevels_L20 n M a1 a2 a4 = some z → (K1 : ∀ (Mo : Mem), z = .inl Mo → ∀ (H : Heap) (locs : List Loc) (ls : Array Slot), ST G Mo N s H locs → lv_has ls 5 [] → W p l e (Rm 2 49) s m args below meth c H locs 0 0 Q (F0 m 74 ls [])) → (K2 : ∀ (r : Int32) (Mr : Mem), z = .inr (r, Mr) → ∀ (H : Heap) (locs : List Loc) (ls : Array Slot) (pcr : Nat), ST G Mr N s H locs → decode cX4_changeLevels pcr = .ok (.ireturn, 1) → W p l e (Rm 2 49) s m args below meth c H locs 0 0 Q (F0 m pcr ls [.int r])) → W p l e (Rm 2 49) s m args below meth c H locs 0 0 Q (F0 m 20 ls []) := by
  intro n
  induction n with
  | zero => intro M N a1 a2 a4 H locs ls z S hl h K1 K2; cases h
  | succ n ih =>
    intro M N a1 a2 a4 H locs ls z S hl h K1 K2
    rw [fX4_changeLevels_L20] at h
    have hx := F.1
    have hb := F.2.1
    have hown := F.2.2.2.2.1
    have hts := F.2.2.2.2.2.1
    have hZ := F.2.2.2.2.2.2.2.2.2
    refine lv_iload (pc := 20) hx hb dX4_changeLevels_20 (lv_at hl 3 rfl) ?_
    refine lv_aload_n (pc := 22) hx hb dX4_changeLevels_22 rfl (lv_at hl 0 rfl) ?_
    refine r_gR (pc := 23) (k := 7) (x := 20) (i := 14) (ci := 4) F S (by decide) (by decide) cl4 inRX4 (by decide) w227 (fun _ => rfl) dX4_changeLevels_23 ?_
    refine lv_iload_n (pc := 26) hx hb dX4_changeLevels_26 rfl (lv_at hl 1 rfl) ?_
    obtain ⟨v4, e5, h⟩ := ob_out h
    refine r_aL (pc := 27) F S e5 dX4_changeLevels_27 ?_
    refine lv_icmp_ge (pc := 28) (tgt := 74) hx hb dX4_changeLevels_28 (by decide) (fun c6 => ?_) (fun c6 => ?_)
    · replace h := (if_pos c6).symm.trans h
      cases h
      exact K1 _ rfl H locs ls S (lv_sub hl [] rfl)
    · replace h := (if_neg c6).symm.trans h
      refine lv_iload (pc := 31) hx hb dX4_changeLevels_31 (lv_at hl 3 rfl) ?_
      refine lv_bipush (pc := 33) (v := 60) hx hb dX4_changeLevels_33 (by decide) ?_
      refine lv_icmp_ge (pc := 35) (tgt := 74) hx hb dX4_changeLevels_35 (by decide) (fun c7 => ?_) (fun c7 => ?_)
      · replace h := (if_pos c7).symm.trans h
        cases h
        exact K1 _ rfl H locs ls S (lv_sub hl [] rfl)
      · replace h := (if_neg c7).symm.trans h
        refine lv_aload_n (pc := 38) hx hb dX4_changeLevels_38 rfl (lv_at hl 0 rfl) ?_
        refine lv_aload_n (pc := 39) hx hb dX4_changeLevels_39 rfl (lv_at hl 2 rfl) ?_
        refine lv_aload_n (pc := 40) hx hb dX4_changeLevels_40 rfl (lv_at hl 0 rfl) ?_
        refine r_gR (pc := 41) (k := 9) (x := 21) (i := 14) (ci := 4) F S (by decide) (by decide) cl4 inRX4 (by decide) w229 (fun _ => rfl) dX4_changeLevels_41 ?_
        refine lv_iload (pc := 44) hx hb dX4_changeLevels_44 (lv_at hl 3 rfl) ?_
        obtain ⟨v8, e9, h⟩ := ob_out h
        refine r_aL (pc := 46) F S e9 dX4_changeLevels_46 ?_
        refine lv_aload_n (pc := 47) hx hb dX4_changeLevels_47 rfl (lv_at hl 0 rfl) ?_
        refine r_gR (pc := 48) (k := 10) (x := 22) (i := 14) (ci := 4) F S (by decide) (by decide) cl4 inRX4 (by decide) w230 (fun _ => rfl) dX4_changeLevels_48 ?_
        refine lv_iload (pc := 51) hx hb dX4_changeLevels_51 (lv_at hl 3 rfl) ?_
        obtain ⟨v10, e11, h⟩ := ob_out h
        refine r_aL (pc := 53) F S e11 dX4_changeLevels_53 ?_
        refine lv_aload_n (pc := 54) hx hb dX4_changeLevels_54 rfl (lv_at hl 0 rfl) ?_
        refine r_gR (pc := 55) (k := 5) (x := 18) (i := 14) (ci := 4) F S (by decide) (by decide) cl4 inRX4 (by decide) w225 (fun _ => rfl) dX4_changeLevels_55 ?_
        refine lv_iload_n (pc := 58) hx hb dX4_changeLevels_58 rfl (lv_at hl 1 rfl) ?_
        obtain ⟨v12, e13, h⟩ := ob_out h
        refine r_aL (pc := 59) F S e13 dX4_changeLevels_59 ?_
        obtain ⟨v15, M16, e14, h⟩ := ob2_out h
        refine c_vI (pc := 60) (rest := []) F S (tX4_changeSpan e14) mfX4_changeSpan (by decide) (by decide) cl4 w688 ⟨Nat.le_of_ble_eq_true rfl, Nat.le_of_ble_eq_true rfl⟩ rfl hl.1 rfl (Nat.le_of_ble_eq_true rfl) dX4_changeLevels_60 (fun H locs S => ?_)
        refine lv_if_ne (pc := 63) (tgt := 68) hx hb dX4_changeLevels_63 (by decide) (fun c17 => ?_) (fun c17 => ?_)
        · replace h := (if_neg c17).symm.trans h
          refine lv_iinc (pc := 68) (lv' := [(4, .int (a4 + 1)), (0, .ref (G.2.1 14)), (1, .int a1), (2, .ref (G.2.1 a2))]) hx hb dX4_changeLevels_68 hl (k := 3) rfl (iinc_n (by decide)) (by decide) rfl (fun ls hl => ?_)
          refine lv_goto (pc := 71) (tgt := 20) hx hb dX4_changeLevels_71 (by decide) ?_
          exact ih S (lv_sub hl [1, 2, 3, 0] rfl) h K1 K2
        · replace h := (if_pos c17).symm.trans h
          refine lv_iconst (pc := 66) (v := 0) hx hb dX4_changeLevels_66 (by decide) ?_
          cases h
          exact K2 _ _ rfl H locs ls 67 S dX4_changeLevels_67
set_option maxHeartbeats 4000000 in
theorem tX4_changeLevels {l : Launch} {G : GD} {M N Mo : Mem} {a1 : Int32} {a2 : Nat} {r : Int32} (h : fX4_changeLevels M a1 a2 = some (r, Mo)) : MI l yX4_changeLevels cX4_changeLevels 5 .boolean 2 49 G [.ref (G.2.1 14), .int a1, .ref (G.2.1 a2)] M N r Mo N := by
  unfold fX4_changeLevels at h
  refine MI_of (own := RX4) (by decide) rfl (Nat.le_of_ble_eq_true rfl) ?_
  intro p e s m args below meth c F S ls hl
  have hx := F.1
  have hb := F.2.1
  have hown := F.2.2.2.2.1
  have hts := F.2.2.2.2.2.1
  have hZ := F.2.2.2.2.2.2.2.2.2
  have hl : lv_has ls 5 [(0, .ref (G.2.1 14)), (1, .int a1), (2, .ref (G.2.1 a2))] := hl
  generalize s.heap = H, ([] : List Loc) = locs at S ⊢
  refine lv_iload_n (pc := 0) hx hb dX4_changeLevels_0 rfl (lv_at hl 1 rfl) ?_
  obtain ⟨v1, d2, h⟩ := ob_out h
  have J3 : ∀ (H : Heap) (locs : List Loc) (ls : Array Slot), ST G M N s H locs → lv_has ls 5 [(0, .ref (G.2.1 14)), (1, .int a1), (2, .ref (G.2.1 a2))] → W p l e (Rm 2 49) s m args below meth c H locs 0 0 (MQ below (va_Qi (fun r' (_ : Unit) => r' = r) (fun _ t => Wd G Mo N t) (AG G.2.1)) args s 0 0 (AG G.2.1)) (F0 m 16 ls [.int v1]) := by
    intro H locs ls S hl
    refine lv_istore_n (pc := 16) (lv' := [(3, .int v1), (0, .ref (G.2.1 14)), (1, .int a1), (2, .ref (G.2.1 a2))]) hx hb dX4_changeLevels_16 rfl hl (by decide) rfl (fun ls hl => ?_)
    refine lv_iload_n (pc := 17) hx hb dX4_changeLevels_17 rfl (lv_at hl 0 rfl) ?_
    refine lv_istore (pc := 18) (lv' := [(4, .int v1), (3, .int v1), (0, .ref (G.2.1 14)), (1, .int a1), (2, .ref (G.2.1 a2))]) hx hb dX4_changeLevels_18 hl (by decide) rfl (fun ls hl => ?_)
    obtain ⟨z6, e5, h⟩ := ob_out h
    refine pX4_changeLevels_L20 F 5000 S (lv_sub hl [2, 3, 4, 0] rfl) e5 (fun M4 e7 H locs ls S hl => ?_) (fun v8 M9 e7 H locs ls pcr S hdr => ?_)
    rotate_left
    · subst e7
      replace h := caseS_r h
      obtain ⟨b10, e11, h⟩ := ob_out h
      cases h
      refine nm_i (bz_out e11).1 ?_
      exact r_iret F S (bool_narrow (by rw [← (bz_out e11).1]; exact (bz_out e11).2)).1 hdr
    subst e7
    replace h := caseS_l h
    refine lv_iconst (pc := 74) (v := 1) hx hb dX4_changeLevels_74 (by decide) ?_
    cases h
    exact r_iret (pc := 75) F S rfl dX4_changeLevels_75
  refine lv_if_le (pc := 1) (tgt := 15) hx hb dX4_changeLevels_1 (by decide) (fun c12 => ?_) (fun c12 => ?_)
  · replace d2 := (if_pos c12).symm.trans d2
    refine lv_iconst (pc := 15) (v := 0) hx hb dX4_changeLevels_15 (by decide) ?_
    cases d2
    exact J3 H locs ls S (lv_sub hl [0, 1, 2] rfl)
  · replace d2 := (if_neg c12).symm.trans d2
    refine lv_aload_n (pc := 4) hx hb dX4_changeLevels_4 rfl (lv_at hl 0 rfl) ?_
    refine r_gR (pc := 5) (k := 7) (x := 20) (i := 14) (ci := 4) F S (by decide) (by decide) cl4 inRX4 (by decide) w227 (fun _ => rfl) dX4_changeLevels_5 ?_
    refine lv_iload_n (pc := 8) hx hb dX4_changeLevels_8 rfl (lv_at hl 1 rfl) ?_
    refine lv_iconst (pc := 9) (v := 1) hx hb dX4_changeLevels_9 (by decide) ?_
    refine lv_isub (pc := 10) hx hb dX4_changeLevels_10 ?_
    obtain ⟨v13, e14, d2⟩ := ob_out d2
    refine r_aL (pc := 11) F S e14 dX4_changeLevels_11 ?_
    refine lv_goto (pc := 12) (tgt := 16) hx hb dX4_changeLevels_12 (by decide) ?_
    cases d2
    exact J3 H locs ls S (lv_sub hl [0, 1, 2] rfl)
theorem mfX4_startRecorded : MF true yX4_startRecorded RX4 cX4_startRecorded 3 (some .boolean) 2 := ⟨w700, w8, by rw [if_pos rfl]; exact ⟨w699, wp16⟩, ⟨by decide, by decide⟩, by decide +kernel⟩
set_option maxHeartbeats 4000000 in
theorem tX4_startRecorded {l : Launch} {G : GD} {M N Mo : Mem} {a1 : Int32} {a2 : Nat} {r : Int32} (h : fX4_startRecorded M a1 a2 = some (r, Mo)) : MI l yX4_startRecorded cX4_startRecorded 3 .boolean 3 67 G [.ref (G.2.1 14), .int a1, .ref (G.2.1 a2)] M N r Mo N := by
  unfold fX4_startRecorded at h
  refine MI_of (own := RX4) (by decide) rfl (Nat.le_of_ble_eq_true rfl) ?_
  intro p e s m args below meth c F S ls hl
  have hx := F.1
  have hb := F.2.1
  have hown := F.2.2.2.2.1
  have hts := F.2.2.2.2.2.1
  have hZ := F.2.2.2.2.2.2.2.2.2
  have hl : lv_has ls 3 [(0, .ref (G.2.1 14)), (1, .int a1), (2, .ref (G.2.1 a2))] := hl
  generalize s.heap = H, ([] : List Loc) = locs at S ⊢
  refine lv_aload_n (pc := 0) hx hb dX4_startRecorded_0 rfl (lv_at hl 2 rfl) ?_
  refine lv_iload_n (pc := 1) hx hb dX4_startRecorded_1 rfl (lv_at hl 1 rfl) ?_
  obtain ⟨v2, e1, h⟩ := ob_out h
  refine c_vI (pc := 2) (rest := []) F S (tX6_isRecorded e1) mfX6_isRecorded (sX6_isRecorded e1) (by decide) cl6 w701 ⟨Nat.le_of_ble_eq_true rfl, Nat.le_of_ble_eq_true rfl⟩ rfl hl.1 rfl (Nat.le_of_ble_eq_true rfl) dX4_startRecorded_2 (fun H locs S => ?_)
  refine lv_if_ne (pc := 5) (tgt := 10) hx hb dX4_startRecorded_5 (by decide) (fun c3 => ?_) (fun c3 => ?_)
  · replace h := (if_neg c3).symm.trans h
    refine lv_aload_n (pc := 10) hx hb dX4_startRecorded_10 rfl (lv_at hl 2 rfl) ?_
    refine lv_iload_n (pc := 11) hx hb dX4_startRecorded_11 rfl (lv_at hl 1 rfl) ?_
    refine lv_aload_n (pc := 12) hx hb dX4_startRecorded_12 rfl (lv_at hl 2 rfl) ?_
    obtain ⟨x4, e5, h⟩ := ob_out h
    refine r_gR (pc := 13) (k := 8) F S e5 (by decide) cl6 inRX6 (by decide) w126 (fun _ => rfl) dX4_startRecorded_13 ?_
    refine lv_iload_n (pc := 16) hx hb dX4_startRecorded_16 rfl (lv_at hl 1 rfl) ?_
    obtain ⟨v6, e7, h⟩ := ob_out h
    refine r_aL (pc := 17) F S e7 dX4_startRecorded_17 ?_
    obtain ⟨M9, e8, h⟩ := ob_out h
    refine c_vV (pc := 18) (rest := []) F S (tX6_startCue e8) mfX6_startCue (sX6_startCue e8) (by decide) cl6 w702 ⟨Nat.le_of_ble_eq_true rfl, Nat.le_of_ble_eq_true rfl⟩ rfl hl.1 rfl (Nat.le_of_ble_eq_true rfl) dX4_startRecorded_18 (fun H locs S => ?_)
    refine lv_iconst (pc := 21) (v := 1) hx hb dX4_startRecorded_21 (by decide) ?_
    cases h
    exact r_iret (pc := 22) F S rfl dX4_startRecorded_22
  · replace h := (if_pos c3).symm.trans h
    refine lv_iconst (pc := 8) (v := 0) hx hb dX4_startRecorded_8 (by decide) ?_
    cases h
    exact r_iret (pc := 9) F S rfl dX4_startRecorded_9
