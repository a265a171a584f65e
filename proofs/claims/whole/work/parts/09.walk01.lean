/-! the walks: each method does what its function says -/
theorem mfX11_closeGap : MF false yX11_closeGap RX11 cX11_closeGap 3 none 2 := ⟨w456, w1, by rw [if_neg (by decide)]; exact w455, ⟨by decide, by decide⟩, by decide +kernel⟩
set_option maxHeartbeats 4000000 in
theorem pX11_closeGap_L6 {p : Program} {l : Launch} {e : Env} {s : State} {m : MethodId} {args : Array Value} {below : List Frame} {meth : Method} {c : Code} {Q : State → Prop} {G : GD} (F : FX p s m args meth c RX11 cX11_closeGap 3 none G) : ∀ (n : Nat) {M N : Mem} {a0 : Nat} {a2 : Int32} {H : Heap} {locs : List Loc} {ls : Array Slot} {Mo : Mem}, ST G M N s H locs → lv_has ls 3 [(0, .ref (G.2.1 a0)), (2, .int a2)] → fX11_closeGap_L6 n M a0 a2 = some Mo → (K1 : ∀ (H : Heap) (locs : List Loc) (ls : Array Slot), ST G Mo N s H locs → lv_has ls 3 [] → W p l e (Rm 1 21) s m args below meth c H locs 0 0 Q (F0 m 38 ls [])) → W p l e (Rm 1 21) s m args below meth c H locs 0 0 Q (F0 m 6 ls []) := by
  intro n
  induction n with
  | zero => intro M N a0 a2 H locs ls Mo S hl h K1; cases h
  | succ n ih =>
    intro M N a0 a2 H locs ls Mo S hl h K1
    rw [fX11_closeGap_L6] at h
    have hx := F.1
    have hb := F.2.1
    have hown := F.2.2.2.2.1
    have hts := F.2.2.2.2.2.1
    have hZ := F.2.2.2.2.2.2.2.2.2
    refine lv_iload_n (pc := 6) hx hb dX11_closeGap_6 rfl (lv_at hl 1 rfl) ?_
    refine lv_aload_n (pc := 7) hx hb dX11_closeGap_7 rfl (lv_at hl 0 rfl) ?_
    obtain ⟨v3, e4, h⟩ := ob_out h
    refine r_aN (pc := 8) F S e4 (by decide) dX11_closeGap_8 ?_
    refine lv_icmp_ge (pc := 9) (tgt := 38) hx hb dX11_closeGap_9 (by decide) (fun c5 => ?_) (fun c5 => ?_)
    · replace h := (if_pos c5).symm.trans h
      cases h
      exact K1 H locs ls S (lv_sub hl [] rfl)
    · replace h := (if_neg c5).symm.trans h
      refine lv_aload_n (pc := 12) hx hb dX11_closeGap_12 rfl (lv_at hl 0 rfl) ?_
      refine lv_iload_n (pc := 13) hx hb dX11_closeGap_13 rfl (lv_at hl 1 rfl) ?_
      refine lv_iload_n (pc := 14) hx hb dX11_closeGap_14 rfl (lv_at hl 1 rfl) ?_
      refine lv_iconst (pc := 15) (v := 1) hx hb dX11_closeGap_15 (by decide) ?_
      refine lv_iadd (pc := 16) hx hb dX11_closeGap_16 ?_
      refine lv_aload_n (pc := 17) hx hb dX11_closeGap_17 rfl (lv_at hl 0 rfl) ?_
      obtain ⟨v6, e7, h⟩ := ob_out h
      refine r_aN (pc := 18) F S e7 (by decide) dX11_closeGap_18 ?_
      refine lv_icmp_ge (pc := 19) (tgt := 30) hx hb dX11_closeGap_19 (by decide) (fun c8 => ?_) (fun c8 => ?_)
      · replace h := (if_pos c8).symm.trans h
        refine lv_iconst (pc := 30) (v := 0) hx hb dX11_closeGap_30 (by decide) ?_
        obtain ⟨M9, e10, h⟩ := ob_out h
        refine r_aS (pc := 31) F S e10 dX11_closeGap_31 (fun H locs S => ?_)
        refine lv_iinc (pc := 32) (lv' := [(2, .int (a2 + 1)), (0, .ref (G.2.1 a0))]) hx hb dX11_closeGap_32 hl (k := 1) rfl (iinc_n (by decide)) (by decide) rfl (fun ls hl => ?_)
        refine lv_goto (pc := 35) (tgt := 6) hx hb dX11_closeGap_35 (by decide) ?_
        exact ih S (lv_sub hl [1, 0] rfl) h K1
      · replace h := (if_neg c8).symm.trans h
        refine lv_aload_n (pc := 22) hx hb dX11_closeGap_22 rfl (lv_at hl 0 rfl) ?_
        refine lv_iload_n (pc := 23) hx hb dX11_closeGap_23 rfl (lv_at hl 1 rfl) ?_
        refine lv_iconst (pc := 24) (v := 1) hx hb dX11_closeGap_24 (by decide) ?_
        refine lv_iadd (pc := 25) hx hb dX11_closeGap_25 ?_
        obtain ⟨v11, e12, h⟩ := ob_out h
        refine r_aL (pc := 26) F S e12 dX11_closeGap_26 ?_
        refine lv_goto (pc := 27) (tgt := 31) hx hb dX11_closeGap_27 (by decide) ?_
        obtain ⟨M13, e14, h⟩ := ob_out h
        refine r_aS (pc := 31) F S e14 dX11_closeGap_31 (fun H locs S => ?_)
        refine lv_iinc (pc := 32) (lv' := [(2, .int (a2 + 1)), (0, .ref (G.2.1 a0))]) hx hb dX11_closeGap_32 hl (k := 1) rfl (iinc_n (by decide)) (by decide) rfl (fun ls hl => ?_)
        refine lv_goto (pc := 35) (tgt := 6) hx hb dX11_closeGap_35 (by decide) ?_
        exact ih S (lv_sub hl [1, 0] rfl) h K1
set_option maxHeartbeats 4000000 in
theorem tX11_closeGap {l : Launch} {G : GD} {M N Mo : Mem} {a0 : Nat} {a1 : Int32} (h : fX11_closeGap M a0 a1 = some Mo) : MV l yX11_closeGap cX11_closeGap 3 1 21 G [.ref (G.2.1 a0), .int a1] M N Mo N := by
  unfold fX11_closeGap at h
  refine MV_of (own := RX11) (by decide) rfl (Nat.le_of_ble_eq_true rfl) ?_
  intro p e s m args below meth c F S ls hl
  have hx := F.1
  have hb := F.2.1
  have hown := F.2.2.2.2.1
  have hts := F.2.2.2.2.2.1
  have hZ := F.2.2.2.2.2.2.2.2.2
  have hl : lv_has ls 3 [(0, .ref (G.2.1 a0)), (1, .int a1)] := hl
  generalize s.heap = H, ([] : List Loc) = locs at S ⊢
  refine lv_iload_n (pc := 0) hx hb dX11_closeGap_0 rfl (lv_at hl 1 rfl) ?_
  refine lv_iconst (pc := 1) (v := 0) hx hb dX11_closeGap_1 (by decide) ?_
  refine c_max (pc := 2) F w457 w458 w14 w459 (Nat.le_of_ble_eq_true rfl) hl.1 (Nat.le_of_ble_eq_true rfl) dX11_closeGap_2 ?_
  obtain ⟨v1, e2, h⟩ := lt1_out h
  refine nm_i e2 ?_
  refine lv_istore_n (pc := 5) (lv' := [(2, .int v1), (0, .ref (G.2.1 a0)), (1, .int a1)]) hx hb dX11_closeGap_5 rfl hl (by decide) rfl (fun ls hl => ?_)
  obtain ⟨M3, e4, h⟩ := ob_out h
  refine pX11_closeGap_L6 F 5000 S (lv_sub hl [1, 0] rfl) e4 (fun H locs ls S hl => ?_)
  cases h
  exact r_vret (pc := 38) F S dX11_closeGap_38
theorem sX1_removeLamp {M : Mem} {a0 : Nat} {a1 : Int32} {r : Mem} (h : fX1_removeLamp M a0 a1 = some r) : shp a0 = 1 := by
  unfold fX1_removeLamp at h
  exact (ck_out h).1
theorem mfX1_removeLamp : MF true yX1_removeLamp RX1 cX1_removeLamp 2 none 1 := ⟨w463, w5, by rw [if_pos rfl]; exact ⟨w461, w462⟩, ⟨by decide, by decide⟩, by decide +kernel⟩
set_option maxHeartbeats 4000000 in
theorem tX1_removeLamp {l : Launch} {G : GD} {M N Mo : Mem} {a0 : Nat} {a1 : Int32} (h : fX1_removeLamp M a0 a1 = some Mo) : MV l yX1_removeLamp cX1_removeLamp 2 2 43 G [.ref (G.2.1 a0), .int a1] M N Mo N := by
  unfold fX1_removeLamp at h
  obtain ⟨hsh, h⟩ := ck_out h
  refine MV_of (own := RX1) (by decide) rfl (Nat.le_of_ble_eq_true rfl) ?_
  intro p e s m args below meth c F S ls hl
  have hx := F.1
  have hb := F.2.1
  have hown := F.2.2.2.2.1
  have hts := F.2.2.2.2.2.1
  have hZ := F.2.2.2.2.2.2.2.2.2
  have hl : lv_has ls 2 [(0, .ref (G.2.1 a0)), (1, .int a1)] := hl
  generalize s.heap = H, ([] : List Loc) = locs at S ⊢
  refine lv_aload_n (pc := 0) hx hb dX1_removeLamp_0 rfl (lv_at hl 0 rfl) ?_
  obtain ⟨x1, e2, h⟩ := ob_out h
  refine r_gR (pc := 1) (k := 2) F S e2 (by decide) cl1 inRX1 (by decide) w78 (fun _ => rfl) dX1_removeLamp_1 ?_
  refine lv_iload_n (pc := 4) hx hb dX1_removeLamp_4 rfl (lv_at hl 1 rfl) ?_
  obtain ⟨M4, e3, h⟩ := ob_out h
  refine c_nV (pc := 5) (rest := []) F S (tX11_closeGap e3) mfX11_closeGap wn16 ⟨Nat.le_of_ble_eq_true rfl, Nat.le_of_ble_eq_true rfl⟩ rfl hl.1 rfl (Nat.le_of_ble_eq_true rfl) dX1_removeLamp_5 (fun H locs S => ?_)
  refine lv_aload_n (pc := 8) hx hb dX1_removeLamp_8 rfl (lv_at hl 0 rfl) ?_
  obtain ⟨x5, e6, h⟩ := ob_out h
  refine r_gR (pc := 9) (k := 3) F S e6 (by decide) cl1 inRX1 (by decide) w79 (fun _ => rfl) dX1_removeLamp_9 ?_
  refine lv_iload_n (pc := 12) hx hb dX1_removeLamp_12 rfl (lv_at hl 1 rfl) ?_
  obtain ⟨M8, e7, h⟩ := ob_out h
  refine c_nV (pc := 13) (rest := []) F S (tX11_closeGap e7) mfX11_closeGap wn16 ⟨Nat.le_of_ble_eq_true rfl, Nat.le_of_ble_eq_true rfl⟩ rfl hl.1 rfl (Nat.le_of_ble_eq_true rfl) dX1_removeLamp_13 (fun H locs S => ?_)
  cases h
  exact r_vret (pc := 16) F S dX1_removeLamp_16
theorem sX6_removeLamp {M : Mem} {a0 : Nat} {a1 : Int32} {r : (Int32 × Mem)} (h : fX6_removeLamp M a0 a1 = some r) : shp a0 = 6 := by
  unfold fX6_removeLamp at h
  exact (ck_out h).1
theorem mfX6_removeLamp : MF true yX6_removeLamp RX6 cX6_removeLamp 6 (some .int) 1 := ⟨w452, w4, by rw [if_pos rfl]; exact ⟨w450, w451⟩, ⟨by decide, by decide⟩, by decide +kernel⟩
set_option maxHeartbeats 4000000 in
theorem pX6_removeLamp_L56 {p : Program} {l : Launch} {e : Env} {s : State} {m : MethodId} {args : Array Value} {below : List Frame} {meth : Method} {c : Code} {Q : State → Prop} {G : GD} (F : FX p s m args meth c RX6 cX6_removeLamp 6 (some .int) G) : ∀ (n : Nat) {M N : Mem} {a0 : Nat} {a1 : Int32} {a2 : Nat} {a3 : Int32} {a4 : Int32} {H : Heap} {locs : List Loc} {ls : Array Slot} {Mo : Mem}, shp a0 = 6 → ST G M N s H locs → lv_has ls 6 [(0, .ref (G.2.1 a0)), (1, .int a1), (2, .ref (G.2.1 a2)), (3, .int a3), (4, .int a4)] → fX6_removeLamp_L56 n M a0 a1 a2 a3 a4 = some Mo → (K1 : ∀ (H : Heap) (locs : List Loc) (ls : Array Slot), ST G Mo N s H locs → lv_has ls 6 [(0, .ref (G.2.1 a0)), (1, .int a1)] → W p l e (Rm 3 64) s m args below meth c H locs 0 0 Q (F0 m 80 ls [])) → W p l e (Rm 3 64) s m args below meth c H locs 0 0 Q (F0 m 56 ls []) := by
  intro n
  induction n with
  | zero => intro M N a0 a1 a2 a3 a4 H locs ls Mo hsh S hl h K1; cases h
  | succ n ih =>
    intro M N a0 a1 a2 a3 a4 H locs ls Mo hsh S hl h K1
    rw [fX6_removeLamp_L56] at h
    have hx := F.1
    have hb := F.2.1
    have hown := F.2.2.2.2.1
    have hts := F.2.2.2.2.2.1
    have hZ := F.2.2.2.2.2.2.2.2.2
    refine lv_iload (pc := 56) hx hb dX6_removeLamp_56 (lv_at hl 4 rfl) ?_
    refine lv_iload_n (pc := 58) hx hb dX6_removeLamp_58 rfl (lv_at hl 3 rfl) ?_
    refine lv_icmp_ge (pc := 59) (tgt := 80) hx hb dX6_removeLamp_59 (by decide) (fun c24 => ?_) (fun c24 => ?_)
    · replace h := (if_pos c24).symm.trans h
      cases h
      exact K1 H locs ls S (lv_sub hl [0, 1] rfl)
    · replace h := (if_neg c24).symm.trans h
      refine lv_aload_n (pc := 62) hx hb dX6_removeLamp_62 rfl (lv_at hl 2 rfl) ?_
      refine lv_iload (pc := 63) hx hb dX6_removeLamp_63 (lv_at hl 4 rfl) ?_
      obtain ⟨x25, e26, h⟩ := ob_out h
      refine r_aR24 (pc := 65) F S e26 dX6_removeLamp_65 ?_
      refine lv_astore (pc := 66) (lv' := [(5, .ref (G.2.1 x25)), (0, .ref (G.2.1 a0)), (1, .int a1), (2, .ref (G.2.1 a2)), (3, .int a3), (4, .int a4)]) hx hb dX6_removeLamp_66 hl (by decide) rfl (fun ls hl => ?_)
      refine lv_aload (pc := 68) hx hb dX6_removeLamp_68 (lv_at hl 0 rfl) ?_
      refine lv_iload_n (pc := 70) hx hb dX6_removeLamp_70 rfl (lv_at hl 2 rfl) ?_
      obtain ⟨M28, e27, h⟩ := ob_out h
      refine c_nV (pc := 71) (rest := []) F S (tX11_closeGap e27) mfX11_closeGap wn15 ⟨Nat.le_of_ble_eq_true rfl, Nat.le_of_ble_eq_true rfl⟩ rfl hl.1 rfl (Nat.le_of_ble_eq_true rfl) dX6_removeLamp_71 (fun H locs S => ?_)
      refine lv_iinc (pc := 74) (lv' := [(4, .int (a4 + 1)), (5, .ref (G.2.1 x25)), (0, .ref (G.2.1 a0)), (1, .int a1), (2, .ref (G.2.1 a2)), (3, .int a3)]) hx hb dX6_removeLamp_74 hl (k := 5) rfl (iinc_n (by decide)) (by decide) rfl (fun ls hl => ?_)
      refine lv_goto (pc := 77) (tgt := 56) hx hb dX6_removeLamp_77 (by decide) ?_
      exact ih hsh S (lv_sub hl [2, 3, 4, 5, 0] rfl) h K1
set_option maxHeartbeats 4000000 in
theorem tX6_removeLamp {l : Launch} {G : GD} {M N Mo : Mem} {a0 : Nat} {a1 : Int32} {r : Int32} (h : fX6_removeLamp M a0 a1 = some (r, Mo)) : MI l yX6_removeLamp cX6_removeLamp 6 .int 3 64 G [.ref (G.2.1 a0), .int a1] M N r Mo N := by
  unfold fX6_removeLamp at h
  obtain ⟨hsh, h⟩ := ck_out h
  refine MI_of (own := RX6) (by decide) rfl (Nat.le_of_ble_eq_true rfl) ?_
  intro p e s m args below meth c F S ls hl
  have hx := F.1
  have hb := F.2.1
  have hown := F.2.2.2.2.1
  have hts := F.2.2.2.2.2.1
  have hZ := F.2.2.2.2.2.2.2.2.2
  have hl : lv_has ls 6 [(0, .ref (G.2.1 a0)), (1, .int a1)] := hl
  generalize s.heap = H, ([] : List Loc) = locs at S ⊢
  refine lv_aload_n (pc := 0) hx hb dX6_removeLamp_0 rfl (lv_at hl 0 rfl) ?_
  refine lv_iload_n (pc := 1) hx hb dX6_removeLamp_1 rfl (lv_at hl 1 rfl) ?_
  obtain ⟨v2, e1, h⟩ := ob_out h
  refine c_vI (pc := 2) (rest := []) F S (tX6_hasLamp e1) mfX6_hasLamp (sX6_hasLamp e1) (by decide) cl6 w453 ⟨Nat.le_of_ble_eq_true rfl, Nat.le_of_ble_eq_true rfl⟩ rfl hl.1 rfl (Nat.le_of_ble_eq_true rfl) dX6_removeLamp_2 (fun H locs S => ?_)
  refine lv_if_ne (pc := 5) (tgt := 13) hx hb dX6_removeLamp_5 (by decide) (fun c3 => ?_) (fun c3 => ?_)
  · replace h := (if_neg c3).symm.trans h
    refine lv_aload_n (pc := 13) hx hb dX6_removeLamp_13 rfl (lv_at hl 0 rfl) ?_
    obtain ⟨x4, e5, h⟩ := ob_out h
    refine r_gR (pc := 14) (k := 3) F S e5 (by decide) cl6 inRX6 (by decide) w112 (fun _ => rfl) dX6_removeLamp_14 ?_
    refine lv_iload_n (pc := 17) hx hb dX6_removeLamp_17 rfl (lv_at hl 1 rfl) ?_
    obtain ⟨M7, e6, h⟩ := ob_out h
    refine c_nV (pc := 18) (rest := []) F S (tX11_closeGap e6) mfX11_closeGap wn15 ⟨Nat.le_of_ble_eq_true rfl, Nat.le_of_ble_eq_true rfl⟩ rfl hl.1 rfl (Nat.le_of_ble_eq_true rfl) dX6_removeLamp_18 (fun H locs S => ?_)
    refine lv_aload_n (pc := 21) hx hb dX6_removeLamp_21 rfl (lv_at hl 0 rfl) ?_
    obtain ⟨x8, e9, h⟩ := ob_out h
    refine r_gR (pc := 22) (k := 4) F S e9 (by decide) cl6 inRX6 (by decide) w114 (fun _ => rfl) dX6_removeLamp_22 ?_
    refine lv_iload_n (pc := 25) hx hb dX6_removeLamp_25 rfl (lv_at hl 1 rfl) ?_
    obtain ⟨M11, e10, h⟩ := ob_out h
    refine c_nV (pc := 26) (rest := []) F S (tX11_closeGap e10) mfX11_closeGap wn15 ⟨Nat.le_of_ble_eq_true rfl, Nat.le_of_ble_eq_true rfl⟩ rfl hl.1 rfl (Nat.le_of_ble_eq_true rfl) dX6_removeLamp_26 (fun H locs S => ?_)
    refine lv_aload_n (pc := 29) hx hb dX6_removeLamp_29 rfl (lv_at hl 0 rfl) ?_
    obtain ⟨x12, e13, h⟩ := ob_out h
    refine r_gR (pc := 30) (k := 5) F S e13 (by decide) cl6 inRX6 (by decide) w116 (fun _ => rfl) dX6_removeLamp_30 ?_
    refine lv_iload_n (pc := 33) hx hb dX6_removeLamp_33 rfl (lv_at hl 1 rfl) ?_
    obtain ⟨M15, e14, h⟩ := ob_out h
    refine c_nV (pc := 34) (rest := []) F S (tX11_closeGap e14) mfX11_closeGap wn15 ⟨Nat.le_of_ble_eq_true rfl, Nat.le_of_ble_eq_true rfl⟩ rfl hl.1 rfl (Nat.le_of_ble_eq_true rfl) dX6_removeLamp_34 (fun H locs S => ?_)
    refine lv_aload_n (pc := 37) hx hb dX6_removeLamp_37 rfl (lv_at hl 0 rfl) ?_
    obtain ⟨x16, e17, h⟩ := ob_out h
    refine r_gR (pc := 38) (k := 6) F S e17 (by decide) cl6 inRX6 (by decide) w119 (fun _ => rfl) dX6_removeLamp_38 ?_
    refine lv_iload_n (pc := 41) hx hb dX6_removeLamp_41 rfl (lv_at hl 1 rfl) ?_
    obtain ⟨M19, e18, h⟩ := ob_out h
    refine c_nV (pc := 42) (rest := []) F S (tX11_closeGap e18) mfX11_closeGap wn15 ⟨Nat.le_of_ble_eq_true rfl, Nat.le_of_ble_eq_true rfl⟩ rfl hl.1 rfl (Nat.le_of_ble_eq_true rfl) dX6_removeLamp_42 (fun H locs S => ?_)
    refine lv_aload_n (pc := 45) hx hb dX6_removeLamp_45 rfl (lv_at hl 0 rfl) ?_
    obtain ⟨x20, e21, h⟩ := ob_out h
    refine r_gR (pc := 46) (k := 9) F S e21 (by decide) cl6 inRX6 (by decide) w127 (fun _ => rfl) dX6_removeLamp_46 ?_
    refine lv_astore_n (pc := 49) (lv' := [(2, .ref (G.2.1 x20)), (0, .ref (G.2.1 a0)), (1, .int a1)]) hx hb dX6_removeLamp_49 rfl hl (by decide) rfl (fun ls hl => ?_)
    refine lv_aload_n (pc := 50) hx hb dX6_removeLamp_50 rfl (lv_at hl 0 rfl) ?_
    obtain ⟨v22, e23, h⟩ := ob_out h
    refine r_aN (pc := 51) F S e23 (by decide) dX6_removeLamp_51 ?_
    refine lv_istore_n (pc := 52) (lv' := [(3, .int v22), (2, .ref (G.2.1 x20)), (0, .ref (G.2.1 a0)), (1, .int a1)]) hx hb dX6_removeLamp_52 rfl hl (by decide) rfl (fun ls hl => ?_)
    refine lv_iconst (pc := 53) (v := 0) hx hb dX6_removeLamp_53 (by decide) ?_
    refine lv_istore (pc := 54) (lv' := [(4, .int 0), (3, .int v22), (2, .ref (G.2.1 x20)), (0, .ref (G.2.1 a0)), (1, .int a1)]) hx hb dX6_removeLamp_54 hl (by decide) rfl (fun ls hl => ?_)
    obtain ⟨M24, e25, h⟩ := ob_out h
    refine pX6_removeLamp_L56 F 5000 hsh S (lv_sub hl [3, 4, 2, 1, 0] rfl) e25 (fun H locs ls S hl => ?_)
    refine lv_aload_n (pc := 80) hx hb dX6_removeLamp_80 rfl (lv_at hl 0 rfl) ?_
    obtain ⟨x26, e27, h⟩ := ob_out h
    refine r_gR (pc := 81) (k := 10) F S e27 (by decide) cl6 inRX6 (by decide) w130 (fun _ => rfl) dX6_removeLamp_81 ?_
    refine lv_iload_n (pc := 84) hx hb dX6_removeLamp_84 rfl (lv_at hl 1 rfl) ?_
    obtain ⟨M29, e28, h⟩ := ob_out h
    refine c_vV (pc := 85) (rest := []) F S (tX1_removeLamp e28) mfX1_removeLamp (sX1_removeLamp e28) (by decide) cl1 w460 ⟨Nat.le_of_ble_eq_true rfl, Nat.le_of_ble_eq_true rfl⟩ rfl hl.1 rfl (Nat.le_of_ble_eq_true rfl) dX6_removeLamp_85 (fun H locs S => ?_)
    refine lv_aload_n (pc := 88) hx hb dX6_removeLamp_88 rfl (lv_at hl 0 rfl) ?_
    refine lv_dup (pc := 89) hx hb dX6_removeLamp_89 rfl ?_
    obtain ⟨v30, e31, h⟩ := ob_out h
    refine r_gI (pc := 90) (k := 2) F S e31 (by decide) cl6 inRX6 (by decide) w109 (fun _ => rfl) dX6_removeLamp_90 ?_
    refine lv_iconst (pc := 93) (v := 1) hx hb dX6_removeLamp_93 (by decide) ?_
    refine lv_isub (pc := 94) hx hb dX6_removeLamp_94 ?_
    obtain ⟨M32, e33, h⟩ := ob_out h
    refine r_pI (pc := 95) (k := 2) (ty0 := tyX6) F S e33 (by decide) cl6 inRX6 tyX6_ok nmX6 (by decide) w109 rfl (by decide +kernel) (fun _ => Nat.le_of_ble_eq_true rfl) (fun _ => pf_6_2) dX6_removeLamp_95 (fun H locs S => ?_)
    refine lv_aload_n (pc := 98) hx hb dX6_removeLamp_98 rfl (lv_at hl 0 rfl) ?_
    obtain ⟨v34, e35, h⟩ := ob_out h
    refine r_gI (pc := 99) (k := 2) F S e35 (by decide) cl6 inRX6 (by decide) w109 (fun _ => rfl) dX6_removeLamp_99 ?_
    cases h
    exact r_iret (pc := 102) F S rfl dX6_removeLamp_102
  · replace h := (if_pos c3).symm.trans h
    refine lv_aload_n (pc := 8) hx hb dX6_removeLamp_8 rfl (lv_at hl 0 rfl) ?_
    obtain ⟨v36, e37, h⟩ := ob_out h
    refine r_gI (pc := 9) (k := 2) F S e37 (by decide) cl6 inRX6 (by decide) w109 (fun _ => rfl) dX6_removeLamp_9 ?_
    cases h
    exact r_iret (pc := 12) F S rfl dX6_removeLamp_12
theorem mfX11_takeDown : MF true yX11_takeDown RX11 cX11_takeDown 4 (some .int) 2 := ⟨w444, w1, by rw [if_pos rfl]; exact ⟨w442, w443⟩, ⟨by decide, by decide⟩, by decide +kernel⟩
set_option maxHeartbeats 4000000 in
theorem tX11_takeDown {l : Launch} {G : GD} {M N Mo : Mem} {a1 : Int32} {a2 : Int32} {r : Int32} (h : fX11_takeDown M a1 a2 = some (r, Mo)) : MI l yX11_takeDown cX11_takeDown 4 .int 5 108 G [.ref (G.2.1 10), .int a1, .int a2] M N r Mo N := by
  unfold fX11_takeDown at h
  refine MI_of (own := RX11) (by decide) rfl (Nat.le_of_ble_eq_true rfl) ?_
  intro p e s m args below meth c F S ls hl
  have hx := F.1
  have hb := F.2.1
  have hown := F.2.2.2.2.1
  have hts := F.2.2.2.2.2.1
  have hZ := F.2.2.2.2.2.2.2.2.2
  have hl : lv_has ls 4 [(0, .ref (G.2.1 10)), (1, .int a1), (2, .int a2)] := hl
  generalize s.heap = H, ([] : List Loc) = locs at S ⊢
  refine lv_aload_n (pc := 0) hx hb dX11_takeDown_0 rfl (lv_at hl 0 rfl) ?_
  refine r_gR (pc := 1) (k := 0) (x := 34) (i := 10) (ci := 11) F S (by decide) (by decide) cl11 inRX11 (by decide) w319 (fun _ => rfl) dX11_takeDown_1 ?_
  refine lv_iload_n (pc := 4) hx hb dX11_takeDown_4 rfl (lv_at hl 1 rfl) ?_
  obtain ⟨r2, e1, h⟩ := ob_out h
  refine c_vO (pc := 5) (rest := []) F S (tX7_find e1) mfX7_find (by decide) (by decide) cl7 w410 ⟨Nat.le_of_ble_eq_true rfl, Nat.le_of_ble_eq_true rfl⟩ rfl hl.1 rfl (Nat.le_of_ble_eq_true rfl) dX11_takeDown_5 (fun H locs S => ?_)
  cases r2 with
  | none =>
    replace h := caseO_n h
    refine W.eq (g2 := F0 m 8 ls (.null :: [])) rfl ?_
    refine lv_astore_nN (pc := 8) (lv' := [(3, .null), (0, .ref (G.2.1 10)), (1, .int a1), (2, .int a2)]) hx hb dX11_takeDown_8 rfl hl (by decide) rfl (fun ls hl => ?_)
    refine lv_aload_nN (pc := 9) hx hb dX11_takeDown_9 rfl (lv_at hl 0 rfl) ?_
    refine lv_ifnullN (pc := 10) (tgt := 21) hx hb dX11_takeDown_10 (by decide) ?_
    refine lv_iconst (pc := 21) (v := (-1)) hx hb dX11_takeDown_21 (by decide) ?_
    cases h
    exact r_iret (pc := 22) F S rfl dX11_takeDown_22
  | some x3 =>
    replace h := caseO_s h
    refine W.eq (g2 := F0 m 8 ls (.ref (G.2.1 x3) :: [])) rfl ?_
    refine lv_astore_n (pc := 8) (lv' := [(3, .ref (G.2.1 x3)), (0, .ref (G.2.1 10)), (1, .int a1), (2, .int a2)]) hx hb dX11_takeDown_8 rfl hl (by decide) rfl (fun ls hl => ?_)
    refine lv_aload_n (pc := 9) hx hb dX11_takeDown_9 rfl (lv_at hl 0 rfl) ?_
    refine lv_ifnull (pc := 10) hx hb dX11_takeDown_10 ?_
    refine lv_aload_n (pc := 13) hx hb dX11_takeDown_13 rfl (lv_at hl 0 rfl) ?_
    refine lv_iload_n (pc := 14) hx hb dX11_takeDown_14 rfl (lv_at hl 3 rfl) ?_
    obtain ⟨v5, e4, h⟩ := ob_out h
    refine c_vI (pc := 15) (rest := []) F S (tX6_hasLamp e4) mfX6_hasLamp (sX6_hasLamp e4) (by decide) cl6 w445 ⟨Nat.le_of_ble_eq_true rfl, Nat.le_of_ble_eq_true rfl⟩ rfl hl.1 rfl (Nat.le_of_ble_eq_true rfl) dX11_takeDown_15 (fun H locs S => ?_)
    refine lv_if_ne (pc := 18) (tgt := 23) hx hb dX11_takeDown_18 (by decide) (fun c6 => ?_) (fun c6 => ?_)
    · replace h := (if_neg c6).symm.trans h
      refine lv_aload_n (pc := 23) hx hb dX11_takeDown_23 rfl (lv_at hl 1 rfl) ?_
      refine r_gR (pc := 24) (k := 1) (x := 12) (i := 10) (ci := 11) F S (by decide) (by decide) cl11 inRX11 (by decide) w320 (fun _ => rfl) dX11_takeDown_24 ?_
      refine lv_aload_n (pc := 27) hx hb dX11_takeDown_27 rfl (lv_at hl 1 rfl) ?_
      refine r_gR (pc := 28) (k := 0) (x := 34) (i := 10) (ci := 11) F S (by decide) (by decide) cl11 inRX11 (by decide) w319 (fun _ => rfl) dX11_takeDown_28 ?_
      obtain ⟨M8, e7, h⟩ := ob_out h
      refine c_vV (pc := 31) (rest := []) F S (tX2_push e7) mfX2_push (by decide) (by decide) cl2 w358 ⟨Nat.le_of_ble_eq_true rfl, Nat.le_of_ble_eq_true rfl⟩ rfl hl.1 rfl (Nat.le_of_ble_eq_true rfl) dX11_takeDown_31 (fun H locs S => ?_)
      refine lv_aload_n (pc := 34) hx hb dX11_takeDown_34 rfl (lv_at hl 0 rfl) ?_
      refine lv_iload_n (pc := 35) hx hb dX11_takeDown_35 rfl (lv_at hl 3 rfl) ?_
      obtain ⟨v10, M11, e9, h⟩ := ob2_out h
      refine c_vI (pc := 36) (rest := []) F S (tX6_removeLamp e9) mfX6_removeLamp (sX6_removeLamp e9) (by decide) cl6 w449 ⟨Nat.le_of_ble_eq_true rfl, Nat.le_of_ble_eq_true rfl⟩ rfl hl.1 rfl (Nat.le_of_ble_eq_true rfl) dX11_takeDown_36 (fun H locs S => ?_)
      cases h
      exact r_iret (pc := 39) F S rfl dX11_takeDown_39
    · replace h := (if_pos c6).symm.trans h
      refine lv_iconst (pc := 21) (v := (-1)) hx hb dX11_takeDown_21 (by decide) ?_
      cases h
      exact r_iret (pc := 22) F S rfl dX11_takeDown_22
theorem mfX11_patch : MF true yX11_patch RX11 cX11_patch 6 (some .int) 3 := ⟨w468, w1, by rw [if_pos rfl]; exact ⟨w466, w467⟩, ⟨by decide, by decide⟩, by decide +kernel⟩
set_option maxHeartbeats 4000000 in
theorem tX11_patch {l : Launch} {G : GD} {M N Mo : Mem} {a1 : Int32} {a2 : Int32} {a3 : Int32} {r : Int32} (h : fX11_patch M a1 a2 a3 = some (r, Mo)) : MI l yX11_patch cX11_patch 6 .int 5 108 G [.ref (G.2.1 10), .int a1, .int a2, .int a3] M N r Mo N := by
  unfold fX11_patch at h
  refine MI_of (own := RX11) (by decide) rfl (Nat.le_of_ble_eq_true rfl) ?_
  intro p e s m args below meth c F S ls hl
  have hx := F.1
  have hb := F.2.1
  have hown := F.2.2.2.2.1
  have hts := F.2.2.2.2.2.1
  have hZ := F.2.2.2.2.2.2.2.2.2
  have hl : lv_has ls 6 [(0, .ref (G.2.1 10)), (1, .int a1), (2, .int a2), (3, .int a3)] := hl
  generalize s.heap = H, ([] : List Loc) = locs at S ⊢
  refine lv_aload_n (pc := 0) hx hb dX11_patch_0 rfl (lv_at hl 0 rfl) ?_
  refine r_gR (pc := 1) (k := 0) (x := 34) (i := 10) (ci := 11) F S (by decide) (by decide) cl11 inRX11 (by decide) w319 (fun _ => rfl) dX11_patch_1 ?_
  refine lv_iload_n (pc := 4) hx hb dX11_patch_4 rfl (lv_at hl 1 rfl) ?_
  obtain ⟨r2, e1, h⟩ := ob_out h
  refine c_vO (pc := 5) (rest := []) F S (tX7_find e1) mfX7_find (by decide) (by decide) cl7 w410 ⟨Nat.le_of_ble_eq_true rfl, Nat.le_of_ble_eq_true rfl⟩ rfl hl.1 rfl (Nat.le_of_ble_eq_true rfl) dX11_patch_5 (fun H locs S => ?_)
  cases r2 with
  | none =>
    replace h := caseO_n h
    refine W.eq (g2 := F0 m 8 ls (.null :: [])) rfl ?_
    refine lv_astoreN (pc := 8) (lv' := [(4, .null), (0, .ref (G.2.1 10)), (1, .int a1), (2, .int a2), (3, .int a3)]) hx hb dX11_patch_8 hl (by decide) rfl (fun ls hl => ?_)
    refine lv_aloadN (pc := 10) hx hb dX11_patch_10 (lv_at hl 0 rfl) ?_
    refine lv_ifnullN (pc := 12) (tgt := 31) hx hb dX11_patch_12 (by decide) ?_
    refine lv_iconst (pc := 31) (v := (-1)) hx hb dX11_patch_31 (by decide) ?_
    cases h
    exact r_iret (pc := 32) F S rfl dX11_patch_32
  | some x3 =>
    replace h := caseO_s h
    refine W.eq (g2 := F0 m 8 ls (.ref (G.2.1 x3) :: [])) rfl ?_
    refine lv_astore (pc := 8) (lv' := [(4, .ref (G.2.1 x3)), (0, .ref (G.2.1 10)), (1, .int a1), (2, .int a2), (3, .int a3)]) hx hb dX11_patch_8 hl (by decide) rfl (fun ls hl => ?_)
    refine lv_aload (pc := 10) hx hb dX11_patch_10 (lv_at hl 0 rfl) ?_
    refine lv_ifnull (pc := 12) hx hb dX11_patch_12 ?_
    refine lv_aload (pc := 15) hx hb dX11_patch_15 (lv_at hl 0 rfl) ?_
    refine lv_iload_n (pc := 17) hx hb dX11_patch_17 rfl (lv_at hl 3 rfl) ?_
    obtain ⟨v5, e4, h⟩ := ob_out h
    refine c_vI (pc := 18) (rest := []) F S (tX6_hasLamp e4) mfX6_hasLamp (sX6_hasLamp e4) (by decide) cl6 w445 ⟨Nat.le_of_ble_eq_true rfl, Nat.le_of_ble_eq_true rfl⟩ rfl hl.1 rfl (Nat.le_of_ble_eq_true rfl) dX11_patch_18 (fun H locs S => ?_)
    refine lv_if_eq (pc := 21) (tgt := 31) hx hb dX11_patch_21 (by decide) (fun c6 => ?_) (fun c6 => ?_)
    · replace h := (if_pos c6).symm.trans h
      refine lv_iconst (pc := 31) (v := (-1)) hx hb dX11_patch_31 (by decide) ?_
      cases h
      exact r_iret (pc := 32) F S rfl dX11_patch_32
    · replace h := (if_neg c6).symm.trans h
      refine lv_iload_n (pc := 24) hx hb dX11_patch_24 rfl (lv_at hl 4 rfl) ?_
      obtain ⟨v8, e7, h⟩ := ob_out h
      refine c_sI (pc := 25) (rest := []) F S (tX11_isDimmerOrNone e7) mfX11_isDimmerOrNone w426 ⟨Nat.le_of_ble_eq_true rfl, Nat.le_of_ble_eq_true rfl⟩ rfl hl.1 rfl (Nat.le_of_ble_eq_true rfl) dX11_patch_25 (fun H locs S => ?_)
      refine lv_if_ne (pc := 28) (tgt := 33) hx hb dX11_patch_28 (by decide) (fun c9 => ?_) (fun c9 => ?_)
      · replace h := (if_neg c9).symm.trans h
        refine lv_aload_n (pc := 33) hx hb dX11_patch_33 rfl (lv_at hl 1 rfl) ?_
        refine r_gR (pc := 34) (k := 1) (x := 12) (i := 10) (ci := 11) F S (by decide) (by decide) cl11 inRX11 (by decide) w320 (fun _ => rfl) dX11_patch_34 ?_
        refine lv_aload_n (pc := 37) hx hb dX11_patch_37 rfl (lv_at hl 1 rfl) ?_
        refine r_gR (pc := 38) (k := 0) (x := 34) (i := 10) (ci := 11) F S (by decide) (by decide) cl11 inRX11 (by decide) w319 (fun _ => rfl) dX11_patch_38 ?_
        obtain ⟨M11, e10, h⟩ := ob_out h
        refine c_vV (pc := 41) (rest := []) F S (tX2_push e10) mfX2_push (by decide) (by decide) cl2 w358 ⟨Nat.le_of_ble_eq_true rfl, Nat.le_of_ble_eq_true rfl⟩ rfl hl.1 rfl (Nat.le_of_ble_eq_true rfl) dX11_patch_41 (fun H locs S => ?_)
        refine lv_aload (pc := 44) hx hb dX11_patch_44 (lv_at hl 0 rfl) ?_
        obtain ⟨x12, e13, h⟩ := ob_out h
        refine r_gR (pc := 46) (k := 4) F S e13 (by decide) cl6 inRX6 (by decide) w115 (fun _ => rfl) dX11_patch_46 ?_
        refine lv_iload_n (pc := 49) hx hb dX11_patch_49 rfl (lv_at hl 3 rfl) ?_
        obtain ⟨v14, e15, h⟩ := ob_out h
        refine r_aL (pc := 50) F S e15 dX11_patch_50 ?_
        refine lv_istore (pc := 51) (lv' := [(5, .int v14), (4, .ref (G.2.1 x3)), (0, .ref (G.2.1 10)), (1, .int a1), (2, .int a2), (3, .int a3)]) hx hb dX11_patch_51 hl (by decide) rfl (fun ls hl => ?_)
        refine lv_aload (pc := 53) hx hb dX11_patch_53 (lv_at hl 1 rfl) ?_
        obtain ⟨x16, e17, h⟩ := ob_out h
        refine r_gR (pc := 55) (k := 4) F S e17 (by decide) cl6 inRX6 (by decide) w115 (fun _ => rfl) dX11_patch_55 ?_
        refine lv_iload_n (pc := 58) hx hb dX11_patch_58 rfl (lv_at hl 4 rfl) ?_
        refine lv_iload_n (pc := 59) hx hb dX11_patch_59 rfl (lv_at hl 5 rfl) ?_
        obtain ⟨M18, e19, h⟩ := ob_out h
        refine r_aS (pc := 60) F S e19 dX11_patch_60 (fun H locs S => ?_)
        refine lv_iload (pc := 61) hx hb dX11_patch_61 (lv_at hl 0 rfl) ?_
        cases h
        exact r_iret (pc := 63) F S rfl dX11_patch_63
      · replace h := (if_pos c9).symm.trans h
        refine lv_iconst (pc := 31) (v := (-1)) hx hb dX11_patch_31 (by decide) ?_
        cases h
        exact r_iret (pc := 32) F S rfl dX11_patch_32
theorem mfX11_isPhase : MF false yX11_isPhase RX11 cX11_isPhase 1 (some .boolean) 1 := ⟨w475, w1, by rw [if_neg (by decide)]; exact w474, ⟨by decide, by decide⟩, by decide +kernel⟩
set_option maxHeartbeats 4000000 in
theorem tX11_isPhase {l : Launch} {G : GD} {M N : Mem} {a0 : Int32} {r : Int32} (h : fX11_isPhase a0 = some r) : MI l yX11_isPhase cX11_isPhase 1 .boolean 1 22 G [.int a0] M N r M N := by
  unfold fX11_isPhase at h
  refine MI_of (own := RX11) (by decide) rfl (Nat.le_of_ble_eq_true rfl) ?_
  intro p e s m args below meth c F S ls hl
  have hx := F.1
  have hb := F.2.1
  have hown := F.2.2.2.2.1
  have hts := F.2.2.2.2.2.1
  have hZ := F.2.2.2.2.2.2.2.2.2
  have hl : lv_has ls 1 [(0, .int a0)] := hl
  generalize s.heap = H, ([] : List Loc) = locs at S ⊢
  refine lv_iload_n (pc := 0) hx hb dX11_isPhase_0 rfl (lv_at hl 0 rfl) ?_
  refine lv_iconst (pc := 1) (v := 0) hx hb dX11_isPhase_1 (by decide) ?_
  refine lv_iconst (pc := 2) (v := 2) hx hb dX11_isPhase_2 (by decide) ?_
  obtain ⟨v2, e1, h⟩ := ob_out h
  refine c_sI (pc := 3) (rest := []) F S (tX11_isIn e1) mfX11_isIn w353 ⟨Nat.le_of_ble_eq_true rfl, Nat.le_of_ble_eq_true rfl⟩ rfl hl.1 rfl (Nat.le_of_ble_eq_true rfl) dX11_isPhase_3 (fun H locs S => ?_)
  obtain ⟨b3, e4, h⟩ := ob_out h
  cases h
  refine nm_i (bz_out e4).1 ?_
  exact r_iret (pc := 6) F S (bool_narrow (by rw [← (bz_out e4).1]; exact (bz_out e4).2)).1 dX11_isPhase_6
theorem mfX11_feed : MF true yX11_feed RX11 cX11_feed 6 (some .int) 3 := ⟨w472, w1, by rw [if_pos rfl]; exact ⟨w470, w471⟩, ⟨by decide, by decide⟩, by decide +kernel⟩
set_option maxHeartbeats 4000000 in
theorem tX11_feed {l : Launch} {G : GD} {M N Mo : Mem} {a1 : Int32} {a2 : Int32} {a3 : Int32} {r : Int32} (h : fX11_feed M a1 a2 a3 = some (r, Mo)) : MI l yX11_feed cX11_feed 6 .int 5 108 G [.ref (G.2.1 10), .int a1, .int a2, .int a3] M N r Mo N := by
  unfold fX11_feed at h
  refine MI_of (own := RX11) (by decide) rfl (Nat.le_of_ble_eq_true rfl) ?_
  intro p e s m args below meth c F S ls hl
  have hx := F.1
  have hb := F.2.1
  have hown := F.2.2.2.2.1
  have hts := F.2.2.2.2.2.1
  have hZ := F.2.2.2.2.2.2.2.2.2
  have hl : lv_has ls 6 [(0, .ref (G.2.1 10)), (1, .int a1), (2, .int a2), (3, .int a3)] := hl
  generalize s.heap = H, ([] : List Loc) = locs at S ⊢
  refine lv_aload_n (pc := 0) hx hb dX11_feed_0 rfl (lv_at hl 0 rfl) ?_
  refine r_gR (pc := 1) (k := 0) (x := 34) (i := 10) (ci := 11) F S (by decide) (by decide) cl11 inRX11 (by decide) w319 (fun _ => rfl) dX11_feed_1 ?_
  refine lv_iload_n (pc := 4) hx hb dX11_feed_4 rfl (lv_at hl 1 rfl) ?_
  obtain ⟨r2, e1, h⟩ := ob_out h
  refine c_vO (pc := 5) (rest := []) F S (tX7_find e1) mfX7_find (by decide) (by decide) cl7 w410 ⟨Nat.le_of_ble_eq_true rfl, Nat.le_of_ble_eq_true rfl⟩ rfl hl.1 rfl (Nat.le_of_ble_eq_true rfl) dX11_feed_5 (fun H locs S => ?_)
  cases r2 with
  | none =>
    replace h := caseO_n h
    refine W.eq (g2 := F0 m 8 ls (.null :: [])) rfl ?_
    refine lv_astoreN (pc := 8) (lv' := [(4, .null), (0, .ref (G.2.1 10)), (1, .int a1), (2, .int a2), (3, .int a3)]) hx hb dX11_feed_8 hl (by decide) rfl (fun ls hl => ?_)
    refine lv_aloadN (pc := 10) hx hb dX11_feed_10 (lv_at hl 0 rfl) ?_
    refine lv_ifnullN (pc := 12) (tgt := 29) hx hb dX11_feed_12 (by decide) ?_
    refine lv_iconst (pc := 29) (v := (-1)) hx hb dX11_feed_29 (by decide) ?_
    cases h
    exact r_iret (pc := 30) F S rfl dX11_feed_30
  | some x3 =>
    replace h := caseO_s h
    refine W.eq (g2 := F0 m 8 ls (.ref (G.2.1 x3) :: [])) rfl ?_
    refine lv_astore (pc := 8) (lv' := [(4, .ref (G.2.1 x3)), (0, .ref (G.2.1 10)), (1, .int a1), (2, .int a2), (3, .int a3)]) hx hb dX11_feed_8 hl (by decide) rfl (fun ls hl => ?_)
    refine lv_aload (pc := 10) hx hb dX11_feed_10 (lv_at hl 0 rfl) ?_
    refine lv_ifnull (pc := 12) hx hb dX11_feed_12 ?_
    refine lv_iload_n (pc := 15) hx hb dX11_feed_15 rfl (lv_at hl 3 rfl) ?_
    obtain ⟨v5, e4, h⟩ := ob_out h
    refine c_sI (pc := 16) (rest := []) F S (tX11_isDimmer e4) mfX11_isDimmer w429 ⟨Nat.le_of_ble_eq_true rfl, Nat.le_of_ble_eq_true rfl⟩ rfl hl.1 rfl (Nat.le_of_ble_eq_true rfl) dX11_feed_16 (fun H locs S => ?_)
    refine lv_if_eq (pc := 19) (tgt := 29) hx hb dX11_feed_19 (by decide) (fun c6 => ?_) (fun c6 => ?_)
    · replace h := (if_pos c6).symm.trans h
      refine lv_iconst (pc := 29) (v := (-1)) hx hb dX11_feed_29 (by decide) ?_
      cases h
      exact r_iret (pc := 30) F S rfl dX11_feed_30
    · replace h := (if_neg c6).symm.trans h
      refine lv_iload_n (pc := 22) hx hb dX11_feed_22 rfl (lv_at hl 4 rfl) ?_
      obtain ⟨v8, e7, h⟩ := ob_out h
      refine c_sI (pc := 23) (rest := []) F S (tX11_isPhase e7) mfX11_isPhase w473 ⟨Nat.le_of_ble_eq_true rfl, Nat.le_of_ble_eq_true rfl⟩ rfl hl.1 rfl (Nat.le_of_ble_eq_true rfl) dX11_feed_23 (fun H locs S => ?_)
      refine lv_if_ne (pc := 26) (tgt := 31) hx hb dX11_feed_26 (by decide) (fun c9 => ?_) (fun c9 => ?_)
      · replace h := (if_neg c9).symm.trans h
        refine lv_aload_n (pc := 31) hx hb dX11_feed_31 rfl (lv_at hl 1 rfl) ?_
        refine r_gR (pc := 32) (k := 1) (x := 12) (i := 10) (ci := 11) F S (by decide) (by decide) cl11 inRX11 (by decide) w320 (fun _ => rfl) dX11_feed_32 ?_
        refine lv_aload_n (pc := 35) hx hb dX11_feed_35 rfl (lv_at hl 1 rfl) ?_
        refine r_gR (pc := 36) (k := 0) (x := 34) (i := 10) (ci := 11) F S (by decide) (by decide) cl11 inRX11 (by decide) w319 (fun _ => rfl) dX11_feed_36 ?_
        obtain ⟨M11, e10, h⟩ := ob_out h
        refine c_vV (pc := 39) (rest := []) F S (tX2_push e10) mfX2_push (by decide) (by decide) cl2 w358 ⟨Nat.le_of_ble_eq_true rfl, Nat.le_of_ble_eq_true rfl⟩ rfl hl.1 rfl (Nat.le_of_ble_eq_true rfl) dX11_feed_39 (fun H locs S => ?_)
        refine lv_aload (pc := 42) hx hb dX11_feed_42 (lv_at hl 0 rfl) ?_
        obtain ⟨x12, e13, h⟩ := ob_out h
        refine r_gR (pc := 44) (k := 7) F S e13 (by decide) cl6 inRX6 (by decide) w122 (fun _ => rfl) dX11_feed_44 ?_
        refine lv_iload_n (pc := 47) hx hb dX11_feed_47 rfl (lv_at hl 3 rfl) ?_
        obtain ⟨v14, e15, h⟩ := ob_out h
        refine r_aL (pc := 48) F S e15 dX11_feed_48 ?_
        refine lv_istore (pc := 49) (lv' := [(5, .int v14), (4, .ref (G.2.1 x3)), (0, .ref (G.2.1 10)), (1, .int a1), (2, .int a2), (3, .int a3)]) hx hb dX11_feed_49 hl (by decide) rfl (fun ls hl => ?_)
        refine lv_aload (pc := 51) hx hb dX11_feed_51 (lv_at hl 1 rfl) ?_
        obtain ⟨x16, e17, h⟩ := ob_out h
        refine r_gR (pc := 53) (k := 7) F S e17 (by decide) cl6 inRX6 (by decide) w122 (fun _ => rfl) dX11_feed_53 ?_
        refine lv_iload_n (pc := 56) hx hb dX11_feed_56 rfl (lv_at hl 4 rfl) ?_
        refine lv_iload_n (pc := 57) hx hb dX11_feed_57 rfl (lv_at hl 5 rfl) ?_
        obtain ⟨M18, e19, h⟩ := ob_out h
        refine r_aS (pc := 58) F S e19 dX11_feed_58 (fun H locs S => ?_)
        refine lv_iload (pc := 59) hx hb dX11_feed_59 (lv_at hl 0 rfl) ?_
        cases h
        exact r_iret (pc := 61) F S rfl dX11_feed_61
      · replace h := (if_pos c9).symm.trans h
        refine lv_iconst (pc := 29) (v := (-1)) hx hb dX11_feed_29 (by decide) ?_
        cases h
        exact r_iret (pc := 30) F S rfl dX11_feed_30
theorem mfX11_clear : MF false yX11_clear RX11 cX11_clear 2 none 1 := ⟨w490, w1, by rw [if_neg (by decide)]; exact w489, ⟨by decide, by decide⟩, by decide +kernel⟩
set_option maxHeartbeats 4000000 in
theorem pX11_clear_L2 {p : Program} {l : Launch} {e : Env} {s : State} {m : MethodId} {args : Array Value} {below : List Frame} {meth : Method} {c : Code} {Q : State → Prop} {G : GD} (F : FX p s m args meth c RX11 cX11_clear 2 none G) : ∀ (n : Nat) {M N : Mem} {a0 : Nat} {a1 : Int32} {H : Heap} {locs : List Loc} {ls : Array Slot} {Mo : Mem}, ST G M N s H locs → lv_has ls 2 [(0, .ref (G.2.1 a0)), (1, .int a1)] → fX11_clear_L2 n M a0 a1 = some Mo → (K1 : ∀ (H : Heap) (locs : List Loc) (ls : Array Slot), ST G Mo N s H locs → lv_has ls 2 [] → W p l e (Rm 0 0) s m args below meth c H locs 0 0 Q (F0 m 18 ls [])) → W p l e (Rm 0 0) s m args below meth c H locs 0 0 Q (F0 m 2 ls []) := by
  intro n
  induction n with
  | zero => intro M N a0 a1 H locs ls Mo S hl h K1; cases h
  | succ n ih =>
    intro M N a0 a1 H locs ls Mo S hl h K1
    rw [fX11_clear_L2] at h
    have hx := F.1
    have hb := F.2.1
    have hown := F.2.2.2.2.1
    have hts := F.2.2.2.2.2.1
    have hZ := F.2.2.2.2.2.2.2.2.2
    refine lv_iload_n (pc := 2) hx hb dX11_clear_2 rfl (lv_at hl 1 rfl) ?_
    refine lv_aload_n (pc := 3) hx hb dX11_clear_3 rfl (lv_at hl 0 rfl) ?_
    obtain ⟨v1, e2, h⟩ := ob_out h
    refine r_aN (pc := 4) F S e2 (by decide) dX11_clear_4 ?_
    refine lv_icmp_ge (pc := 5) (tgt := 18) hx hb dX11_clear_5 (by decide) (fun c3 => ?_) (fun c3 => ?_)
    · replace h := (if_pos c3).symm.trans h
      cases h
      exact K1 H locs ls S (lv_sub hl [] rfl)
    · replace h := (if_neg c3).symm.trans h
      refine lv_aload_n (pc := 8) hx hb dX11_clear_8 rfl (lv_at hl 0 rfl) ?_
      refine lv_iload_n (pc := 9) hx hb dX11_clear_9 rfl (lv_at hl 1 rfl) ?_
      refine lv_iconst (pc := 10) (v := 0) hx hb dX11_clear_10 (by decide) ?_
      obtain ⟨M4, e5, h⟩ := ob_out h
      refine r_aS (pc := 11) F S e5 dX11_clear_11 (fun H locs S => ?_)
      refine lv_iinc (pc := 12) (lv' := [(1, .int (a1 + 1)), (0, .ref (G.2.1 a0))]) hx hb dX11_clear_12 hl (k := 1) rfl (iinc_n (by decide)) (by decide) rfl (fun ls hl => ?_)
      refine lv_goto (pc := 15) (tgt := 2) hx hb dX11_clear_15 (by decide) ?_
      exact ih S (lv_sub hl [1, 0] rfl) h K1
set_option maxHeartbeats 4000000 in
theorem tX11_clear {l : Launch} {G : GD} {M N Mo : Mem} {a0 : Nat} (h : fX11_clear M a0 = some Mo) : MV l yX11_clear cX11_clear 2 0 0 G [.ref (G.2.1 a0)] M N Mo N := by
  unfold fX11_clear at h
  refine MV_of (own := RX11) (by decide) rfl (Nat.le_of_ble_eq_true rfl) ?_
  intro p e s m args below meth c F S ls hl
  have hx := F.1
  have hb := F.2.1
  have hown := F.2.2.2.2.1
  have hts := F.2.2.2.2.2.1
  have hZ := F.2.2.2.2.2.2.2.2.2
  have hl : lv_has ls 2 [(0, .ref (G.2.1 a0))] := hl
  generalize s.heap = H, ([] : List Loc) = locs at S ⊢
  refine lv_iconst (pc := 0) (v := 0) hx hb dX11_clear_0 (by decide) ?_
  refine lv_istore_n (pc := 1) (lv' := [(1, .int 0), (0, .ref (G.2.1 a0))]) hx hb dX11_clear_1 rfl hl (by decide) rfl (fun ls hl => ?_)
  obtain ⟨M1, e2, h⟩ := ob_out h
  refine pX11_clear_L2 F 5000 S (lv_sub hl [1, 0] rfl) e2 (fun H locs ls S hl => ?_)
  cases h
  exact r_vret (pc := 18) F S dX11_clear_18
theorem sX3_empty {M : Mem} {a0 : Nat} {r : Mem} (h : fX3_empty M a0 = some r) : shp a0 = 3 := by
  unfold fX3_empty at h
  exact (ck_out h).1
theorem mfX3_empty : MF true yX3_empty RX3 cX3_empty 1 none 0 := ⟨w487, w10, by rw [if_pos rfl]; exact ⟨w485, w486⟩, ⟨by decide, by decide⟩, by decide +kernel⟩
set_option maxHeartbeats 4000000 in
theorem tX3_empty {l : Launch} {G : GD} {M N Mo : Mem} {a0 : Nat} (h : fX3_empty M a0 = some Mo) : MV l yX3_empty cX3_empty 1 1 21 G [.ref (G.2.1 a0)] M N Mo N := by
  unfold fX3_empty at h
  obtain ⟨hsh, h⟩ := ck_out h
  refine MV_of (own := RX3) (by decide) rfl (Nat.le_of_ble_eq_true rfl) ?_
  intro p e s m args below meth c F S ls hl
  have hx := F.1
  have hb := F.2.1
  have hown := F.2.2.2.2.1
  have hts := F.2.2.2.2.2.1
  have hZ := F.2.2.2.2.2.2.2.2.2
  have hl : lv_has ls 1 [(0, .ref (G.2.1 a0))] := hl
  generalize s.heap = H, ([] : List Loc) = locs at S ⊢
  refine lv_aload_n (pc := 0) hx hb dX3_empty_0 rfl (lv_at hl 0 rfl) ?_
  obtain ⟨x1, e2, h⟩ := ob_out h
  refine r_gR (pc := 1) (k := 0) F S e2 (by decide) cl3 inRX3 (by decide) w260 (fun _ => rfl) dX3_empty_1 ?_
  obtain ⟨M4, e3, h⟩ := ob_out h
  refine c_nV (pc := 4) (rest := []) F S (tX11_clear e3) mfX11_clear wn17 ⟨Nat.le_of_ble_eq_true rfl, Nat.le_of_ble_eq_true rfl⟩ rfl hl.1 rfl (Nat.le_of_ble_eq_true rfl) dX3_empty_4 (fun H locs S => ?_)
  refine lv_aload_n (pc := 7) hx hb dX3_empty_7 rfl (lv_at hl 0 rfl) ?_
  obtain ⟨x5, e6, h⟩ := ob_out h
  refine r_gR (pc := 8) (k := 1) F S e6 (by decide) cl3 inRX3 (by decide) w265 (fun _ => rfl) dX3_empty_8 ?_
  obtain ⟨M8, e7, h⟩ := ob_out h
  refine c_nV (pc := 11) (rest := []) F S (tX11_clear e7) mfX11_clear wn17 ⟨Nat.le_of_ble_eq_true rfl, Nat.le_of_ble_eq_true rfl⟩ rfl hl.1 rfl (Nat.le_of_ble_eq_true rfl) dX3_empty_11 (fun H locs S => ?_)
  cases h
  exact r_vret (pc := 14) F S dX3_empty_14
theorem mfX11_isCue : MF false yX11_isCue RX11 cX11_isCue 1 (some .boolean) 1 := ⟨w502, w1, by rw [if_neg (by decide)]; exact w501, ⟨by decide, by decide⟩, by decide +kernel⟩
set_option maxHeartbeats 4000000 in
theorem tX11_isCue {l : Launch} {G : GD} {M N : Mem} {a0 : Int32} {r : Int32} (h : fX11_isCue a0 = some r) : MI l yX11_isCue cX11_isCue 1 .boolean 1 22 G [.int a0] M N r M N := by
  unfold fX11_isCue at h
  refine MI_of (own := RX11) (by decide) rfl (Nat.le_of_ble_eq_true rfl) ?_
  intro p e s m args below meth c F S ls hl
  have hx := F.1
  have hb := F.2.1
  have hown := F.2.2.2.2.1
  have hts := F.2.2.2.2.2.1
  have hZ := F.2.2.2.2.2.2.2.2.2
  have hl : lv_has ls 1 [(0, .int a0)] := hl
  generalize s.heap = H, ([] : List Loc) = locs at S ⊢
  refine lv_iload_n (pc := 0) hx hb dX11_isCue_0 rfl (lv_at hl 0 rfl) ?_
  refine lv_iconst (pc := 1) (v := 0) hx hb dX11_isCue_1 (by decide) ?_
  refine lv_bipush (pc := 2) (v := 7) hx hb dX11_isCue_2 (by decide) ?_
  obtain ⟨v2, e1, h⟩ := ob_out h
  refine c_sI (pc := 4) (rest := []) F S (tX11_isIn e1) mfX11_isIn w353 ⟨Nat.le_of_ble_eq_true rfl, Nat.le_of_ble_eq_true rfl⟩ rfl hl.1 rfl (Nat.le_of_ble_eq_true rfl) dX11_isCue_4 (fun H locs S => ?_)
  obtain ⟨b3, e4, h⟩ := ob_out h
  cases h
  refine nm_i (bz_out e4).1 ?_
  exact r_iret (pc := 7) F S (bool_narrow (by rw [← (bz_out e4).1]; exact (bz_out e4).2)).1 dX11_isCue_7
theorem sX6_isRecorded {M : Mem} {a0 : Nat} {a1 : Int32} {r : (Int32)} (h : fX6_isRecorded M a0 a1 = some r) : shp a0 = 6 := by
  unfold fX6_isRecorded at h
  exact (ck_out h).1
theorem mfX6_isRecorded : MF true yX6_isRecorded RX6 cX6_isRecorded 2 (some .boolean) 1 := ⟨w499, w4, by rw [if_pos rfl]; exact ⟨w497, w498⟩, ⟨by decide, by decide⟩, by decide +kernel⟩
set_option maxHeartbeats 4000000 in
theorem tX6_isRecorded {l : Launch} {G : GD} {M N : Mem} {a0 : Nat} {a1 : Int32} {r : Int32} (h : fX6_isRecorded M a0 a1 = some r) : MI l yX6_isRecorded cX6_isRecorded 2 .boolean 2 42 G [.ref (G.2.1 a0), .int a1] M N r M N := by
  unfold fX6_isRecorded at h
  obtain ⟨hsh, h⟩ := ck_out h
  refine MI_of (own := RX6) (by decide) rfl (Nat.le_of_ble_eq_true rfl) ?_
  intro p e s m args below meth c F S ls hl
  have hx := F.1
  have hb := F.2.1
  have hown := F.2.2.2.2.1
  have hts := F.2.2.2.2.2.1
  have hZ := F.2.2.2.2.2.2.2.2.2
  have hl : lv_has ls 2 [(0, .ref (G.2.1 a0)), (1, .int a1)] := hl
  generalize s.heap = H, ([] : List Loc) = locs at S ⊢
  refine lv_iload_n (pc := 0) hx hb dX6_isRecorded_0 rfl (lv_at hl 1 rfl) ?_
  obtain ⟨v2, e1, h⟩ := ob_out h
  refine c_nI (pc := 1) (rest := []) F S (tX11_isCue e1) mfX11_isCue wn18 ⟨Nat.le_of_ble_eq_true rfl, Nat.le_of_ble_eq_true rfl⟩ rfl hl.1 rfl (Nat.le_of_ble_eq_true rfl) dX6_isRecorded_1 (fun H locs S => ?_)
  refine lv_if_eq (pc := 4) (tgt := 20) hx hb dX6_isRecorded_4 (by decide) (fun c3 => ?_) (fun c3 => ?_)
  · replace h := (if_pos c3).symm.trans h
    refine lv_iconst (pc := 20) (v := 0) hx hb dX6_isRecorded_20 (by decide) ?_
    cases h
    exact r_iret (pc := 21) F S rfl dX6_isRecorded_21
  · replace h := (if_neg c3).symm.trans h
    refine lv_aload_n (pc := 7) hx hb dX6_isRecorded_7 rfl (lv_at hl 0 rfl) ?_
    obtain ⟨x4, e5, h⟩ := ob_out h
    refine r_gR (pc := 8) (k := 8) F S e5 (by decide) cl6 inRX6 (by decide) w123 (fun _ => rfl) dX6_isRecorded_8 ?_
    refine lv_iload_n (pc := 11) hx hb dX6_isRecorded_11 rfl (lv_at hl 1 rfl) ?_
    obtain ⟨v6, e7, h⟩ := ob_out h
    refine r_aL (pc := 12) F S e7 dX6_isRecorded_12 ?_
    refine lv_if_le (pc := 13) (tgt := 20) hx hb dX6_isRecorded_13 (by decide) (fun c8 => ?_) (fun c8 => ?_)
    · replace h := (if_pos c8).symm.trans h
      refine lv_iconst (pc := 20) (v := 0) hx hb dX6_isRecorded_20 (by decide) ?_
      cases h
      exact r_iret (pc := 21) F S rfl dX6_isRecorded_21
    · replace h := (if_neg c8).symm.trans h
      refine lv_iconst (pc := 16) (v := 1) hx hb dX6_isRecorded_16 (by decide) ?_
      refine lv_goto (pc := 17) (tgt := 21) hx hb dX6_isRecorded_17 (by decide) ?_
      cases h
      exact r_iret (pc := 21) F S rfl dX6_isRecorded_21
theorem sX9_wattsOf {M : Mem} {a0 : Nat} {a1 : Int32} {r : (Int32)} (h : fX9_wattsOf M a0 a1 = some r) : shp a0 = 9 := by
  unfold fX9_wattsOf at h
  exact (ck_out h).1
theorem mfX9_wattsOf : MF true yX9_wattsOf RX9 cX9_wattsOf 2 (some .int) 1 := ⟨w510, w3, by rw [if_pos rfl]; exact ⟨w508, w509⟩, ⟨by decide, by decide⟩, by decide +kernel⟩
set_option maxHeartbeats 4000000 in
theorem tX9_wattsOf {l : Launch} {G : GD} {M N : Mem} {a0 : Nat} {a1 : Int32} {r : Int32} (h : fX9_wattsOf M a0 a1 = some r) : MI l yX9_wattsOf cX9_wattsOf 2 .int 0 0 G [.ref (G.2.1 a0), .int a1] M N r M N := by
  unfold fX9_wattsOf at h
  obtain ⟨hsh, h⟩ := ck_out h
  refine MI_of (own := RX9) (by decide) rfl (Nat.le_of_ble_eq_true rfl) ?_
  intro p e s m args below meth c F S ls hl
  have hx := F.1
  have hb := F.2.1
  have hown := F.2.2.2.2.1
  have hts := F.2.2.2.2.2.1
  have hZ := F.2.2.2.2.2.2.2.2.2
  have hl : lv_has ls 2 [(0, .ref (G.2.1 a0)), (1, .int a1)] := hl
  generalize s.heap = H, ([] : List Loc) = locs at S ⊢
  refine lv_iload_n (pc := 0) hx hb dX9_wattsOf_0 rfl (lv_at hl 1 rfl) ?_
  refine lv_if_lt (pc := 1) (tgt := 22) hx hb dX9_wattsOf_1 (by decide) (fun c1 => ?_) (fun c1 => ?_)
  · replace h := (if_pos c1).symm.trans h
    refine lv_iconst (pc := 22) (v := 0) hx hb dX9_wattsOf_22 (by decide) ?_
    cases h
    exact r_iret (pc := 23) F S rfl dX9_wattsOf_23
  · replace h := (if_neg c1).symm.trans h
    refine lv_iload_n (pc := 4) hx hb dX9_wattsOf_4 rfl (lv_at hl 1 rfl) ?_
    refine lv_aload_n (pc := 5) hx hb dX9_wattsOf_5 rfl (lv_at hl 0 rfl) ?_
    obtain ⟨x2, e3, h⟩ := ob_out h
    refine r_gR (pc := 6) (k := 1) F S e3 (by decide) cl9 inRX9 (by decide) w48 (fun _ => rfl) dX9_wattsOf_6 ?_
    obtain ⟨v4, e5, h⟩ := ob_out h
    refine r_aN (pc := 9) F S e5 (by decide) dX9_wattsOf_9 ?_
    refine lv_icmp_ge (pc := 10) (tgt := 22) hx hb dX9_wattsOf_10 (by decide) (fun c6 => ?_) (fun c6 => ?_)
    · replace h := (if_pos c6).symm.trans h
      refine lv_iconst (pc := 22) (v := 0) hx hb dX9_wattsOf_22 (by decide) ?_
      cases h
      exact r_iret (pc := 23) F S rfl dX9_wattsOf_23
    · replace h := (if_neg c6).symm.trans h
      refine lv_aload_n (pc := 13) hx hb dX9_wattsOf_13 rfl (lv_at hl 0 rfl) ?_
      obtain ⟨x7, e8, h⟩ := ob_out h
      refine r_gR (pc := 14) (k := 1) F S e8 (by decide) cl9 inRX9 (by decide) w48 (fun _ => rfl) dX9_wattsOf_14 ?_
      refine lv_iload_n (pc := 17) hx hb dX9_wattsOf_17 rfl (lv_at hl 1 rfl) ?_
      obtain ⟨v9, e10, h⟩ := ob_out h
      refine r_aL (pc := 18) F S e10 dX9_wattsOf_18 ?_
      refine lv_goto (pc := 19) (tgt := 23) hx hb dX9_wattsOf_19 (by decide) ?_
      cases h
      exact r_iret (pc := 23) F S rfl dX9_wattsOf_23
theorem sX6_draw {M : Mem} {a0 : Nat} {a1 : Int32} {a2 : Nat} {a3 : Nat} {r : (Int32)} (h : fX6_draw M a0 a1 a2 a3 = some r) : shp a0 = 6 := by
  unfold fX6_draw at h
  exact (ck_out h).1
theorem mfX6_draw : MF true yX6_draw RX6 cX6_draw 4 (some .int) 3 := ⟨w506, w4, by rw [if_pos rfl]; exact ⟨w504, w505⟩, ⟨by decide, by decide⟩, by decide +kernel⟩
set_option maxHeartbeats 4000000 in
theorem tX6_draw {l : Launch} {G : GD} {M N : Mem} {a0 : Nat} {a1 : Int32} {a2 : Nat} {a3 : Nat} {r : Int32} (h : fX6_draw M a0 a1 a2 a3 = some r) : MI l yX6_draw cX6_draw 4 .int 1 21 G [.ref (G.2.1 a0), .int a1, .ref (G.2.1 a2), .ref (G.2.1 a3)] M N r M N := by
  unfold fX6_draw at h
  obtain ⟨hsh, h⟩ := ck_out h
  refine MI_of (own := RX6) (by decide) rfl (Nat.le_of_ble_eq_true rfl) ?_
  intro p e s m args below meth c F S ls hl
  have hx := F.1
  have hb := F.2.1
  have hown := F.2.2.2.2.1
  have hts := F.2.2.2.2.2.1
  have hZ := F.2.2.2.2.2.2.2.2.2
  have hl : lv_has ls 4 [(0, .ref (G.2.1 a0)), (1, .int a1), (2, .ref (G.2.1 a2)), (3, .ref (G.2.1 a3))] := hl
  generalize s.heap = H, ([] : List Loc) = locs at S ⊢
  refine lv_aload_n (pc := 0) hx hb dX6_draw_0 rfl (lv_at hl 0 rfl) ?_
  refine lv_iload_n (pc := 1) hx hb dX6_draw_1 rfl (lv_at hl 1 rfl) ?_
  obtain ⟨v2, e1, h⟩ := ob_out h
  refine c_vI (pc := 2) (rest := []) F S (tX6_hasLamp e1) mfX6_hasLamp (sX6_hasLamp e1) (by decide) cl6 w453 ⟨Nat.le_of_ble_eq_true rfl, Nat.le_of_ble_eq_true rfl⟩ rfl hl.1 rfl (Nat.le_of_ble_eq_true rfl) dX6_draw_2 (fun H locs S => ?_)
  refine lv_if_eq (pc := 5) (tgt := 14) hx hb dX6_draw_5 (by decide) (fun c3 => ?_) (fun c3 => ?_)
  · replace h := (if_pos c3).symm.trans h
    refine lv_iconst (pc := 14) (v := 0) hx hb dX6_draw_14 (by decide) ?_
    cases h
    exact r_iret (pc := 15) F S rfl dX6_draw_15
  · replace h := (if_neg c3).symm.trans h
    refine lv_iload_n (pc := 8) hx hb dX6_draw_8 rfl (lv_at hl 1 rfl) ?_
    refine lv_aload_n (pc := 9) hx hb dX6_draw_9 rfl (lv_at hl 2 rfl) ?_
    obtain ⟨v4, e5, h⟩ := ob_out h
    refine r_aN (pc := 10) F S e5 (by decide) dX6_draw_10 ?_
    refine lv_icmp_lt (pc := 11) (tgt := 16) hx hb dX6_draw_11 (by decide) (fun c6 => ?_) (fun c6 => ?_)
    · replace h := (if_pos c6).symm.trans h
      refine lv_aload_n (pc := 16) hx hb dX6_draw_16 rfl (lv_at hl 3 rfl) ?_
      refine lv_aload_n (pc := 17) hx hb dX6_draw_17 rfl (lv_at hl 0 rfl) ?_
      obtain ⟨x7, e8, h⟩ := ob_out h
      refine r_gR (pc := 18) (k := 3) F S e8 (by decide) cl6 inRX6 (by decide) w112 (fun _ => rfl) dX6_draw_18 ?_
      refine lv_iload_n (pc := 21) hx hb dX6_draw_21 rfl (lv_at hl 1 rfl) ?_
      obtain ⟨v9, e10, h⟩ := ob_out h
      refine r_aL (pc := 22) F S e10 dX6_draw_22 ?_
      obtain ⟨v12, e11, h⟩ := ob_out h
      refine c_vI (pc := 23) (rest := []) F S (tX9_wattsOf e11) mfX9_wattsOf (sX9_wattsOf e11) (by decide) cl9 w507 ⟨Nat.le_of_ble_eq_true rfl, Nat.le_of_ble_eq_true rfl⟩ rfl hl.1 rfl (Nat.le_of_ble_eq_true rfl) dX6_draw_23 (fun H locs S => ?_)
      refine lv_aload_n (pc := 26) hx hb dX6_draw_26 rfl (lv_at hl 2 rfl) ?_
      refine lv_iload_n (pc := 27) hx hb dX6_draw_27 rfl (lv_at hl 1 rfl) ?_
      obtain ⟨v13, e14, h⟩ := ob_out h
      refine r_aL (pc := 28) F S e14 dX6_draw_28 ?_
      refine lv_imul (pc := 29) hx hb dX6_draw_29 ?_
      refine lv_bipush (pc := 30) (v := 100) hx hb dX6_draw_30 (by decide) ?_
      obtain ⟨v15, e16, h⟩ := ob_out h
      refine lv_idiv (pc := 32) hx hb dX6_draw_32 (dv_out e16).1 ?_
      refine nm_i (dv_out e16).2 ?_
      cases h
      exact r_iret (pc := 33) F S rfl dX6_draw_33
    · replace h := (if_neg c6).symm.trans h
      refine lv_iconst (pc := 14) (v := 0) hx hb dX6_draw_14 (by decide) ?_
      cases h
      exact r_iret (pc := 15) F S rfl dX6_draw_15
theorem sX6_dimmerOf {M : Mem} {a0 : Nat} {a1 : Int32} {r : (Int32)} (h : fX6_dimmerOf M a0 a1 = some r) : shp a0 = 6 := by
  unfold fX6_dimmerOf at h
  exact (ck_out h).1
theorem mfX6_dimmerOf : MF true yX6_dimmerOf RX6 cX6_dimmerOf 2 (some .int) 1 := ⟨w518, w4, by rw [if_pos rfl]; exact ⟨w516, w517⟩, ⟨by decide, by decide⟩, by decide +kernel⟩
set_option maxHeartbeats 4000000 in
theorem tX6_dimmerOf {l : Launch} {G : GD} {M N : Mem} {a0 : Nat} {a1 : Int32} {r : Int32} (h : fX6_dimmerOf M a0 a1 = some r) : MI l yX6_dimmerOf cX6_dimmerOf 2 .int 0 0 G [.ref (G.2.1 a0), .int a1] M N r M N := by
  unfold fX6_dimmerOf at h
  obtain ⟨hsh, h⟩ := ck_out h
  refine MI_of (own := RX6) (by decide) rfl (Nat.le_of_ble_eq_true rfl) ?_
  intro p e s m args below meth c F S ls hl
  have hx := F.1
  have hb := F.2.1
  have hown := F.2.2.2.2.1
  have hts := F.2.2.2.2.2.1
  have hZ := F.2.2.2.2.2.2.2.2.2
  have hl : lv_has ls 2 [(0, .ref (G.2.1 a0)), (1, .int a1)] := hl
  generalize s.heap = H, ([] : List Loc) = locs at S ⊢
  refine lv_iload_n (pc := 0) hx hb dX6_dimmerOf_0 rfl (lv_at hl 1 rfl) ?_
  refine lv_if_lt (pc := 1) (tgt := 22) hx hb dX6_dimmerOf_1 (by decide) (fun c1 => ?_) (fun c1 => ?_)
  · replace h := (if_pos c1).symm.trans h
    refine lv_bipush (pc := 22) (v := (-6)) hx hb dX6_dimmerOf_22 (by decide) ?_
    cases h
    exact r_iret (pc := 24) F S rfl dX6_dimmerOf_24
  · replace h := (if_neg c1).symm.trans h
    refine lv_iload_n (pc := 4) hx hb dX6_dimmerOf_4 rfl (lv_at hl 1 rfl) ?_
    refine lv_aload_n (pc := 5) hx hb dX6_dimmerOf_5 rfl (lv_at hl 0 rfl) ?_
    obtain ⟨x2, e3, h⟩ := ob_out h
    refine r_gR (pc := 6) (k := 4) F S e3 (by decide) cl6 inRX6 (by decide) w114 (fun _ => rfl) dX6_dimmerOf_6 ?_
    obtain ⟨v4, e5, h⟩ := ob_out h
    refine r_aN (pc := 9) F S e5 (by decide) dX6_dimmerOf_9 ?_
    refine lv_icmp_ge (pc := 10) (tgt := 22) hx hb dX6_dimmerOf_10 (by decide) (fun c6 => ?_) (fun c6 => ?_)
    · replace h := (if_pos c6).symm.trans h
      refine lv_bipush (pc := 22) (v := (-6)) hx hb dX6_dimmerOf_22 (by decide) ?_
      cases h
      exact r_iret (pc := 24) F S rfl dX6_dimmerOf_24
    · replace h := (if_neg c6).symm.trans h
      refine lv_aload_n (pc := 13) hx hb dX6_dimmerOf_13 rfl (lv_at hl 0 rfl) ?_
      obtain ⟨x7, e8, h⟩ := ob_out h
      refine r_gR (pc := 14) (k := 4) F S e8 (by decide) cl6 inRX6 (by decide) w114 (fun _ => rfl) dX6_dimmerOf_14 ?_
      refine lv_iload_n (pc := 17) hx hb dX6_dimmerOf_17 rfl (lv_at hl 1 rfl) ?_
      obtain ⟨v9, e10, h⟩ := ob_out h
      refine r_aL (pc := 18) F S e10 dX6_dimmerOf_18 ?_
      refine lv_goto (pc := 19) (tgt := 24) hx hb dX6_dimmerOf_19 (by decide) ?_
      cases h
      exact r_iret (pc := 24) F S rfl dX6_dimmerOf_24
theorem sX6_phaseOf {M : Mem} {a0 : Nat} {a1 : Int32} {r : (Int32)} (h : fX6_phaseOf M a0 a1 = some r) : shp a0 = 6 := by
  unfold fX6_phaseOf at h
  exact (ck_out h).1
theorem mfX6_phaseOf : MF true yX6_phaseOf RX6 cX6_phaseOf 2 (some .int) 1 := ⟨w522, w4, by rw [if_pos rfl]; exact ⟨w520, w521⟩, ⟨by decide, by decide⟩, by decide +kernel⟩
set_option maxHeartbeats 4000000 in
theorem tX6_phaseOf {l : Launch} {G : GD} {M N : Mem} {a0 : Nat} {a1 : Int32} {r : Int32} (h : fX6_phaseOf M a0 a1 = some r) : MI l yX6_phaseOf cX6_phaseOf 2 .int 0 0 G [.ref (G.2.1 a0), .int a1] M N r M N := by
  unfold fX6_phaseOf at h
  obtain ⟨hsh, h⟩ := ck_out h
  refine MI_of (own := RX6) (by decide) rfl (Nat.le_of_ble_eq_true rfl) ?_
  intro p e s m args below meth c F S ls hl
  have hx := F.1
  have hb := F.2.1
  have hown := F.2.2.2.2.1
  have hts := F.2.2.2.2.2.1
  have hZ := F.2.2.2.2.2.2.2.2.2
  have hl : lv_has ls 2 [(0, .ref (G.2.1 a0)), (1, .int a1)] := hl
  generalize s.heap = H, ([] : List Loc) = locs at S ⊢
  refine lv_iload_n (pc := 0) hx hb dX6_phaseOf_0 rfl (lv_at hl 1 rfl) ?_
  refine lv_if_lt (pc := 1) (tgt := 22) hx hb dX6_phaseOf_1 (by decide) (fun c1 => ?_) (fun c1 => ?_)
  · replace h := (if_pos c1).symm.trans h
    refine lv_bipush (pc := 22) (v := (-6)) hx hb dX6_phaseOf_22 (by decide) ?_
    cases h
    exact r_iret (pc := 24) F S rfl dX6_phaseOf_24
  · replace h := (if_neg c1).symm.trans h
    refine lv_iload_n (pc := 4) hx hb dX6_phaseOf_4 rfl (lv_at hl 1 rfl) ?_
    refine lv_aload_n (pc := 5) hx hb dX6_phaseOf_5 rfl (lv_at hl 0 rfl) ?_
    obtain ⟨x2, e3, h⟩ := ob_out h
    refine r_gR (pc := 6) (k := 7) F S e3 (by decide) cl6 inRX6 (by decide) w121 (fun _ => rfl) dX6_phaseOf_6 ?_
    obtain ⟨v4, e5, h⟩ := ob_out h
    refine r_aN (pc := 9) F S e5 (by decide) dX6_phaseOf_9 ?_
    refine lv_icmp_ge (pc := 10) (tgt := 22) hx hb dX6_phaseOf_10 (by decide) (fun c6 => ?_) (fun c6 => ?_)
    · replace h := (if_pos c6).symm.trans h
      refine lv_bipush (pc := 22) (v := (-6)) hx hb dX6_phaseOf_22 (by decide) ?_
      cases h
      exact r_iret (pc := 24) F S rfl dX6_phaseOf_24
    · replace h := (if_neg c6).symm.trans h
      refine lv_aload_n (pc := 13) hx hb dX6_phaseOf_13 rfl (lv_at hl 0 rfl) ?_
      obtain ⟨x7, e8, h⟩ := ob_out h
      refine r_gR (pc := 14) (k := 7) F S e8 (by decide) cl6 inRX6 (by decide) w121 (fun _ => rfl) dX6_phaseOf_14 ?_
      refine lv_iload_n (pc := 17) hx hb dX6_phaseOf_17 rfl (lv_at hl 1 rfl) ?_
      obtain ⟨v9, e10, h⟩ := ob_out h
      refine r_aL (pc := 18) F S e10 dX6_phaseOf_18 ?_
      refine lv_goto (pc := 19) (tgt := 24) hx hb dX6_phaseOf_19 (by decide) ?_
      cases h
      exact r_iret (pc := 24) F S rfl dX6_phaseOf_24
theorem sX3_add {M : Mem} {a0 : Nat} {a1 : Nat} {a2 : Int32} {a3 : Int32} {r : Mem} (h : fX3_add M a0 a1 a2 a3 = some r) : shp a0 = 3 := by
  unfold fX3_add at h
  exact (ck_out h).1
theorem mfX3_add : MF true yX3_add RX3 cX3_add 6 none 3 := ⟨w514, w10, by rw [if_pos rfl]; exact ⟨w513, wp1⟩, ⟨by decide, by decide⟩, by decide +kernel⟩
set_option maxHeartbeats 4000000 in
theorem tX3_add {l : Launch} {G : GD} {M N Mo : Mem} {a0 : Nat} {a1 : Nat} {a2 : Int32} {a3 : Int32} (h : fX3_add M a0 a1 a2 a3 = some Mo) : MV l yX3_add cX3_add 6 2 42 G [.ref (G.2.1 a0), .ref (G.2.1 a1), .int a2, .int a3] M N Mo N := by
  unfold fX3_add at h
  obtain ⟨hsh, h⟩ := ck_out h
  refine MV_of (own := RX3) (by decide) rfl (Nat.le_of_ble_eq_true rfl) ?_
  intro p e s m args below meth c F S ls hl
  have hx := F.1
  have hb := F.2.1
  have hown := F.2.2.2.2.1
  have hts := F.2.2.2.2.2.1
  have hZ := F.2.2.2.2.2.2.2.2.2
  have hl : lv_has ls 6 [(0, .ref (G.2.1 a0)), (1, .ref (G.2.1 a1)), (2, .int a2), (3, .int a3)] := hl
  generalize s.heap = H, ([] : List Loc) = locs at S ⊢
  refine lv_aload_n (pc := 0) hx hb dX3_add_0 rfl (lv_at hl 1 rfl) ?_
  refine lv_iload_n (pc := 1) hx hb dX3_add_1 rfl (lv_at hl 2 rfl) ?_
  obtain ⟨v2, e1, h⟩ := ob_out h
  refine c_vI (pc := 2) (rest := []) F S (tX6_dimmerOf e1) mfX6_dimmerOf (sX6_dimmerOf e1) (by decide) cl6 w515 ⟨Nat.le_of_ble_eq_true rfl, Nat.le_of_ble_eq_true rfl⟩ rfl hl.1 rfl (Nat.le_of_ble_eq_true rfl) dX3_add_2 (fun H locs S => ?_)
  refine lv_istore (pc := 5) (lv' := [(4, .int v2), (0, .ref (G.2.1 a0)), (1, .ref (G.2.1 a1)), (2, .int a2), (3, .int a3)]) hx hb dX3_add_5 hl (by decide) rfl (fun ls hl => ?_)
  refine lv_aload_n (pc := 7) hx hb dX3_add_7 rfl (lv_at hl 2 rfl) ?_
  refine lv_iload (pc := 8) hx hb dX3_add_8 (lv_at hl 0 rfl) ?_
  obtain ⟨v4, e3, h⟩ := ob_out h
  refine c_vI (pc := 10) (rest := []) F S (tX6_phaseOf e3) mfX6_phaseOf (sX6_phaseOf e3) (by decide) cl6 w519 ⟨Nat.le_of_ble_eq_true rfl, Nat.le_of_ble_eq_true rfl⟩ rfl hl.1 rfl (Nat.le_of_ble_eq_true rfl) dX3_add_10 (fun H locs S => ?_)
  refine lv_istore (pc := 13) (lv' := [(5, .int v4), (4, .int v2), (0, .ref (G.2.1 a0)), (1, .ref (G.2.1 a1)), (2, .int a2), (3, .int a3)]) hx hb dX3_add_13 hl (by decide) rfl (fun ls hl => ?_)
  refine lv_iload (pc := 15) hx hb dX3_add_15 (lv_at hl 1 rfl) ?_
  obtain ⟨v6, e5, h⟩ := ob_out h
  refine c_nI (pc := 17) (rest := []) F S (tX11_isDimmer e5) mfX11_isDimmer wn19 ⟨Nat.le_of_ble_eq_true rfl, Nat.le_of_ble_eq_true rfl⟩ rfl hl.1 rfl (Nat.le_of_ble_eq_true rfl) dX3_add_17 (fun H locs S => ?_)
  refine lv_if_eq (pc := 20) (tgt := 53) hx hb dX3_add_20 (by decide) (fun c7 => ?_) (fun c7 => ?_)
  · replace h := (if_pos c7).symm.trans h
    cases h
    exact r_vret (pc := 53) F S dX3_add_53
  · replace h := (if_neg c7).symm.trans h
    refine lv_iload (pc := 23) hx hb dX3_add_23 (lv_at hl 0 rfl) ?_
    obtain ⟨v9, e8, h⟩ := ob_out h
    refine c_nI (pc := 25) (rest := []) F S (tX11_isPhase e8) mfX11_isPhase wn20 ⟨Nat.le_of_ble_eq_true rfl, Nat.le_of_ble_eq_true rfl⟩ rfl hl.1 rfl (Nat.le_of_ble_eq_true rfl) dX3_add_25 (fun H locs S => ?_)
    refine lv_if_eq (pc := 28) (tgt := 53) hx hb dX3_add_28 (by decide) (fun c10 => ?_) (fun c10 => ?_)
    · replace h := (if_pos c10).symm.trans h
      cases h
      exact r_vret (pc := 53) F S dX3_add_53
    · replace h := (if_neg c10).symm.trans h
      refine lv_aload_n (pc := 31) hx hb dX3_add_31 rfl (lv_at hl 2 rfl) ?_
      obtain ⟨x11, e12, h⟩ := ob_out h
      refine r_gR (pc := 32) (k := 0) F S e12 (by decide) cl3 inRX3 (by decide) w260 (fun _ => rfl) dX3_add_32 ?_
      refine lv_iload (pc := 35) hx hb dX3_add_35 (lv_at hl 1 rfl) ?_
      refine lv_dup2_11 (pc := 37) hx hb dX3_add_37 rfl rfl ?_
      obtain ⟨v13, e14, h⟩ := ob_out h
      refine r_aL (pc := 38) F S e14 dX3_add_38 ?_
      refine lv_iload_n (pc := 39) hx hb dX3_add_39 rfl (lv_at hl 5 rfl) ?_
      refine lv_iadd (pc := 40) hx hb dX3_add_40 ?_
      obtain ⟨M15, e16, h⟩ := ob_out h
      refine r_aS (pc := 41) F S e16 dX3_add_41 (fun H locs S => ?_)
      refine lv_aload_n (pc := 42) hx hb dX3_add_42 rfl (lv_at hl 2 rfl) ?_
      obtain ⟨x17, e18, h⟩ := ob_out h
      refine r_gR (pc := 43) (k := 1) F S e18 (by decide) cl3 inRX3 (by decide) w265 (fun _ => rfl) dX3_add_43 ?_
      refine lv_iload (pc := 46) hx hb dX3_add_46 (lv_at hl 0 rfl) ?_
      refine lv_dup2_11 (pc := 48) hx hb dX3_add_48 rfl rfl ?_
      obtain ⟨v19, e20, h⟩ := ob_out h
      refine r_aL (pc := 49) F S e20 dX3_add_49 ?_
      refine lv_iload_n (pc := 50) hx hb dX3_add_50 rfl (lv_at hl 5 rfl) ?_
      refine lv_iadd (pc := 51) hx hb dX3_add_51 ?_
      obtain ⟨M21, e22, h⟩ := ob_out h
      refine r_aS (pc := 52) F S e22 dX3_add_52 (fun H locs S => ?_)
      cases h
      exact r_vret (pc := 53) F S dX3_add_53
theorem sX3_measureCue {M : Mem} {a0 : Nat} {a1 : Nat} {a2 : Int32} {a3 : Nat} {r : Mem} (h : fX3_measureCue M a0 a1 a2 a3 = some r) : shp a0 = 3 := by
  unfold fX3_measureCue at h
  exact (ck_out h).1
theorem mfX3_measureCue : MF true yX3_measureCue RX3 cX3_measureCue 5 none 3 := ⟨w494, w10, by rw [if_pos rfl]; exact ⟨w492, w493⟩, ⟨by decide, by decide⟩, by decide +kernel⟩
set_option maxHeartbeats 4000000 in
theorem pX3_measureCue_L16 {p : Program} {l : Launch} {e : Env} {s : State} {m : MethodId} {args : Array Value} {below : List Frame} {meth : Method} {c : Code} {Q : State → Prop} {G : GD} (F : FX p s m args meth c RX3 cX3_measureCue 5 none G) : ∀ (n : Nat) {M N : Mem} {a0 : Nat} {a1 : Nat} {a2 : Int32} {a3 : Nat} {a4 : Int32} {H : Heap} {locs : List Loc} {ls : Array Slot} {Mo : Mem}, shp a0 = 3 → ST G M N s H locs → lv_has ls 5 [(0, .ref (G.2.1 a0)), (1, .ref (G.2.1 a1)), (2, .int a2), (3, .ref (G.2.1 a3)), (4, .int a4)] → fX3_measureCue_L16 n M a0 a1 a2 a3 a4 = some Mo → (K1 : ∀ (H : Heap) (locs : List Loc) (ls : Array Slot), ST G Mo N s H locs → lv_has ls 5 [] → W p l e (Rm 3 67) s m args below meth c H locs 0 0 Q (F0 m 51 ls [])) → W p l e (Rm 3 67) s m args below meth c H locs 0 0 Q (F0 m 16 ls []) := by
  intro n
  induction n with
  | zero => intro M N a0 a1 a2 a3 a4 H locs ls Mo hsh S hl h K1; cases h
  | succ n ih =>
    intro M N a0 a1 a2 a3 a4 H locs ls Mo hsh S hl h K1
    rw [fX3_measureCue_L16] at h
    have hx := F.1
    have hb := F.2.1
    have hown := F.2.2.2.2.1
    have hts := F.2.2.2.2.2.1
    have hZ := F.2.2.2.2.2.2.2.2.2
    refine lv_iload (pc := 16) hx hb dX3_measureCue_16 (lv_at hl 4 rfl) ?_
    refine lv_aload_n (pc := 18) hx hb dX3_measureCue_18 rfl (lv_at hl 1 rfl) ?_
    obtain ⟨v6, e7, h⟩ := ob_out h
    refine r_gI (pc := 19) (k := 2) F S e7 (by decide) cl6 inRX6 (by decide) w108 (fun _ => rfl) dX3_measureCue_19 ?_
    refine lv_icmp_ge (pc := 22) (tgt := 51) hx hb dX3_measureCue_22 (by decide) (fun c8 => ?_) (fun c8 => ?_)
    · replace h := (if_pos c8).symm.trans h
      cases h
      exact K1 H locs ls S (lv_sub hl [] rfl)
    · replace h := (if_neg c8).symm.trans h
      refine lv_aload_n (pc := 25) hx hb dX3_measureCue_25 rfl (lv_at hl 0 rfl) ?_
      refine lv_aload_n (pc := 26) hx hb dX3_measureCue_26 rfl (lv_at hl 1 rfl) ?_
      refine lv_iload (pc := 27) hx hb dX3_measureCue_27 (lv_at hl 4 rfl) ?_
      refine lv_aload_n (pc := 29) hx hb dX3_measureCue_29 rfl (lv_at hl 1 rfl) ?_
      refine lv_iload (pc := 30) hx hb dX3_measureCue_30 (lv_at hl 4 rfl) ?_
      refine lv_aload_n (pc := 32) hx hb dX3_measureCue_32 rfl (lv_at hl 1 rfl) ?_
      obtain ⟨x9, e10, h⟩ := ob_out h
      refine r_gR (pc := 33) (k := 9) F S e10 (by decide) cl6 inRX6 (by decide) w128 (fun _ => rfl) dX3_measureCue_33 ?_
      refine lv_iload_n (pc := 36) hx hb dX3_measureCue_36 rfl (lv_at hl 2 rfl) ?_
      obtain ⟨x11, e12, h⟩ := ob_out h
      refine r_aR24 (pc := 37) F S e12 dX3_measureCue_37 ?_
      refine lv_aload_n (pc := 38) hx hb dX3_measureCue_38 rfl (lv_at hl 3 rfl) ?_
      obtain ⟨v14, e13, h⟩ := ob_out h
      refine c_vI (pc := 39) (rest := [.int a4, .ref (G.2.1 a1), .ref (G.2.1 a0)]) F S (tX6_draw e13) mfX6_draw (sX6_draw e13) (by decide) cl6 w503 ⟨Nat.le_of_ble_eq_true rfl, Nat.le_of_ble_eq_true rfl⟩ rfl hl.1 rfl (Nat.le_of_ble_eq_true rfl) dX3_measureCue_39 (fun H locs S => ?_)
      obtain ⟨M16, e15, h⟩ := ob_out h
      refine c_vV (pc := 42) (rest := []) F S (tX3_add e15) mfX3_add (sX3_add e15) (by decide) cl3 w511 ⟨Nat.le_of_ble_eq_true rfl, Nat.le_of_ble_eq_true rfl⟩ rfl hl.1 rfl (Nat.le_of_ble_eq_true rfl) dX3_measureCue_42 (fun H locs S => ?_)
      refine lv_iinc (pc := 45) (lv' := [(4, .int (a4 + 1)), (0, .ref (G.2.1 a0)), (1, .ref (G.2.1 a1)), (2, .int a2), (3, .ref (G.2.1 a3))]) hx hb dX3_measureCue_45 hl (k := 4) rfl (iinc_n (by decide)) (by decide) rfl (fun ls hl => ?_)
      refine lv_goto (pc := 48) (tgt := 16) hx hb dX3_measureCue_48 (by decide) ?_
      exact ih hsh S (lv_sub hl [1, 2, 3, 4, 0] rfl) h K1
set_option maxHeartbeats 4000000 in
theorem tX3_measureCue {l : Launch} {G : GD} {M N Mo : Mem} {a0 : Nat} {a1 : Nat} {a2 : Int32} {a3 : Nat} (h : fX3_measureCue M a0 a1 a2 a3 = some Mo) : MV l yX3_measureCue cX3_measureCue 5 3 67 G [.ref (G.2.1 a0), .ref (G.2.1 a1), .int a2, .ref (G.2.1 a3)] M N Mo N := by
  unfold fX3_measureCue at h
  obtain ⟨hsh, h⟩ := ck_out h
  refine MV_of (own := RX3) (by decide) rfl (Nat.le_of_ble_eq_true rfl) ?_
  intro p e s m args below meth c F S ls hl
  have hx := F.1
  have hb := F.2.1
  have hown := F.2.2.2.2.1
  have hts := F.2.2.2.2.2.1
  have hZ := F.2.2.2.2.2.2.2.2.2
  have hl : lv_has ls 5 [(0, .ref (G.2.1 a0)), (1, .ref (G.2.1 a1)), (2, .int a2), (3, .ref (G.2.1 a3))] := hl
  generalize s.heap = H, ([] : List Loc) = locs at S ⊢
  refine lv_aload_n (pc := 0) hx hb dX3_measureCue_0 rfl (lv_at hl 0 rfl) ?_
  obtain ⟨M2, e1, h⟩ := ob_out h
  refine c_vV (pc := 1) (rest := []) F S (tX3_empty e1) mfX3_empty (sX3_empty e1) (by decide) cl3 w495 ⟨Nat.le_of_ble_eq_true rfl, Nat.le_of_ble_eq_true rfl⟩ rfl hl.1 rfl (Nat.le_of_ble_eq_true rfl) dX3_measureCue_1 (fun H locs S => ?_)
  refine lv_aload_n (pc := 4) hx hb dX3_measureCue_4 rfl (lv_at hl 1 rfl) ?_
  refine lv_iload_n (pc := 5) hx hb dX3_measureCue_5 rfl (lv_at hl 2 rfl) ?_
  obtain ⟨v4, e3, h⟩ := ob_out h
  refine c_vI (pc := 6) (rest := []) F S (tX6_isRecorded e3) mfX6_isRecorded (sX6_isRecorded e3) (by decide) cl6 w496 ⟨Nat.le_of_ble_eq_true rfl, Nat.le_of_ble_eq_true rfl⟩ rfl hl.1 rfl (Nat.le_of_ble_eq_true rfl) dX3_measureCue_6 (fun H locs S => ?_)
  refine lv_if_ne (pc := 9) (tgt := 13) hx hb dX3_measureCue_9 (by decide) (fun c5 => ?_) (fun c5 => ?_)
  · replace h := (if_neg c5).symm.trans h
    refine lv_iconst (pc := 13) (v := 0) hx hb dX3_measureCue_13 (by decide) ?_
    refine lv_istore (pc := 14) (lv' := [(4, .int 0), (0, .ref (G.2.1 a0)), (1, .ref (G.2.1 a1)), (2, .int a2), (3, .ref (G.2.1 a3))]) hx hb dX3_measureCue_14 hl (by decide) rfl (fun ls hl => ?_)
    obtain ⟨M6, e7, h⟩ := ob_out h
    refine pX3_measureCue_L16 F 5000 hsh S (lv_sub hl [1, 2, 3, 4, 0] rfl) e7 (fun H locs ls S hl => ?_)
    cases h
    exact r_vret (pc := 51) F S dX3_measureCue_51
  · replace h := (if_pos c5).symm.trans h
    cases h
    exact r_vret (pc := 12) F S dX3_measureCue_12
theorem mfX11_raise : MF false yX11_raise RX11 cX11_raise 3 none 2 := ⟨w527, w1, by rw [if_neg (by decide)]; exact w526, ⟨by decide, by decide⟩, by decide +kernel⟩
set_option maxHeartbeats 4000000 in
theorem pX11_raise_L2 {p : Program} {l : Launch} {e : Env} {s : State} {m : MethodId} {args : Array Value} {below : List Frame} {meth : Method} {c : Code} {Q : State → Prop} {G : GD} (F : FX p s m args meth c RX11 cX11_raise 3 none G) : ∀ (n : Nat) {M N : Mem} {a0 : Nat} {a1 : Nat} {a2 : Int32} {H : Heap} {locs : List Loc} {ls : Array Slot} {Mo : Mem}, ST G M N s H locs → lv_has ls 3 [(0, .ref (G.2.1 a0)), (1, .ref (G.2.1 a1)), (2, .int a2)] → fX11_raise_L2 n M a0 a1 a2 = some Mo → (K1 : ∀ (H : Heap) (locs : List Loc) (ls : Array Slot), ST G Mo N s H locs → lv_has ls 3 [] → W p l e (Rm 1 21) s m args below meth c H locs 0 0 Q (F0 m 32 ls [])) → W p l e (Rm 1 21) s m args below meth c H locs 0 0 Q (F0 m 2 ls []) := by
  intro n
  induction n with
  | zero => intro M N a0 a1 a2 H locs ls Mo S hl h K1; cases h
  | succ n ih =>
    intro M N a0 a1 a2 H locs ls Mo S hl h K1
    rw [fX11_raise_L2] at h
    have hx := F.1
    have hb := F.2.1
    have hown := F.2.2.2.2.1
    have hts := F.2.2.2.2.2.1
    have hZ := F.2.2.2.2.2.2.2.2.2
    refine lv_iload_n (pc := 2) hx hb dX11_raise_2 rfl (lv_at hl 2 rfl) ?_
    refine lv_aload_n (pc := 3) hx hb dX11_raise_3 rfl (lv_at hl 0 rfl) ?_
    obtain ⟨v1, e2, h⟩ := ob_out h
    refine r_aN (pc := 4) F S e2 (by decide) dX11_raise_4 ?_
    refine lv_icmp_ge (pc := 5) (tgt := 32) hx hb dX11_raise_5 (by decide) (fun c3 => ?_) (fun c3 => ?_)
    · replace h := (if_pos c3).symm.trans h
      cases h
      exact K1 H locs ls S (lv_sub hl [] rfl)
    · replace h := (if_neg c3).symm.trans h
      refine lv_iload_n (pc := 8) hx hb dX11_raise_8 rfl (lv_at hl 2 rfl) ?_
      refine lv_aload_n (pc := 9) hx hb dX11_raise_9 rfl (lv_at hl 1 rfl) ?_
      obtain ⟨v4, e5, h⟩ := ob_out h
      refine r_aN (pc := 10) F S e5 (by decide) dX11_raise_10 ?_
      refine lv_icmp_ge (pc := 11) (tgt := 32) hx hb dX11_raise_11 (by decide) (fun c6 => ?_) (fun c6 => ?_)
      · replace h := (if_pos c6).symm.trans h
        cases h
        exact K1 H locs ls S (lv_sub hl [] rfl)
      · replace h := (if_neg c6).symm.trans h
        refine lv_aload_n (pc := 14) hx hb dX11_raise_14 rfl (lv_at hl 0 rfl) ?_
        refine lv_iload_n (pc := 15) hx hb dX11_raise_15 rfl (lv_at hl 2 rfl) ?_
        refine lv_aload_n (pc := 16) hx hb dX11_raise_16 rfl (lv_at hl 0 rfl) ?_
        refine lv_iload_n (pc := 17) hx hb dX11_raise_17 rfl (lv_at hl 2 rfl) ?_
        obtain ⟨v7, e8, h⟩ := ob_out h
        refine r_aL (pc := 18) F S e8 dX11_raise_18 ?_
        refine lv_aload_n (pc := 19) hx hb dX11_raise_19 rfl (lv_at hl 1 rfl) ?_
        refine lv_iload_n (pc := 20) hx hb dX11_raise_20 rfl (lv_at hl 2 rfl) ?_
        obtain ⟨v9, e10, h⟩ := ob_out h
        refine r_aL (pc := 21) F S e10 dX11_raise_21 ?_
        refine c_max (pc := 22) F w457 w458 w14 w459 (Nat.le_of_ble_eq_true rfl) hl.1 (Nat.le_of_ble_eq_true rfl) dX11_raise_22 ?_
        obtain ⟨M11, e12, h⟩ := ob_out h
        refine r_aS (pc := 25) F S e12 dX11_raise_25 (fun H locs S => ?_)
        refine lv_iinc (pc := 26) (lv' := [(2, .int (a2 + 1)), (0, .ref (G.2.1 a0)), (1, .ref (G.2.1 a1))]) hx hb dX11_raise_26 hl (k := 2) rfl (iinc_n (by decide)) (by decide) rfl (fun ls hl => ?_)
        refine lv_goto (pc := 29) (tgt := 2) hx hb dX11_raise_29 (by decide) ?_
        exact ih S (lv_sub hl [1, 2, 0] rfl) h K1
set_option maxHeartbeats 4000000 in
theorem tX11_raise {l : Launch} {G : GD} {M N Mo : Mem} {a0 : Nat} {a1 : Nat} (h : fX11_raise M a0 a1 = some Mo) : MV l yX11_raise cX11_raise 3 1 21 G [.ref (G.2.1 a0), .ref (G.2.1 a1)] M N Mo N := by
  unfold fX11_raise at h
  refine MV_of (own := RX11) (by decide) rfl (Nat.le_of_ble_eq_true rfl) ?_
  intro p e s m args below meth c F S ls hl
  have hx := F.1
  have hb := F.2.1
  have hown := F.2.2.2.2.1
  have hts := F.2.2.2.2.2.1
  have hZ := F.2.2.2.2.2.2.2.2.2
  have hl : lv_has ls 3 [(0, .ref (G.2.1 a0)), (1, .ref (G.2.1 a1))] := hl
  generalize s.heap = H, ([] : List Loc) = locs at S ⊢
  refine lv_iconst (pc := 0) (v := 0) hx hb dX11_raise_0 (by decide) ?_
  refine lv_istore_n (pc := 1) (lv' := [(2, .int 0), (0, .ref (G.2.1 a0)), (1, .ref (G.2.1 a1))]) hx hb dX11_raise_1 rfl hl (by decide) rfl (fun ls hl => ?_)
  obtain ⟨M1, e2, h⟩ := ob_out h
  refine pX11_raise_L2 F 5000 S (lv_sub hl [1, 2, 0] rfl) e2 (fun H locs ls S hl => ?_)
  cases h
  exact r_vret (pc := 32) F S dX11_raise_32
theorem mfX10_measure : MF true yX10_measure RX10 cX10_measure 4 none 2 := ⟨w483, w11, by rw [if_pos rfl]; exact ⟨w481, w482⟩, ⟨by decide, by decide⟩, by decide +kernel⟩
set_option maxHeartbeats 4000000 in
theorem pX10_measure_L9 {p : Program} {l : Launch} {e : Env} {s : State} {m : MethodId} {args : Array Value} {below : List Frame} {meth : Method} {c : Code} {Q : State → Prop} {G : GD} (F : FX p s m args meth c RX10 cX10_measure 4 none G) : ∀ (n : Nat) {M N : Mem} {a1 : Nat} {a2 : Nat} {a3 : Int32} {H : Heap} {locs : List Loc} {ls : Array Slot} {Mo : Mem}, ST G M N s H locs → lv_has ls 4 [(0, .ref (G.2.1 26)), (1, .ref (G.2.1 a1)), (2, .ref (G.2.1 a2)), (3, .int a3)] → fX10_measure_L9 n M a1 a2 a3 = some Mo → (K1 : ∀ (H : Heap) (locs : List Loc) (ls : Array Slot), ST G Mo N s H locs → lv_has ls 4 [] → W p l e (Rm 4 91) s m args below meth c H locs 0 0 Q (F0 m 65 ls [])) → W p l e (Rm 4 91) s m args below meth c H locs 0 0 Q (F0 m 9 ls []) := by
  intro n
  induction n with
  | zero => intro M N a1 a2 a3 H locs ls Mo S hl h K1; cases h
  | succ n ih =>
    intro M N a1 a2 a3 H locs ls Mo S hl h K1
    rw [fX10_measure_L9] at h
    have hx := F.1
    have hb := F.2.1
    have hown := F.2.2.2.2.1
    have hts := F.2.2.2.2.2.1
    have hZ := F.2.2.2.2.2.2.2.2.2
    refine lv_iload_n (pc := 9) hx hb dX10_measure_9 rfl (lv_at hl 3 rfl) ?_
    refine lv_bipush (pc := 10) (v := 8) hx hb dX10_measure_10 (by decide) ?_
    refine lv_icmp_ge (pc := 12) (tgt := 65) hx hb dX10_measure_12 (by decide) (fun c3 => ?_) (fun c3 => ?_)
    · replace h := (if_pos c3).symm.trans h
      cases h
      exact K1 H locs ls S (lv_sub hl [] rfl)
    · replace h := (if_neg c3).symm.trans h
      refine lv_aload_n (pc := 15) hx hb dX10_measure_15 rfl (lv_at hl 0 rfl) ?_
      refine r_gR (pc := 16) (k := 1) (x := 30) (i := 26) (ci := 10) F S (by decide) (by decide) cl10 inRX10 (by decide) w285 (fun _ => rfl) dX10_measure_16 ?_
      refine lv_aload_n (pc := 19) hx hb dX10_measure_19 rfl (lv_at hl 1 rfl) ?_
      refine lv_iload_n (pc := 20) hx hb dX10_measure_20 rfl (lv_at hl 3 rfl) ?_
      refine lv_aload_n (pc := 21) hx hb dX10_measure_21 rfl (lv_at hl 2 rfl) ?_
      obtain ⟨M5, e4, h⟩ := ob_out h
      refine c_vV (pc := 22) (rest := []) F S (tX3_measureCue e4) mfX3_measureCue (by decide) (by decide) cl3 w491 ⟨Nat.le_of_ble_eq_true rfl, Nat.le_of_ble_eq_true rfl⟩ rfl hl.1 rfl (Nat.le_of_ble_eq_true rfl) dX10_measure_22 (fun H locs S => ?_)
      refine lv_aload_n (pc := 25) hx hb dX10_measure_25 rfl (lv_at hl 0 rfl) ?_
      refine r_gR (pc := 26) (k := 0) (x := 27) (i := 26) (ci := 10) F S (by decide) (by decide) cl10 inRX10 (by decide) w283 (fun _ => rfl) dX10_measure_26 ?_
      refine r_gR (pc := 29) (k := 0) (x := 28) (i := 27) (ci := 3) F S (by decide) (by decide) cl3 inRX3 (by decide) w261 (fun _ => rfl) dX10_measure_29 ?_
      refine lv_aload_n (pc := 32) hx hb dX10_measure_32 rfl (lv_at hl 0 rfl) ?_
      refine r_gR (pc := 33) (k := 1) (x := 30) (i := 26) (ci := 10) F S (by decide) (by decide) cl10 inRX10 (by decide) w285 (fun _ => rfl) dX10_measure_33 ?_
      refine r_gR (pc := 36) (k := 0) (x := 31) (i := 30) (ci := 3) F S (by decide) (by decide) cl3 inRX3 (by decide) w261 (fun _ => rfl) dX10_measure_36 ?_
      obtain ⟨M7, e6, h⟩ := ob_out h
      refine c_nV (pc := 39) (rest := []) F S (tX11_raise e6) mfX11_raise wn21 ⟨Nat.le_of_ble_eq_true rfl, Nat.le_of_ble_eq_true rfl⟩ rfl hl.1 rfl (Nat.le_of_ble_eq_true rfl) dX10_measure_39 (fun H locs S => ?_)
      refine lv_aload_n (pc := 42) hx hb dX10_measure_42 rfl (lv_at hl 0 rfl) ?_
      refine r_gR (pc := 43) (k := 0) (x := 27) (i := 26) (ci := 10) F S (by decide) (by decide) cl10 inRX10 (by decide) w283 (fun _ => rfl) dX10_measure_43 ?_
      refine r_gR (pc := 46) (k := 1) (x := 29) (i := 27) (ci := 3) F S (by decide) (by decide) cl3 inRX3 (by decide) w266 (fun _ => rfl) dX10_measure_46 ?_
      refine lv_aload_n (pc := 49) hx hb dX10_measure_49 rfl (lv_at hl 0 rfl) ?_
      refine r_gR (pc := 50) (k := 1) (x := 30) (i := 26) (ci := 10) F S (by decide) (by decide) cl10 inRX10 (by decide) w285 (fun _ => rfl) dX10_measure_50 ?_
      refine r_gR (pc := 53) (k := 1) (x := 32) (i := 30) (ci := 3) F S (by decide) (by decide) cl3 inRX3 (by decide) w266 (fun _ => rfl) dX10_measure_53 ?_
      obtain ⟨M9, e8, h⟩ := ob_out h
      refine c_nV (pc := 56) (rest := []) F S (tX11_raise e8) mfX11_raise wn21 ⟨Nat.le_of_ble_eq_true rfl, Nat.le_of_ble_eq_true rfl⟩ rfl hl.1 rfl (Nat.le_of_ble_eq_true rfl) dX10_measure_56 (fun H locs S => ?_)
      refine lv_iinc (pc := 59) (lv' := [(3, .int (a3 + 1)), (0, .ref (G.2.1 26)), (1, .ref (G.2.1 a1)), (2, .ref (G.2.1 a2))]) hx hb dX10_measure_59 hl (k := 3) rfl (iinc_n (by decide)) (by decide) rfl (fun ls hl => ?_)
      refine lv_goto (pc := 62) (tgt := 9) hx hb dX10_measure_62 (by decide) ?_
      exact ih S (lv_sub hl [1, 2, 3, 0] rfl) h K1
set_option maxHeartbeats 4000000 in
theorem tX10_measure {l : Launch} {G : GD} {M N Mo : Mem} {a1 : Nat} {a2 : Nat} (h : fX10_measure M a1 a2 = some Mo) : MV l yX10_measure cX10_measure 4 4 91 G [.ref (G.2.1 26), .ref (G.2.1 a1), .ref (G.2.1 a2)] M N Mo N := by
  unfold fX10_measure at h
  refine MV_of (own := RX10) (by decide) rfl (Nat.le_of_ble_eq_true rfl) ?_
  intro p e s m args below meth c F S ls hl
  have hx := F.1
  have hb := F.2.1
  have hown := F.2.2.2.2.1
  have hts := F.2.2.2.2.2.1
  have hZ := F.2.2.2.2.2.2.2.2.2
  have hl : lv_has ls 4 [(0, .ref (G.2.1 26)), (1, .ref (G.2.1 a1)), (2, .ref (G.2.1 a2))] := hl
  generalize s.heap = H, ([] : List Loc) = locs at S ⊢
  refine lv_aload_n (pc := 0) hx hb dX10_measure_0 rfl (lv_at hl 0 rfl) ?_
  refine r_gR (pc := 1) (k := 0) (x := 27) (i := 26) (ci := 10) F S (by decide) (by decide) cl10 inRX10 (by decide) w283 (fun _ => rfl) dX10_measure_1 ?_
  obtain ⟨M2, e1, h⟩ := ob_out h
  refine c_vV (pc := 4) (rest := []) F S (tX3_empty e1) mfX3_empty (by decide) (by decide) cl3 w484 ⟨Nat.le_of_ble_eq_true rfl, Nat.le_of_ble_eq_true rfl⟩ rfl hl.1 rfl (Nat.le_of_ble_eq_true rfl) dX10_measure_4 (fun H locs S => ?_)
  refine lv_iconst (pc := 7) (v := 0) hx hb dX10_measure_7 (by decide) ?_
  refine lv_istore_n (pc := 8) (lv' := [(3, .int 0), (0, .ref (G.2.1 26)), (1, .ref (G.2.1 a1)), (2, .ref (G.2.1 a2))]) hx hb dX10_measure_8 rfl hl (by decide) rfl (fun ls hl => ?_)
  obtain ⟨M3, e4, h⟩ := ob_out h
  refine pX10_measure_L9 F 5000 S (lv_sub hl [1, 2, 3, 0] rfl) e4 (fun H locs ls S hl => ?_)
  cases h
  exact r_vret (pc := 65) F S dX10_measure_65
theorem mfX11_hasBit : MF false yX11_hasBit RX11 cX11_hasBit 2 (some .boolean) 2 := ⟨w538, w1, by rw [if_neg (by decide)]; exact w537, ⟨by decide, by decide⟩, by decide +kernel⟩
set_option maxHeartbeats 4000000 in
theorem tX11_hasBit {l : Launch} {G : GD} {M N : Mem} {a0 : Int32} {a1 : Int32} {r : Int32} (h : fX11_hasBit a0 a1 = some r) : MI l yX11_hasBit cX11_hasBit 2 .boolean 0 0 G [.int a0, .int a1] M N r M N := by
  unfold fX11_hasBit at h
  refine MI_of (own := RX11) (by decide) rfl (Nat.le_of_ble_eq_true rfl) ?_
  intro p e s m args below meth c F S ls hl
  have hx := F.1
  have hb := F.2.1
  have hown := F.2.2.2.2.1
  have hts := F.2.2.2.2.2.1
  have hZ := F.2.2.2.2.2.2.2.2.2
  have hl : lv_has ls 2 [(0, .int a0), (1, .int a1)] := hl
  generalize s.heap = H, ([] : List Loc) = locs at S ⊢
  refine lv_iload_n (pc := 0) hx hb dX11_hasBit_0 rfl (lv_at hl 0 rfl) ?_
  refine lv_iload_n (pc := 1) hx hb dX11_hasBit_1 rfl (lv_at hl 1 rfl) ?_
  refine lv_ishr (pc := 2) hx hb dX11_hasBit_2 ?_
  refine lv_iconst (pc := 3) (v := 1) hx hb dX11_hasBit_3 (by decide) ?_
  refine lv_iand (pc := 4) hx hb dX11_hasBit_4 ?_
  refine lv_if_eq (pc := 5) (tgt := 12) hx hb dX11_hasBit_5 (by decide) (fun c1 => ?_) (fun c1 => ?_)
  · replace h := (if_pos c1).symm.trans h
    refine lv_iconst (pc := 12) (v := 0) hx hb dX11_hasBit_12 (by decide) ?_
    cases h
    exact r_iret (pc := 13) F S rfl dX11_hasBit_13
  · replace h := (if_neg c1).symm.trans h
    refine lv_iconst (pc := 8) (v := 1) hx hb dX11_hasBit_8 (by decide) ?_
    refine lv_goto (pc := 9) (tgt := 13) hx hb dX11_hasBit_9 (by decide) ?_
    cases h
    exact r_iret (pc := 13) F S rfl dX11_hasBit_13
theorem mfX6_heaviestLeft : MF false yX6_heaviestLeft RX6 cX6_heaviestLeft 5 (some .int) 2 := ⟨w535, w4, by rw [if_neg (by decide)]; exact w534, ⟨by decide, by decide⟩, by decide +kernel⟩
set_option maxHeartbeats 4000000 in
theorem pX6_heaviestLeft_L7 {p : Program} {l : Launch} {e : Env} {s : State} {m : MethodId} {args : Array Value} {below : List Frame} {meth : Method} {c : Code} {Q : State → Prop} {G : GD} (F : FX p s m args meth c RX6 cX6_heaviestLeft 5 (some .int) G) : ∀ (n : Nat) {M N : Mem} {a0 : Nat} {a1 : Int32} {a2 : Int32} {a3 : Int32} {a4 : Int32} {H : Heap} {locs : List Loc} {ls : Array Slot} {o2 : Int32}, ST G M N s H locs → lv_has ls 5 [(0, .ref (G.2.1 a0)), (1, .int a1), (2, .int a2), (3, .int a3), (4, .int a4)] → fX6_heaviestLeft_L7 n M a0 a1 a2 a3 a4 = some o2 → (K1 : ∀ (H : Heap) (locs : List Loc) (ls : Array Slot), ST G M N s H locs → lv_has ls 5 [(2, .int o2)] → W p l e (Rm 1 21) s m args below meth c H locs 0 0 Q (F0 m 45 ls [])) → W p l e (Rm 1 21) s m args below meth c H locs 0 0 Q (F0 m 7 ls []) := by
  intro n
  induction n with
  | zero => intro M N a0 a1 a2 a3 a4 H locs ls o2 S hl h K1; cases h
  | succ n ih =>
    intro M N a0 a1 a2 a3 a4 H locs ls o2 S hl h K1
    rw [fX6_heaviestLeft_L7] at h
    have hx := F.1
    have hb := F.2.1
    have hown := F.2.2.2.2.1
    have hts := F.2.2.2.2.2.1
    have hZ := F.2.2.2.2.2.2.2.2.2
    refine lv_iload (pc := 7) hx hb dX6_heaviestLeft_7 (lv_at hl 4 rfl) ?_
    refine lv_aload_n (pc := 9) hx hb dX6_heaviestLeft_9 rfl (lv_at hl 0 rfl) ?_
    obtain ⟨v1, e2, h⟩ := ob_out h
    refine r_aN (pc := 10) F S e2 (by decide) dX6_heaviestLeft_10 ?_
    refine lv_icmp_ge (pc := 11) (tgt := 45) hx hb dX6_heaviestLeft_11 (by decide) (fun c3 => ?_) (fun c3 => ?_)
    · replace h := (if_pos c3).symm.trans h
      cases h
      exact K1 H locs ls S (lv_sub hl [2] rfl)
    · replace h := (if_neg c3).symm.trans h
      refine lv_iload_n (pc := 14) hx hb dX6_heaviestLeft_14 rfl (lv_at hl 1 rfl) ?_
      refine lv_iload (pc := 15) hx hb dX6_heaviestLeft_15 (lv_at hl 4 rfl) ?_
      obtain ⟨v5, e4, h⟩ := ob_out h
      refine c_nI (pc := 17) (rest := []) F S (tX11_hasBit e4) mfX11_hasBit wn23 ⟨Nat.le_of_ble_eq_true rfl, Nat.le_of_ble_eq_true rfl⟩ rfl hl.1 rfl (Nat.le_of_ble_eq_true rfl) dX6_heaviestLeft_17 (fun H locs S => ?_)
      refine lv_if_ne (pc := 20) (tgt := 39) hx hb dX6_heaviestLeft_20 (by decide) (fun c6 => ?_) (fun c6 => ?_)
      · replace h := (if_neg c6).symm.trans h
        refine lv_iinc (pc := 39) (lv' := [(4, .int (a4 + 1)), (0, .ref (G.2.1 a0)), (1, .int a1), (2, .int a2), (3, .int a3)]) hx hb dX6_heaviestLeft_39 hl (k := 4) rfl (iinc_n (by decide)) (by decide) rfl (fun ls hl => ?_)
        refine lv_goto (pc := 42) (tgt := 7) hx hb dX6_heaviestLeft_42 (by decide) ?_
        exact ih S (lv_sub hl [1, 2, 3, 4, 0] rfl) h K1
      · replace h := (if_pos c6).symm.trans h
        refine lv_aload_n (pc := 23) hx hb dX6_heaviestLeft_23 rfl (lv_at hl 0 rfl) ?_
        refine lv_iload (pc := 24) hx hb dX6_heaviestLeft_24 (lv_at hl 4 rfl) ?_
        obtain ⟨v7, e8, h⟩ := ob_out h
        refine r_aL (pc := 26) F S e8 dX6_heaviestLeft_26 ?_
        refine lv_iload_n (pc := 27) hx hb dX6_heaviestLeft_27 rfl (lv_at hl 3 rfl) ?_
        refine lv_icmp_le (pc := 28) (tgt := 39) hx hb dX6_heaviestLeft_28 (by decide) (fun c9 => ?_) (fun c9 => ?_)
        · replace h := (if_pos c9).symm.trans h
          refine lv_iinc (pc := 39) (lv' := [(4, .int (a4 + 1)), (0, .ref (G.2.1 a0)), (1, .int a1), (2, .int a2), (3, .int a3)]) hx hb dX6_heaviestLeft_39 hl (k := 4) rfl (iinc_n (by decide)) (by decide) rfl (fun ls hl => ?_)
          refine lv_goto (pc := 42) (tgt := 7) hx hb dX6_heaviestLeft_42 (by decide) ?_
          exact ih S (lv_sub hl [1, 2, 3, 4, 0] rfl) h K1
        · replace h := (if_neg c9).symm.trans h
          refine lv_aload_n (pc := 31) hx hb dX6_heaviestLeft_31 rfl (lv_at hl 0 rfl) ?_
          refine lv_iload (pc := 32) hx hb dX6_heaviestLeft_32 (lv_at hl 4 rfl) ?_
          obtain ⟨v10, e11, h⟩ := ob_out h
          refine r_aL (pc := 34) F S e11 dX6_heaviestLeft_34 ?_
          refine lv_istore_n (pc := 35) (lv' := [(3, .int v10), (0, .ref (G.2.1 a0)), (1, .int a1), (2, .int a2), (4, .int a4)]) hx hb dX6_heaviestLeft_35 rfl hl (by decide) rfl (fun ls hl => ?_)
          refine lv_iload (pc := 36) hx hb dX6_heaviestLeft_36 (lv_at hl 4 rfl) ?_
          refine lv_istore_n (pc := 38) (lv' := [(2, .int a4), (3, .int v10), (0, .ref (G.2.1 a0)), (1, .int a1), (4, .int a4)]) hx hb dX6_heaviestLeft_38 rfl hl (by decide) rfl (fun ls hl => ?_)
          refine lv_iinc (pc := 39) (lv' := [(4, .int (a4 + 1)), (2, .int a4), (3, .int v10), (0, .ref (G.2.1 a0)), (1, .int a1)]) hx hb dX6_heaviestLeft_39 hl (k := 4) rfl (iinc_n (by decide)) (by decide) rfl (fun ls hl => ?_)
          refine lv_goto (pc := 42) (tgt := 7) hx hb dX6_heaviestLeft_42 (by decide) ?_
          exact ih S (lv_sub hl [3, 4, 1, 2, 0] rfl) h K1
set_option maxHeartbeats 4000000 in
theorem tX6_heaviestLeft {l : Launch} {G : GD} {M N : Mem} {a0 : Nat} {a1 : Int32} {r : Int32} (h : fX6_heaviestLeft M a0 a1 = some r) : MI l yX6_heaviestLeft cX6_heaviestLeft 5 .int 1 21 G [.ref (G.2.1 a0), .int a1] M N r M N := by
  unfold fX6_heaviestLeft at h
  refine MI_of (own := RX6) (by decide) rfl (Nat.le_of_ble_eq_true rfl) ?_
  intro p e s m args below meth c F S ls hl
  have hx := F.1
  have hb := F.2.1
  have hown := F.2.2.2.2.1
  have hts := F.2.2.2.2.2.1
  have hZ := F.2.2.2.2.2.2.2.2.2
  have hl : lv_has ls 5 [(0, .ref (G.2.1 a0)), (1, .int a1)] := hl
  generalize s.heap = H, ([] : List Loc) = locs at S ⊢
  refine lv_iconst (pc := 0) (v := 0) hx hb dX6_heaviestLeft_0 (by decide) ?_
  refine lv_istore_n (pc := 1) (lv' := [(2, .int 0), (0, .ref (G.2.1 a0)), (1, .int a1)]) hx hb dX6_heaviestLeft_1 rfl hl (by decide) rfl (fun ls hl => ?_)
  refine lv_iconst (pc := 2) (v := (-1)) hx hb dX6_heaviestLeft_2 (by decide) ?_
  refine lv_istore_n (pc := 3) (lv' := [(3, .int (-1)), (2, .int 0), (0, .ref (G.2.1 a0)), (1, .int a1)]) hx hb dX6_heaviestLeft_3 rfl hl (by decide) rfl (fun ls hl => ?_)
  refine lv_iconst (pc := 4) (v := 0) hx hb dX6_heaviestLeft_4 (by decide) ?_
  refine lv_istore (pc := 5) (lv' := [(4, .int 0), (3, .int (-1)), (2, .int 0), (0, .ref (G.2.1 a0)), (1, .int a1)]) hx hb dX6_heaviestLeft_5 hl (by decide) rfl (fun ls hl => ?_)
  obtain ⟨v1, e2, h⟩ := ob_out h
  refine pX6_heaviestLeft_L7 F 5000 S (lv_sub hl [3, 4, 2, 1, 0] rfl) e2 (fun H locs ls S hl => ?_)
  refine lv_iload_n (pc := 45) hx hb dX6_heaviestLeft_45 rfl (lv_at hl 0 rfl) ?_
  cases h
  exact r_iret (pc := 46) F S rfl dX6_heaviestLeft_46
theorem mfX6_lightest : MF false yX6_lightest RX6 cX6_lightest 3 (some .int) 1 := ⟨w541, w4, by rw [if_neg (by decide)]; exact w540, ⟨by decide, by decide⟩, by decide +kernel⟩
set_option maxHeartbeats 4000000 in
theorem pX6_lightest_L4 {p : Program} {l : Launch} {e : Env} {s : State} {m : MethodId} {args : Array Value} {below : List Frame} {meth : Method} {c : Code} {Q : State → Prop} {G : GD} (F : FX p s m args meth c RX6 cX6_lightest 3 (some .int) G) : ∀ (n : Nat) {M N : Mem} {a0 : Nat} {a1 : Int32} {a2 : Int32} {H : Heap} {locs : List Loc} {ls : Array Slot} {o1 : Int32}, ST G M N s H locs → lv_has ls 3 [(0, .ref (G.2.1 a0)), (1, .int a1), (2, .int a2)] → fX6_lightest_L4 n M a0 a1 a2 = some o1 → (K1 : ∀ (H : Heap) (locs : List Loc) (ls : Array Slot), ST G M N s H locs → lv_has ls 3 [(1, .int o1)] → W p l e (Rm 0 0) s m args below meth c H locs 0 0 Q (F0 m 27 ls [])) → W p l e (Rm 0 0) s m args below meth c H locs 0 0 Q (F0 m 4 ls []) := by
  intro n
  induction n with
  | zero => intro M N a0 a1 a2 H locs ls o1 S hl h K1; cases h
  | succ n ih =>
    intro M N a0 a1 a2 H locs ls o1 S hl h K1
    rw [fX6_lightest_L4] at h
    have hx := F.1
    have hb := F.2.1
    have hown := F.2.2.2.2.1
    have hts := F.2.2.2.2.2.1
    have hZ := F.2.2.2.2.2.2.2.2.2
    refine lv_iload_n (pc := 4) hx hb dX6_lightest_4 rfl (lv_at hl 2 rfl) ?_
    refine lv_aload_n (pc := 5) hx hb dX6_lightest_5 rfl (lv_at hl 0 rfl) ?_
    obtain ⟨v1, e2, h⟩ := ob_out h
    refine r_aN (pc := 6) F S e2 (by decide) dX6_lightest_6 ?_
    refine lv_icmp_ge (pc := 7) (tgt := 27) hx hb dX6_lightest_7 (by decide) (fun c3 => ?_) (fun c3 => ?_)
    · replace h := (if_pos c3).symm.trans h
      cases h
      exact K1 H locs ls S (lv_sub hl [1] rfl)
    · replace h := (if_neg c3).symm.trans h
      refine lv_aload_n (pc := 10) hx hb dX6_lightest_10 rfl (lv_at hl 0 rfl) ?_
      refine lv_iload_n (pc := 11) hx hb dX6_lightest_11 rfl (lv_at hl 2 rfl) ?_
      obtain ⟨v4, e5, h⟩ := ob_out h
      refine r_aL (pc := 12) F S e5 dX6_lightest_12 ?_
      refine lv_aload_n (pc := 13) hx hb dX6_lightest_13 rfl (lv_at hl 0 rfl) ?_
      refine lv_iload_n (pc := 14) hx hb dX6_lightest_14 rfl (lv_at hl 1 rfl) ?_
      obtain ⟨v6, e7, h⟩ := ob_out h
      refine r_aL (pc := 15) F S e7 dX6_lightest_15 ?_
      refine lv_icmp_ge (pc := 16) (tgt := 21) hx hb dX6_lightest_16 (by decide) (fun c8 => ?_) (fun c8 => ?_)
      · replace h := (if_pos c8).symm.trans h
        refine lv_iinc (pc := 21) (lv' := [(2, .int (a2 + 1)), (0, .ref (G.2.1 a0)), (1, .int a1)]) hx hb dX6_lightest_21 hl (k := 2) rfl (iinc_n (by decide)) (by decide) rfl (fun ls hl => ?_)
        refine lv_goto (pc := 24) (tgt := 4) hx hb dX6_lightest_24 (by decide) ?_
        exact ih S (lv_sub hl [1, 2, 0] rfl) h K1
      · replace h := (if_neg c8).symm.trans h
        refine lv_iload_n (pc := 19) hx hb dX6_lightest_19 rfl (lv_at hl 2 rfl) ?_
        refine lv_istore_n (pc := 20) (lv' := [(1, .int a2), (0, .ref (G.2.1 a0)), (2, .int a2)]) hx hb dX6_lightest_20 rfl hl (by decide) rfl (fun ls hl => ?_)
        refine lv_iinc (pc := 21) (lv' := [(2, .int (a2 + 1)), (1, .int a2), (0, .ref (G.2.1 a0))]) hx hb dX6_lightest_21 hl (k := 2) rfl (iinc_n (by decide)) (by decide) rfl (fun ls hl => ?_)
        refine lv_goto (pc := 24) (tgt := 4) hx hb dX6_lightest_24 (by decide) ?_
        exact ih S (lv_sub hl [2, 1, 0] rfl) h K1
set_option maxHeartbeats 4000000 in
theorem tX6_lightest {l : Launch} {G : GD} {M N : Mem} {a0 : Nat} {r : Int32} (h : fX6_lightest M a0 = some r) : MI l yX6_lightest cX6_lightest 3 .int 0 0 G [.ref (G.2.1 a0)] M N r M N := by
  unfold fX6_lightest at h
  refine MI_of (own := RX6) (by decide) rfl (Nat.le_of_ble_eq_true rfl) ?_
  intro p e s m args below meth c F S ls hl
  have hx := F.1
  have hb := F.2.1
  have hown := F.2.2.2.2.1
  have hts := F.2.2.2.2.2.1
  have hZ := F.2.2.2.2.2.2.2.2.2
  have hl : lv_has ls 3 [(0, .ref (G.2.1 a0))] := hl
  generalize s.heap = H, ([] : List Loc) = locs at S ⊢
  refine lv_iconst (pc := 0) (v := 0) hx hb dX6_lightest_0 (by decide) ?_
  refine lv_istore_n (pc := 1) (lv' := [(1, .int 0), (0, .ref (G.2.1 a0))]) hx hb dX6_lightest_1 rfl hl (by decide) rfl (fun ls hl => ?_)
  refine lv_iconst (pc := 2) (v := 1) hx hb dX6_lightest_2 (by decide) ?_
  refine lv_istore_n (pc := 3) (lv' := [(2, .int 1), (1, .int 0), (0, .ref (G.2.1 a0))]) hx hb dX6_lightest_3 rfl hl (by decide) rfl (fun ls hl => ?_)
  obtain ⟨v1, e2, h⟩ := ob_out h
  refine pX6_lightest_L4 F 5000 S (lv_sub hl [2, 1, 0] rfl) e2 (fun H locs ls S hl => ?_)
  refine lv_iload_n (pc := 27) hx hb dX6_lightest_27 rfl (lv_at hl 0 rfl) ?_
  cases h
  exact r_iret (pc := 28) F S rfl dX6_lightest_28
