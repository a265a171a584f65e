/-! the walks: each method does what its function says -/
theorem mfX11_isIn : MF false yX11_isIn RX11 cX11_isIn 3 (some .boolean) 3 := ⟨w355, w1, by rw [if_neg (by decide)]; exact w354, ⟨by decide, by decide⟩, by decide +kernel⟩
set_option maxHeartbeats 4000000 in
theorem tX11_isIn {l : Launch} {G : GD} {M N : Mem} {a0 : Int32} {a1 : Int32} {a2 : Int32} {r : Int32} (h : fX11_isIn a0 a1 a2 = some r) : MI l yX11_isIn cX11_isIn 3 .boolean 0 0 G [.int a0, .int a1, .int a2] M N r M N := by
  unfold fX11_isIn at h
  refine MI_of (own := RX11) (by decide) rfl (Nat.le_of_ble_eq_true rfl) ?_
  intro p e s m args below meth c F S ls hl
  have hx := F.1
  have hb := F.2.1
  have hown := F.2.2.2.2.1
  have hts := F.2.2.2.2.2.1
  have hZ := F.2.2.2.2.2.2.2.2.2
  have hl : lv_has ls 3 [(0, .int a0), (1, .int a1), (2, .int a2)] := hl
  generalize s.heap = H, ([] : List Loc) = locs at S ⊢
  refine lv_iload_n (pc := 0) hx hb dX11_isIn_0 rfl (lv_at hl 0 rfl) ?_
  refine lv_iload_n (pc := 1) hx hb dX11_isIn_1 rfl (lv_at hl 1 rfl) ?_
  refine lv_icmp_lt (pc := 2) (tgt := 14) hx hb dX11_isIn_2 (by decide) (fun c1 => ?_) (fun c1 => ?_)
  · replace h := (if_pos c1).symm.trans h
    refine lv_iconst (pc := 14) (v := 0) hx hb dX11_isIn_14 (by decide) ?_
    cases h
    exact r_iret (pc := 15) F S rfl dX11_isIn_15
  · replace h := (if_neg c1).symm.trans h
    refine lv_iload_n (pc := 5) hx hb dX11_isIn_5 rfl (lv_at hl 0 rfl) ?_
    refine lv_iload_n (pc := 6) hx hb dX11_isIn_6 rfl (lv_at hl 2 rfl) ?_
    refine lv_icmp_gt (pc := 7) (tgt := 14) hx hb dX11_isIn_7 (by decide) (fun c2 => ?_) (fun c2 => ?_)
    · replace h := (if_pos c2).symm.trans h
      refine lv_iconst (pc := 14) (v := 0) hx hb dX11_isIn_14 (by decide) ?_
      cases h
      exact r_iret (pc := 15) F S rfl dX11_isIn_15
    · replace h := (if_neg c2).symm.trans h
      refine lv_iconst (pc := 10) (v := 1) hx hb dX11_isIn_10 (by decide) ?_
      refine lv_goto (pc := 11) (tgt := 15) hx hb dX11_isIn_11 (by decide) ?_
      cases h
      exact r_iret (pc := 15) F S rfl dX11_isIn_15
theorem mfX2_dropOldest : MF true yX2_dropOldest RX2 cX2_dropOldest 3 none 0 := ⟨w365, w7, by rw [if_pos rfl]; exact ⟨w364, wp0⟩, ⟨by decide, by decide⟩, by decide +kernel⟩
set_option maxHeartbeats 4000000 in
theorem pX2_dropOldest_L9 {p : Program} {l : Launch} {e : Env} {s : State} {m : MethodId} {args : Array Value} {below : List Frame} {meth : Method} {c : Code} {Q : State → Prop} {G : GD} (F : FX p s m args meth c RX2 cX2_dropOldest 3 none G) : ∀ (n : Nat) {M N : Mem} {a1 : Nat} {a2 : Int32} {H : Heap} {locs : List Loc} {ls : Array Slot} {Mo : Mem}, ST G M N s H locs → lv_has ls 3 [(0, .ref (G.2.1 12)), (1, .ref (G.2.1 a1)), (2, .int a2)] → fX2_dropOldest_L9 n M a1 a2 = some Mo → (K1 : ∀ (H : Heap) (locs : List Loc) (ls : Array Slot), ST G Mo N s H locs → lv_has ls 3 [(0, .ref (G.2.1 12)), (1, .ref (G.2.1 a1))] → W p l e (Rm 0 0) s m args below meth c H locs 0 0 Q (F0 m 40 ls [])) → W p l e (Rm 0 0) s m args below meth c H locs 0 0 Q (F0 m 9 ls []) := by
  intro n
  induction n with
  | zero => intro M N a1 a2 H locs ls Mo S hl h K1; cases h
  | succ n ih =>
    intro M N a1 a2 H locs ls Mo S hl h K1
    rw [fX2_dropOldest_L9] at h
    have hx := F.1
    have hb := F.2.1
    have hown := F.2.2.2.2.1
    have hts := F.2.2.2.2.2.1
    have hZ := F.2.2.2.2.2.2.2.2.2
    refine lv_iload_n (pc := 9) hx hb dX2_dropOldest_9 rfl (lv_at hl 2 rfl) ?_
    refine lv_iconst (pc := 10) (v := 1) hx hb dX2_dropOldest_10 (by decide) ?_
    refine lv_iadd (pc := 11) hx hb dX2_dropOldest_11 ?_
    refine lv_aload_n (pc := 12) hx hb dX2_dropOldest_12 rfl (lv_at hl 0 rfl) ?_
    refine r_gR (pc := 13) (k := 0) (x := 13) (i := 12) (ci := 2) F S (by decide) (by decide) cl2 inRX2 (by decide) w188 (fun _ => rfl) dX2_dropOldest_13 ?_
    refine r_aN (pc := 16) (t := 23) (i := 13) (x := 6) F S (by decide) (by decide) dX2_dropOldest_16 ?_
    refine lv_icmp_ge (pc := 17) (tgt := 40) hx hb dX2_dropOldest_17 (by decide) (fun c3 => ?_) (fun c3 => ?_)
    · replace h := (if_pos c3).symm.trans h
      cases h
      exact K1 H locs ls S (lv_sub hl [0, 1] rfl)
    · replace h := (if_neg c3).symm.trans h
      refine lv_aload_n (pc := 20) hx hb dX2_dropOldest_20 rfl (lv_at hl 0 rfl) ?_
      refine r_gR (pc := 21) (k := 0) (x := 13) (i := 12) (ci := 2) F S (by decide) (by decide) cl2 inRX2 (by decide) w188 (fun _ => rfl) dX2_dropOldest_21 ?_
      refine lv_iload_n (pc := 24) hx hb dX2_dropOldest_24 rfl (lv_at hl 2 rfl) ?_
      refine lv_aload_n (pc := 25) hx hb dX2_dropOldest_25 rfl (lv_at hl 0 rfl) ?_
      refine r_gR (pc := 26) (k := 0) (x := 13) (i := 12) (ci := 2) F S (by decide) (by decide) cl2 inRX2 (by decide) w188 (fun _ => rfl) dX2_dropOldest_26 ?_
      refine lv_iload_n (pc := 29) hx hb dX2_dropOldest_29 rfl (lv_at hl 2 rfl) ?_
      refine lv_iconst (pc := 30) (v := 1) hx hb dX2_dropOldest_30 (by decide) ?_
      refine lv_iadd (pc := 31) hx hb dX2_dropOldest_31 ?_
      obtain ⟨x4, e5, h⟩ := ob_out h
      refine r_aD (pc := 32) F S e5 dX2_dropOldest_32 ?_
      obtain ⟨M6, e7, h⟩ := ob_out h
      refine r_aE (pc := 33) F S e7 dX2_dropOldest_33 (fun H locs S => ?_)
      refine lv_iinc (pc := 34) (lv' := [(2, .int (a2 + 1)), (0, .ref (G.2.1 12)), (1, .ref (G.2.1 a1))]) hx hb dX2_dropOldest_34 hl (k := 2) rfl (iinc_n (by decide)) (by decide) rfl (fun ls hl => ?_)
      refine lv_goto (pc := 37) (tgt := 9) hx hb dX2_dropOldest_37 (by decide) ?_
      exact ih S (lv_sub hl [1, 2, 0] rfl) h K1
set_option maxHeartbeats 4000000 in
theorem tX2_dropOldest {l : Launch} {G : GD} {M N Mo : Mem} (h : fX2_dropOldest M = some Mo) : MV l yX2_dropOldest cX2_dropOldest 3 0 0 G [.ref (G.2.1 12)] M N Mo N := by
  unfold fX2_dropOldest at h
  refine MV_of (own := RX2) (by decide) rfl (Nat.le_of_ble_eq_true rfl) ?_
  intro p e s m args below meth c F S ls hl
  have hx := F.1
  have hb := F.2.1
  have hown := F.2.2.2.2.1
  have hts := F.2.2.2.2.2.1
  have hZ := F.2.2.2.2.2.2.2.2.2
  have hl : lv_has ls 3 [(0, .ref (G.2.1 12))] := hl
  generalize s.heap = H, ([] : List Loc) = locs at S ⊢
  refine lv_aload_n (pc := 0) hx hb dX2_dropOldest_0 rfl (lv_at hl 0 rfl) ?_
  refine r_gR (pc := 1) (k := 0) (x := 13) (i := 12) (ci := 2) F S (by decide) (by decide) cl2 inRX2 (by decide) w188 (fun _ => rfl) dX2_dropOldest_1 ?_
  refine lv_iconst (pc := 4) (v := 0) hx hb dX2_dropOldest_4 (by decide) ?_
  obtain ⟨x1, e2, h⟩ := ob_out h
  refine r_aD (pc := 5) F S e2 dX2_dropOldest_5 ?_
  refine lv_astore_n (pc := 6) (lv' := [(1, .ref (G.2.1 x1)), (0, .ref (G.2.1 12))]) hx hb dX2_dropOldest_6 rfl hl (by decide) rfl (fun ls hl => ?_)
  refine lv_iconst (pc := 7) (v := 0) hx hb dX2_dropOldest_7 (by decide) ?_
  refine lv_istore_n (pc := 8) (lv' := [(2, .int 0), (1, .ref (G.2.1 x1)), (0, .ref (G.2.1 12))]) hx hb dX2_dropOldest_8 rfl hl (by decide) rfl (fun ls hl => ?_)
  obtain ⟨M3, e4, h⟩ := ob_out h
  refine pX2_dropOldest_L9 F 5000 S (lv_sub hl [2, 1, 0] rfl) e4 (fun H locs ls S hl => ?_)
  refine lv_aload_n (pc := 40) hx hb dX2_dropOldest_40 rfl (lv_at hl 0 rfl) ?_
  refine r_gR (pc := 41) (k := 0) (x := 13) (i := 12) (ci := 2) F S (by decide) (by decide) cl2 inRX2 (by decide) w188 (fun _ => rfl) dX2_dropOldest_41 ?_
  refine lv_aload_n (pc := 44) hx hb dX2_dropOldest_44 rfl (lv_at hl 0 rfl) ?_
  refine r_gR (pc := 45) (k := 0) (x := 13) (i := 12) (ci := 2) F S (by decide) (by decide) cl2 inRX2 (by decide) w188 (fun _ => rfl) dX2_dropOldest_45 ?_
  refine r_aN (pc := 48) (t := 23) (i := 13) (x := 6) F S (by decide) (by decide) dX2_dropOldest_48 ?_
  refine lv_iconst (pc := 49) (v := 1) hx hb dX2_dropOldest_49 (by decide) ?_
  refine lv_isub (pc := 50) hx hb dX2_dropOldest_50 ?_
  refine lv_aload_n (pc := 51) hx hb dX2_dropOldest_51 rfl (lv_at hl 1 rfl) ?_
  obtain ⟨M5, e6, h⟩ := ob_out h
  refine r_aE (pc := 52) F S e6 dX2_dropOldest_52 (fun H locs S => ?_)
  refine lv_aload_n (pc := 53) hx hb dX2_dropOldest_53 rfl (lv_at hl 0 rfl) ?_
  refine lv_aload_n (pc := 54) hx hb dX2_dropOldest_54 rfl (lv_at hl 0 rfl) ?_
  refine r_gR (pc := 55) (k := 0) (x := 13) (i := 12) (ci := 2) F S (by decide) (by decide) cl2 inRX2 (by decide) w188 (fun _ => rfl) dX2_dropOldest_55 ?_
  refine r_aN (pc := 58) (t := 23) (i := 13) (x := 6) F S (by decide) (by decide) dX2_dropOldest_58 ?_
  refine lv_iconst (pc := 59) (v := 1) hx hb dX2_dropOldest_59 (by decide) ?_
  refine lv_isub (pc := 60) hx hb dX2_dropOldest_60 ?_
  obtain ⟨M7, e8, h⟩ := ob_out h
  refine r_pI (pc := 61) (k := 1) (ty0 := tyX2) F S e8 (by decide) cl2 inRX2 tyX2_ok nmX2 (by decide) w189 rfl (by decide +kernel) (fun _ => Nat.le_of_ble_eq_true rfl) (fun _ => pf_2_1) dX2_dropOldest_61 (fun H locs S => ?_)
  cases h
  exact r_vret (pc := 64) F S dX2_dropOldest_64
theorem mfX11_copy : MF false yX11_copy RX11 cX11_copy 3 none 2 := ⟨w372, w1, by rw [if_neg (by decide)]; exact w371, ⟨by decide, by decide⟩, by decide +kernel⟩
set_option maxHeartbeats 4000000 in
theorem pX11_copy_L2 {p : Program} {l : Launch} {e : Env} {s : State} {m : MethodId} {args : Array Value} {below : List Frame} {meth : Method} {c : Code} {Q : State → Prop} {G : GD} (F : FX p s m args meth c RX11 cX11_copy 3 none G) : ∀ (n : Nat) {M N : Mem} {a0 : Nat} {a1 : Nat} {a2 : Int32} {H : Heap} {locs : List Loc} {ls : Array Slot} {Mo : Mem}, ST G M N s H locs → lv_has ls 3 [(0, .ref (G.2.1 a0)), (1, .ref (G.2.1 a1)), (2, .int a2)] → fX11_copy_L2 n M a0 a1 a2 = some Mo → (K1 : ∀ (H : Heap) (locs : List Loc) (ls : Array Slot), ST G Mo N s H locs → lv_has ls 3 [] → W p l e (Rm 0 0) s m args below meth c H locs 0 0 Q (F0 m 26 ls [])) → W p l e (Rm 0 0) s m args below meth c H locs 0 0 Q (F0 m 2 ls []) := by
  intro n
  induction n with
  | zero => intro M N a0 a1 a2 H locs ls Mo S hl h K1; cases h
  | succ n ih =>
    intro M N a0 a1 a2 H locs ls Mo S hl h K1
    rw [fX11_copy_L2] at h
    have hx := F.1
    have hb := F.2.1
    have hown := F.2.2.2.2.1
    have hts := F.2.2.2.2.2.1
    have hZ := F.2.2.2.2.2.2.2.2.2
    refine lv_iload_n (pc := 2) hx hb dX11_copy_2 rfl (lv_at hl 2 rfl) ?_
    refine lv_aload_n (pc := 3) hx hb dX11_copy_3 rfl (lv_at hl 0 rfl) ?_
    obtain ⟨v1, e2, h⟩ := ob_out h
    refine r_aN (pc := 4) F S e2 (by decide) dX11_copy_4 ?_
    refine lv_icmp_ge (pc := 5) (tgt := 26) hx hb dX11_copy_5 (by decide) (fun c3 => ?_) (fun c3 => ?_)
    · replace h := (if_pos c3).symm.trans h
      cases h
      exact K1 H locs ls S (lv_sub hl [] rfl)
    · replace h := (if_neg c3).symm.trans h
      refine lv_iload_n (pc := 8) hx hb dX11_copy_8 rfl (lv_at hl 2 rfl) ?_
      refine lv_aload_n (pc := 9) hx hb dX11_copy_9 rfl (lv_at hl 1 rfl) ?_
      obtain ⟨v4, e5, h⟩ := ob_out h
      refine r_aN (pc := 10) F S e5 (by decide) dX11_copy_10 ?_
      refine lv_icmp_ge (pc := 11) (tgt := 26) hx hb dX11_copy_11 (by decide) (fun c6 => ?_) (fun c6 => ?_)
      · replace h := (if_pos c6).symm.trans h
        cases h
        exact K1 H locs ls S (lv_sub hl [] rfl)
      · replace h := (if_neg c6).symm.trans h
        refine lv_aload_n (pc := 14) hx hb dX11_copy_14 rfl (lv_at hl 1 rfl) ?_
        refine lv_iload_n (pc := 15) hx hb dX11_copy_15 rfl (lv_at hl 2 rfl) ?_
        refine lv_aload_n (pc := 16) hx hb dX11_copy_16 rfl (lv_at hl 0 rfl) ?_
        refine lv_iload_n (pc := 17) hx hb dX11_copy_17 rfl (lv_at hl 2 rfl) ?_
        obtain ⟨v7, e8, h⟩ := ob_out h
        refine r_aL (pc := 18) F S e8 dX11_copy_18 ?_
        obtain ⟨M9, e10, h⟩ := ob_out h
        refine r_aS (pc := 19) F S e10 dX11_copy_19 (fun H locs S => ?_)
        refine lv_iinc (pc := 20) (lv' := [(2, .int (a2 + 1)), (0, .ref (G.2.1 a0)), (1, .ref (G.2.1 a1))]) hx hb dX11_copy_20 hl (k := 2) rfl (iinc_n (by decide)) (by decide) rfl (fun ls hl => ?_)
        refine lv_goto (pc := 23) (tgt := 2) hx hb dX11_copy_23 (by decide) ?_
        exact ih S (lv_sub hl [1, 2, 0] rfl) h K1
set_option maxHeartbeats 4000000 in
theorem tX11_copy {l : Launch} {G : GD} {M N Mo : Mem} {a0 : Nat} {a1 : Nat} (h : fX11_copy M a0 a1 = some Mo) : MV l yX11_copy cX11_copy 3 0 0 G [.ref (G.2.1 a0), .ref (G.2.1 a1)] M N Mo N := by
  unfold fX11_copy at h
  refine MV_of (own := RX11) (by decide) rfl (Nat.le_of_ble_eq_true rfl) ?_
  intro p e s m args below meth c F S ls hl
  have hx := F.1
  have hb := F.2.1
  have hown := F.2.2.2.2.1
  have hts := F.2.2.2.2.2.1
  have hZ := F.2.2.2.2.2.2.2.2.2
  have hl : lv_has ls 3 [(0, .ref (G.2.1 a0)), (1, .ref (G.2.1 a1))] := hl
  generalize s.heap = H, ([] : List Loc) = locs at S ⊢
  refine lv_iconst (pc := 0) (v := 0) hx hb dX11_copy_0 (by decide) ?_
  refine lv_istore_n (pc := 1) (lv' := [(2, .int 0), (0, .ref (G.2.1 a0)), (1, .ref (G.2.1 a1))]) hx hb dX11_copy_1 rfl hl (by decide) rfl (fun ls hl => ?_)
  obtain ⟨M1, e2, h⟩ := ob_out h
  refine pX11_copy_L2 F 5000 S (lv_sub hl [1, 2, 0] rfl) e2 (fun H locs ls S hl => ?_)
  cases h
  exact r_vret (pc := 26) F S dX11_copy_26
theorem sX9_copyFrom {M : Mem} {a0 : Nat} {a1 : Nat} {r : Mem} (h : fX9_copyFrom M a0 a1 = some r) : shp a0 = 9 := by
  unfold fX9_copyFrom at h
  exact (ck_out h).1
theorem mfX9_copyFrom : MF true yX9_copyFrom RX9 cX9_copyFrom 2 none 1 := ⟨w376, w3, by rw [if_pos rfl]; exact ⟨w374, w375⟩, ⟨by decide, by decide⟩, by decide +kernel⟩
set_option maxHeartbeats 4000000 in
theorem tX9_copyFrom {l : Launch} {G : GD} {M N Mo : Mem} {a0 : Nat} {a1 : Nat} (h : fX9_copyFrom M a0 a1 = some Mo) : MV l yX9_copyFrom cX9_copyFrom 2 1 22 G [.ref (G.2.1 a0), .ref (G.2.1 a1)] M N Mo N := by
  unfold fX9_copyFrom at h
  obtain ⟨hsh, h⟩ := ck_out h
  refine MV_of (own := RX9) (by decide) rfl (Nat.le_of_ble_eq_true rfl) ?_
  intro p e s m args below meth c F S ls hl
  have hx := F.1
  have hb := F.2.1
  have hown := F.2.2.2.2.1
  have hts := F.2.2.2.2.2.1
  have hZ := F.2.2.2.2.2.2.2.2.2
  have hl : lv_has ls 2 [(0, .ref (G.2.1 a0)), (1, .ref (G.2.1 a1))] := hl
  generalize s.heap = H, ([] : List Loc) = locs at S ⊢
  refine lv_aload_n (pc := 0) hx hb dX9_copyFrom_0 rfl (lv_at hl 0 rfl) ?_
  refine lv_aload_n (pc := 1) hx hb dX9_copyFrom_1 rfl (lv_at hl 1 rfl) ?_
  obtain ⟨v1, e2, h⟩ := ob_out h
  refine r_gI (pc := 2) (k := 0) F S e2 (by decide) cl9 inRX9 (by decide) w45 (fun _ => rfl) dX9_copyFrom_2 ?_
  obtain ⟨M3, e4, h⟩ := ob_out h
  refine r_pI (pc := 5) (k := 0) (ty0 := tyX9) F S e4 (by decide) cl9 inRX9 tyX9_ok nmX9 (by decide) w45 rfl (by decide +kernel) (fun _ => Nat.le_of_ble_eq_true rfl) (fun _ => pf_9_0) dX9_copyFrom_5 (fun H locs S => ?_)
  refine lv_aload_n (pc := 8) hx hb dX9_copyFrom_8 rfl (lv_at hl 1 rfl) ?_
  obtain ⟨x5, e6, h⟩ := ob_out h
  refine r_gR (pc := 9) (k := 1) F S e6 (by decide) cl9 inRX9 (by decide) w48 (fun _ => rfl) dX9_copyFrom_9 ?_
  refine lv_aload_n (pc := 12) hx hb dX9_copyFrom_12 rfl (lv_at hl 0 rfl) ?_
  obtain ⟨x7, e8, h⟩ := ob_out h
  refine r_gR (pc := 13) (k := 1) F S e8 (by decide) cl9 inRX9 (by decide) w48 (fun _ => rfl) dX9_copyFrom_13 ?_
  obtain ⟨M10, e9, h⟩ := ob_out h
  refine c_nV (pc := 16) (rest := []) F S (tX11_copy e9) mfX11_copy wn10 ⟨Nat.le_of_ble_eq_true rfl, Nat.le_of_ble_eq_true rfl⟩ rfl hl.1 rfl (Nat.le_of_ble_eq_true rfl) dX9_copyFrom_16 (fun H locs S => ?_)
  refine lv_aload_n (pc := 19) hx hb dX9_copyFrom_19 rfl (lv_at hl 1 rfl) ?_
  obtain ⟨x11, e12, h⟩ := ob_out h
  refine r_gR (pc := 20) (k := 2) F S e12 (by decide) cl9 inRX9 (by decide) w49 (fun _ => rfl) dX9_copyFrom_20 ?_
  refine lv_aload_n (pc := 23) hx hb dX9_copyFrom_23 rfl (lv_at hl 0 rfl) ?_
  obtain ⟨x13, e14, h⟩ := ob_out h
  refine r_gR (pc := 24) (k := 2) F S e14 (by decide) cl9 inRX9 (by decide) w49 (fun _ => rfl) dX9_copyFrom_24 ?_
  obtain ⟨M16, e15, h⟩ := ob_out h
  refine c_nV (pc := 27) (rest := []) F S (tX11_copy e15) mfX11_copy wn10 ⟨Nat.le_of_ble_eq_true rfl, Nat.le_of_ble_eq_true rfl⟩ rfl hl.1 rfl (Nat.le_of_ble_eq_true rfl) dX9_copyFrom_27 (fun H locs S => ?_)
  refine lv_aload_n (pc := 30) hx hb dX9_copyFrom_30 rfl (lv_at hl 1 rfl) ?_
  obtain ⟨x17, e18, h⟩ := ob_out h
  refine r_gR (pc := 31) (k := 3) F S e18 (by decide) cl9 inRX9 (by decide) w50 (fun _ => rfl) dX9_copyFrom_31 ?_
  refine lv_aload_n (pc := 34) hx hb dX9_copyFrom_34 rfl (lv_at hl 0 rfl) ?_
  obtain ⟨x19, e20, h⟩ := ob_out h
  refine r_gR (pc := 35) (k := 3) F S e20 (by decide) cl9 inRX9 (by decide) w50 (fun _ => rfl) dX9_copyFrom_35 ?_
  obtain ⟨M22, e21, h⟩ := ob_out h
  refine c_nV (pc := 38) (rest := []) F S (tX11_copy e21) mfX11_copy wn10 ⟨Nat.le_of_ble_eq_true rfl, Nat.le_of_ble_eq_true rfl⟩ rfl hl.1 rfl (Nat.le_of_ble_eq_true rfl) dX9_copyFrom_38 (fun H locs S => ?_)
  cases h
  exact r_vret (pc := 41) F S dX9_copyFrom_41
theorem sX1_copyFrom {M : Mem} {a0 : Nat} {a1 : Nat} {r : Mem} (h : fX1_copyFrom M a0 a1 = some r) : shp a0 = 1 := by
  unfold fX1_copyFrom at h
  exact (ck_out h).1
theorem mfX1_copyFrom : MF true yX1_copyFrom RX1 cX1_copyFrom 2 none 1 := ⟨w386, w5, by rw [if_pos rfl]; exact ⟨w384, w385⟩, ⟨by decide, by decide⟩, by decide +kernel⟩
set_option maxHeartbeats 4000000 in
theorem tX1_copyFrom {l : Launch} {G : GD} {M N Mo : Mem} {a0 : Nat} {a1 : Nat} (h : fX1_copyFrom M a0 a1 = some Mo) : MV l yX1_copyFrom cX1_copyFrom 2 1 22 G [.ref (G.2.1 a0), .ref (G.2.1 a1)] M N Mo N := by
  unfold fX1_copyFrom at h
  obtain ⟨hsh, h⟩ := ck_out h
  refine MV_of (own := RX1) (by decide) rfl (Nat.le_of_ble_eq_true rfl) ?_
  intro p e s m args below meth c F S ls hl
  have hx := F.1
  have hb := F.2.1
  have hown := F.2.2.2.2.1
  have hts := F.2.2.2.2.2.1
  have hZ := F.2.2.2.2.2.2.2.2.2
  have hl : lv_has ls 2 [(0, .ref (G.2.1 a0)), (1, .ref (G.2.1 a1))] := hl
  generalize s.heap = H, ([] : List Loc) = locs at S ⊢
  refine lv_aload_n (pc := 0) hx hb dX1_copyFrom_0 rfl (lv_at hl 0 rfl) ?_
  refine lv_aload_n (pc := 1) hx hb dX1_copyFrom_1 rfl (lv_at hl 1 rfl) ?_
  obtain ⟨v1, e2, h⟩ := ob_out h
  refine r_gI (pc := 2) (k := 0) F S e2 (by decide) cl1 inRX1 (by decide) w76 (fun _ => rfl) dX1_copyFrom_2 ?_
  obtain ⟨M3, e4, h⟩ := ob_out h
  refine r_pI (pc := 5) (k := 0) (ty0 := tyX1) F S e4 (by decide) cl1 inRX1 tyX1_ok nmX1 (by decide) w76 rfl (by decide +kernel) (fun _ => Nat.le_of_ble_eq_true rfl) (fun _ => pf_1_0) dX1_copyFrom_5 (fun H locs S => ?_)
  refine lv_aload_n (pc := 8) hx hb dX1_copyFrom_8 rfl (lv_at hl 0 rfl) ?_
  refine lv_aload_n (pc := 9) hx hb dX1_copyFrom_9 rfl (lv_at hl 1 rfl) ?_
  obtain ⟨v5, e6, h⟩ := ob_out h
  refine r_gI (pc := 10) (k := 1) F S e6 (by decide) cl1 inRX1 (by decide) w77 (fun _ => rfl) dX1_copyFrom_10 ?_
  obtain ⟨M7, e8, h⟩ := ob_out h
  refine r_pI (pc := 13) (k := 1) (ty0 := tyX1) F S e8 (by decide) cl1 inRX1 tyX1_ok nmX1 (by decide) w77 rfl (by decide +kernel) (fun _ => Nat.le_of_ble_eq_true rfl) (fun _ => pf_1_1) dX1_copyFrom_13 (fun H locs S => ?_)
  refine lv_aload_n (pc := 16) hx hb dX1_copyFrom_16 rfl (lv_at hl 1 rfl) ?_
  obtain ⟨x9, e10, h⟩ := ob_out h
  refine r_gR (pc := 17) (k := 2) F S e10 (by decide) cl1 inRX1 (by decide) w78 (fun _ => rfl) dX1_copyFrom_17 ?_
  refine lv_aload_n (pc := 20) hx hb dX1_copyFrom_20 rfl (lv_at hl 0 rfl) ?_
  obtain ⟨x11, e12, h⟩ := ob_out h
  refine r_gR (pc := 21) (k := 2) F S e12 (by decide) cl1 inRX1 (by decide) w78 (fun _ => rfl) dX1_copyFrom_21 ?_
  obtain ⟨M14, e13, h⟩ := ob_out h
  refine c_nV (pc := 24) (rest := []) F S (tX11_copy e13) mfX11_copy wn12 ⟨Nat.le_of_ble_eq_true rfl, Nat.le_of_ble_eq_true rfl⟩ rfl hl.1 rfl (Nat.le_of_ble_eq_true rfl) dX1_copyFrom_24 (fun H locs S => ?_)
  refine lv_aload_n (pc := 27) hx hb dX1_copyFrom_27 rfl (lv_at hl 1 rfl) ?_
  obtain ⟨x15, e16, h⟩ := ob_out h
  refine r_gR (pc := 28) (k := 3) F S e16 (by decide) cl1 inRX1 (by decide) w79 (fun _ => rfl) dX1_copyFrom_28 ?_
  refine lv_aload_n (pc := 31) hx hb dX1_copyFrom_31 rfl (lv_at hl 0 rfl) ?_
  obtain ⟨x17, e18, h⟩ := ob_out h
  refine r_gR (pc := 32) (k := 3) F S e18 (by decide) cl1 inRX1 (by decide) w79 (fun _ => rfl) dX1_copyFrom_32 ?_
  obtain ⟨M20, e19, h⟩ := ob_out h
  refine c_nV (pc := 35) (rest := []) F S (tX11_copy e19) mfX11_copy wn12 ⟨Nat.le_of_ble_eq_true rfl, Nat.le_of_ble_eq_true rfl⟩ rfl hl.1 rfl (Nat.le_of_ble_eq_true rfl) dX1_copyFrom_35 (fun H locs S => ?_)
  cases h
  exact r_vret (pc := 38) F S dX1_copyFrom_38
theorem sX0_copyFrom {M : Mem} {a0 : Nat} {a1 : Nat} {r : Mem} (h : fX0_copyFrom M a0 a1 = some r) : shp a0 = 0 := by
  unfold fX0_copyFrom at h
  exact (ck_out h).1
theorem mfX0_copyFrom : MF true yX0_copyFrom RX0 cX0_copyFrom 2 none 1 := ⟨w391, w6, by rw [if_pos rfl]; exact ⟨w389, w390⟩, ⟨by decide, by decide⟩, by decide +kernel⟩
set_option maxHeartbeats 4000000 in
theorem tX0_copyFrom {l : Launch} {G : GD} {M N Mo : Mem} {a0 : Nat} {a1 : Nat} (h : fX0_copyFrom M a0 a1 = some Mo) : MV l yX0_copyFrom cX0_copyFrom 2 1 22 G [.ref (G.2.1 a0), .ref (G.2.1 a1)] M N Mo N := by
  unfold fX0_copyFrom at h
  obtain ⟨hsh, h⟩ := ck_out h
  refine MV_of (own := RX0) (by decide) rfl (Nat.le_of_ble_eq_true rfl) ?_
  intro p e s m args below meth c F S ls hl
  have hx := F.1
  have hb := F.2.1
  have hown := F.2.2.2.2.1
  have hts := F.2.2.2.2.2.1
  have hZ := F.2.2.2.2.2.2.2.2.2
  have hl : lv_has ls 2 [(0, .ref (G.2.1 a0)), (1, .ref (G.2.1 a1))] := hl
  generalize s.heap = H, ([] : List Loc) = locs at S ⊢
  refine lv_aload_n (pc := 0) hx hb dX0_copyFrom_0 rfl (lv_at hl 0 rfl) ?_
  refine lv_aload_n (pc := 1) hx hb dX0_copyFrom_1 rfl (lv_at hl 1 rfl) ?_
  obtain ⟨v1, e2, h⟩ := ob_out h
  refine r_gI (pc := 2) (k := 1) F S e2 (by decide) cl0 inRX0 (by decide) w97 (fun _ => rfl) dX0_copyFrom_2 ?_
  obtain ⟨M3, e4, h⟩ := ob_out h
  refine r_pI (pc := 5) (k := 1) (ty0 := tyX0) F S e4 (by decide) cl0 inRX0 tyX0_ok nmX0 (by decide) w97 rfl (by decide +kernel) (fun _ => Nat.le_of_ble_eq_true rfl) (fun _ => pf_0_1) dX0_copyFrom_5 (fun H locs S => ?_)
  refine lv_aload_n (pc := 8) hx hb dX0_copyFrom_8 rfl (lv_at hl 1 rfl) ?_
  obtain ⟨x5, e6, h⟩ := ob_out h
  refine r_gR (pc := 9) (k := 0) F S e6 (by decide) cl0 inRX0 (by decide) w95 (fun _ => rfl) dX0_copyFrom_9 ?_
  refine lv_aload_n (pc := 12) hx hb dX0_copyFrom_12 rfl (lv_at hl 0 rfl) ?_
  obtain ⟨x7, e8, h⟩ := ob_out h
  refine r_gR (pc := 13) (k := 0) F S e8 (by decide) cl0 inRX0 (by decide) w95 (fun _ => rfl) dX0_copyFrom_13 ?_
  obtain ⟨M10, e9, h⟩ := ob_out h
  refine c_nV (pc := 16) (rest := []) F S (tX11_copy e9) mfX11_copy wn13 ⟨Nat.le_of_ble_eq_true rfl, Nat.le_of_ble_eq_true rfl⟩ rfl hl.1 rfl (Nat.le_of_ble_eq_true rfl) dX0_copyFrom_16 (fun H locs S => ?_)
  cases h
  exact r_vret (pc := 19) F S dX0_copyFrom_19
theorem sX6_copyFrom {M : Mem} {a0 : Nat} {a1 : Nat} {r : Mem} (h : fX6_copyFrom M a0 a1 = some r) : shp a0 = 6 := by
  unfold fX6_copyFrom at h
  exact (ck_out h).1
theorem mfX6_copyFrom : MF true yX6_copyFrom RX6 cX6_copyFrom 3 none 1 := ⟨w381, w4, by rw [if_pos rfl]; exact ⟨w379, w380⟩, ⟨by decide, by decide⟩, by decide +kernel⟩
set_option maxHeartbeats 4000000 in
theorem pX6_copyFrom_L92 {p : Program} {l : Launch} {e : Env} {s : State} {m : MethodId} {args : Array Value} {below : List Frame} {meth : Method} {c : Code} {Q : State → Prop} {G : GD} (F : FX p s m args meth c RX6 cX6_copyFrom 3 none G) : ∀ (n : Nat) {M N : Mem} {a0 : Nat} {a1 : Nat} {a2 : Int32} {H : Heap} {locs : List Loc} {ls : Array Slot} {Mo : Mem}, shp a0 = 6 → ST G M N s H locs → lv_has ls 3 [(0, .ref (G.2.1 a0)), (1, .ref (G.2.1 a1)), (2, .int a2)] → fX6_copyFrom_L92 n M a0 a1 a2 = some Mo → (K1 : ∀ (H : Heap) (locs : List Loc) (ls : Array Slot), ST G Mo N s H locs → lv_has ls 3 [(0, .ref (G.2.1 a0)), (1, .ref (G.2.1 a1))] → W p l e (Rm 2 43) s m args below meth c H locs 0 0 Q (F0 m 119 ls [])) → W p l e (Rm 2 43) s m args below meth c H locs 0 0 Q (F0 m 92 ls []) := by
  intro n
  induction n with
  | zero => intro M N a0 a1 a2 H locs ls Mo hsh S hl h K1; cases h
  | succ n ih =>
    intro M N a0 a1 a2 H locs ls Mo hsh S hl h K1
    rw [fX6_copyFrom_L92] at h
    have hx := F.1
    have hb := F.2.1
    have hown := F.2.2.2.2.1
    have hts := F.2.2.2.2.2.1
    have hZ := F.2.2.2.2.2.2.2.2.2
    refine lv_iload_n (pc := 92) hx hb dX6_copyFrom_92 rfl (lv_at hl 2 rfl) ?_
    refine lv_bipush (pc := 93) (v := 8) hx hb dX6_copyFrom_93 (by decide) ?_
    refine lv_icmp_ge (pc := 95) (tgt := 119) hx hb dX6_copyFrom_95 (by decide) (fun c49 => ?_) (fun c49 => ?_)
    · replace h := (if_pos c49).symm.trans h
      cases h
      exact K1 H locs ls S (lv_sub hl [0, 1] rfl)
    · replace h := (if_neg c49).symm.trans h
      refine lv_aload_n (pc := 98) hx hb dX6_copyFrom_98 rfl (lv_at hl 1 rfl) ?_
      obtain ⟨x50, e51, h⟩ := ob_out h
      refine r_gR (pc := 99) (k := 9) F S e51 (by decide) cl6 inRX6 (by decide) w127 (fun _ => rfl) dX6_copyFrom_99 ?_
      refine lv_iload_n (pc := 102) hx hb dX6_copyFrom_102 rfl (lv_at hl 2 rfl) ?_
      obtain ⟨x52, e53, h⟩ := ob_out h
      refine r_aR24 (pc := 103) F S e53 dX6_copyFrom_103 ?_
      refine lv_aload_n (pc := 104) hx hb dX6_copyFrom_104 rfl (lv_at hl 0 rfl) ?_
      obtain ⟨x54, e55, h⟩ := ob_out h
      refine r_gR (pc := 105) (k := 9) F S e55 (by decide) cl6 inRX6 (by decide) w127 (fun _ => rfl) dX6_copyFrom_105 ?_
      refine lv_iload_n (pc := 108) hx hb dX6_copyFrom_108 rfl (lv_at hl 2 rfl) ?_
      obtain ⟨x56, e57, h⟩ := ob_out h
      refine r_aR24 (pc := 109) F S e57 dX6_copyFrom_109 ?_
      obtain ⟨M59, e58, h⟩ := ob_out h
      refine c_nV (pc := 110) (rest := []) F S (tX11_copy e58) mfX11_copy wn11 ⟨Nat.le_of_ble_eq_true rfl, Nat.le_of_ble_eq_true rfl⟩ rfl hl.1 rfl (Nat.le_of_ble_eq_true rfl) dX6_copyFrom_110 (fun H locs S => ?_)
      refine lv_iinc (pc := 113) (lv' := [(2, .int (a2 + 1)), (0, .ref (G.2.1 a0)), (1, .ref (G.2.1 a1))]) hx hb dX6_copyFrom_113 hl (k := 2) rfl (iinc_n (by decide)) (by decide) rfl (fun ls hl => ?_)
      refine lv_goto (pc := 116) (tgt := 92) hx hb dX6_copyFrom_116 (by decide) ?_
      exact ih hsh S (lv_sub hl [1, 2, 0] rfl) h K1
set_option maxHeartbeats 4000000 in
theorem tX6_copyFrom {l : Launch} {G : GD} {M N Mo : Mem} {a0 : Nat} {a1 : Nat} (h : fX6_copyFrom M a0 a1 = some Mo) : MV l yX6_copyFrom cX6_copyFrom 3 2 43 G [.ref (G.2.1 a0), .ref (G.2.1 a1)] M N Mo N := by
  unfold fX6_copyFrom at h
  obtain ⟨hsh, h⟩ := ck_out h
  refine MV_of (own := RX6) (by decide) rfl (Nat.le_of_ble_eq_true rfl) ?_
  intro p e s m args below meth c F S ls hl
  have hx := F.1
  have hb := F.2.1
  have hown := F.2.2.2.2.1
  have hts := F.2.2.2.2.2.1
  have hZ := F.2.2.2.2.2.2.2.2.2
  have hl : lv_has ls 3 [(0, .ref (G.2.1 a0)), (1, .ref (G.2.1 a1))] := hl
  generalize s.heap = H, ([] : List Loc) = locs at S ⊢
  refine lv_aload_n (pc := 0) hx hb dX6_copyFrom_0 rfl (lv_at hl 0 rfl) ?_
  refine lv_aload_n (pc := 1) hx hb dX6_copyFrom_1 rfl (lv_at hl 1 rfl) ?_
  obtain ⟨v1, e2, h⟩ := ob_out h
  refine r_gI (pc := 2) (k := 0) F S e2 (by decide) cl6 inRX6 (by decide) w104 (fun _ => rfl) dX6_copyFrom_2 ?_
  obtain ⟨M3, e4, h⟩ := ob_out h
  refine r_pI (pc := 5) (k := 0) (ty0 := tyX6) F S e4 (by decide) cl6 inRX6 tyX6_ok nmX6 (by decide) w104 rfl (by decide +kernel) (fun _ => Nat.le_of_ble_eq_true rfl) (fun _ => pf_6_0) dX6_copyFrom_5 (fun H locs S => ?_)
  refine lv_aload_n (pc := 8) hx hb dX6_copyFrom_8 rfl (lv_at hl 0 rfl) ?_
  refine lv_aload_n (pc := 9) hx hb dX6_copyFrom_9 rfl (lv_at hl 1 rfl) ?_
  obtain ⟨v5, e6, h⟩ := ob_out h
  refine r_gI (pc := 10) (k := 1) F S e6 (by decide) cl6 inRX6 (by decide) w106 (fun _ => rfl) dX6_copyFrom_10 ?_
  obtain ⟨M7, e8, h⟩ := ob_out h
  refine r_pI (pc := 13) (k := 1) (ty0 := tyX6) F S e8 (by decide) cl6 inRX6 tyX6_ok nmX6 (by decide) w106 rfl (by decide +kernel) (fun _ => Nat.le_of_ble_eq_true rfl) (fun _ => pf_6_1) dX6_copyFrom_13 (fun H locs S => ?_)
  refine lv_aload_n (pc := 16) hx hb dX6_copyFrom_16 rfl (lv_at hl 0 rfl) ?_
  refine lv_aload_n (pc := 17) hx hb dX6_copyFrom_17 rfl (lv_at hl 1 rfl) ?_
  obtain ⟨v9, e10, h⟩ := ob_out h
  refine r_gI (pc := 18) (k := 2) F S e10 (by decide) cl6 inRX6 (by decide) w109 (fun _ => rfl) dX6_copyFrom_18 ?_
  obtain ⟨M11, e12, h⟩ := ob_out h
  refine r_pI (pc := 21) (k := 2) (ty0 := tyX6) F S e12 (by decide) cl6 inRX6 tyX6_ok nmX6 (by decide) w109 rfl (by decide +kernel) (fun _ => Nat.le_of_ble_eq_true rfl) (fun _ => pf_6_2) dX6_copyFrom_21 (fun H locs S => ?_)
  refine lv_aload_n (pc := 24) hx hb dX6_copyFrom_24 rfl (lv_at hl 1 rfl) ?_
  obtain ⟨x13, e14, h⟩ := ob_out h
  refine r_gR (pc := 25) (k := 3) F S e14 (by decide) cl6 inRX6 (by decide) w112 (fun _ => rfl) dX6_copyFrom_25 ?_
  refine lv_aload_n (pc := 28) hx hb dX6_copyFrom_28 rfl (lv_at hl 0 rfl) ?_
  obtain ⟨x15, e16, h⟩ := ob_out h
  refine r_gR (pc := 29) (k := 3) F S e16 (by decide) cl6 inRX6 (by decide) w112 (fun _ => rfl) dX6_copyFrom_29 ?_
  obtain ⟨M18, e17, h⟩ := ob_out h
  refine c_nV (pc := 32) (rest := []) F S (tX11_copy e17) mfX11_copy wn11 ⟨Nat.le_of_ble_eq_true rfl, Nat.le_of_ble_eq_true rfl⟩ rfl hl.1 rfl (Nat.le_of_ble_eq_true rfl) dX6_copyFrom_32 (fun H locs S => ?_)
  refine lv_aload_n (pc := 35) hx hb dX6_copyFrom_35 rfl (lv_at hl 1 rfl) ?_
  obtain ⟨x19, e20, h⟩ := ob_out h
  refine r_gR (pc := 36) (k := 4) F S e20 (by decide) cl6 inRX6 (by decide) w114 (fun _ => rfl) dX6_copyFrom_36 ?_
  refine lv_aload_n (pc := 39) hx hb dX6_copyFrom_39 rfl (lv_at hl 0 rfl) ?_
  obtain ⟨x21, e22, h⟩ := ob_out h
  refine r_gR (pc := 40) (k := 4) F S e22 (by decide) cl6 inRX6 (by decide) w114 (fun _ => rfl) dX6_copyFrom_40 ?_
  obtain ⟨M24, e23, h⟩ := ob_out h
  refine c_nV (pc := 43) (rest := []) F S (tX11_copy e23) mfX11_copy wn11 ⟨Nat.le_of_ble_eq_true rfl, Nat.le_of_ble_eq_true rfl⟩ rfl hl.1 rfl (Nat.le_of_ble_eq_true rfl) dX6_copyFrom_43 (fun H locs S => ?_)
  refine lv_aload_n (pc := 46) hx hb dX6_copyFrom_46 rfl (lv_at hl 1 rfl) ?_
  obtain ⟨x25, e26, h⟩ := ob_out h
  refine r_gR (pc := 47) (k := 5) F S e26 (by decide) cl6 inRX6 (by decide) w116 (fun _ => rfl) dX6_copyFrom_47 ?_
  refine lv_aload_n (pc := 50) hx hb dX6_copyFrom_50 rfl (lv_at hl 0 rfl) ?_
  obtain ⟨x27, e28, h⟩ := ob_out h
  refine r_gR (pc := 51) (k := 5) F S e28 (by decide) cl6 inRX6 (by decide) w116 (fun _ => rfl) dX6_copyFrom_51 ?_
  obtain ⟨M30, e29, h⟩ := ob_out h
  refine c_nV (pc := 54) (rest := []) F S (tX11_copy e29) mfX11_copy wn11 ⟨Nat.le_of_ble_eq_true rfl, Nat.le_of_ble_eq_true rfl⟩ rfl hl.1 rfl (Nat.le_of_ble_eq_true rfl) dX6_copyFrom_54 (fun H locs S => ?_)
  refine lv_aload_n (pc := 57) hx hb dX6_copyFrom_57 rfl (lv_at hl 1 rfl) ?_
  obtain ⟨x31, e32, h⟩ := ob_out h
  refine r_gR (pc := 58) (k := 6) F S e32 (by decide) cl6 inRX6 (by decide) w119 (fun _ => rfl) dX6_copyFrom_58 ?_
  refine lv_aload_n (pc := 61) hx hb dX6_copyFrom_61 rfl (lv_at hl 0 rfl) ?_
  obtain ⟨x33, e34, h⟩ := ob_out h
  refine r_gR (pc := 62) (k := 6) F S e34 (by decide) cl6 inRX6 (by decide) w119 (fun _ => rfl) dX6_copyFrom_62 ?_
  obtain ⟨M36, e35, h⟩ := ob_out h
  refine c_nV (pc := 65) (rest := []) F S (tX11_copy e35) mfX11_copy wn11 ⟨Nat.le_of_ble_eq_true rfl, Nat.le_of_ble_eq_true rfl⟩ rfl hl.1 rfl (Nat.le_of_ble_eq_true rfl) dX6_copyFrom_65 (fun H locs S => ?_)
  refine lv_aload_n (pc := 68) hx hb dX6_copyFrom_68 rfl (lv_at hl 1 rfl) ?_
  obtain ⟨x37, e38, h⟩ := ob_out h
  refine r_gR (pc := 69) (k := 7) F S e38 (by decide) cl6 inRX6 (by decide) w121 (fun _ => rfl) dX6_copyFrom_69 ?_
  refine lv_aload_n (pc := 72) hx hb dX6_copyFrom_72 rfl (lv_at hl 0 rfl) ?_
  obtain ⟨x39, e40, h⟩ := ob_out h
  refine r_gR (pc := 73) (k := 7) F S e40 (by decide) cl6 inRX6 (by decide) w121 (fun _ => rfl) dX6_copyFrom_73 ?_
  obtain ⟨M42, e41, h⟩ := ob_out h
  refine c_nV (pc := 76) (rest := []) F S (tX11_copy e41) mfX11_copy wn11 ⟨Nat.le_of_ble_eq_true rfl, Nat.le_of_ble_eq_true rfl⟩ rfl hl.1 rfl (Nat.le_of_ble_eq_true rfl) dX6_copyFrom_76 (fun H locs S => ?_)
  refine lv_aload_n (pc := 79) hx hb dX6_copyFrom_79 rfl (lv_at hl 1 rfl) ?_
  obtain ⟨x43, e44, h⟩ := ob_out h
  refine r_gR (pc := 80) (k := 8) F S e44 (by decide) cl6 inRX6 (by decide) w123 (fun _ => rfl) dX6_copyFrom_80 ?_
  refine lv_aload_n (pc := 83) hx hb dX6_copyFrom_83 rfl (lv_at hl 0 rfl) ?_
  obtain ⟨x45, e46, h⟩ := ob_out h
  refine r_gR (pc := 84) (k := 8) F S e46 (by decide) cl6 inRX6 (by decide) w123 (fun _ => rfl) dX6_copyFrom_84 ?_
  obtain ⟨M48, e47, h⟩ := ob_out h
  refine c_nV (pc := 87) (rest := []) F S (tX11_copy e47) mfX11_copy wn11 ⟨Nat.le_of_ble_eq_true rfl, Nat.le_of_ble_eq_true rfl⟩ rfl hl.1 rfl (Nat.le_of_ble_eq_true rfl) dX6_copyFrom_87 (fun H locs S => ?_)
  refine lv_iconst (pc := 90) (v := 0) hx hb dX6_copyFrom_90 (by decide) ?_
  refine lv_istore_n (pc := 91) (lv' := [(2, .int 0), (0, .ref (G.2.1 a0)), (1, .ref (G.2.1 a1))]) hx hb dX6_copyFrom_91 rfl hl (by decide) rfl (fun ls hl => ?_)
  obtain ⟨M49, e50, h⟩ := ob_out h
  refine pX6_copyFrom_L92 F 5000 hsh S (lv_sub hl [1, 2, 0] rfl) e50 (fun H locs ls S hl => ?_)
  refine lv_aload_n (pc := 119) hx hb dX6_copyFrom_119 rfl (lv_at hl 0 rfl) ?_
  obtain ⟨x51, e52, h⟩ := ob_out h
  refine r_gR (pc := 120) (k := 10) F S e52 (by decide) cl6 inRX6 (by decide) w130 (fun _ => rfl) dX6_copyFrom_120 ?_
  refine lv_aload_n (pc := 123) hx hb dX6_copyFrom_123 rfl (lv_at hl 1 rfl) ?_
  obtain ⟨x53, e54, h⟩ := ob_out h
  refine r_gR (pc := 124) (k := 10) F S e54 (by decide) cl6 inRX6 (by decide) w130 (fun _ => rfl) dX6_copyFrom_124 ?_
  obtain ⟨M56, e55, h⟩ := ob_out h
  refine c_vV (pc := 127) (rest := []) F S (tX1_copyFrom e55) mfX1_copyFrom (sX1_copyFrom e55) (by decide) cl1 w383 ⟨Nat.le_of_ble_eq_true rfl, Nat.le_of_ble_eq_true rfl⟩ rfl hl.1 rfl (Nat.le_of_ble_eq_true rfl) dX6_copyFrom_127 (fun H locs S => ?_)
  refine lv_aload_n (pc := 130) hx hb dX6_copyFrom_130 rfl (lv_at hl 0 rfl) ?_
  obtain ⟨x57, e58, h⟩ := ob_out h
  refine r_gR (pc := 131) (k := 11) F S e58 (by decide) cl6 inRX6 (by decide) w132 (fun _ => rfl) dX6_copyFrom_131 ?_
  refine lv_aload_n (pc := 134) hx hb dX6_copyFrom_134 rfl (lv_at hl 1 rfl) ?_
  obtain ⟨x59, e60, h⟩ := ob_out h
  refine r_gR (pc := 135) (k := 11) F S e60 (by decide) cl6 inRX6 (by decide) w132 (fun _ => rfl) dX6_copyFrom_135 ?_
  obtain ⟨M62, e61, h⟩ := ob_out h
  refine c_vV (pc := 138) (rest := []) F S (tX0_copyFrom e61) mfX0_copyFrom (sX0_copyFrom e61) (by decide) cl0 w388 ⟨Nat.le_of_ble_eq_true rfl, Nat.le_of_ble_eq_true rfl⟩ rfl hl.1 rfl (Nat.le_of_ble_eq_true rfl) dX6_copyFrom_138 (fun H locs S => ?_)
  refine lv_aload_n (pc := 141) hx hb dX6_copyFrom_141 rfl (lv_at hl 0 rfl) ?_
  obtain ⟨x63, e64, h⟩ := ob_out h
  refine r_gR (pc := 142) (k := 12) F S e64 (by decide) cl6 inRX6 (by decide) w134 (fun _ => rfl) dX6_copyFrom_142 ?_
  refine lv_aload_n (pc := 145) hx hb dX6_copyFrom_145 rfl (lv_at hl 1 rfl) ?_
  obtain ⟨x65, e66, h⟩ := ob_out h
  refine r_gR (pc := 146) (k := 12) F S e66 (by decide) cl6 inRX6 (by decide) w134 (fun _ => rfl) dX6_copyFrom_146 ?_
  obtain ⟨M68, e67, h⟩ := ob_out h
  refine c_vV (pc := 149) (rest := []) F S (tX0_copyFrom e67) mfX0_copyFrom (sX0_copyFrom e67) (by decide) cl0 w388 ⟨Nat.le_of_ble_eq_true rfl, Nat.le_of_ble_eq_true rfl⟩ rfl hl.1 rfl (Nat.le_of_ble_eq_true rfl) dX6_copyFrom_149 (fun H locs S => ?_)
  cases h
  exact r_vret (pc := 152) F S dX6_copyFrom_152
theorem sX7_copyFrom {M : Mem} {a0 : Nat} {a1 : Nat} {r : Mem} (h : fX7_copyFrom M a0 a1 = some r) : shp a0 = 7 := by
  unfold fX7_copyFrom at h
  exact (ck_out h).1
theorem mfX7_copyFrom : MF true yX7_copyFrom RX7 cX7_copyFrom 3 none 1 := ⟨w369, w2, by rw [if_pos rfl]; exact ⟨w367, w368⟩, ⟨by decide, by decide⟩, by decide +kernel⟩
set_option maxHeartbeats 4000000 in
theorem pX7_copyFrom_L24 {p : Program} {l : Launch} {e : Env} {s : State} {m : MethodId} {args : Array Value} {below : List Frame} {meth : Method} {c : Code} {Q : State → Prop} {G : GD} (F : FX p s m args meth c RX7 cX7_copyFrom 3 none G) : ∀ (n : Nat) {M N : Mem} {a0 : Nat} {a1 : Nat} {a2 : Int32} {H : Heap} {locs : List Loc} {ls : Array Slot} {Mo : Mem}, shp a0 = 7 → ST G M N s H locs → lv_has ls 3 [(0, .ref (G.2.1 a0)), (1, .ref (G.2.1 a1)), (2, .int a2)] → fX7_copyFrom_L24 n M a0 a1 a2 = some Mo → (K1 : ∀ (H : Heap) (locs : List Loc) (ls : Array Slot), ST G Mo N s H locs → lv_has ls 3 [] → W p l e (Rm 3 65) s m args below meth c H locs 0 0 Q (F0 m 63 ls [])) → W p l e (Rm 3 65) s m args below meth c H locs 0 0 Q (F0 m 24 ls []) := by
  intro n
  induction n with
  | zero => intro M N a0 a1 a2 H locs ls Mo hsh S hl h K1; cases h
  | succ n ih =>
    intro M N a0 a1 a2 H locs ls Mo hsh S hl h K1
    rw [fX7_copyFrom_L24] at h
    have hx := F.1
    have hb := F.2.1
    have hown := F.2.2.2.2.1
    have hts := F.2.2.2.2.2.1
    have hZ := F.2.2.2.2.2.2.2.2.2
    refine lv_iload_n (pc := 24) hx hb dX7_copyFrom_24 rfl (lv_at hl 2 rfl) ?_
    refine lv_aload_n (pc := 25) hx hb dX7_copyFrom_25 rfl (lv_at hl 0 rfl) ?_
    obtain ⟨x13, e14, h⟩ := ob_out h
    refine r_gR (pc := 26) (k := 2) F S e14 (by decide) cl7 inRX7 (by decide) w170 (fun _ => rfl) dX7_copyFrom_26 ?_
    obtain ⟨v15, e16, h⟩ := ob_out h
    refine r_aN (pc := 29) F S e16 (by decide) dX7_copyFrom_29 ?_
    refine lv_icmp_ge (pc := 30) (tgt := 63) hx hb dX7_copyFrom_30 (by decide) (fun c17 => ?_) (fun c17 => ?_)
    · replace h := (if_pos c17).symm.trans h
      cases h
      exact K1 H locs ls S (lv_sub hl [] rfl)
    · replace h := (if_neg c17).symm.trans h
      refine lv_iload_n (pc := 33) hx hb dX7_copyFrom_33 rfl (lv_at hl 2 rfl) ?_
      refine lv_aload_n (pc := 34) hx hb dX7_copyFrom_34 rfl (lv_at hl 1 rfl) ?_
      obtain ⟨x18, e19, h⟩ := ob_out h
      refine r_gR (pc := 35) (k := 2) F S e19 (by decide) cl7 inRX7 (by decide) w170 (fun _ => rfl) dX7_copyFrom_35 ?_
      obtain ⟨v20, e21, h⟩ := ob_out h
      refine r_aN (pc := 38) F S e21 (by decide) dX7_copyFrom_38 ?_
      refine lv_icmp_ge (pc := 39) (tgt := 63) hx hb dX7_copyFrom_39 (by decide) (fun c22 => ?_) (fun c22 => ?_)
      · replace h := (if_pos c22).symm.trans h
        cases h
        exact K1 H locs ls S (lv_sub hl [] rfl)
      · replace h := (if_neg c22).symm.trans h
        refine lv_aload_n (pc := 42) hx hb dX7_copyFrom_42 rfl (lv_at hl 0 rfl) ?_
        obtain ⟨x23, e24, h⟩ := ob_out h
        refine r_gR (pc := 43) (k := 2) F S e24 (by decide) cl7 inRX7 (by decide) w170 (fun _ => rfl) dX7_copyFrom_43 ?_
        refine lv_iload_n (pc := 46) hx hb dX7_copyFrom_46 rfl (lv_at hl 2 rfl) ?_
        obtain ⟨x25, e26, h⟩ := ob_out h
        refine r_aR22 (pc := 47) F S e26 dX7_copyFrom_47 ?_
        refine lv_aload_n (pc := 48) hx hb dX7_copyFrom_48 rfl (lv_at hl 1 rfl) ?_
        obtain ⟨x27, e28, h⟩ := ob_out h
        refine r_gR (pc := 49) (k := 2) F S e28 (by decide) cl7 inRX7 (by decide) w170 (fun _ => rfl) dX7_copyFrom_49 ?_
        refine lv_iload_n (pc := 52) hx hb dX7_copyFrom_52 rfl (lv_at hl 2 rfl) ?_
        obtain ⟨x29, e30, h⟩ := ob_out h
        refine r_aR22 (pc := 53) F S e30 dX7_copyFrom_53 ?_
        obtain ⟨M32, e31, h⟩ := ob_out h
        refine c_vV (pc := 54) (rest := []) F S (tX6_copyFrom e31) mfX6_copyFrom (sX6_copyFrom e31) (by decide) cl6 w378 ⟨Nat.le_of_ble_eq_true rfl, Nat.le_of_ble_eq_true rfl⟩ rfl hl.1 rfl (Nat.le_of_ble_eq_true rfl) dX7_copyFrom_54 (fun H locs S => ?_)
        refine lv_iinc (pc := 57) (lv' := [(2, .int (a2 + 1)), (0, .ref (G.2.1 a0)), (1, .ref (G.2.1 a1))]) hx hb dX7_copyFrom_57 hl (k := 2) rfl (iinc_n (by decide)) (by decide) rfl (fun ls hl => ?_)
        refine lv_goto (pc := 60) (tgt := 24) hx hb dX7_copyFrom_60 (by decide) ?_
        exact ih hsh S (lv_sub hl [1, 2, 0] rfl) h K1
set_option maxHeartbeats 4000000 in
theorem tX7_copyFrom {l : Launch} {G : GD} {M N Mo : Mem} {a0 : Nat} {a1 : Nat} (h : fX7_copyFrom M a0 a1 = some Mo) : MV l yX7_copyFrom cX7_copyFrom 3 3 65 G [.ref (G.2.1 a0), .ref (G.2.1 a1)] M N Mo N := by
  unfold fX7_copyFrom at h
  obtain ⟨hsh, h⟩ := ck_out h
  refine MV_of (own := RX7) (by decide) rfl (Nat.le_of_ble_eq_true rfl) ?_
  intro p e s m args below meth c F S ls hl
  have hx := F.1
  have hb := F.2.1
  have hown := F.2.2.2.2.1
  have hts := F.2.2.2.2.2.1
  have hZ := F.2.2.2.2.2.2.2.2.2
  have hl : lv_has ls 3 [(0, .ref (G.2.1 a0)), (1, .ref (G.2.1 a1))] := hl
  generalize s.heap = H, ([] : List Loc) = locs at S ⊢
  refine lv_aload_n (pc := 0) hx hb dX7_copyFrom_0 rfl (lv_at hl 1 rfl) ?_
  obtain ⟨x1, e2, h⟩ := ob_out h
  refine r_gR (pc := 1) (k := 0) F S e2 (by decide) cl7 inRX7 (by decide) w163 (fun _ => rfl) dX7_copyFrom_1 ?_
  refine lv_aload_n (pc := 4) hx hb dX7_copyFrom_4 rfl (lv_at hl 0 rfl) ?_
  obtain ⟨x3, e4, h⟩ := ob_out h
  refine r_gR (pc := 5) (k := 0) F S e4 (by decide) cl7 inRX7 (by decide) w163 (fun _ => rfl) dX7_copyFrom_5 ?_
  obtain ⟨M6, e5, h⟩ := ob_out h
  refine c_nV (pc := 8) (rest := []) F S (tX11_copy e5) mfX11_copy wn9 ⟨Nat.le_of_ble_eq_true rfl, Nat.le_of_ble_eq_true rfl⟩ rfl hl.1 rfl (Nat.le_of_ble_eq_true rfl) dX7_copyFrom_8 (fun H locs S => ?_)
  refine lv_aload_n (pc := 11) hx hb dX7_copyFrom_11 rfl (lv_at hl 0 rfl) ?_
  obtain ⟨x7, e8, h⟩ := ob_out h
  refine r_gR (pc := 12) (k := 1) F S e8 (by decide) cl7 inRX7 (by decide) w167 (fun _ => rfl) dX7_copyFrom_12 ?_
  refine lv_aload_n (pc := 15) hx hb dX7_copyFrom_15 rfl (lv_at hl 1 rfl) ?_
  obtain ⟨x9, e10, h⟩ := ob_out h
  refine r_gR (pc := 16) (k := 1) F S e10 (by decide) cl7 inRX7 (by decide) w167 (fun _ => rfl) dX7_copyFrom_16 ?_
  obtain ⟨M12, e11, h⟩ := ob_out h
  refine c_vV (pc := 19) (rest := []) F S (tX9_copyFrom e11) mfX9_copyFrom (sX9_copyFrom e11) (by decide) cl9 w373 ⟨Nat.le_of_ble_eq_true rfl, Nat.le_of_ble_eq_true rfl⟩ rfl hl.1 rfl (Nat.le_of_ble_eq_true rfl) dX7_copyFrom_19 (fun H locs S => ?_)
  refine lv_iconst (pc := 22) (v := 0) hx hb dX7_copyFrom_22 (by decide) ?_
  refine lv_istore_n (pc := 23) (lv' := [(2, .int 0), (0, .ref (G.2.1 a0)), (1, .ref (G.2.1 a1))]) hx hb dX7_copyFrom_23 rfl hl (by decide) rfl (fun ls hl => ?_)
  obtain ⟨M13, e14, h⟩ := ob_out h
  refine pX7_copyFrom_L24 F 5000 hsh S (lv_sub hl [1, 2, 0] rfl) e14 (fun H locs ls S hl => ?_)
  cases h
  exact r_vret (pc := 63) F S dX7_copyFrom_63
theorem mfX2_push : MF true yX2_push RX2 cX2_push 2 none 1 := ⟨w361, w7, by rw [if_pos rfl]; exact ⟨w359, w360⟩, ⟨by decide, by decide⟩, by decide +kernel⟩
set_option maxHeartbeats 4000000 in
theorem tX2_push {l : Launch} {G : GD} {M N Mo : Mem} {a1 : Nat} (h : fX2_push M a1 = some Mo) : MV l yX2_push cX2_push 2 4 87 G [.ref (G.2.1 12), .ref (G.2.1 a1)] M N Mo N := by
  unfold fX2_push at h
  refine MV_of (own := RX2) (by decide) rfl (Nat.le_of_ble_eq_true rfl) ?_
  intro p e s m args below meth c F S ls hl
  have hx := F.1
  have hb := F.2.1
  have hown := F.2.2.2.2.1
  have hts := F.2.2.2.2.2.1
  have hZ := F.2.2.2.2.2.2.2.2.2
  have hl : lv_has ls 2 [(0, .ref (G.2.1 12)), (1, .ref (G.2.1 a1))] := hl
  generalize s.heap = H, ([] : List Loc) = locs at S ⊢
  refine lv_aload_n (pc := 0) hx hb dX2_push_0 rfl (lv_at hl 0 rfl) ?_
  obtain ⟨v1, e2, h⟩ := ob_out h
  refine r_gI (pc := 1) (k := 1) F S e2 (by decide) cl2 inRX2 (by decide) w189 (fun _ => rfl) dX2_push_1 ?_
  refine lv_aload_n (pc := 4) hx hb dX2_push_4 rfl (lv_at hl 0 rfl) ?_
  refine r_gR (pc := 5) (k := 0) (x := 13) (i := 12) (ci := 2) F S (by decide) (by decide) cl2 inRX2 (by decide) w188 (fun _ => rfl) dX2_push_5 ?_
  refine r_aN (pc := 8) (t := 23) (i := 13) (x := 6) F S (by decide) (by decide) dX2_push_8 ?_
  obtain ⟨M3, d4, h⟩ := ob_out h
  have J5 : ∀ (H : Heap) (locs : List Loc) (ls : Array Slot), ST G M3 N s H locs → lv_has ls 2 [(0, .ref (G.2.1 12)), (1, .ref (G.2.1 a1))] → W p l e (Rm 4 87) s m args below meth c H locs 0 0 (MQ below (va_Qv (fun _ : Unit => True) (fun _ t => Wd G Mo N t) (AG G.2.1)) args s 0 0 (AG G.2.1)) (F0 m 16 ls []) := by
    intro H locs ls S hl
    refine lv_aload_n (pc := 16) hx hb dX2_push_16 rfl (lv_at hl 0 rfl) ?_
    refine r_gR (pc := 17) (k := 0) (x := 13) (i := 12) (ci := 2) F S (by decide) (by decide) cl2 inRX2 (by decide) w188 (fun _ => rfl) dX2_push_17 ?_
    refine lv_aload_n (pc := 20) hx hb dX2_push_20 rfl (lv_at hl 0 rfl) ?_
    obtain ⟨v6, e7, h⟩ := ob_out h
    refine r_gI (pc := 21) (k := 1) F S e7 (by decide) cl2 inRX2 (by decide) w189 (fun _ => rfl) dX2_push_21 ?_
    obtain ⟨x8, e9, h⟩ := ob_out h
    refine r_aD (pc := 24) F S e9 dX2_push_24 ?_
    refine lv_aload_n (pc := 25) hx hb dX2_push_25 rfl (lv_at hl 1 rfl) ?_
    obtain ⟨M11, e10, h⟩ := ob_out h
    refine c_vV (pc := 26) (rest := []) F S (tX7_copyFrom e10) mfX7_copyFrom (sX7_copyFrom e10) (by decide) cl7 w366 ⟨Nat.le_of_ble_eq_true rfl, Nat.le_of_ble_eq_true rfl⟩ rfl hl.1 rfl (Nat.le_of_ble_eq_true rfl) dX2_push_26 (fun H locs S => ?_)
    refine lv_aload_n (pc := 29) hx hb dX2_push_29 rfl (lv_at hl 0 rfl) ?_
    refine lv_dup (pc := 30) hx hb dX2_push_30 rfl ?_
    obtain ⟨v12, e13, h⟩ := ob_out h
    refine r_gI (pc := 31) (k := 1) F S e13 (by decide) cl2 inRX2 (by decide) w189 (fun _ => rfl) dX2_push_31 ?_
    refine lv_iconst (pc := 34) (v := 1) hx hb dX2_push_34 (by decide) ?_
    refine lv_iadd (pc := 35) hx hb dX2_push_35 ?_
    obtain ⟨M14, e15, h⟩ := ob_out h
    refine r_pI (pc := 36) (k := 1) (ty0 := tyX2) F S e15 (by decide) cl2 inRX2 tyX2_ok nmX2 (by decide) w189 rfl (by decide +kernel) (fun _ => Nat.le_of_ble_eq_true rfl) (fun _ => pf_2_1) dX2_push_36 (fun H locs S => ?_)
    cases h
    exact r_vret (pc := 39) F S dX2_push_39
  refine lv_icmp_lt (pc := 9) (tgt := 16) hx hb dX2_push_9 (by decide) (fun c16 => ?_) (fun c16 => ?_)
  · replace d4 := (if_pos c16).symm.trans d4
    cases d4
    exact J5 H locs ls S (lv_sub hl [0, 1] rfl)
  · replace d4 := (if_neg c16).symm.trans d4
    refine lv_aload_n (pc := 12) hx hb dX2_push_12 rfl (lv_at hl 0 rfl) ?_
    obtain ⟨M18, e17, d4⟩ := ob_out d4
    refine c_vV (pc := 13) (rest := []) F S (tX2_dropOldest e17) mfX2_dropOldest (by decide) (by decide) cl2 w362 ⟨Nat.le_of_ble_eq_true rfl, Nat.le_of_ble_eq_true rfl⟩ rfl hl.1 rfl (Nat.le_of_ble_eq_true rfl) dX2_push_13 (fun H locs S => ?_)
    cases d4
    exact J5 H locs ls S (lv_sub hl [0, 1] rfl)
theorem mfX11_set : MF true yX11_set RX11 cX11_set 4 (some .int) 2 := ⟨w350, w1, by rw [if_pos rfl]; exact ⟨w348, w349⟩, ⟨by decide, by decide⟩, by decide +kernel⟩
set_option maxHeartbeats 4000000 in
theorem tX11_set {l : Launch} {G : GD} {M N Mo : Mem} {a1 : Int32} {a2 : Int32} {r : Int32} (h : fX11_set M a1 a2 = some (r, Mo)) : MI l yX11_set cX11_set 4 .int 5 108 G [.ref (G.2.1 10), .int a1, .int a2] M N r Mo N := by
  unfold fX11_set at h
  refine MI_of (own := RX11) (by decide) rfl (Nat.le_of_ble_eq_true rfl) ?_
  intro p e s m args below meth c F S ls hl
  have hx := F.1
  have hb := F.2.1
  have hown := F.2.2.2.2.1
  have hts := F.2.2.2.2.2.1
  have hZ := F.2.2.2.2.2.2.2.2.2
  have hl : lv_has ls 4 [(0, .ref (G.2.1 10)), (1, .int a1), (2, .int a2)] := hl
  generalize s.heap = H, ([] : List Loc) = locs at S ⊢
  refine lv_iload_n (pc := 0) hx hb dX11_set_0 rfl (lv_at hl 1 rfl) ?_
  refine lv_iconst (pc := 1) (v := 0) hx hb dX11_set_1 (by decide) ?_
  refine r_gS (pc := 2) F S hZ.2.1 w351 dX11_set_2 ?_
  refine r_sN (pc := 5) F S hZ.2.1 dX11_set_5 ?_
  refine lv_iconst (pc := 6) (v := 1) hx hb dX11_set_6 (by decide) ?_
  refine lv_isub (pc := 7) hx hb dX11_set_7 ?_
  obtain ⟨v2, e1, h⟩ := ob_out h
  refine c_sI (pc := 8) (rest := []) F S (tX11_isIn e1) mfX11_isIn w353 ⟨Nat.le_of_ble_eq_true rfl, Nat.le_of_ble_eq_true rfl⟩ rfl hl.1 rfl (Nat.le_of_ble_eq_true rfl) dX11_set_8 (fun H locs S => ?_)
  refine lv_if_eq (pc := 11) (tgt := 31) hx hb dX11_set_11 (by decide) (fun c3 => ?_) (fun c3 => ?_)
  · replace h := (if_pos c3).symm.trans h
    refine lv_bipush (pc := 31) (v := (-2)) hx hb dX11_set_31 (by decide) ?_
    cases h
    exact r_iret (pc := 33) F S rfl dX11_set_33
  · replace h := (if_neg c3).symm.trans h
    refine lv_iload_n (pc := 14) hx hb dX11_set_14 rfl (lv_at hl 2 rfl) ?_
    refine r_gS (pc := 15) F S hZ.2.1 w351 dX11_set_15 ?_
    refine lv_iload_n (pc := 18) hx hb dX11_set_18 rfl (lv_at hl 1 rfl) ?_
    obtain ⟨v4, e5, h⟩ := ob_out h
    refine r_sL (pc := 19) F S hZ.2.1 e5 dX11_set_19 ?_
    refine r_gS (pc := 20) F S hZ.2.2 w356 dX11_set_20 ?_
    refine lv_iload_n (pc := 23) hx hb dX11_set_23 rfl (lv_at hl 1 rfl) ?_
    obtain ⟨v6, e7, h⟩ := ob_out h
    refine r_sL (pc := 24) F S hZ.2.2 e7 dX11_set_24 ?_
    obtain ⟨v9, e8, h⟩ := ob_out h
    refine c_sI (pc := 25) (rest := []) F S (tX11_isIn e8) mfX11_isIn w353 ⟨Nat.le_of_ble_eq_true rfl, Nat.le_of_ble_eq_true rfl⟩ rfl hl.1 rfl (Nat.le_of_ble_eq_true rfl) dX11_set_25 (fun H locs S => ?_)
    refine lv_if_ne (pc := 28) (tgt := 34) hx hb dX11_set_28 (by decide) (fun c10 => ?_) (fun c10 => ?_)
    · replace h := (if_neg c10).symm.trans h
      refine lv_aload_n (pc := 34) hx hb dX11_set_34 rfl (lv_at hl 0 rfl) ?_
      refine r_gR (pc := 35) (k := 1) (x := 12) (i := 10) (ci := 11) F S (by decide) (by decide) cl11 inRX11 (by decide) w320 (fun _ => rfl) dX11_set_35 ?_
      refine lv_aload_n (pc := 38) hx hb dX11_set_38 rfl (lv_at hl 0 rfl) ?_
      refine r_gR (pc := 39) (k := 0) (x := 34) (i := 10) (ci := 11) F S (by decide) (by decide) cl11 inRX11 (by decide) w319 (fun _ => rfl) dX11_set_39 ?_
      obtain ⟨M12, e11, h⟩ := ob_out h
      refine c_vV (pc := 42) (rest := []) F S (tX2_push e11) mfX2_push (by decide) (by decide) cl2 w358 ⟨Nat.le_of_ble_eq_true rfl, Nat.le_of_ble_eq_true rfl⟩ rfl hl.1 rfl (Nat.le_of_ble_eq_true rfl) dX11_set_42 (fun H locs S => ?_)
      refine lv_aload_n (pc := 45) hx hb dX11_set_45 rfl (lv_at hl 0 rfl) ?_
      refine r_gR (pc := 46) (k := 0) (x := 34) (i := 10) (ci := 11) F S (by decide) (by decide) cl11 inRX11 (by decide) w319 (fun _ => rfl) dX11_set_46 ?_
      refine r_gR (pc := 49) (k := 0) (x := 35) (i := 34) (ci := 7) F S (by decide) (by decide) cl7 inRX7 (by decide) w165 (fun _ => rfl) dX11_set_49 ?_
      refine lv_iload_n (pc := 52) hx hb dX11_set_52 rfl (lv_at hl 1 rfl) ?_
      obtain ⟨v13, e14, h⟩ := ob_out h
      refine r_aL (pc := 53) F S e14 dX11_set_53 ?_
      refine lv_istore_n (pc := 54) (lv' := [(3, .int v13), (0, .ref (G.2.1 10)), (1, .int a1), (2, .int a2)]) hx hb dX11_set_54 rfl hl (by decide) rfl (fun ls hl => ?_)
      refine lv_aload_n (pc := 55) hx hb dX11_set_55 rfl (lv_at hl 1 rfl) ?_
      refine r_gR (pc := 56) (k := 0) (x := 34) (i := 10) (ci := 11) F S (by decide) (by decide) cl11 inRX11 (by decide) w319 (fun _ => rfl) dX11_set_56 ?_
      refine r_gR (pc := 59) (k := 0) (x := 35) (i := 34) (ci := 7) F S (by decide) (by decide) cl7 inRX7 (by decide) w165 (fun _ => rfl) dX11_set_59 ?_
      refine lv_iload_n (pc := 62) hx hb dX11_set_62 rfl (lv_at hl 2 rfl) ?_
      refine lv_iload_n (pc := 63) hx hb dX11_set_63 rfl (lv_at hl 3 rfl) ?_
      obtain ⟨M15, e16, h⟩ := ob_out h
      refine r_aS (pc := 64) F S e16 dX11_set_64 (fun H locs S => ?_)
      refine lv_iload_n (pc := 65) hx hb dX11_set_65 rfl (lv_at hl 0 rfl) ?_
      cases h
      exact r_iret (pc := 66) F S rfl dX11_set_66
    · replace h := (if_pos c10).symm.trans h
      refine lv_bipush (pc := 31) (v := (-2)) hx hb dX11_set_31 (by decide) ?_
      cases h
      exact r_iret (pc := 33) F S rfl dX11_set_33
theorem sX9_isFull {M : Mem} {a0 : Nat} {r : (Int32)} (h : fX9_isFull M a0 = some r) : shp a0 = 9 := by
  unfold fX9_isFull at h
  exact (ck_out h).1
theorem mfX9_isFull : MF true yX9_isFull RX9 cX9_isFull 1 (some .boolean) 0 := ⟨w400, w3, by rw [if_pos rfl]; exact ⟨w398, w399⟩, ⟨by decide, by decide⟩, by decide +kernel⟩
set_option maxHeartbeats 4000000 in
theorem tX9_isFull {l : Launch} {G : GD} {M N : Mem} {a0 : Nat} {r : Int32} (h : fX9_isFull M a0 = some r) : MI l yX9_isFull cX9_isFull 1 .boolean 0 0 G [.ref (G.2.1 a0)] M N r M N := by
  unfold fX9_isFull at h
  obtain ⟨hsh, h⟩ := ck_out h
  refine MI_of (own := RX9) (by decide) rfl (Nat.le_of_ble_eq_true rfl) ?_
  intro p e s m args below meth c F S ls hl
  have hx := F.1
  have hb := F.2.1
  have hown := F.2.2.2.2.1
  have hts := F.2.2.2.2.2.1
  have hZ := F.2.2.2.2.2.2.2.2.2
  have hl : lv_has ls 1 [(0, .ref (G.2.1 a0))] := hl
  generalize s.heap = H, ([] : List Loc) = locs at S ⊢
  refine lv_aload_n (pc := 0) hx hb dX9_isFull_0 rfl (lv_at hl 0 rfl) ?_
  obtain ⟨v1, e2, h⟩ := ob_out h
  refine r_gI (pc := 1) (k := 0) F S e2 (by decide) cl9 inRX9 (by decide) w45 (fun _ => rfl) dX9_isFull_1 ?_
  refine lv_bipush (pc := 4) (v := 6) hx hb dX9_isFull_4 (by decide) ?_
  refine lv_icmp_lt (pc := 6) (tgt := 13) hx hb dX9_isFull_6 (by decide) (fun c3 => ?_) (fun c3 => ?_)
  · replace h := (if_pos c3).symm.trans h
    refine lv_iconst (pc := 13) (v := 0) hx hb dX9_isFull_13 (by decide) ?_
    cases h
    exact r_iret (pc := 14) F S rfl dX9_isFull_14
  · replace h := (if_neg c3).symm.trans h
    refine lv_iconst (pc := 9) (v := 1) hx hb dX9_isFull_9 (by decide) ?_
    refine lv_goto (pc := 10) (tgt := 14) hx hb dX9_isFull_10 (by decide) ?_
    cases h
    exact r_iret (pc := 14) F S rfl dX9_isFull_14
theorem sX9_add {M : Mem} {a0 : Nat} {a1 : Int32} {a2 : Int32} {a3 : Int32} {r : (Int32 × Mem)} (h : fX9_add M a0 a1 a2 a3 = some r) : shp a0 = 9 := by
  unfold fX9_add at h
  exact (ck_out h).1
theorem mfX9_add : MF true yX9_add RX9 cX9_add 5 (some .int) 3 := ⟨w404, w3, by rw [if_pos rfl]; exact ⟨w402, w403⟩, ⟨by decide, by decide⟩, by decide +kernel⟩
set_option maxHeartbeats 4000000 in
theorem tX9_add {l : Launch} {G : GD} {M N Mo : Mem} {a0 : Nat} {a1 : Int32} {a2 : Int32} {a3 : Int32} {r : Int32} (h : fX9_add M a0 a1 a2 a3 = some (r, Mo)) : MI l yX9_add cX9_add 5 .int 1 20 G [.ref (G.2.1 a0), .int a1, .int a2, .int a3] M N r Mo N := by
  unfold fX9_add at h
  obtain ⟨hsh, h⟩ := ck_out h
  refine MI_of (own := RX9) (by decide) rfl (Nat.le_of_ble_eq_true rfl) ?_
  intro p e s m args below meth c F S ls hl
  have hx := F.1
  have hb := F.2.1
  have hown := F.2.2.2.2.1
  have hts := F.2.2.2.2.2.1
  have hZ := F.2.2.2.2.2.2.2.2.2
  have hl : lv_has ls 5 [(0, .ref (G.2.1 a0)), (1, .int a1), (2, .int a2), (3, .int a3)] := hl
  generalize s.heap = H, ([] : List Loc) = locs at S ⊢
  refine lv_aload_n (pc := 0) hx hb dX9_add_0 rfl (lv_at hl 0 rfl) ?_
  obtain ⟨v2, e1, h⟩ := ob_out h
  refine c_vI (pc := 1) (rest := []) F S (tX9_isFull e1) mfX9_isFull (sX9_isFull e1) (by decide) cl9 w405 ⟨Nat.le_of_ble_eq_true rfl, Nat.le_of_ble_eq_true rfl⟩ rfl hl.1 rfl (Nat.le_of_ble_eq_true rfl) dX9_add_1 (fun H locs S => ?_)
  refine lv_if_eq (pc := 4) (tgt := 10) hx hb dX9_add_4 (by decide) (fun c3 => ?_) (fun c3 => ?_)
  · replace h := (if_pos c3).symm.trans h
    refine lv_aload_n (pc := 10) hx hb dX9_add_10 rfl (lv_at hl 0 rfl) ?_
    refine lv_dup (pc := 11) hx hb dX9_add_11 rfl ?_
    obtain ⟨v4, e5, h⟩ := ob_out h
    refine r_gI (pc := 12) (k := 0) F S e5 (by decide) cl9 inRX9 (by decide) w45 (fun _ => rfl) dX9_add_12 ?_
    refine lv_dup_x1 (pc := 15) hx hb dX9_add_15 rfl rfl ?_
    refine lv_iconst (pc := 16) (v := 1) hx hb dX9_add_16 (by decide) ?_
    refine lv_iadd (pc := 17) hx hb dX9_add_17 ?_
    obtain ⟨M6, e7, h⟩ := ob_out h
    refine r_pI (pc := 18) (k := 0) (ty0 := tyX9) F S e7 (by decide) cl9 inRX9 tyX9_ok nmX9 (by decide) w45 rfl (by decide +kernel) (fun _ => Nat.le_of_ble_eq_true rfl) (fun _ => pf_9_0) dX9_add_18 (fun H locs S => ?_)
    refine lv_istore (pc := 21) (lv' := [(4, .int v4), (0, .ref (G.2.1 a0)), (1, .int a1), (2, .int a2), (3, .int a3)]) hx hb dX9_add_21 hl (by decide) rfl (fun ls hl => ?_)
    refine lv_aload_n (pc := 23) hx hb dX9_add_23 rfl (lv_at hl 1 rfl) ?_
    obtain ⟨x8, e9, h⟩ := ob_out h
    refine r_gR (pc := 24) (k := 1) F S e9 (by decide) cl9 inRX9 (by decide) w48 (fun _ => rfl) dX9_add_24 ?_
    refine lv_iload (pc := 27) hx hb dX9_add_27 (lv_at hl 0 rfl) ?_
    refine lv_iload_n (pc := 29) hx hb dX9_add_29 rfl (lv_at hl 2 rfl) ?_
    obtain ⟨M10, e11, h⟩ := ob_out h
    refine r_aS (pc := 30) F S e11 dX9_add_30 (fun H locs S => ?_)
    refine lv_aload_n (pc := 31) hx hb dX9_add_31 rfl (lv_at hl 1 rfl) ?_
    obtain ⟨x12, e13, h⟩ := ob_out h
    refine r_gR (pc := 32) (k := 2) F S e13 (by decide) cl9 inRX9 (by decide) w49 (fun _ => rfl) dX9_add_32 ?_
    refine lv_iload (pc := 35) hx hb dX9_add_35 (lv_at hl 0 rfl) ?_
    refine lv_iload_n (pc := 37) hx hb dX9_add_37 rfl (lv_at hl 3 rfl) ?_
    obtain ⟨M14, e15, h⟩ := ob_out h
    refine r_aS (pc := 38) F S e15 dX9_add_38 (fun H locs S => ?_)
    refine lv_aload_n (pc := 39) hx hb dX9_add_39 rfl (lv_at hl 1 rfl) ?_
    obtain ⟨x16, e17, h⟩ := ob_out h
    refine r_gR (pc := 40) (k := 3) F S e17 (by decide) cl9 inRX9 (by decide) w50 (fun _ => rfl) dX9_add_40 ?_
    refine lv_iload (pc := 43) hx hb dX9_add_43 (lv_at hl 0 rfl) ?_
    refine lv_iload_n (pc := 45) hx hb dX9_add_45 rfl (lv_at hl 4 rfl) ?_
    obtain ⟨M18, e19, h⟩ := ob_out h
    refine r_aS (pc := 46) F S e19 dX9_add_46 (fun H locs S => ?_)
    refine lv_iload (pc := 47) hx hb dX9_add_47 (lv_at hl 0 rfl) ?_
    cases h
    exact r_iret (pc := 49) F S rfl dX9_add_49
  · replace h := (if_neg c3).symm.trans h
    refine lv_bipush (pc := 7) (v := (-4)) hx hb dX9_add_7 (by decide) ?_
    cases h
    exact r_iret (pc := 9) F S rfl dX9_add_9
theorem mfX11_type : MF true yX11_type RX11 cX11_type 4 (some .int) 3 := ⟨w396, w1, by rw [if_pos rfl]; exact ⟨w394, w395⟩, ⟨by decide, by decide⟩, by decide +kernel⟩
set_option maxHeartbeats 4000000 in
theorem tX11_type {l : Launch} {G : GD} {M N Mo : Mem} {a1 : Int32} {a2 : Int32} {a3 : Int32} {r : Int32} (h : fX11_type M a1 a2 a3 = some (r, Mo)) : MI l yX11_type cX11_type 4 .int 5 108 G [.ref (G.2.1 10), .int a1, .int a2, .int a3] M N r Mo N := by
  unfold fX11_type at h
  refine MI_of (own := RX11) (by decide) rfl (Nat.le_of_ble_eq_true rfl) ?_
  intro p e s m args below meth c F S ls hl
  have hx := F.1
  have hb := F.2.1
  have hown := F.2.2.2.2.1
  have hts := F.2.2.2.2.2.1
  have hZ := F.2.2.2.2.2.2.2.2.2
  have hl : lv_has ls 4 [(0, .ref (G.2.1 10)), (1, .int a1), (2, .int a2), (3, .int a3)] := hl
  generalize s.heap = H, ([] : List Loc) = locs at S ⊢
  refine lv_iload_n (pc := 0) hx hb dX11_type_0 rfl (lv_at hl 1 rfl) ?_
  refine lv_bipush (pc := 1) (v := 100) hx hb dX11_type_1 (by decide) ?_
  refine lv_sipush (pc := 3) (v := 2000) hx hb dX11_type_3 (by decide) ?_
  obtain ⟨v2, e1, h⟩ := ob_out h
  refine c_sI (pc := 6) (rest := []) F S (tX11_isIn e1) mfX11_isIn w353 ⟨Nat.le_of_ble_eq_true rfl, Nat.le_of_ble_eq_true rfl⟩ rfl hl.1 rfl (Nat.le_of_ble_eq_true rfl) dX11_type_6 (fun H locs S => ?_)
  refine lv_if_eq (pc := 9) (tgt := 32) hx hb dX11_type_9 (by decide) (fun c3 => ?_) (fun c3 => ?_)
  · replace h := (if_pos c3).symm.trans h
    refine lv_bipush (pc := 32) (v := (-2)) hx hb dX11_type_32 (by decide) ?_
    cases h
    exact r_iret (pc := 34) F S rfl dX11_type_34
  · replace h := (if_neg c3).symm.trans h
    refine lv_iload_n (pc := 12) hx hb dX11_type_12 rfl (lv_at hl 2 rfl) ?_
    refine lv_iconst (pc := 13) (v := 0) hx hb dX11_type_13 (by decide) ?_
    refine lv_bipush (pc := 14) (v := 20) hx hb dX11_type_14 (by decide) ?_
    obtain ⟨v5, e4, h⟩ := ob_out h
    refine c_sI (pc := 16) (rest := []) F S (tX11_isIn e4) mfX11_isIn w353 ⟨Nat.le_of_ble_eq_true rfl, Nat.le_of_ble_eq_true rfl⟩ rfl hl.1 rfl (Nat.le_of_ble_eq_true rfl) dX11_type_16 (fun H locs S => ?_)
    refine lv_if_eq (pc := 19) (tgt := 32) hx hb dX11_type_19 (by decide) (fun c6 => ?_) (fun c6 => ?_)
    · replace h := (if_pos c6).symm.trans h
      refine lv_bipush (pc := 32) (v := (-2)) hx hb dX11_type_32 (by decide) ?_
      cases h
      exact r_iret (pc := 34) F S rfl dX11_type_34
    · replace h := (if_neg c6).symm.trans h
      refine lv_iload_n (pc := 22) hx hb dX11_type_22 rfl (lv_at hl 3 rfl) ?_
      refine lv_iconst (pc := 23) (v := 0) hx hb dX11_type_23 (by decide) ?_
      refine lv_bipush (pc := 24) (v := 50) hx hb dX11_type_24 (by decide) ?_
      obtain ⟨v8, e7, h⟩ := ob_out h
      refine c_sI (pc := 26) (rest := []) F S (tX11_isIn e7) mfX11_isIn w353 ⟨Nat.le_of_ble_eq_true rfl, Nat.le_of_ble_eq_true rfl⟩ rfl hl.1 rfl (Nat.le_of_ble_eq_true rfl) dX11_type_26 (fun H locs S => ?_)
      refine lv_if_ne (pc := 29) (tgt := 35) hx hb dX11_type_29 (by decide) (fun c9 => ?_) (fun c9 => ?_)
      · replace h := (if_neg c9).symm.trans h
        refine lv_aload_n (pc := 35) hx hb dX11_type_35 rfl (lv_at hl 0 rfl) ?_
        refine r_gR (pc := 36) (k := 0) (x := 34) (i := 10) (ci := 11) F S (by decide) (by decide) cl11 inRX11 (by decide) w319 (fun _ => rfl) dX11_type_36 ?_
        refine r_gR (pc := 39) (k := 1) (x := 36) (i := 34) (ci := 7) F S (by decide) (by decide) cl7 inRX7 (by decide) w168 (fun _ => rfl) dX11_type_39 ?_
        obtain ⟨v11, e10, h⟩ := ob_out h
        refine c_vI (pc := 42) (rest := []) F S (tX9_isFull e10) mfX9_isFull (by decide) (by decide) cl9 w397 ⟨Nat.le_of_ble_eq_true rfl, Nat.le_of_ble_eq_true rfl⟩ rfl hl.1 rfl (Nat.le_of_ble_eq_true rfl) dX11_type_42 (fun H locs S => ?_)
        refine lv_if_eq (pc := 45) (tgt := 51) hx hb dX11_type_45 (by decide) (fun c12 => ?_) (fun c12 => ?_)
        · replace h := (if_pos c12).symm.trans h
          refine lv_aload_n (pc := 51) hx hb dX11_type_51 rfl (lv_at hl 0 rfl) ?_
          refine r_gR (pc := 52) (k := 1) (x := 12) (i := 10) (ci := 11) F S (by decide) (by decide) cl11 inRX11 (by decide) w320 (fun _ => rfl) dX11_type_52 ?_
          refine lv_aload_n (pc := 55) hx hb dX11_type_55 rfl (lv_at hl 0 rfl) ?_
          refine r_gR (pc := 56) (k := 0) (x := 34) (i := 10) (ci := 11) F S (by decide) (by decide) cl11 inRX11 (by decide) w319 (fun _ => rfl) dX11_type_56 ?_
          obtain ⟨M14, e13, h⟩ := ob_out h
          refine c_vV (pc := 59) (rest := []) F S (tX2_push e13) mfX2_push (by decide) (by decide) cl2 w358 ⟨Nat.le_of_ble_eq_true rfl, Nat.le_of_ble_eq_true rfl⟩ rfl hl.1 rfl (Nat.le_of_ble_eq_true rfl) dX11_type_59 (fun H locs S => ?_)
          refine lv_aload_n (pc := 62) hx hb dX11_type_62 rfl (lv_at hl 0 rfl) ?_
          refine r_gR (pc := 63) (k := 0) (x := 34) (i := 10) (ci := 11) F S (by decide) (by decide) cl11 inRX11 (by decide) w319 (fun _ => rfl) dX11_type_63 ?_
          refine r_gR (pc := 66) (k := 1) (x := 36) (i := 34) (ci := 7) F S (by decide) (by decide) cl7 inRX7 (by decide) w168 (fun _ => rfl) dX11_type_66 ?_
          refine lv_iload_n (pc := 69) hx hb dX11_type_69 rfl (lv_at hl 1 rfl) ?_
          refine lv_iload_n (pc := 70) hx hb dX11_type_70 rfl (lv_at hl 2 rfl) ?_
          refine lv_iload_n (pc := 71) hx hb dX11_type_71 rfl (lv_at hl 3 rfl) ?_
          obtain ⟨v16, M17, e15, h⟩ := ob2_out h
          refine c_vI (pc := 72) (rest := []) F S (tX9_add e15) mfX9_add (by decide) (by decide) cl9 w401 ⟨Nat.le_of_ble_eq_true rfl, Nat.le_of_ble_eq_true rfl⟩ rfl hl.1 rfl (Nat.le_of_ble_eq_true rfl) dX11_type_72 (fun H locs S => ?_)
          cases h
          exact r_iret (pc := 75) F S rfl dX11_type_75
        · replace h := (if_neg c12).symm.trans h
          refine lv_bipush (pc := 48) (v := (-4)) hx hb dX11_type_48 (by decide) ?_
          cases h
          exact r_iret (pc := 50) F S rfl dX11_type_50
      · replace h := (if_pos c9).symm.trans h
        refine lv_bipush (pc := 32) (v := (-2)) hx hb dX11_type_32 (by decide) ?_
        cases h
        exact r_iret (pc := 34) F S rfl dX11_type_34
theorem sX7_find {a0 : Nat} {a1 : Int32} {r : (Option Nat)} (h : fX7_find a0 a1 = some r) : shp a0 = 7 := by
  unfold fX7_find at h
  exact (ck_out h).1
theorem mfX7_find : MF true yX7_find RX7 cX7_find 2 (some (.object "PhaseLights$Premiere")) 1 := ⟨w413, w2, by rw [if_pos rfl]; exact ⟨w411, w412⟩, ⟨by decide, by decide⟩, by decide +kernel⟩
set_option maxHeartbeats 4000000 in
theorem tX7_find {l : Launch} {G : GD} {M N : Mem} {a0 : Nat} {a1 : Int32} {r : Option Nat} (h : fX7_find a0 a1 = some r) : MO l yX7_find cX7_find 2 "PhaseLights$Premiere" 1 22 G [.ref (G.2.1 a0), .int a1] M N r M N := by
  unfold fX7_find at h
  obtain ⟨hsh, h⟩ := ck_out h
  refine MO_of (own := RX7) (by decide) rfl (Nat.le_of_ble_eq_true rfl) ?_
  intro p e s m args below meth c F S ls hl
  have hx := F.1
  have hb := F.2.1
  have hown := F.2.2.2.2.1
  have hts := F.2.2.2.2.2.1
  have hZ := F.2.2.2.2.2.2.2.2.2
  have hl : lv_has ls 2 [(0, .ref (G.2.1 a0)), (1, .int a1)] := hl
  generalize s.heap = H, ([] : List Loc) = locs at S ⊢
  refine lv_iload_n (pc := 0) hx hb dX7_find_0 rfl (lv_at hl 1 rfl) ?_
  refine lv_iconst (pc := 1) (v := 0) hx hb dX7_find_1 (by decide) ?_
  refine lv_aload_n (pc := 2) hx hb dX7_find_2 rfl (lv_at hl 0 rfl) ?_
  obtain ⟨x1, e2, h⟩ := ob_out h
  refine r_gR (pc := 3) (k := 2) F S e2 (by decide) cl7 inRX7 (by decide) w170 (fun _ => rfl) dX7_find_3 ?_
  obtain ⟨v3, e4, h⟩ := ob_out h
  refine r_aN (pc := 6) F S e4 (by decide) dX7_find_6 ?_
  refine lv_iconst (pc := 7) (v := 1) hx hb dX7_find_7 (by decide) ?_
  refine lv_isub (pc := 8) hx hb dX7_find_8 ?_
  obtain ⟨v6, e5, h⟩ := ob_out h
  refine c_nI (pc := 9) (rest := []) F S (tX11_isIn e5) mfX11_isIn wn14 ⟨Nat.le_of_ble_eq_true rfl, Nat.le_of_ble_eq_true rfl⟩ rfl hl.1 rfl (Nat.le_of_ble_eq_true rfl) dX7_find_9 (fun H locs S => ?_)
  refine lv_if_eq (pc := 12) (tgt := 24) hx hb dX7_find_12 (by decide) (fun c7 => ?_) (fun c7 => ?_)
  · replace h := (if_pos c7).symm.trans h
    refine lv_null (pc := 24) hx hb dX7_find_24 ?_
    cases h
    exact r_aret (pc := 25) (r := none) F S dX7_find_25
  · replace h := (if_neg c7).symm.trans h
    refine lv_aload_n (pc := 15) hx hb dX7_find_15 rfl (lv_at hl 0 rfl) ?_
    obtain ⟨x8, e9, h⟩ := ob_out h
    refine r_gR (pc := 16) (k := 2) F S e9 (by decide) cl7 inRX7 (by decide) w170 (fun _ => rfl) dX7_find_16 ?_
    refine lv_iload_n (pc := 19) hx hb dX7_find_19 rfl (lv_at hl 1 rfl) ?_
    obtain ⟨x10, e11, h⟩ := ob_out h
    refine r_aR22 (pc := 20) F S e11 dX7_find_20 ?_
    refine lv_goto (pc := 21) (tgt := 25) hx hb dX7_find_21 (by decide) ?_
    cases h
    exact r_aret (pc := 25) (r := some x10) F S dX7_find_25
theorem mfX11_areDays : MF false yX11_areDays RX11 cX11_areDays 2 (some .boolean) 2 := ⟨w417, w1, by rw [if_neg (by decide)]; exact w416, ⟨by decide, by decide⟩, by decide +kernel⟩
set_option maxHeartbeats 4000000 in
theorem tX11_areDays {l : Launch} {G : GD} {M N : Mem} {a0 : Int32} {a1 : Int32} {r : Int32} (h : fX11_areDays a0 a1 = some r) : MI l yX11_areDays cX11_areDays 2 .boolean 1 22 G [.int a0, .int a1] M N r M N := by
  unfold fX11_areDays at h
  refine MI_of (own := RX11) (by decide) rfl (Nat.le_of_ble_eq_true rfl) ?_
  intro p e s m args below meth c F S ls hl
  have hx := F.1
  have hb := F.2.1
  have hown := F.2.2.2.2.1
  have hts := F.2.2.2.2.2.1
  have hZ := F.2.2.2.2.2.2.2.2.2
  have hl : lv_has ls 2 [(0, .int a0), (1, .int a1)] := hl
  generalize s.heap = H, ([] : List Loc) = locs at S ⊢
  refine lv_iload_n (pc := 0) hx hb dX11_areDays_0 rfl (lv_at hl 0 rfl) ?_
  refine lv_iconst (pc := 1) (v := 0) hx hb dX11_areDays_1 (by decide) ?_
  refine lv_bipush (pc := 2) (v := 6) hx hb dX11_areDays_2 (by decide) ?_
  obtain ⟨v2, e1, h⟩ := ob_out h
  refine c_sI (pc := 4) (rest := []) F S (tX11_isIn e1) mfX11_isIn w353 ⟨Nat.le_of_ble_eq_true rfl, Nat.le_of_ble_eq_true rfl⟩ rfl hl.1 rfl (Nat.le_of_ble_eq_true rfl) dX11_areDays_4 (fun H locs S => ?_)
  refine lv_if_eq (pc := 7) (tgt := 24) hx hb dX11_areDays_7 (by decide) (fun c3 => ?_) (fun c3 => ?_)
  · replace h := (if_pos c3).symm.trans h
    refine lv_iconst (pc := 24) (v := 0) hx hb dX11_areDays_24 (by decide) ?_
    cases h
    exact r_iret (pc := 25) F S rfl dX11_areDays_25
  · replace h := (if_neg c3).symm.trans h
    refine lv_iload_n (pc := 10) hx hb dX11_areDays_10 rfl (lv_at hl 1 rfl) ?_
    refine lv_iload_n (pc := 11) hx hb dX11_areDays_11 rfl (lv_at hl 0 rfl) ?_
    refine lv_bipush (pc := 12) (v := 6) hx hb dX11_areDays_12 (by decide) ?_
    obtain ⟨v5, e4, h⟩ := ob_out h
    refine c_sI (pc := 14) (rest := []) F S (tX11_isIn e4) mfX11_isIn w353 ⟨Nat.le_of_ble_eq_true rfl, Nat.le_of_ble_eq_true rfl⟩ rfl hl.1 rfl (Nat.le_of_ble_eq_true rfl) dX11_areDays_14 (fun H locs S => ?_)
    refine lv_if_eq (pc := 17) (tgt := 24) hx hb dX11_areDays_17 (by decide) (fun c6 => ?_) (fun c6 => ?_)
    · replace h := (if_pos c6).symm.trans h
      refine lv_iconst (pc := 24) (v := 0) hx hb dX11_areDays_24 (by decide) ?_
      cases h
      exact r_iret (pc := 25) F S rfl dX11_areDays_25
    · replace h := (if_neg c6).symm.trans h
      refine lv_iconst (pc := 20) (v := 1) hx hb dX11_areDays_20 (by decide) ?_
      refine lv_goto (pc := 21) (tgt := 25) hx hb dX11_areDays_21 (by decide) ?_
      cases h
      exact r_iret (pc := 25) F S rfl dX11_areDays_25
theorem mfX11_days : MF true yX11_days RX11 cX11_days 6 (some .int) 3 := ⟨w409, w1, by rw [if_pos rfl]; exact ⟨w407, w408⟩, ⟨by decide, by decide⟩, by decide +kernel⟩
set_option maxHeartbeats 4000000 in
theorem tX11_days {l : Launch} {G : GD} {M N Mo : Mem} {a1 : Int32} {a2 : Int32} {a3 : Int32} {r : Int32} (h : fX11_days M a1 a2 a3 = some (r, Mo)) : MI l yX11_days cX11_days 6 .int 5 108 G [.ref (G.2.1 10), .int a1, .int a2, .int a3] M N r Mo N := by
  unfold fX11_days at h
  refine MI_of (own := RX11) (by decide) rfl (Nat.le_of_ble_eq_true rfl) ?_
  intro p e s m args below meth c F S ls hl
  have hx := F.1
  have hb := F.2.1
  have hown := F.2.2.2.2.1
  have hts := F.2.2.2.2.2.1
  have hZ := F.2.2.2.2.2.2.2.2.2
  have hl : lv_has ls 6 [(0, .ref (G.2.1 10)), (1, .int a1), (2, .int a2), (3, .int a3)] := hl
  generalize s.heap = H, ([] : List Loc) = locs at S ⊢
  refine lv_aload_n (pc := 0) hx hb dX11_days_0 rfl (lv_at hl 0 rfl) ?_
  refine r_gR (pc := 1) (k := 0) (x := 34) (i := 10) (ci := 11) F S (by decide) (by decide) cl11 inRX11 (by decide) w319 (fun _ => rfl) dX11_days_1 ?_
  refine lv_iload_n (pc := 4) hx hb dX11_days_4 rfl (lv_at hl 1 rfl) ?_
  obtain ⟨r2, e1, h⟩ := ob_out h
  refine c_vO (pc := 5) (rest := []) F S (tX7_find e1) mfX7_find (by decide) (by decide) cl7 w410 ⟨Nat.le_of_ble_eq_true rfl, Nat.le_of_ble_eq_true rfl⟩ rfl hl.1 rfl (Nat.le_of_ble_eq_true rfl) dX11_days_5 (fun H locs S => ?_)
  cases r2 with
  | none =>
    replace h := caseO_n h
    refine W.eq (g2 := F0 m 8 ls (.null :: [])) rfl ?_
    refine lv_astoreN (pc := 8) (lv' := [(4, .null), (0, .ref (G.2.1 10)), (1, .int a1), (2, .int a2), (3, .int a3)]) hx hb dX11_days_8 hl (by decide) rfl (fun ls hl => ?_)
    refine lv_aloadN (pc := 10) hx hb dX11_days_10 (lv_at hl 0 rfl) ?_
    refine lv_ifnonnullN (pc := 12) hx hb dX11_days_12 ?_
    refine lv_iconst (pc := 15) (v := (-1)) hx hb dX11_days_15 (by decide) ?_
    cases h
    exact r_iret (pc := 16) F S rfl dX11_days_16
  | some x3 =>
    replace h := caseO_s h
    refine W.eq (g2 := F0 m 8 ls (.ref (G.2.1 x3) :: [])) rfl ?_
    refine lv_astore (pc := 8) (lv' := [(4, .ref (G.2.1 x3)), (0, .ref (G.2.1 10)), (1, .int a1), (2, .int a2), (3, .int a3)]) hx hb dX11_days_8 hl (by decide) rfl (fun ls hl => ?_)
    refine lv_aload (pc := 10) hx hb dX11_days_10 (lv_at hl 0 rfl) ?_
    refine lv_ifnonnull (pc := 12) (tgt := 17) hx hb dX11_days_12 (by decide) ?_
    refine lv_iload_n (pc := 17) hx hb dX11_days_17 rfl (lv_at hl 3 rfl) ?_
    refine lv_iload_n (pc := 18) hx hb dX11_days_18 rfl (lv_at hl 4 rfl) ?_
    obtain ⟨v5, e4, h⟩ := ob_out h
    refine c_sI (pc := 19) (rest := []) F S (tX11_areDays e4) mfX11_areDays w415 ⟨Nat.le_of_ble_eq_true rfl, Nat.le_of_ble_eq_true rfl⟩ rfl hl.1 rfl (Nat.le_of_ble_eq_true rfl) dX11_days_19 (fun H locs S => ?_)
    refine lv_if_ne (pc := 22) (tgt := 28) hx hb dX11_days_22 (by decide) (fun c6 => ?_) (fun c6 => ?_)
    · replace h := (if_neg c6).symm.trans h
      refine lv_aload_n (pc := 28) hx hb dX11_days_28 rfl (lv_at hl 1 rfl) ?_
      refine r_gR (pc := 29) (k := 1) (x := 12) (i := 10) (ci := 11) F S (by decide) (by decide) cl11 inRX11 (by decide) w320 (fun _ => rfl) dX11_days_29 ?_
      refine lv_aload_n (pc := 32) hx hb dX11_days_32 rfl (lv_at hl 1 rfl) ?_
      refine r_gR (pc := 33) (k := 0) (x := 34) (i := 10) (ci := 11) F S (by decide) (by decide) cl11 inRX11 (by decide) w319 (fun _ => rfl) dX11_days_33 ?_
      obtain ⟨M8, e7, h⟩ := ob_out h
      refine c_vV (pc := 36) (rest := []) F S (tX2_push e7) mfX2_push (by decide) (by decide) cl2 w358 ⟨Nat.le_of_ble_eq_true rfl, Nat.le_of_ble_eq_true rfl⟩ rfl hl.1 rfl (Nat.le_of_ble_eq_true rfl) dX11_days_36 (fun H locs S => ?_)
      refine lv_aload (pc := 39) hx hb dX11_days_39 (lv_at hl 0 rfl) ?_
      obtain ⟨v9, e10, h⟩ := ob_out h
      refine r_gI (pc := 41) (k := 1) F S e10 (by decide) cl6 inRX6 (by decide) w107 (fun _ => rfl) dX11_days_41 ?_
      refine lv_aload (pc := 44) hx hb dX11_days_44 (lv_at hl 0 rfl) ?_
      obtain ⟨v11, e12, h⟩ := ob_out h
      refine r_gI (pc := 46) (k := 0) F S e12 (by decide) cl6 inRX6 (by decide) w105 (fun _ => rfl) dX11_days_46 ?_
      refine lv_isub (pc := 49) hx hb dX11_days_49 ?_
      refine lv_iconst (pc := 50) (v := 1) hx hb dX11_days_50 (by decide) ?_
      refine lv_iadd (pc := 51) hx hb dX11_days_51 ?_
      obtain ⟨v13, e14, h⟩ := lt1_out h
      refine nm_i e14 ?_
      refine lv_istore (pc := 52) (lv' := [(5, .int v13), (4, .ref (G.2.1 x3)), (0, .ref (G.2.1 10)), (1, .int a1), (2, .int a2), (3, .int a3)]) hx hb dX11_days_52 hl (by decide) rfl (fun ls hl => ?_)
      refine lv_aload (pc := 54) hx hb dX11_days_54 (lv_at hl 1 rfl) ?_
      refine lv_iload_n (pc := 56) hx hb dX11_days_56 rfl (lv_at hl 4 rfl) ?_
      obtain ⟨M15, e16, h⟩ := ob_out h
      refine r_pI (pc := 57) (k := 0) (ty0 := tyX6) F S e16 (by decide) cl6 inRX6 tyX6_ok nmX6 (by decide) w105 rfl (by decide +kernel) (fun _ => Nat.le_of_ble_eq_true rfl) (fun _ => pf_6_0) dX11_days_57 (fun H locs S => ?_)
      refine lv_aload (pc := 60) hx hb dX11_days_60 (lv_at hl 1 rfl) ?_
      refine lv_iload_n (pc := 62) hx hb dX11_days_62 rfl (lv_at hl 5 rfl) ?_
      obtain ⟨M17, e18, h⟩ := ob_out h
      refine r_pI (pc := 63) (k := 1) (ty0 := tyX6) F S e18 (by decide) cl6 inRX6 tyX6_ok nmX6 (by decide) w107 rfl (by decide +kernel) (fun _ => Nat.le_of_ble_eq_true rfl) (fun _ => pf_6_1) dX11_days_63 (fun H locs S => ?_)
      refine lv_iload (pc := 66) hx hb dX11_days_66 (lv_at hl 0 rfl) ?_
      cases h
      exact r_iret (pc := 68) F S rfl dX11_days_68
    · replace h := (if_pos c6).symm.trans h
      refine lv_bipush (pc := 25) (v := (-2)) hx hb dX11_days_25 (by decide) ?_
      cases h
      exact r_iret (pc := 27) F S rfl dX11_days_27
theorem sX9_has {M : Mem} {a0 : Nat} {a1 : Int32} {r : (Int32)} (h : fX9_has M a0 a1 = some r) : shp a0 = 9 := by
  unfold fX9_has at h
  exact (ck_out h).1
theorem mfX9_has : MF true yX9_has RX9 cX9_has 2 (some .boolean) 1 := ⟨w425, w3, by rw [if_pos rfl]; exact ⟨w423, w424⟩, ⟨by decide, by decide⟩, by decide +kernel⟩
set_option maxHeartbeats 4000000 in
theorem tX9_has {l : Launch} {G : GD} {M N : Mem} {a0 : Nat} {a1 : Int32} {r : Int32} (h : fX9_has M a0 a1 = some r) : MI l yX9_has cX9_has 2 .boolean 0 0 G [.ref (G.2.1 a0), .int a1] M N r M N := by
  unfold fX9_has at h
  obtain ⟨hsh, h⟩ := ck_out h
  refine MI_of (own := RX9) (by decide) rfl (Nat.le_of_ble_eq_true rfl) ?_
  intro p e s m args below meth c F S ls hl
  have hx := F.1
  have hb := F.2.1
  have hown := F.2.2.2.2.1
  have hts := F.2.2.2.2.2.1
  have hZ := F.2.2.2.2.2.2.2.2.2
  have hl : lv_has ls 2 [(0, .ref (G.2.1 a0)), (1, .int a1)] := hl
  generalize s.heap = H, ([] : List Loc) = locs at S ⊢
  refine lv_iload_n (pc := 0) hx hb dX9_has_0 rfl (lv_at hl 1 rfl) ?_
  refine lv_if_lt (pc := 1) (tgt := 22) hx hb dX9_has_1 (by decide) (fun c1 => ?_) (fun c1 => ?_)
  · replace h := (if_pos c1).symm.trans h
    refine lv_iconst (pc := 22) (v := 0) hx hb dX9_has_22 (by decide) ?_
    cases h
    exact r_iret (pc := 23) F S rfl dX9_has_23
  · replace h := (if_neg c1).symm.trans h
    refine lv_iload_n (pc := 4) hx hb dX9_has_4 rfl (lv_at hl 1 rfl) ?_
    refine lv_aload_n (pc := 5) hx hb dX9_has_5 rfl (lv_at hl 0 rfl) ?_
    obtain ⟨v2, e3, h⟩ := ob_out h
    refine r_gI (pc := 6) (k := 0) F S e3 (by decide) cl9 inRX9 (by decide) w45 (fun _ => rfl) dX9_has_6 ?_
    refine lv_icmp_ge (pc := 9) (tgt := 22) hx hb dX9_has_9 (by decide) (fun c4 => ?_) (fun c4 => ?_)
    · replace h := (if_pos c4).symm.trans h
      refine lv_iconst (pc := 22) (v := 0) hx hb dX9_has_22 (by decide) ?_
      cases h
      exact r_iret (pc := 23) F S rfl dX9_has_23
    · replace h := (if_neg c4).symm.trans h
      refine lv_iload_n (pc := 12) hx hb dX9_has_12 rfl (lv_at hl 1 rfl) ?_
      refine lv_bipush (pc := 13) (v := 6) hx hb dX9_has_13 (by decide) ?_
      refine lv_icmp_ge (pc := 15) (tgt := 22) hx hb dX9_has_15 (by decide) (fun c5 => ?_) (fun c5 => ?_)
      · replace h := (if_pos c5).symm.trans h
        refine lv_iconst (pc := 22) (v := 0) hx hb dX9_has_22 (by decide) ?_
        cases h
        exact r_iret (pc := 23) F S rfl dX9_has_23
      · replace h := (if_neg c5).symm.trans h
        refine lv_iconst (pc := 18) (v := 1) hx hb dX9_has_18 (by decide) ?_
        refine lv_goto (pc := 19) (tgt := 23) hx hb dX9_has_19 (by decide) ?_
        cases h
        exact r_iret (pc := 23) F S rfl dX9_has_23
theorem mfX11_isDimmer : MF false yX11_isDimmer RX11 cX11_isDimmer 1 (some .boolean) 1 := ⟨w431, w1, by rw [if_neg (by decide)]; exact w430, ⟨by decide, by decide⟩, by decide +kernel⟩
set_option maxHeartbeats 4000000 in
theorem tX11_isDimmer {l : Launch} {G : GD} {M N : Mem} {a0 : Int32} {r : Int32} (h : fX11_isDimmer a0 = some r) : MI l yX11_isDimmer cX11_isDimmer 1 .boolean 1 22 G [.int a0] M N r M N := by
  unfold fX11_isDimmer at h
  refine MI_of (own := RX11) (by decide) rfl (Nat.le_of_ble_eq_true rfl) ?_
  intro p e s m args below meth c F S ls hl
  have hx := F.1
  have hb := F.2.1
  have hown := F.2.2.2.2.1
  have hts := F.2.2.2.2.2.1
  have hZ := F.2.2.2.2.2.2.2.2.2
  have hl : lv_has ls 1 [(0, .int a0)] := hl
  generalize s.heap = H, ([] : List Loc) = locs at S ⊢
  refine lv_iload_n (pc := 0) hx hb dX11_isDimmer_0 rfl (lv_at hl 0 rfl) ?_
  refine lv_iconst (pc := 1) (v := 0) hx hb dX11_isDimmer_1 (by decide) ?_
  refine lv_bipush (pc := 2) (v := 11) hx hb dX11_isDimmer_2 (by decide) ?_
  obtain ⟨v2, e1, h⟩ := ob_out h
  refine c_sI (pc := 4) (rest := []) F S (tX11_isIn e1) mfX11_isIn w353 ⟨Nat.le_of_ble_eq_true rfl, Nat.le_of_ble_eq_true rfl⟩ rfl hl.1 rfl (Nat.le_of_ble_eq_true rfl) dX11_isDimmer_4 (fun H locs S => ?_)
  obtain ⟨b3, e4, h⟩ := ob_out h
  cases h
  refine nm_i (bz_out e4).1 ?_
  exact r_iret (pc := 7) F S (bool_narrow (by rw [← (bz_out e4).1]; exact (bz_out e4).2)).1 dX11_isDimmer_7
theorem mfX11_isDimmerOrNone : MF false yX11_isDimmerOrNone RX11 cX11_isDimmerOrNone 1 (some .boolean) 1 := ⟨w428, w1, by rw [if_neg (by decide)]; exact w427, ⟨by decide, by decide⟩, by decide +kernel⟩
set_option maxHeartbeats 4000000 in
theorem tX11_isDimmerOrNone {l : Launch} {G : GD} {M N : Mem} {a0 : Int32} {r : Int32} (h : fX11_isDimmerOrNone a0 = some r) : MI l yX11_isDimmerOrNone cX11_isDimmerOrNone 1 .boolean 2 42 G [.int a0] M N r M N := by
  unfold fX11_isDimmerOrNone at h
  refine MI_of (own := RX11) (by decide) rfl (Nat.le_of_ble_eq_true rfl) ?_
  intro p e s m args below meth c F S ls hl
  have hx := F.1
  have hb := F.2.1
  have hown := F.2.2.2.2.1
  have hts := F.2.2.2.2.2.1
  have hZ := F.2.2.2.2.2.2.2.2.2
  have hl : lv_has ls 1 [(0, .int a0)] := hl
  generalize s.heap = H, ([] : List Loc) = locs at S ⊢
  refine lv_iload_n (pc := 0) hx hb dX11_isDimmerOrNone_0 rfl (lv_at hl 0 rfl) ?_
  refine lv_bipush (pc := 1) (v := (-6)) hx hb dX11_isDimmerOrNone_1 (by decide) ?_
  refine lv_icmp_eq (pc := 3) (tgt := 13) hx hb dX11_isDimmerOrNone_3 (by decide) (fun c1 => ?_) (fun c1 => ?_)
  · replace h := (if_pos c1).symm.trans h
    refine lv_iconst (pc := 13) (v := 1) hx hb dX11_isDimmerOrNone_13 (by decide) ?_
    refine lv_goto (pc := 14) (tgt := 18) hx hb dX11_isDimmerOrNone_14 (by decide) ?_
    cases h
    exact r_iret (pc := 18) F S rfl dX11_isDimmerOrNone_18
  · replace h := (if_neg c1).symm.trans h
    refine lv_iload_n (pc := 6) hx hb dX11_isDimmerOrNone_6 rfl (lv_at hl 0 rfl) ?_
    obtain ⟨v3, e2, h⟩ := ob_out h
    refine c_sI (pc := 7) (rest := []) F S (tX11_isDimmer e2) mfX11_isDimmer w429 ⟨Nat.le_of_ble_eq_true rfl, Nat.le_of_ble_eq_true rfl⟩ rfl hl.1 rfl (Nat.le_of_ble_eq_true rfl) dX11_isDimmerOrNone_7 (fun H locs S => ?_)
    refine lv_if_eq (pc := 10) (tgt := 17) hx hb dX11_isDimmerOrNone_10 (by decide) (fun c4 => ?_) (fun c4 => ?_)
    · replace h := (if_pos c4).symm.trans h
      refine lv_iconst (pc := 17) (v := 0) hx hb dX11_isDimmerOrNone_17 (by decide) ?_
      cases h
      exact r_iret (pc := 18) F S rfl dX11_isDimmerOrNone_18
    · replace h := (if_neg c4).symm.trans h
      refine lv_iconst (pc := 13) (v := 1) hx hb dX11_isDimmerOrNone_13 (by decide) ?_
      refine lv_goto (pc := 14) (tgt := 18) hx hb dX11_isDimmerOrNone_14 (by decide) ?_
      cases h
      exact r_iret (pc := 18) F S rfl dX11_isDimmerOrNone_18
theorem sX6_isFull {M : Mem} {a0 : Nat} {r : (Int32)} (h : fX6_isFull M a0 = some r) : shp a0 = 6 := by
  unfold fX6_isFull at h
  exact (ck_out h).1
theorem mfX6_isFull : MF true yX6_isFull RX6 cX6_isFull 1 (some .boolean) 0 := ⟨w435, w4, by rw [if_pos rfl]; exact ⟨w433, w434⟩, ⟨by decide, by decide⟩, by decide +kernel⟩
set_option maxHeartbeats 4000000 in
theorem tX6_isFull {l : Launch} {G : GD} {M N : Mem} {a0 : Nat} {r : Int32} (h : fX6_isFull M a0 = some r) : MI l yX6_isFull cX6_isFull 1 .boolean 0 0 G [.ref (G.2.1 a0)] M N r M N := by
  unfold fX6_isFull at h
  obtain ⟨hsh, h⟩ := ck_out h
  refine MI_of (own := RX6) (by decide) rfl (Nat.le_of_ble_eq_true rfl) ?_
  intro p e s m args below meth c F S ls hl
  have hx := F.1
  have hb := F.2.1
  have hown := F.2.2.2.2.1
  have hts := F.2.2.2.2.2.1
  have hZ := F.2.2.2.2.2.2.2.2.2
  have hl : lv_has ls 1 [(0, .ref (G.2.1 a0))] := hl
  generalize s.heap = H, ([] : List Loc) = locs at S ⊢
  refine lv_aload_n (pc := 0) hx hb dX6_isFull_0 rfl (lv_at hl 0 rfl) ?_
  obtain ⟨v1, e2, h⟩ := ob_out h
  refine r_gI (pc := 1) (k := 2) F S e2 (by decide) cl6 inRX6 (by decide) w109 (fun _ => rfl) dX6_isFull_1 ?_
  refine lv_bipush (pc := 4) (v := 12) hx hb dX6_isFull_4 (by decide) ?_
  refine lv_icmp_lt (pc := 6) (tgt := 13) hx hb dX6_isFull_6 (by decide) (fun c3 => ?_) (fun c3 => ?_)
  · replace h := (if_pos c3).symm.trans h
    refine lv_iconst (pc := 13) (v := 0) hx hb dX6_isFull_13 (by decide) ?_
    cases h
    exact r_iret (pc := 14) F S rfl dX6_isFull_14
  · replace h := (if_neg c3).symm.trans h
    refine lv_iconst (pc := 9) (v := 1) hx hb dX6_isFull_9 (by decide) ?_
    refine lv_goto (pc := 10) (tgt := 14) hx hb dX6_isFull_10 (by decide) ?_
    cases h
    exact r_iret (pc := 14) F S rfl dX6_isFull_14
theorem sX6_addLamp {M : Mem} {a0 : Nat} {a1 : Int32} {a2 : Int32} {r : (Int32 × Mem)} (h : fX6_addLamp M a0 a1 a2 = some r) : shp a0 = 6 := by
  unfold fX6_addLamp at h
  exact (ck_out h).1
theorem mfX6_addLamp : MF true yX6_addLamp RX6 cX6_addLamp 4 (some .int) 2 := ⟨w439, w4, by rw [if_pos rfl]; exact ⟨w437, w438⟩, ⟨by decide, by decide⟩, by decide +kernel⟩
set_option maxHeartbeats 4000000 in
theorem tX6_addLamp {l : Launch} {G : GD} {M N Mo : Mem} {a0 : Nat} {a1 : Int32} {a2 : Int32} {r : Int32} (h : fX6_addLamp M a0 a1 a2 = some (r, Mo)) : MI l yX6_addLamp cX6_addLamp 4 .int 1 20 G [.ref (G.2.1 a0), .int a1, .int a2] M N r Mo N := by
  unfold fX6_addLamp at h
  obtain ⟨hsh, h⟩ := ck_out h
  refine MI_of (own := RX6) (by decide) rfl (Nat.le_of_ble_eq_true rfl) ?_
  intro p e s m args below meth c F S ls hl
  have hx := F.1
  have hb := F.2.1
  have hown := F.2.2.2.2.1
  have hts := F.2.2.2.2.2.1
  have hZ := F.2.2.2.2.2.2.2.2.2
  have hl : lv_has ls 4 [(0, .ref (G.2.1 a0)), (1, .int a1), (2, .int a2)] := hl
  generalize s.heap = H, ([] : List Loc) = locs at S ⊢
  refine lv_aload_n (pc := 0) hx hb dX6_addLamp_0 rfl (lv_at hl 0 rfl) ?_
  obtain ⟨v2, e1, h⟩ := ob_out h
  refine c_vI (pc := 1) (rest := []) F S (tX6_isFull e1) mfX6_isFull (sX6_isFull e1) (by decide) cl6 w440 ⟨Nat.le_of_ble_eq_true rfl, Nat.le_of_ble_eq_true rfl⟩ rfl hl.1 rfl (Nat.le_of_ble_eq_true rfl) dX6_addLamp_1 (fun H locs S => ?_)
  refine lv_if_eq (pc := 4) (tgt := 10) hx hb dX6_addLamp_4 (by decide) (fun c3 => ?_) (fun c3 => ?_)
  · replace h := (if_pos c3).symm.trans h
    refine lv_aload_n (pc := 10) hx hb dX6_addLamp_10 rfl (lv_at hl 0 rfl) ?_
    refine lv_dup (pc := 11) hx hb dX6_addLamp_11 rfl ?_
    obtain ⟨v4, e5, h⟩ := ob_out h
    refine r_gI (pc := 12) (k := 2) F S e5 (by decide) cl6 inRX6 (by decide) w109 (fun _ => rfl) dX6_addLamp_12 ?_
    refine lv_dup_x1 (pc := 15) hx hb dX6_addLamp_15 rfl rfl ?_
    refine lv_iconst (pc := 16) (v := 1) hx hb dX6_addLamp_16 (by decide) ?_
    refine lv_iadd (pc := 17) hx hb dX6_addLamp_17 ?_
    obtain ⟨M6, e7, h⟩ := ob_out h
    refine r_pI (pc := 18) (k := 2) (ty0 := tyX6) F S e7 (by decide) cl6 inRX6 tyX6_ok nmX6 (by decide) w109 rfl (by decide +kernel) (fun _ => Nat.le_of_ble_eq_true rfl) (fun _ => pf_6_2) dX6_addLamp_18 (fun H locs S => ?_)
    refine lv_istore_n (pc := 21) (lv' := [(3, .int v4), (0, .ref (G.2.1 a0)), (1, .int a1), (2, .int a2)]) hx hb dX6_addLamp_21 rfl hl (by decide) rfl (fun ls hl => ?_)
    refine lv_aload_n (pc := 22) hx hb dX6_addLamp_22 rfl (lv_at hl 1 rfl) ?_
    obtain ⟨x8, e9, h⟩ := ob_out h
    refine r_gR (pc := 23) (k := 3) F S e9 (by decide) cl6 inRX6 (by decide) w112 (fun _ => rfl) dX6_addLamp_23 ?_
    refine lv_iload_n (pc := 26) hx hb dX6_addLamp_26 rfl (lv_at hl 0 rfl) ?_
    refine lv_iload_n (pc := 27) hx hb dX6_addLamp_27 rfl (lv_at hl 2 rfl) ?_
    obtain ⟨M10, e11, h⟩ := ob_out h
    refine r_aS (pc := 28) F S e11 dX6_addLamp_28 (fun H locs S => ?_)
    refine lv_aload_n (pc := 29) hx hb dX6_addLamp_29 rfl (lv_at hl 1 rfl) ?_
    obtain ⟨x12, e13, h⟩ := ob_out h
    refine r_gR (pc := 30) (k := 4) F S e13 (by decide) cl6 inRX6 (by decide) w114 (fun _ => rfl) dX6_addLamp_30 ?_
    refine lv_iload_n (pc := 33) hx hb dX6_addLamp_33 rfl (lv_at hl 0 rfl) ?_
    refine lv_iload_n (pc := 34) hx hb dX6_addLamp_34 rfl (lv_at hl 3 rfl) ?_
    obtain ⟨M14, e15, h⟩ := ob_out h
    refine r_aS (pc := 35) F S e15 dX6_addLamp_35 (fun H locs S => ?_)
    refine lv_iload_n (pc := 36) hx hb dX6_addLamp_36 rfl (lv_at hl 0 rfl) ?_
    cases h
    exact r_iret (pc := 37) F S rfl dX6_addLamp_37
  · replace h := (if_neg c3).symm.trans h
    refine lv_bipush (pc := 7) (v := (-4)) hx hb dX6_addLamp_7 (by decide) ?_
    cases h
    exact r_iret (pc := 9) F S rfl dX6_addLamp_9
theorem mfX11_hang : MF true yX11_hang RX11 cX11_hang 5 (some .int) 3 := ⟨w421, w1, by rw [if_pos rfl]; exact ⟨w419, w420⟩, ⟨by decide, by decide⟩, by decide +kernel⟩
set_option maxHeartbeats 4000000 in
theorem tX11_hang {l : Launch} {G : GD} {M N Mo : Mem} {a1 : Int32} {a2 : Int32} {a3 : Int32} {r : Int32} (h : fX11_hang M a1 a2 a3 = some (r, Mo)) : MI l yX11_hang cX11_hang 5 .int 5 108 G [.ref (G.2.1 10), .int a1, .int a2, .int a3] M N r Mo N := by
  unfold fX11_hang at h
  refine MI_of (own := RX11) (by decide) rfl (Nat.le_of_ble_eq_true rfl) ?_
  intro p e s m args below meth c F S ls hl
  have hx := F.1
  have hb := F.2.1
  have hown := F.2.2.2.2.1
  have hts := F.2.2.2.2.2.1
  have hZ := F.2.2.2.2.2.2.2.2.2
  have hl : lv_has ls 5 [(0, .ref (G.2.1 10)), (1, .int a1), (2, .int a2), (3, .int a3)] := hl
  generalize s.heap = H, ([] : List Loc) = locs at S ⊢
  refine lv_aload_n (pc := 0) hx hb dX11_hang_0 rfl (lv_at hl 0 rfl) ?_
  refine r_gR (pc := 1) (k := 0) (x := 34) (i := 10) (ci := 11) F S (by decide) (by decide) cl11 inRX11 (by decide) w319 (fun _ => rfl) dX11_hang_1 ?_
  refine lv_iload_n (pc := 4) hx hb dX11_hang_4 rfl (lv_at hl 1 rfl) ?_
  obtain ⟨r2, e1, h⟩ := ob_out h
  refine c_vO (pc := 5) (rest := []) F S (tX7_find e1) mfX7_find (by decide) (by decide) cl7 w410 ⟨Nat.le_of_ble_eq_true rfl, Nat.le_of_ble_eq_true rfl⟩ rfl hl.1 rfl (Nat.le_of_ble_eq_true rfl) dX11_hang_5 (fun H locs S => ?_)
  cases r2 with
  | none =>
    replace h := caseO_n h
    refine W.eq (g2 := F0 m 8 ls (.null :: [])) rfl ?_
    refine lv_astoreN (pc := 8) (lv' := [(4, .null), (0, .ref (G.2.1 10)), (1, .int a1), (2, .int a2), (3, .int a3)]) hx hb dX11_hang_8 hl (by decide) rfl (fun ls hl => ?_)
    refine lv_aloadN (pc := 10) hx hb dX11_hang_10 (lv_at hl 0 rfl) ?_
    refine lv_ifnullN (pc := 12) (tgt := 36) hx hb dX11_hang_12 (by decide) ?_
    refine lv_iconst (pc := 36) (v := (-1)) hx hb dX11_hang_36 (by decide) ?_
    cases h
    exact r_iret (pc := 37) F S rfl dX11_hang_37
  | some x3 =>
    replace h := caseO_s h
    refine W.eq (g2 := F0 m 8 ls (.ref (G.2.1 x3) :: [])) rfl ?_
    refine lv_astore (pc := 8) (lv' := [(4, .ref (G.2.1 x3)), (0, .ref (G.2.1 10)), (1, .int a1), (2, .int a2), (3, .int a3)]) hx hb dX11_hang_8 hl (by decide) rfl (fun ls hl => ?_)
    refine lv_aload (pc := 10) hx hb dX11_hang_10 (lv_at hl 0 rfl) ?_
    refine lv_ifnull (pc := 12) hx hb dX11_hang_12 ?_
    refine lv_aload_n (pc := 15) hx hb dX11_hang_15 rfl (lv_at hl 1 rfl) ?_
    refine r_gR (pc := 16) (k := 0) (x := 34) (i := 10) (ci := 11) F S (by decide) (by decide) cl11 inRX11 (by decide) w319 (fun _ => rfl) dX11_hang_16 ?_
    refine r_gR (pc := 19) (k := 1) (x := 36) (i := 34) (ci := 7) F S (by decide) (by decide) cl7 inRX7 (by decide) w168 (fun _ => rfl) dX11_hang_19 ?_
    refine lv_iload_n (pc := 22) hx hb dX11_hang_22 rfl (lv_at hl 3 rfl) ?_
    obtain ⟨v5, e4, h⟩ := ob_out h
    refine c_vI (pc := 23) (rest := []) F S (tX9_has e4) mfX9_has (by decide) (by decide) cl9 w422 ⟨Nat.le_of_ble_eq_true rfl, Nat.le_of_ble_eq_true rfl⟩ rfl hl.1 rfl (Nat.le_of_ble_eq_true rfl) dX11_hang_23 (fun H locs S => ?_)
    refine lv_if_eq (pc := 26) (tgt := 36) hx hb dX11_hang_26 (by decide) (fun c6 => ?_) (fun c6 => ?_)
    · replace h := (if_pos c6).symm.trans h
      refine lv_iconst (pc := 36) (v := (-1)) hx hb dX11_hang_36 (by decide) ?_
      cases h
      exact r_iret (pc := 37) F S rfl dX11_hang_37
    · replace h := (if_neg c6).symm.trans h
      refine lv_iload_n (pc := 29) hx hb dX11_hang_29 rfl (lv_at hl 4 rfl) ?_
      obtain ⟨v8, e7, h⟩ := ob_out h
      refine c_sI (pc := 30) (rest := []) F S (tX11_isDimmerOrNone e7) mfX11_isDimmerOrNone w426 ⟨Nat.le_of_ble_eq_true rfl, Nat.le_of_ble_eq_true rfl⟩ rfl hl.1 rfl (Nat.le_of_ble_eq_true rfl) dX11_hang_30 (fun H locs S => ?_)
      refine lv_if_ne (pc := 33) (tgt := 38) hx hb dX11_hang_33 (by decide) (fun c9 => ?_) (fun c9 => ?_)
      · replace h := (if_neg c9).symm.trans h
        refine lv_aload (pc := 38) hx hb dX11_hang_38 (lv_at hl 0 rfl) ?_
        obtain ⟨v11, e10, h⟩ := ob_out h
        refine c_vI (pc := 40) (rest := []) F S (tX6_isFull e10) mfX6_isFull (sX6_isFull e10) (by decide) cl6 w432 ⟨Nat.le_of_ble_eq_true rfl, Nat.le_of_ble_eq_true rfl⟩ rfl hl.1 rfl (Nat.le_of_ble_eq_true rfl) dX11_hang_40 (fun H locs S => ?_)
        refine lv_if_eq (pc := 43) (tgt := 49) hx hb dX11_hang_43 (by decide) (fun c12 => ?_) (fun c12 => ?_)
        · replace h := (if_pos c12).symm.trans h
          refine lv_aload_n (pc := 49) hx hb dX11_hang_49 rfl (lv_at hl 1 rfl) ?_
          refine r_gR (pc := 50) (k := 1) (x := 12) (i := 10) (ci := 11) F S (by decide) (by decide) cl11 inRX11 (by decide) w320 (fun _ => rfl) dX11_hang_50 ?_
          refine lv_aload_n (pc := 53) hx hb dX11_hang_53 rfl (lv_at hl 1 rfl) ?_
          refine r_gR (pc := 54) (k := 0) (x := 34) (i := 10) (ci := 11) F S (by decide) (by decide) cl11 inRX11 (by decide) w319 (fun _ => rfl) dX11_hang_54 ?_
          obtain ⟨M14, e13, h⟩ := ob_out h
          refine c_vV (pc := 57) (rest := []) F S (tX2_push e13) mfX2_push (by decide) (by decide) cl2 w358 ⟨Nat.le_of_ble_eq_true rfl, Nat.le_of_ble_eq_true rfl⟩ rfl hl.1 rfl (Nat.le_of_ble_eq_true rfl) dX11_hang_57 (fun H locs S => ?_)
          refine lv_aload (pc := 60) hx hb dX11_hang_60 (lv_at hl 0 rfl) ?_
          refine lv_iload_n (pc := 62) hx hb dX11_hang_62 rfl (lv_at hl 3 rfl) ?_
          refine lv_iload_n (pc := 63) hx hb dX11_hang_63 rfl (lv_at hl 4 rfl) ?_
          obtain ⟨v16, M17, e15, h⟩ := ob2_out h
          refine c_vI (pc := 64) (rest := []) F S (tX6_addLamp e15) mfX6_addLamp (sX6_addLamp e15) (by decide) cl6 w436 ⟨Nat.le_of_ble_eq_true rfl, Nat.le_of_ble_eq_true rfl⟩ rfl hl.1 rfl (Nat.le_of_ble_eq_true rfl) dX11_hang_64 (fun H locs S => ?_)
          cases h
          exact r_iret (pc := 67) F S rfl dX11_hang_67
        · replace h := (if_neg c12).symm.trans h
          refine lv_bipush (pc := 46) (v := (-4)) hx hb dX11_hang_46 (by decide) ?_
          cases h
          exact r_iret (pc := 48) F S rfl dX11_hang_48
      · replace h := (if_pos c9).symm.trans h
        refine lv_iconst (pc := 36) (v := (-1)) hx hb dX11_hang_36 (by decide) ?_
        cases h
        exact r_iret (pc := 37) F S rfl dX11_hang_37
theorem sX6_hasLamp {M : Mem} {a0 : Nat} {a1 : Int32} {r : (Int32)} (h : fX6_hasLamp M a0 a1 = some r) : shp a0 = 6 := by
  unfold fX6_hasLamp at h
  exact (ck_out h).1
theorem mfX6_hasLamp : MF true yX6_hasLamp RX6 cX6_hasLamp 2 (some .boolean) 1 := ⟨w448, w4, by rw [if_pos rfl]; exact ⟨w446, w447⟩, ⟨by decide, by decide⟩, by decide +kernel⟩
set_option maxHeartbeats 4000000 in
theorem tX6_hasLamp {l : Launch} {G : GD} {M N : Mem} {a0 : Nat} {a1 : Int32} {r : Int32} (h : fX6_hasLamp M a0 a1 = some r) : MI l yX6_hasLamp cX6_hasLamp 2 .boolean 0 0 G [.ref (G.2.1 a0), .int a1] M N r M N := by
  unfold fX6_hasLamp at h
  obtain ⟨hsh, h⟩ := ck_out h
  refine MI_of (own := RX6) (by decide) rfl (Nat.le_of_ble_eq_true rfl) ?_
  intro p e s m args below meth c F S ls hl
  have hx := F.1
  have hb := F.2.1
  have hown := F.2.2.2.2.1
  have hts := F.2.2.2.2.2.1
  have hZ := F.2.2.2.2.2.2.2.2.2
  have hl : lv_has ls 2 [(0, .ref (G.2.1 a0)), (1, .int a1)] := hl
  generalize s.heap = H, ([] : List Loc) = locs at S ⊢
  refine lv_iload_n (pc := 0) hx hb dX6_hasLamp_0 rfl (lv_at hl 1 rfl) ?_
  refine lv_if_lt (pc := 1) (tgt := 22) hx hb dX6_hasLamp_1 (by decide) (fun c1 => ?_) (fun c1 => ?_)
  · replace h := (if_pos c1).symm.trans h
    refine lv_iconst (pc := 22) (v := 0) hx hb dX6_hasLamp_22 (by decide) ?_
    cases h
    exact r_iret (pc := 23) F S rfl dX6_hasLamp_23
  · replace h := (if_neg c1).symm.trans h
    refine lv_iload_n (pc := 4) hx hb dX6_hasLamp_4 rfl (lv_at hl 1 rfl) ?_
    refine lv_aload_n (pc := 5) hx hb dX6_hasLamp_5 rfl (lv_at hl 0 rfl) ?_
    obtain ⟨v2, e3, h⟩ := ob_out h
    refine r_gI (pc := 6) (k := 2) F S e3 (by decide) cl6 inRX6 (by decide) w109 (fun _ => rfl) dX6_hasLamp_6 ?_
    refine lv_icmp_ge (pc := 9) (tgt := 22) hx hb dX6_hasLamp_9 (by decide) (fun c4 => ?_) (fun c4 => ?_)
    · replace h := (if_pos c4).symm.trans h
      refine lv_iconst (pc := 22) (v := 0) hx hb dX6_hasLamp_22 (by decide) ?_
      cases h
      exact r_iret (pc := 23) F S rfl dX6_hasLamp_23
    · replace h := (if_neg c4).symm.trans h
      refine lv_iload_n (pc := 12) hx hb dX6_hasLamp_12 rfl (lv_at hl 1 rfl) ?_
      refine lv_bipush (pc := 13) (v := 12) hx hb dX6_hasLamp_13 (by decide) ?_
      refine lv_icmp_ge (pc := 15) (tgt := 22) hx hb dX6_hasLamp_15 (by decide) (fun c5 => ?_) (fun c5 => ?_)
      · replace h := (if_pos c5).symm.trans h
        refine lv_iconst (pc := 22) (v := 0) hx hb dX6_hasLamp_22 (by decide) ?_
        cases h
        exact r_iret (pc := 23) F S rfl dX6_hasLamp_23
      · replace h := (if_neg c5).symm.trans h
        refine lv_iconst (pc := 18) (v := 1) hx hb dX6_hasLamp_18 (by decide) ?_
        refine lv_goto (pc := 19) (tgt := 23) hx hb dX6_hasLamp_19 (by decide) ?_
        cases h
        exact r_iret (pc := 23) F S rfl dX6_hasLamp_23
