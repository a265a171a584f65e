/-! the walks: each method does what its function says -/
theorem sX6_spreadDimmers {M : Mem} {a0 : Nat} {a1 : Nat} {a2 : Nat} {r : (Int32 × Mem)} (h : fX6_spreadDimmers M a0 a1 a2 = some r) : shp a0 = 6 := by
  unfold fX6_spreadDimmers at h
  exact (ck_out h).1
theorem mfX6_spreadDimmers : MF true yX6_spreadDimmers RX6 cX6_spreadDimmers 8 (some .int) 2 := ⟨w531, w4, by rw [if_pos rfl]; exact ⟨w529, w530⟩, ⟨by decide, by decide⟩, by decide +kernel⟩
set_option maxHeartbeats 4000000 in
theorem pX6_spreadDimmers_L12 {p : Program} {l : Launch} {e : Env} {s : State} {m : MethodId} {args : Array Value} {below : List Frame} {meth : Method} {c : Code} {Q : State → Prop} {G : GD} (F : FX p s m args meth c RX6 cX6_spreadDimmers 8 (some .int) G) : ∀ (n : Nat) {M N : Mem} {a0 : Nat} {a1 : Nat} {a2 : Nat} {a3 : Int32} {a4 : Int32} {a5 : Int32} {H : Heap} {locs : List Loc} {ls : Array Slot} {o4 : Int32} {Mo : Mem}, shp a0 = 6 → ST G M N s H locs → lv_has ls 8 [(0, .ref (G.2.1 a0)), (1, .ref (G.2.1 a1)), (2, .ref (G.2.1 a2)), (3, .int a3), (4, .int a4), (5, .int a5)] → fX6_spreadDimmers_L12 n M a0 a1 a2 a3 a4 a5 = some (o4, Mo) → (K1 : ∀ (H : Heap) (locs : List Loc) (ls : Array Slot), ST G Mo N s H locs → lv_has ls 8 [(4, .int o4)] → W p l e (Rm 2 45) s m args below meth c H locs 0 0 Q (F0 m 80 ls [])) → W p l e (Rm 2 45) s m args below meth c H locs 0 0 Q (F0 m 12 ls []) := by
  intro n
  induction n with
  | zero => intro M N a0 a1 a2 a3 a4 a5 H locs ls o4 Mo hsh S hl h K1; cases h
  | succ n ih =>
    intro M N a0 a1 a2 a3 a4 a5 H locs ls o4 Mo hsh S hl h K1
    rw [fX6_spreadDimmers_L12] at h
    have hx := F.1
    have hb := F.2.1
    have hown := F.2.2.2.2.1
    have hts := F.2.2.2.2.2.1
    have hZ := F.2.2.2.2.2.2.2.2.2
    refine lv_iload (pc := 12) hx hb dX6_spreadDimmers_12 (lv_at hl 5 rfl) ?_
    refine lv_bipush (pc := 14) (v := 12) hx hb dX6_spreadDimmers_14 (by decide) ?_
    refine lv_icmp_ge (pc := 16) (tgt := 80) hx hb dX6_spreadDimmers_16 (by decide) (fun c3 => ?_) (fun c3 => ?_)
    · replace h := (if_pos c3).symm.trans h
      cases h
      exact K1 H locs ls S (lv_sub hl [4] rfl)
    · replace h := (if_neg c3).symm.trans h
      refine lv_aload_n (pc := 19) hx hb dX6_spreadDimmers_19 rfl (lv_at hl 1 rfl) ?_
      refine lv_iload_n (pc := 20) hx hb dX6_spreadDimmers_20 rfl (lv_at hl 3 rfl) ?_
      obtain ⟨v5, e4, h⟩ := ob_out h
      refine c_sI (pc := 21) (rest := []) F S (tX6_heaviestLeft e4) mfX6_heaviestLeft w533 ⟨Nat.le_of_ble_eq_true rfl, Nat.le_of_ble_eq_true rfl⟩ rfl hl.1 rfl (Nat.le_of_ble_eq_true rfl) dX6_spreadDimmers_21 (fun H locs S => ?_)
      refine lv_istore (pc := 24) (lv' := [(6, .int v5), (0, .ref (G.2.1 a0)), (1, .ref (G.2.1 a1)), (2, .ref (G.2.1 a2)), (3, .int a3), (4, .int a4), (5, .int a5)]) hx hb dX6_spreadDimmers_24 hl (by decide) rfl (fun ls hl => ?_)
      refine lv_aload_n (pc := 26) hx hb dX6_spreadDimmers_26 rfl (lv_at hl 3 rfl) ?_
      obtain ⟨v7, e6, h⟩ := ob_out h
      refine c_sI (pc := 27) (rest := []) F S (tX6_lightest e6) mfX6_lightest w539 ⟨Nat.le_of_ble_eq_true rfl, Nat.le_of_ble_eq_true rfl⟩ rfl hl.1 rfl (Nat.le_of_ble_eq_true rfl) dX6_spreadDimmers_27 (fun H locs S => ?_)
      refine lv_istore (pc := 30) (lv' := [(7, .int v7), (6, .int v5), (0, .ref (G.2.1 a0)), (1, .ref (G.2.1 a1)), (2, .ref (G.2.1 a2)), (3, .int a3), (4, .int a4), (5, .int a5)]) hx hb dX6_spreadDimmers_30 hl (by decide) rfl (fun ls hl => ?_)
      refine lv_aload_n (pc := 32) hx hb dX6_spreadDimmers_32 rfl (lv_at hl 2 rfl) ?_
      obtain ⟨x8, e9, h⟩ := ob_out h
      refine r_gR (pc := 33) (k := 7) F S e9 (by decide) cl6 inRX6 (by decide) w121 (fun _ => rfl) dX6_spreadDimmers_33 ?_
      refine lv_iload (pc := 36) hx hb dX6_spreadDimmers_36 (lv_at hl 1 rfl) ?_
      obtain ⟨v10, e11, h⟩ := ob_out h
      refine r_aL (pc := 38) F S e11 dX6_spreadDimmers_38 ?_
      refine lv_iload (pc := 39) hx hb dX6_spreadDimmers_39 (lv_at hl 0 rfl) ?_
      obtain ⟨v12, d13, h⟩ := ob_out h
      have J14 : ∀ (H : Heap) (locs : List Loc) (ls : Array Slot), ST G M N s H locs → lv_has ls 8 [(0, .ref (G.2.1 a0)), (1, .ref (G.2.1 a1)), (2, .ref (G.2.1 a2)), (3, .int a3), (4, .int v12), (5, .int a5), (6, .int v5), (7, .int v7)] → W p l e (Rm 2 45) s m args below meth c H locs 0 0 Q (F0 m 47 ls []) := by
        intro H locs ls S hl
        refine lv_aload_n (pc := 47) hx hb dX6_spreadDimmers_47 rfl (lv_at hl 0 rfl) ?_
        obtain ⟨x15, e16, h⟩ := ob_out h
        refine r_gR (pc := 48) (k := 7) F S e16 (by decide) cl6 inRX6 (by decide) w121 (fun _ => rfl) dX6_spreadDimmers_48 ?_
        refine lv_iload (pc := 51) hx hb dX6_spreadDimmers_51 (lv_at hl 6 rfl) ?_
        refine lv_iload (pc := 53) hx hb dX6_spreadDimmers_53 (lv_at hl 7 rfl) ?_
        obtain ⟨M17, e18, h⟩ := ob_out h
        refine r_aS (pc := 55) F S e18 dX6_spreadDimmers_55 (fun H locs S => ?_)
        refine lv_aload_n (pc := 56) hx hb dX6_spreadDimmers_56 rfl (lv_at hl 2 rfl) ?_
        refine lv_iload (pc := 57) hx hb dX6_spreadDimmers_57 (lv_at hl 7 rfl) ?_
        refine lv_dup2_11 (pc := 59) hx hb dX6_spreadDimmers_59 rfl rfl ?_
        obtain ⟨v19, e20, h⟩ := ob_out h
        refine r_aL (pc := 60) F S e20 dX6_spreadDimmers_60 ?_
        refine lv_aload_n (pc := 61) hx hb dX6_spreadDimmers_61 rfl (lv_at hl 1 rfl) ?_
        refine lv_iload (pc := 62) hx hb dX6_spreadDimmers_62 (lv_at hl 6 rfl) ?_
        obtain ⟨v21, e22, h⟩ := ob_out h
        refine r_aL (pc := 64) F S e22 dX6_spreadDimmers_64 ?_
        refine lv_iadd (pc := 65) hx hb dX6_spreadDimmers_65 ?_
        obtain ⟨M23, e24, h⟩ := ob_out h
        refine r_aS (pc := 66) F S e24 dX6_spreadDimmers_66 (fun H locs S => ?_)
        refine lv_iload_n (pc := 67) hx hb dX6_spreadDimmers_67 rfl (lv_at hl 3 rfl) ?_
        refine lv_iconst (pc := 68) (v := 1) hx hb dX6_spreadDimmers_68 (by decide) ?_
        refine lv_iload (pc := 69) hx hb dX6_spreadDimmers_69 (lv_at hl 6 rfl) ?_
        refine lv_ishl (pc := 71) hx hb dX6_spreadDimmers_71 ?_
        refine lv_ior (pc := 72) hx hb dX6_spreadDimmers_72 ?_
        obtain ⟨v25, e26, h⟩ := lt1_out h
        refine nm_i e26 ?_
        refine lv_istore_n (pc := 73) (lv' := [(3, .int v25), (0, .ref (G.2.1 a0)), (1, .ref (G.2.1 a1)), (2, .ref (G.2.1 a2)), (4, .int v12), (5, .int a5), (6, .int v5), (7, .int v7)]) hx hb dX6_spreadDimmers_73 rfl hl (by decide) rfl (fun ls hl => ?_)
        refine lv_iinc (pc := 74) (lv' := [(5, .int (a5 + 1)), (3, .int v25), (0, .ref (G.2.1 a0)), (1, .ref (G.2.1 a1)), (2, .ref (G.2.1 a2)), (4, .int v12), (6, .int v5), (7, .int v7)]) hx hb dX6_spreadDimmers_74 hl (k := 5) rfl (iinc_n (by decide)) (by decide) rfl (fun ls hl => ?_)
        refine lv_goto (pc := 77) (tgt := 12) hx hb dX6_spreadDimmers_77 (by decide) ?_
        exact ih hsh S (lv_sub hl [2, 3, 4, 1, 5, 0] rfl) h K1
      refine lv_icmp_eq (pc := 41) (tgt := 47) hx hb dX6_spreadDimmers_41 (by decide) (fun c27 => ?_) (fun c27 => ?_)
      · replace d13 := (if_pos c27).symm.trans d13
        cases d13
        exact J14 H locs ls S (lv_sub hl [2, 3, 4, 5, 6, 7, 1, 0] rfl)
      · replace d13 := (if_neg c27).symm.trans d13
        refine lv_iinc (pc := 44) (lv' := [(4, .int (a4 + 1)), (7, .int v7), (6, .int v5), (0, .ref (G.2.1 a0)), (1, .ref (G.2.1 a1)), (2, .ref (G.2.1 a2)), (3, .int a3), (5, .int a5)]) hx hb dX6_spreadDimmers_44 hl (k := 6) rfl (iinc_n (by decide)) (by decide) rfl (fun ls hl => ?_)
        cases d13
        exact J14 H locs ls S (lv_sub hl [3, 4, 5, 6, 0, 7, 2, 1] rfl)
set_option maxHeartbeats 4000000 in
theorem tX6_spreadDimmers {l : Launch} {G : GD} {M N Mo : Mem} {a0 : Nat} {a1 : Nat} {a2 : Nat} {r : Int32} (h : fX6_spreadDimmers M a0 a1 a2 = some (r, Mo)) : MI l yX6_spreadDimmers cX6_spreadDimmers 8 .int 2 45 G [.ref (G.2.1 a0), .ref (G.2.1 a1), .ref (G.2.1 a2)] M N r Mo N := by
  unfold fX6_spreadDimmers at h
  obtain ⟨hsh, h⟩ := ck_out h
  refine MI_of (own := RX6) (by decide) rfl (Nat.le_of_ble_eq_true rfl) ?_
  intro p e s m args below meth c F S ls hl
  have hx := F.1
  have hb := F.2.1
  have hown := F.2.2.2.2.1
  have hts := F.2.2.2.2.2.1
  have hZ := F.2.2.2.2.2.2.2.2.2
  have hl : lv_has ls 8 [(0, .ref (G.2.1 a0)), (1, .ref (G.2.1 a1)), (2, .ref (G.2.1 a2))] := hl
  generalize s.heap = H, ([] : List Loc) = locs at S ⊢
  refine lv_iconst (pc := 0) (v := 0) hx hb dX6_spreadDimmers_0 (by decide) ?_
  refine lv_istore_n (pc := 1) (lv' := [(3, .int 0), (0, .ref (G.2.1 a0)), (1, .ref (G.2.1 a1)), (2, .ref (G.2.1 a2))]) hx hb dX6_spreadDimmers_1 rfl hl (by decide) rfl (fun ls hl => ?_)
  refine lv_iconst (pc := 2) (v := 0) hx hb dX6_spreadDimmers_2 (by decide) ?_
  refine lv_istore (pc := 3) (lv' := [(4, .int 0), (3, .int 0), (0, .ref (G.2.1 a0)), (1, .ref (G.2.1 a1)), (2, .ref (G.2.1 a2))]) hx hb dX6_spreadDimmers_3 hl (by decide) rfl (fun ls hl => ?_)
  refine lv_aload_n (pc := 5) hx hb dX6_spreadDimmers_5 rfl (lv_at hl 4 rfl) ?_
  obtain ⟨M2, e1, h⟩ := ob_out h
  refine c_nV (pc := 6) (rest := []) F S (tX11_clear e1) mfX11_clear wn22 ⟨Nat.le_of_ble_eq_true rfl, Nat.le_of_ble_eq_true rfl⟩ rfl hl.1 rfl (Nat.le_of_ble_eq_true rfl) dX6_spreadDimmers_6 (fun H locs S => ?_)
  refine lv_iconst (pc := 9) (v := 0) hx hb dX6_spreadDimmers_9 (by decide) ?_
  refine lv_istore (pc := 10) (lv' := [(5, .int 0), (4, .int 0), (3, .int 0), (0, .ref (G.2.1 a0)), (1, .ref (G.2.1 a1)), (2, .ref (G.2.1 a2))]) hx hb dX6_spreadDimmers_10 hl (by decide) rfl (fun ls hl => ?_)
  obtain ⟨v4, M3, e5, h⟩ := ob2_out h
  refine pX6_spreadDimmers_L12 F 5000 hsh S (lv_sub hl [3, 4, 5, 2, 1, 0] rfl) e5 (fun H locs ls S hl => ?_)
  refine lv_iload (pc := 80) hx hb dX6_spreadDimmers_80 (lv_at hl 0 rfl) ?_
  cases h
  exact r_iret (pc := 82) F S rfl dX6_spreadDimmers_82
theorem mfX11_spread : MF true yX11_spread RX11 cX11_spread 3 (some .int) 1 := ⟨w479, w1, by rw [if_pos rfl]; exact ⟨w477, w478⟩, ⟨by decide, by decide⟩, by decide +kernel⟩
set_option maxHeartbeats 4000000 in
theorem tX11_spread {l : Launch} {G : GD} {M N Mo : Mem} {a1 : Int32} {r : Int32} (h : fX11_spread M a1 = some (r, Mo)) : MI l yX11_spread cX11_spread 3 .int 5 114 G [.ref (G.2.1 10), .int a1] M N r Mo N := by
  unfold fX11_spread at h
  refine MI_of (own := RX11) (by decide) rfl (Nat.le_of_ble_eq_true rfl) ?_
  intro p e s m args below meth c F S ls hl
  have hx := F.1
  have hb := F.2.1
  have hown := F.2.2.2.2.1
  have hts := F.2.2.2.2.2.1
  have hZ := F.2.2.2.2.2.2.2.2.2
  have hl : lv_has ls 3 [(0, .ref (G.2.1 10)), (1, .int a1)] := hl
  generalize s.heap = H, ([] : List Loc) = locs at S ⊢
  refine lv_aload_n (pc := 0) hx hb dX11_spread_0 rfl (lv_at hl 0 rfl) ?_
  refine r_gR (pc := 1) (k := 0) (x := 34) (i := 10) (ci := 11) F S (by decide) (by decide) cl11 inRX11 (by decide) w319 (fun _ => rfl) dX11_spread_1 ?_
  refine lv_iload_n (pc := 4) hx hb dX11_spread_4 rfl (lv_at hl 1 rfl) ?_
  obtain ⟨r2, e1, h⟩ := ob_out h
  refine c_vO (pc := 5) (rest := []) F S (tX7_find e1) mfX7_find (by decide) (by decide) cl7 w410 ⟨Nat.le_of_ble_eq_true rfl, Nat.le_of_ble_eq_true rfl⟩ rfl hl.1 rfl (Nat.le_of_ble_eq_true rfl) dX11_spread_5 (fun H locs S => ?_)
  cases r2 with
  | none =>
    replace h := caseO_n h
    refine W.eq (g2 := F0 m 8 ls (.null :: [])) rfl ?_
    refine lv_astore_nN (pc := 8) (lv' := [(2, .null), (0, .ref (G.2.1 10)), (1, .int a1)]) hx hb dX11_spread_8 rfl hl (by decide) rfl (fun ls hl => ?_)
    refine lv_aload_nN (pc := 9) hx hb dX11_spread_9 rfl (lv_at hl 0 rfl) ?_
    refine lv_ifnonnullN (pc := 10) hx hb dX11_spread_10 ?_
    refine lv_iconst (pc := 13) (v := (-1)) hx hb dX11_spread_13 (by decide) ?_
    cases h
    exact r_iret (pc := 14) F S rfl dX11_spread_14
  | some x3 =>
    replace h := caseO_s h
    refine W.eq (g2 := F0 m 8 ls (.ref (G.2.1 x3) :: [])) rfl ?_
    refine lv_astore_n (pc := 8) (lv' := [(2, .ref (G.2.1 x3)), (0, .ref (G.2.1 10)), (1, .int a1)]) hx hb dX11_spread_8 rfl hl (by decide) rfl (fun ls hl => ?_)
    refine lv_aload_n (pc := 9) hx hb dX11_spread_9 rfl (lv_at hl 0 rfl) ?_
    refine lv_ifnonnull (pc := 10) (tgt := 15) hx hb dX11_spread_10 (by decide) ?_
    refine lv_aload_n (pc := 15) hx hb dX11_spread_15 rfl (lv_at hl 1 rfl) ?_
    refine r_gR (pc := 16) (k := 1) (x := 12) (i := 10) (ci := 11) F S (by decide) (by decide) cl11 inRX11 (by decide) w320 (fun _ => rfl) dX11_spread_16 ?_
    refine lv_aload_n (pc := 19) hx hb dX11_spread_19 rfl (lv_at hl 1 rfl) ?_
    refine r_gR (pc := 20) (k := 0) (x := 34) (i := 10) (ci := 11) F S (by decide) (by decide) cl11 inRX11 (by decide) w319 (fun _ => rfl) dX11_spread_20 ?_
    obtain ⟨M5, e4, h⟩ := ob_out h
    refine c_vV (pc := 23) (rest := []) F S (tX2_push e4) mfX2_push (by decide) (by decide) cl2 w358 ⟨Nat.le_of_ble_eq_true rfl, Nat.le_of_ble_eq_true rfl⟩ rfl hl.1 rfl (Nat.le_of_ble_eq_true rfl) dX11_spread_23 (fun H locs S => ?_)
    refine lv_aload_n (pc := 26) hx hb dX11_spread_26 rfl (lv_at hl 1 rfl) ?_
    refine r_gR (pc := 27) (k := 7) (x := 26) (i := 10) (ci := 11) F S (by decide) (by decide) cl11 inRX11 (by decide) w326 (fun _ => rfl) dX11_spread_27 ?_
    refine lv_aload_n (pc := 30) hx hb dX11_spread_30 rfl (lv_at hl 0 rfl) ?_
    refine lv_aload_n (pc := 31) hx hb dX11_spread_31 rfl (lv_at hl 1 rfl) ?_
    refine r_gR (pc := 32) (k := 0) (x := 34) (i := 10) (ci := 11) F S (by decide) (by decide) cl11 inRX11 (by decide) w319 (fun _ => rfl) dX11_spread_32 ?_
    refine r_gR (pc := 35) (k := 1) (x := 36) (i := 34) (ci := 7) F S (by decide) (by decide) cl7 inRX7 (by decide) w168 (fun _ => rfl) dX11_spread_35 ?_
    obtain ⟨M7, e6, h⟩ := ob_out h
    refine c_vV (pc := 38) (rest := []) F S (tX10_measure e6) mfX10_measure (by decide) (by decide) cl10 w480 ⟨Nat.le_of_ble_eq_true rfl, Nat.le_of_ble_eq_true rfl⟩ rfl hl.1 rfl (Nat.le_of_ble_eq_true rfl) dX11_spread_38 (fun H locs S => ?_)
    refine lv_aload_n (pc := 41) hx hb dX11_spread_41 rfl (lv_at hl 0 rfl) ?_
    refine lv_aload_n (pc := 42) hx hb dX11_spread_42 rfl (lv_at hl 1 rfl) ?_
    refine r_gR (pc := 43) (k := 7) (x := 26) (i := 10) (ci := 11) F S (by decide) (by decide) cl11 inRX11 (by decide) w326 (fun _ => rfl) dX11_spread_43 ?_
    refine r_gR (pc := 46) (k := 0) (x := 27) (i := 26) (ci := 10) F S (by decide) (by decide) cl10 inRX10 (by decide) w284 (fun _ => rfl) dX11_spread_46 ?_
    refine r_gR (pc := 49) (k := 0) (x := 28) (i := 27) (ci := 3) F S (by decide) (by decide) cl3 inRX3 (by decide) w263 (fun _ => rfl) dX11_spread_49 ?_
    refine lv_aload_n (pc := 52) hx hb dX11_spread_52 rfl (lv_at hl 1 rfl) ?_
    refine r_gR (pc := 53) (k := 7) (x := 26) (i := 10) (ci := 11) F S (by decide) (by decide) cl11 inRX11 (by decide) w326 (fun _ => rfl) dX11_spread_53 ?_
    refine r_gR (pc := 56) (k := 0) (x := 27) (i := 26) (ci := 10) F S (by decide) (by decide) cl10 inRX10 (by decide) w284 (fun _ => rfl) dX11_spread_56 ?_
    refine r_gR (pc := 59) (k := 1) (x := 29) (i := 27) (ci := 3) F S (by decide) (by decide) cl3 inRX3 (by decide) w268 (fun _ => rfl) dX11_spread_59 ?_
    obtain ⟨v9, M10, e8, h⟩ := ob2_out h
    refine c_vI (pc := 62) (rest := []) F S (tX6_spreadDimmers e8) mfX6_spreadDimmers (sX6_spreadDimmers e8) (by decide) cl6 w528 ⟨Nat.le_of_ble_eq_true rfl, Nat.le_of_ble_eq_true rfl⟩ rfl hl.1 rfl (Nat.le_of_ble_eq_true rfl) dX11_spread_62 (fun H locs S => ?_)
    cases h
    exact r_iret (pc := 65) F S rfl dX11_spread_65
theorem mfX11_at : MF true yX11_at RX11 cX11_at 6 (some .int) 3 := ⟨w545, w1, by rw [if_pos rfl]; exact ⟨w543, w544⟩, ⟨by decide, by decide⟩, by decide +kernel⟩
set_option maxHeartbeats 4000000 in
theorem tX11_at {l : Launch} {G : GD} {M N Mo : Mem} {a1 : Int32} {a2 : Int32} {a3 : Int32} {r : Int32} (h : fX11_at M a1 a2 a3 = some (r, Mo)) : MI l yX11_at cX11_at 6 .int 5 108 G [.ref (G.2.1 10), .int a1, .int a2, .int a3] M N r Mo N := by
  unfold fX11_at at h
  refine MI_of (own := RX11) (by decide) rfl (Nat.le_of_ble_eq_true rfl) ?_
  intro p e s m args below meth c F S ls hl
  have hx := F.1
  have hb := F.2.1
  have hown := F.2.2.2.2.1
  have hts := F.2.2.2.2.2.1
  have hZ := F.2.2.2.2.2.2.2.2.2
  have hl : lv_has ls 6 [(0, .ref (G.2.1 10)), (1, .int a1), (2, .int a2), (3, .int a3)] := hl
  generalize s.heap = H, ([] : List Loc) = locs at S ⊢
  refine lv_aload_n (pc := 0) hx hb dX11_at_0 rfl (lv_at hl 0 rfl) ?_
  refine r_gR (pc := 1) (k := 0) (x := 34) (i := 10) (ci := 11) F S (by decide) (by decide) cl11 inRX11 (by decide) w319 (fun _ => rfl) dX11_at_1 ?_
  refine lv_iload_n (pc := 4) hx hb dX11_at_4 rfl (lv_at hl 1 rfl) ?_
  obtain ⟨r2, e1, h⟩ := ob_out h
  refine c_vO (pc := 5) (rest := []) F S (tX7_find e1) mfX7_find (by decide) (by decide) cl7 w410 ⟨Nat.le_of_ble_eq_true rfl, Nat.le_of_ble_eq_true rfl⟩ rfl hl.1 rfl (Nat.le_of_ble_eq_true rfl) dX11_at_5 (fun H locs S => ?_)
  cases r2 with
  | none =>
    replace h := caseO_n h
    refine W.eq (g2 := F0 m 8 ls (.null :: [])) rfl ?_
    refine lv_astoreN (pc := 8) (lv' := [(4, .null), (0, .ref (G.2.1 10)), (1, .int a1), (2, .int a2), (3, .int a3)]) hx hb dX11_at_8 hl (by decide) rfl (fun ls hl => ?_)
    refine lv_aloadN (pc := 10) hx hb dX11_at_10 (lv_at hl 0 rfl) ?_
    refine lv_ifnullN (pc := 12) (tgt := 24) hx hb dX11_at_12 (by decide) ?_
    refine lv_iconst (pc := 24) (v := (-1)) hx hb dX11_at_24 (by decide) ?_
    cases h
    exact r_iret (pc := 25) F S rfl dX11_at_25
  | some x3 =>
    replace h := caseO_s h
    refine W.eq (g2 := F0 m 8 ls (.ref (G.2.1 x3) :: [])) rfl ?_
    refine lv_astore (pc := 8) (lv' := [(4, .ref (G.2.1 x3)), (0, .ref (G.2.1 10)), (1, .int a1), (2, .int a2), (3, .int a3)]) hx hb dX11_at_8 hl (by decide) rfl (fun ls hl => ?_)
    refine lv_aload (pc := 10) hx hb dX11_at_10 (lv_at hl 0 rfl) ?_
    refine lv_ifnull (pc := 12) hx hb dX11_at_12 ?_
    refine lv_aload (pc := 15) hx hb dX11_at_15 (lv_at hl 0 rfl) ?_
    refine lv_iload_n (pc := 17) hx hb dX11_at_17 rfl (lv_at hl 3 rfl) ?_
    obtain ⟨v5, e4, h⟩ := ob_out h
    refine c_vI (pc := 18) (rest := []) F S (tX6_hasLamp e4) mfX6_hasLamp (sX6_hasLamp e4) (by decide) cl6 w445 ⟨Nat.le_of_ble_eq_true rfl, Nat.le_of_ble_eq_true rfl⟩ rfl hl.1 rfl (Nat.le_of_ble_eq_true rfl) dX11_at_18 (fun H locs S => ?_)
    refine lv_if_ne (pc := 21) (tgt := 26) hx hb dX11_at_21 (by decide) (fun c6 => ?_) (fun c6 => ?_)
    · replace h := (if_neg c6).symm.trans h
      refine lv_iload_n (pc := 26) hx hb dX11_at_26 rfl (lv_at hl 4 rfl) ?_
      refine lv_iconst (pc := 27) (v := 0) hx hb dX11_at_27 (by decide) ?_
      refine lv_bipush (pc := 28) (v := 100) hx hb dX11_at_28 (by decide) ?_
      obtain ⟨v8, e7, h⟩ := ob_out h
      refine c_sI (pc := 30) (rest := []) F S (tX11_isIn e7) mfX11_isIn w353 ⟨Nat.le_of_ble_eq_true rfl, Nat.le_of_ble_eq_true rfl⟩ rfl hl.1 rfl (Nat.le_of_ble_eq_true rfl) dX11_at_30 (fun H locs S => ?_)
      refine lv_if_ne (pc := 33) (tgt := 39) hx hb dX11_at_33 (by decide) (fun c9 => ?_) (fun c9 => ?_)
      · replace h := (if_neg c9).symm.trans h
        refine lv_aload_n (pc := 39) hx hb dX11_at_39 rfl (lv_at hl 1 rfl) ?_
        refine r_gR (pc := 40) (k := 1) (x := 12) (i := 10) (ci := 11) F S (by decide) (by decide) cl11 inRX11 (by decide) w320 (fun _ => rfl) dX11_at_40 ?_
        refine lv_aload_n (pc := 43) hx hb dX11_at_43 rfl (lv_at hl 1 rfl) ?_
        refine r_gR (pc := 44) (k := 0) (x := 34) (i := 10) (ci := 11) F S (by decide) (by decide) cl11 inRX11 (by decide) w319 (fun _ => rfl) dX11_at_44 ?_
        obtain ⟨M11, e10, h⟩ := ob_out h
        refine c_vV (pc := 47) (rest := []) F S (tX2_push e10) mfX2_push (by decide) (by decide) cl2 w358 ⟨Nat.le_of_ble_eq_true rfl, Nat.le_of_ble_eq_true rfl⟩ rfl hl.1 rfl (Nat.le_of_ble_eq_true rfl) dX11_at_47 (fun H locs S => ?_)
        refine lv_aload (pc := 50) hx hb dX11_at_50 (lv_at hl 0 rfl) ?_
        obtain ⟨x12, e13, h⟩ := ob_out h
        refine r_gR (pc := 52) (k := 5) F S e13 (by decide) cl6 inRX6 (by decide) w117 (fun _ => rfl) dX11_at_52 ?_
        refine lv_iload_n (pc := 55) hx hb dX11_at_55 rfl (lv_at hl 3 rfl) ?_
        obtain ⟨v14, e15, h⟩ := ob_out h
        refine r_aL (pc := 56) F S e15 dX11_at_56 ?_
        refine lv_istore (pc := 57) (lv' := [(5, .int v14), (4, .ref (G.2.1 x3)), (0, .ref (G.2.1 10)), (1, .int a1), (2, .int a2), (3, .int a3)]) hx hb dX11_at_57 hl (by decide) rfl (fun ls hl => ?_)
        refine lv_aload (pc := 59) hx hb dX11_at_59 (lv_at hl 1 rfl) ?_
        obtain ⟨x16, e17, h⟩ := ob_out h
        refine r_gR (pc := 61) (k := 5) F S e17 (by decide) cl6 inRX6 (by decide) w117 (fun _ => rfl) dX11_at_61 ?_
        refine lv_iload_n (pc := 64) hx hb dX11_at_64 rfl (lv_at hl 4 rfl) ?_
        refine lv_iload_n (pc := 65) hx hb dX11_at_65 rfl (lv_at hl 5 rfl) ?_
        obtain ⟨M18, e19, h⟩ := ob_out h
        refine r_aS (pc := 66) F S e19 dX11_at_66 (fun H locs S => ?_)
        refine lv_iload (pc := 67) hx hb dX11_at_67 (lv_at hl 0 rfl) ?_
        cases h
        exact r_iret (pc := 69) F S rfl dX11_at_69
      · replace h := (if_pos c9).symm.trans h
        refine lv_bipush (pc := 36) (v := (-2)) hx hb dX11_at_36 (by decide) ?_
        cases h
        exact r_iret (pc := 38) F S rfl dX11_at_38
    · replace h := (if_pos c6).symm.trans h
      refine lv_iconst (pc := 24) (v := (-1)) hx hb dX11_at_24 (by decide) ?_
      cases h
      exact r_iret (pc := 25) F S rfl dX11_at_25
theorem sX6_recordCue {M : Mem} {a0 : Nat} {a1 : Int32} {a2 : Int32} {r : Mem} (h : fX6_recordCue M a0 a1 a2 = some r) : shp a0 = 6 := by
  unfold fX6_recordCue at h
  exact (ck_out h).1
theorem mfX6_recordCue : MF true yX6_recordCue RX6 cX6_recordCue 3 none 2 := ⟨w554, w4, by rw [if_pos rfl]; exact ⟨w552, w553⟩, ⟨by decide, by decide⟩, by decide +kernel⟩
set_option maxHeartbeats 4000000 in
theorem tX6_recordCue {l : Launch} {G : GD} {M N Mo : Mem} {a0 : Nat} {a1 : Int32} {a2 : Int32} (h : fX6_recordCue M a0 a1 a2 = some Mo) : MV l yX6_recordCue cX6_recordCue 3 2 42 G [.ref (G.2.1 a0), .int a1, .int a2] M N Mo N := by
  unfold fX6_recordCue at h
  obtain ⟨hsh, h⟩ := ck_out h
  refine MV_of (own := RX6) (by decide) rfl (Nat.le_of_ble_eq_true rfl) ?_
  intro p e s m args below meth c F S ls hl
  have hx := F.1
  have hb := F.2.1
  have hown := F.2.2.2.2.1
  have hts := F.2.2.2.2.2.1
  have hZ := F.2.2.2.2.2.2.2.2.2
  have hl : lv_has ls 3 [(0, .ref (G.2.1 a0)), (1, .int a1), (2, .int a2)] := hl
  generalize s.heap = H, ([] : List Loc) = locs at S ⊢
  refine lv_iload_n (pc := 0) hx hb dX6_recordCue_0 rfl (lv_at hl 1 rfl) ?_
  obtain ⟨v2, e1, h⟩ := ob_out h
  refine c_nI (pc := 1) (rest := []) F S (tX11_isCue e1) mfX11_isCue wn18 ⟨Nat.le_of_ble_eq_true rfl, Nat.le_of_ble_eq_true rfl⟩ rfl hl.1 rfl (Nat.le_of_ble_eq_true rfl) dX6_recordCue_1 (fun H locs S => ?_)
  refine lv_if_eq (pc := 4) (tgt := 27) hx hb dX6_recordCue_4 (by decide) (fun c3 => ?_) (fun c3 => ?_)
  · replace h := (if_pos c3).symm.trans h
    cases h
    exact r_vret (pc := 27) F S dX6_recordCue_27
  · replace h := (if_neg c3).symm.trans h
    refine lv_aload_n (pc := 7) hx hb dX6_recordCue_7 rfl (lv_at hl 0 rfl) ?_
    obtain ⟨x4, e5, h⟩ := ob_out h
    refine r_gR (pc := 8) (k := 8) F S e5 (by decide) cl6 inRX6 (by decide) w123 (fun _ => rfl) dX6_recordCue_8 ?_
    refine lv_iload_n (pc := 11) hx hb dX6_recordCue_11 rfl (lv_at hl 1 rfl) ?_
    refine lv_iload_n (pc := 12) hx hb dX6_recordCue_12 rfl (lv_at hl 2 rfl) ?_
    obtain ⟨M6, e7, h⟩ := ob_out h
    refine r_aS (pc := 13) F S e7 dX6_recordCue_13 (fun H locs S => ?_)
    refine lv_aload_n (pc := 14) hx hb dX6_recordCue_14 rfl (lv_at hl 0 rfl) ?_
    obtain ⟨x8, e9, h⟩ := ob_out h
    refine r_gR (pc := 15) (k := 5) F S e9 (by decide) cl6 inRX6 (by decide) w116 (fun _ => rfl) dX6_recordCue_15 ?_
    refine lv_aload_n (pc := 18) hx hb dX6_recordCue_18 rfl (lv_at hl 0 rfl) ?_
    obtain ⟨x10, e11, h⟩ := ob_out h
    refine r_gR (pc := 19) (k := 9) F S e11 (by decide) cl6 inRX6 (by decide) w127 (fun _ => rfl) dX6_recordCue_19 ?_
    refine lv_iload_n (pc := 22) hx hb dX6_recordCue_22 rfl (lv_at hl 1 rfl) ?_
    obtain ⟨x12, e13, h⟩ := ob_out h
    refine r_aR24 (pc := 23) F S e13 dX6_recordCue_23 ?_
    obtain ⟨M15, e14, h⟩ := ob_out h
    refine c_nV (pc := 24) (rest := []) F S (tX11_copy e14) mfX11_copy wn11 ⟨Nat.le_of_ble_eq_true rfl, Nat.le_of_ble_eq_true rfl⟩ rfl hl.1 rfl (Nat.le_of_ble_eq_true rfl) dX6_recordCue_24 (fun H locs S => ?_)
    cases h
    exact r_vret (pc := 27) F S dX6_recordCue_27
theorem sX6_recordedCues {M : Mem} {a0 : Nat} {r : (Int32)} (h : fX6_recordedCues M a0 = some r) : shp a0 = 6 := by
  unfold fX6_recordedCues at h
  exact (ck_out h).1
theorem mfX6_recordedCues : MF true yX6_recordedCues RX6 cX6_recordedCues 3 (some .int) 0 := ⟨w558, w4, by rw [if_pos rfl]; exact ⟨w556, w557⟩, ⟨by decide, by decide⟩, by decide +kernel⟩
set_option maxHeartbeats 4000000 in
theorem pX6_recordedCues_L4 {p : Program} {l : Launch} {e : Env} {s : State} {m : MethodId} {args : Array Value} {below : List Frame} {meth : Method} {c : Code} {Q : State → Prop} {G : GD} (F : FX p s m args meth c RX6 cX6_recordedCues 3 (some .int) G) : ∀ (n : Nat) {M N : Mem} {a0 : Nat} {a1 : Int32} {a2 : Int32} {H : Heap} {locs : List Loc} {ls : Array Slot} {o1 : Int32}, shp a0 = 6 → ST G M N s H locs → lv_has ls 3 [(0, .ref (G.2.1 a0)), (1, .int a1), (2, .int a2)] → fX6_recordedCues_L4 n M a0 a1 a2 = some o1 → (K1 : ∀ (H : Heap) (locs : List Loc) (ls : Array Slot), ST G M N s H locs → lv_has ls 3 [(1, .int o1)] → W p l e (Rm 3 63) s m args below meth c H locs 0 0 Q (F0 m 30 ls [])) → W p l e (Rm 3 63) s m args below meth c H locs 0 0 Q (F0 m 4 ls []) := by
  intro n
  induction n with
  | zero => intro M N a0 a1 a2 H locs ls o1 hsh S hl h K1; cases h
  | succ n ih =>
    intro M N a0 a1 a2 H locs ls o1 hsh S hl h K1
    rw [fX6_recordedCues_L4] at h
    have hx := F.1
    have hb := F.2.1
    have hown := F.2.2.2.2.1
    have hts := F.2.2.2.2.2.1
    have hZ := F.2.2.2.2.2.2.2.2.2
    refine lv_iload_n (pc := 4) hx hb dX6_recordedCues_4 rfl (lv_at hl 2 rfl) ?_
    refine lv_bipush (pc := 5) (v := 8) hx hb dX6_recordedCues_5 (by decide) ?_
    refine lv_icmp_ge (pc := 7) (tgt := 30) hx hb dX6_recordedCues_7 (by decide) (fun c1 => ?_) (fun c1 => ?_)
    · replace h := (if_pos c1).symm.trans h
      cases h
      exact K1 H locs ls S (lv_sub hl [1] rfl)
    · replace h := (if_neg c1).symm.trans h
      refine lv_aload_n (pc := 10) hx hb dX6_recordedCues_10 rfl (lv_at hl 0 rfl) ?_
      refine lv_iload_n (pc := 11) hx hb dX6_recordedCues_11 rfl (lv_at hl 2 rfl) ?_
      obtain ⟨v3, e2, h⟩ := ob_out h
      refine c_vI (pc := 12) (rest := []) F S (tX6_isRecorded e2) mfX6_isRecorded (sX6_isRecorded e2) (by decide) cl6 w559 ⟨Nat.le_of_ble_eq_true rfl, Nat.le_of_ble_eq_true rfl⟩ rfl hl.1 rfl (Nat.le_of_ble_eq_true rfl) dX6_recordedCues_12 (fun H locs S => ?_)
      refine lv_if_eq (pc := 15) (tgt := 24) hx hb dX6_recordedCues_15 (by decide) (fun c4 => ?_) (fun c4 => ?_)
      · replace h := (if_pos c4).symm.trans h
        refine lv_iinc (pc := 24) (lv' := [(2, .int (a2 + 1)), (0, .ref (G.2.1 a0)), (1, .int a1)]) hx hb dX6_recordedCues_24 hl (k := 2) rfl (iinc_n (by decide)) (by decide) rfl (fun ls hl => ?_)
        refine lv_goto (pc := 27) (tgt := 4) hx hb dX6_recordedCues_27 (by decide) ?_
        exact ih hsh S (lv_sub hl [1, 2, 0] rfl) h K1
      · replace h := (if_neg c4).symm.trans h
        refine lv_iload_n (pc := 18) hx hb dX6_recordedCues_18 rfl (lv_at hl 1 rfl) ?_
        refine lv_iconst (pc := 19) (v := 1) hx hb dX6_recordedCues_19 (by decide) ?_
        refine lv_iload_n (pc := 20) hx hb dX6_recordedCues_20 rfl (lv_at hl 2 rfl) ?_
        refine lv_ishl (pc := 21) hx hb dX6_recordedCues_21 ?_
        refine lv_ior (pc := 22) hx hb dX6_recordedCues_22 ?_
        obtain ⟨v5, e6, h⟩ := lt1_out h
        refine nm_i e6 ?_
        refine lv_istore_n (pc := 23) (lv' := [(1, .int v5), (0, .ref (G.2.1 a0)), (2, .int a2)]) hx hb dX6_recordedCues_23 rfl hl (by decide) rfl (fun ls hl => ?_)
        refine lv_iinc (pc := 24) (lv' := [(2, .int (a2 + 1)), (1, .int v5), (0, .ref (G.2.1 a0))]) hx hb dX6_recordedCues_24 hl (k := 2) rfl (iinc_n (by decide)) (by decide) rfl (fun ls hl => ?_)
        refine lv_goto (pc := 27) (tgt := 4) hx hb dX6_recordedCues_27 (by decide) ?_
        exact ih hsh S (lv_sub hl [2, 1, 0] rfl) h K1
set_option maxHeartbeats 4000000 in
theorem tX6_recordedCues {l : Launch} {G : GD} {M N : Mem} {a0 : Nat} {r : Int32} (h : fX6_recordedCues M a0 = some r) : MI l yX6_recordedCues cX6_recordedCues 3 .int 3 63 G [.ref (G.2.1 a0)] M N r M N := by
  unfold fX6_recordedCues at h
  obtain ⟨hsh, h⟩ := ck_out h
  refine MI_of (own := RX6) (by decide) rfl (Nat.le_of_ble_eq_true rfl) ?_
  intro p e s m args below meth c F S ls hl
  have hx := F.1
  have hb := F.2.1
  have hown := F.2.2.2.2.1
  have hts := F.2.2.2.2.2.1
  have hZ := F.2.2.2.2.2.2.2.2.2
  have hl : lv_has ls 3 [(0, .ref (G.2.1 a0))] := hl
  generalize s.heap = H, ([] : List Loc) = locs at S ⊢
  refine lv_iconst (pc := 0) (v := 0) hx hb dX6_recordedCues_0 (by decide) ?_
  refine lv_istore_n (pc := 1) (lv' := [(1, .int 0), (0, .ref (G.2.1 a0))]) hx hb dX6_recordedCues_1 rfl hl (by decide) rfl (fun ls hl => ?_)
  refine lv_iconst (pc := 2) (v := 0) hx hb dX6_recordedCues_2 (by decide) ?_
  refine lv_istore_n (pc := 3) (lv' := [(2, .int 0), (1, .int 0), (0, .ref (G.2.1 a0))]) hx hb dX6_recordedCues_3 rfl hl (by decide) rfl (fun ls hl => ?_)
  obtain ⟨v1, e2, h⟩ := ob_out h
  refine pX6_recordedCues_L4 F 5000 hsh S (lv_sub hl [2, 1, 0] rfl) e2 (fun H locs ls S hl => ?_)
  refine lv_iload_n (pc := 30) hx hb dX6_recordedCues_30 rfl (lv_at hl 0 rfl) ?_
  cases h
  exact r_iret (pc := 31) F S rfl dX6_recordedCues_31
theorem mfJ6_bitCount_0f7a4 : MF false yJ6_bitCount_0f7a4 RJ6 cJ6_bitCount_0f7a4 1 (some .int) 1 := ⟨w562, w15, by rw [if_neg (by decide)]; exact w561, ⟨by decide, by decide⟩, by decide +kernel⟩
set_option maxHeartbeats 4000000 in
theorem tJ6_bitCount_0f7a4 {l : Launch} {G : GD} {M N : Mem} {a0 : Int32} {r : Int32} (h : fJ6_bitCount_0f7a4 a0 = some r) : MI l yJ6_bitCount_0f7a4 cJ6_bitCount_0f7a4 1 .int 0 0 G [.int a0] M N r M N := by
  unfold fJ6_bitCount_0f7a4 at h
  refine MI_of (own := RJ6) (by decide) rfl (Nat.le_of_ble_eq_true rfl) ?_
  intro p e s m args below meth c F S ls hl
  have hx := F.1
  have hb := F.2.1
  have hown := F.2.2.2.2.1
  have hts := F.2.2.2.2.2.1
  have hZ := F.2.2.2.2.2.2.2.2.2
  have hl : lv_has ls 1 [(0, .int a0)] := hl
  generalize s.heap = H, ([] : List Loc) = locs at S ⊢
  refine lv_iload_n (pc := 0) hx hb dJ6_bitCount_0f7a4_0 rfl (lv_at hl 0 rfl) ?_
  refine lv_iload_n (pc := 1) hx hb dJ6_bitCount_0f7a4_1 rfl (lv_at hl 0 rfl) ?_
  refine lv_iconst (pc := 2) (v := 1) hx hb dJ6_bitCount_0f7a4_2 (by decide) ?_
  refine lv_iushr (pc := 3) (v := (a0.toUInt32 >>> ((1 : Int32).toUInt32 &&& Int32.toUInt32 31)).toInt32) hx hb dJ6_bitCount_0f7a4_3 rfl ?_
  refine lv_ldcw (pc := 4) (v := 1431655765) hx hb hown (hts _ w563) dJ6_bitCount_0f7a4_4 ?_
  refine lv_iand (pc := 7) hx hb dJ6_bitCount_0f7a4_7 ?_
  refine lv_isub (pc := 8) hx hb dJ6_bitCount_0f7a4_8 ?_
  obtain ⟨v1, e2, h⟩ := lt1_out h
  refine nm_i e2 ?_
  refine lv_istore_n (pc := 9) (lv' := [(0, .int v1)]) hx hb dJ6_bitCount_0f7a4_9 rfl hl (by decide) rfl (fun ls hl => ?_)
  refine lv_iload_n (pc := 10) hx hb dJ6_bitCount_0f7a4_10 rfl (lv_at hl 0 rfl) ?_
  refine lv_ldcw (pc := 11) (v := 858993459) hx hb hown (hts _ w564) dJ6_bitCount_0f7a4_11 ?_
  refine lv_iand (pc := 14) hx hb dJ6_bitCount_0f7a4_14 ?_
  refine lv_iload_n (pc := 15) hx hb dJ6_bitCount_0f7a4_15 rfl (lv_at hl 0 rfl) ?_
  refine lv_iconst (pc := 16) (v := 2) hx hb dJ6_bitCount_0f7a4_16 (by decide) ?_
  refine lv_iushr (pc := 17) (v := (v1.toUInt32 >>> ((2 : Int32).toUInt32 &&& Int32.toUInt32 31)).toInt32) hx hb dJ6_bitCount_0f7a4_17 rfl ?_
  refine lv_ldcw (pc := 18) (v := 858993459) hx hb hown (hts _ w564) dJ6_bitCount_0f7a4_18 ?_
  refine lv_iand (pc := 21) hx hb dJ6_bitCount_0f7a4_21 ?_
  refine lv_iadd (pc := 22) hx hb dJ6_bitCount_0f7a4_22 ?_
  obtain ⟨v3, e4, h⟩ := lt1_out h
  refine nm_i e4 ?_
  refine lv_istore_n (pc := 23) (lv' := [(0, .int v3)]) hx hb dJ6_bitCount_0f7a4_23 rfl hl (by decide) rfl (fun ls hl => ?_)
  refine lv_iload_n (pc := 24) hx hb dJ6_bitCount_0f7a4_24 rfl (lv_at hl 0 rfl) ?_
  refine lv_iload_n (pc := 25) hx hb dJ6_bitCount_0f7a4_25 rfl (lv_at hl 0 rfl) ?_
  refine lv_iconst (pc := 26) (v := 4) hx hb dJ6_bitCount_0f7a4_26 (by decide) ?_
  refine lv_iushr (pc := 27) (v := (v3.toUInt32 >>> ((4 : Int32).toUInt32 &&& Int32.toUInt32 31)).toInt32) hx hb dJ6_bitCount_0f7a4_27 rfl ?_
  refine lv_iadd (pc := 28) hx hb dJ6_bitCount_0f7a4_28 ?_
  refine lv_ldcw (pc := 29) (v := 252645135) hx hb hown (hts _ w565) dJ6_bitCount_0f7a4_29 ?_
  refine lv_iand (pc := 32) hx hb dJ6_bitCount_0f7a4_32 ?_
  obtain ⟨v5, e6, h⟩ := lt1_out h
  refine nm_i e6 ?_
  refine lv_istore_n (pc := 33) (lv' := [(0, .int v5)]) hx hb dJ6_bitCount_0f7a4_33 rfl hl (by decide) rfl (fun ls hl => ?_)
  refine lv_iload_n (pc := 34) hx hb dJ6_bitCount_0f7a4_34 rfl (lv_at hl 0 rfl) ?_
  refine lv_iload_n (pc := 35) hx hb dJ6_bitCount_0f7a4_35 rfl (lv_at hl 0 rfl) ?_
  refine lv_bipush (pc := 36) (v := 8) hx hb dJ6_bitCount_0f7a4_36 (by decide) ?_
  refine lv_iushr (pc := 38) (v := (v5.toUInt32 >>> ((8 : Int32).toUInt32 &&& Int32.toUInt32 31)).toInt32) hx hb dJ6_bitCount_0f7a4_38 rfl ?_
  refine lv_iadd (pc := 39) hx hb dJ6_bitCount_0f7a4_39 ?_
  obtain ⟨v7, e8, h⟩ := lt1_out h
  refine nm_i e8 ?_
  refine lv_istore_n (pc := 40) (lv' := [(0, .int v7)]) hx hb dJ6_bitCount_0f7a4_40 rfl hl (by decide) rfl (fun ls hl => ?_)
  refine lv_iload_n (pc := 41) hx hb dJ6_bitCount_0f7a4_41 rfl (lv_at hl 0 rfl) ?_
  refine lv_iload_n (pc := 42) hx hb dJ6_bitCount_0f7a4_42 rfl (lv_at hl 0 rfl) ?_
  refine lv_bipush (pc := 43) (v := 16) hx hb dJ6_bitCount_0f7a4_43 (by decide) ?_
  refine lv_iushr (pc := 45) (v := (v7.toUInt32 >>> ((16 : Int32).toUInt32 &&& Int32.toUInt32 31)).toInt32) hx hb dJ6_bitCount_0f7a4_45 rfl ?_
  refine lv_iadd (pc := 46) hx hb dJ6_bitCount_0f7a4_46 ?_
  obtain ⟨v9, e10, h⟩ := lt1_out h
  refine nm_i e10 ?_
  refine lv_istore_n (pc := 47) (lv' := [(0, .int v9)]) hx hb dJ6_bitCount_0f7a4_47 rfl hl (by decide) rfl (fun ls hl => ?_)
  refine lv_iload_n (pc := 48) hx hb dJ6_bitCount_0f7a4_48 rfl (lv_at hl 0 rfl) ?_
  refine lv_bipush (pc := 49) (v := 63) hx hb dJ6_bitCount_0f7a4_49 (by decide) ?_
  refine lv_iand (pc := 51) hx hb dJ6_bitCount_0f7a4_51 ?_
  cases h
  exact r_iret (pc := 52) F S rfl dJ6_bitCount_0f7a4_52
theorem mfX11_record : MF true yX11_record RX11 cX11_record 5 (some .int) 3 := ⟨w549, w1, by rw [if_pos rfl]; exact ⟨w547, w548⟩, ⟨by decide, by decide⟩, by decide +kernel⟩
set_option maxHeartbeats 4000000 in
theorem tX11_record {l : Launch} {G : GD} {M N Mo : Mem} {a1 : Int32} {a2 : Int32} {a3 : Int32} {r : Int32} (h : fX11_record M a1 a2 a3 = some (r, Mo)) : MI l yX11_record cX11_record 5 .int 5 108 G [.ref (G.2.1 10), .int a1, .int a2, .int a3] M N r Mo N := by
  unfold fX11_record at h
  refine MI_of (own := RX11) (by decide) rfl (Nat.le_of_ble_eq_true rfl) ?_
  intro p e s m args below meth c F S ls hl
  have hx := F.1
  have hb := F.2.1
  have hown := F.2.2.2.2.1
  have hts := F.2.2.2.2.2.1
  have hZ := F.2.2.2.2.2.2.2.2.2
  have hl : lv_has ls 5 [(0, .ref (G.2.1 10)), (1, .int a1), (2, .int a2), (3, .int a3)] := hl
  generalize s.heap = H, ([] : List Loc) = locs at S ⊢
  refine lv_aload_n (pc := 0) hx hb dX11_record_0 rfl (lv_at hl 0 rfl) ?_
  refine r_gR (pc := 1) (k := 0) (x := 34) (i := 10) (ci := 11) F S (by decide) (by decide) cl11 inRX11 (by decide) w319 (fun _ => rfl) dX11_record_1 ?_
  refine lv_iload_n (pc := 4) hx hb dX11_record_4 rfl (lv_at hl 1 rfl) ?_
  obtain ⟨r2, e1, h⟩ := ob_out h
  refine c_vO (pc := 5) (rest := []) F S (tX7_find e1) mfX7_find (by decide) (by decide) cl7 w410 ⟨Nat.le_of_ble_eq_true rfl, Nat.le_of_ble_eq_true rfl⟩ rfl hl.1 rfl (Nat.le_of_ble_eq_true rfl) dX11_record_5 (fun H locs S => ?_)
  cases r2 with
  | none =>
    replace h := caseO_n h
    refine W.eq (g2 := F0 m 8 ls (.null :: [])) rfl ?_
    refine lv_astoreN (pc := 8) (lv' := [(4, .null), (0, .ref (G.2.1 10)), (1, .int a1), (2, .int a2), (3, .int a3)]) hx hb dX11_record_8 hl (by decide) rfl (fun ls hl => ?_)
    refine lv_aloadN (pc := 10) hx hb dX11_record_10 (lv_at hl 0 rfl) ?_
    refine lv_ifnullN (pc := 12) (tgt := 22) hx hb dX11_record_12 (by decide) ?_
    refine lv_iconst (pc := 22) (v := (-1)) hx hb dX11_record_22 (by decide) ?_
    cases h
    exact r_iret (pc := 23) F S rfl dX11_record_23
  | some x3 =>
    replace h := caseO_s h
    refine W.eq (g2 := F0 m 8 ls (.ref (G.2.1 x3) :: [])) rfl ?_
    refine lv_astore (pc := 8) (lv' := [(4, .ref (G.2.1 x3)), (0, .ref (G.2.1 10)), (1, .int a1), (2, .int a2), (3, .int a3)]) hx hb dX11_record_8 hl (by decide) rfl (fun ls hl => ?_)
    refine lv_aload (pc := 10) hx hb dX11_record_10 (lv_at hl 0 rfl) ?_
    refine lv_ifnull (pc := 12) hx hb dX11_record_12 ?_
    refine lv_iload_n (pc := 15) hx hb dX11_record_15 rfl (lv_at hl 3 rfl) ?_
    obtain ⟨v5, e4, h⟩ := ob_out h
    refine c_sI (pc := 16) (rest := []) F S (tX11_isCue e4) mfX11_isCue w550 ⟨Nat.le_of_ble_eq_true rfl, Nat.le_of_ble_eq_true rfl⟩ rfl hl.1 rfl (Nat.le_of_ble_eq_true rfl) dX11_record_16 (fun H locs S => ?_)
    refine lv_if_ne (pc := 19) (tgt := 24) hx hb dX11_record_19 (by decide) (fun c6 => ?_) (fun c6 => ?_)
    · replace h := (if_neg c6).symm.trans h
      refine lv_iload_n (pc := 24) hx hb dX11_record_24 rfl (lv_at hl 4 rfl) ?_
      refine lv_iconst (pc := 25) (v := 1) hx hb dX11_record_25 (by decide) ?_
      refine lv_bipush (pc := 26) (v := 50) hx hb dX11_record_26 (by decide) ?_
      obtain ⟨v8, e7, h⟩ := ob_out h
      refine c_sI (pc := 28) (rest := []) F S (tX11_isIn e7) mfX11_isIn w353 ⟨Nat.le_of_ble_eq_true rfl, Nat.le_of_ble_eq_true rfl⟩ rfl hl.1 rfl (Nat.le_of_ble_eq_true rfl) dX11_record_28 (fun H locs S => ?_)
      refine lv_if_ne (pc := 31) (tgt := 37) hx hb dX11_record_31 (by decide) (fun c9 => ?_) (fun c9 => ?_)
      · replace h := (if_neg c9).symm.trans h
        refine lv_aload_n (pc := 37) hx hb dX11_record_37 rfl (lv_at hl 1 rfl) ?_
        refine r_gR (pc := 38) (k := 1) (x := 12) (i := 10) (ci := 11) F S (by decide) (by decide) cl11 inRX11 (by decide) w320 (fun _ => rfl) dX11_record_38 ?_
        refine lv_aload_n (pc := 41) hx hb dX11_record_41 rfl (lv_at hl 1 rfl) ?_
        refine r_gR (pc := 42) (k := 0) (x := 34) (i := 10) (ci := 11) F S (by decide) (by decide) cl11 inRX11 (by decide) w319 (fun _ => rfl) dX11_record_42 ?_
        obtain ⟨M11, e10, h⟩ := ob_out h
        refine c_vV (pc := 45) (rest := []) F S (tX2_push e10) mfX2_push (by decide) (by decide) cl2 w358 ⟨Nat.le_of_ble_eq_true rfl, Nat.le_of_ble_eq_true rfl⟩ rfl hl.1 rfl (Nat.le_of_ble_eq_true rfl) dX11_record_45 (fun H locs S => ?_)
        refine lv_aload (pc := 48) hx hb dX11_record_48 (lv_at hl 0 rfl) ?_
        refine lv_iload_n (pc := 50) hx hb dX11_record_50 rfl (lv_at hl 3 rfl) ?_
        refine lv_iload_n (pc := 51) hx hb dX11_record_51 rfl (lv_at hl 4 rfl) ?_
        obtain ⟨M13, e12, h⟩ := ob_out h
        refine c_vV (pc := 52) (rest := []) F S (tX6_recordCue e12) mfX6_recordCue (sX6_recordCue e12) (by decide) cl6 w551 ⟨Nat.le_of_ble_eq_true rfl, Nat.le_of_ble_eq_true rfl⟩ rfl hl.1 rfl (Nat.le_of_ble_eq_true rfl) dX11_record_52 (fun H locs S => ?_)
        refine lv_aload (pc := 55) hx hb dX11_record_55 (lv_at hl 0 rfl) ?_
        obtain ⟨v15, e14, h⟩ := ob_out h
        refine c_vI (pc := 57) (rest := []) F S (tX6_recordedCues e14) mfX6_recordedCues (sX6_recordedCues e14) (by decide) cl6 w555 ⟨Nat.le_of_ble_eq_true rfl, Nat.le_of_ble_eq_true rfl⟩ rfl hl.1 rfl (Nat.le_of_ble_eq_true rfl) dX11_record_57 (fun H locs S => ?_)
        obtain ⟨v17, e16, h⟩ := ob_out h
        refine c_sI (pc := 60) (rest := []) F S (tJ6_bitCount_0f7a4 e16) mfJ6_bitCount_0f7a4 w560 ⟨Nat.le_of_ble_eq_true rfl, Nat.le_of_ble_eq_true rfl⟩ rfl hl.1 rfl (Nat.le_of_ble_eq_true rfl) dX11_record_60 (fun H locs S => ?_)
        cases h
        exact r_iret (pc := 63) F S rfl dX11_record_63
      · replace h := (if_pos c9).symm.trans h
        refine lv_bipush (pc := 34) (v := (-2)) hx hb dX11_record_34 (by decide) ?_
        cases h
        exact r_iret (pc := 36) F S rfl dX11_record_36
    · replace h := (if_pos c6).symm.trans h
      refine lv_iconst (pc := 22) (v := (-1)) hx hb dX11_record_22 (by decide) ?_
      cases h
      exact r_iret (pc := 23) F S rfl dX11_record_23
theorem sX1_start {M : Mem} {a0 : Nat} {a1 : Nat} {a2 : Nat} {a3 : Int32} {r : Mem} (h : fX1_start M a0 a1 a2 a3 = some r) : shp a0 = 1 := by
  unfold fX1_start at h
  exact (ck_out h).1
theorem mfX1_start : MF true yX1_start RX1 cX1_start 4 none 3 := ⟨w578, w5, by rw [if_pos rfl]; exact ⟨w576, w577⟩, ⟨by decide, by decide⟩, by decide +kernel⟩
set_option maxHeartbeats 4000000 in
theorem tX1_start {l : Launch} {G : GD} {M N Mo : Mem} {a0 : Nat} {a1 : Nat} {a2 : Nat} {a3 : Int32} (h : fX1_start M a0 a1 a2 a3 = some Mo) : MV l yX1_start cX1_start 4 1 22 G [.ref (G.2.1 a0), .ref (G.2.1 a1), .ref (G.2.1 a2), .int a3] M N Mo N := by
  unfold fX1_start at h
  obtain ⟨hsh, h⟩ := ck_out h
  refine MV_of (own := RX1) (by decide) rfl (Nat.le_of_ble_eq_true rfl) ?_
  intro p e s m args below meth c F S ls hl
  have hx := F.1
  have hb := F.2.1
  have hown := F.2.2.2.2.1
  have hts := F.2.2.2.2.2.1
  have hZ := F.2.2.2.2.2.2.2.2.2
  have hl : lv_has ls 4 [(0, .ref (G.2.1 a0)), (1, .ref (G.2.1 a1)), (2, .ref (G.2.1 a2)), (3, .int a3)] := hl
  generalize s.heap = H, ([] : List Loc) = locs at S ⊢
  refine lv_aload_n (pc := 0) hx hb dX1_start_0 rfl (lv_at hl 0 rfl) ?_
  refine lv_iload_n (pc := 1) hx hb dX1_start_1 rfl (lv_at hl 3 rfl) ?_
  obtain ⟨M1, e2, h⟩ := ob_out h
  refine r_pI (pc := 2) (k := 0) (ty0 := tyX1) F S e2 (by decide) cl1 inRX1 tyX1_ok nmX1 (by decide) w76 rfl (by decide +kernel) (fun _ => Nat.le_of_ble_eq_true rfl) (fun _ => pf_1_0) dX1_start_2 (fun H locs S => ?_)
  refine lv_aload_n (pc := 5) hx hb dX1_start_5 rfl (lv_at hl 0 rfl) ?_
  refine lv_iconst (pc := 6) (v := 0) hx hb dX1_start_6 (by decide) ?_
  obtain ⟨M3, e4, h⟩ := ob_out h
  refine r_pI (pc := 7) (k := 1) (ty0 := tyX1) F S e4 (by decide) cl1 inRX1 tyX1_ok nmX1 (by decide) w77 rfl (by decide +kernel) (fun _ => Nat.le_of_ble_eq_true rfl) (fun _ => pf_1_1) dX1_start_7 (fun H locs S => ?_)
  refine lv_aload_n (pc := 10) hx hb dX1_start_10 rfl (lv_at hl 1 rfl) ?_
  refine lv_aload_n (pc := 11) hx hb dX1_start_11 rfl (lv_at hl 0 rfl) ?_
  obtain ⟨x5, e6, h⟩ := ob_out h
  refine r_gR (pc := 12) (k := 2) F S e6 (by decide) cl1 inRX1 (by decide) w78 (fun _ => rfl) dX1_start_12 ?_
  obtain ⟨M8, e7, h⟩ := ob_out h
  refine c_nV (pc := 15) (rest := []) F S (tX11_copy e7) mfX11_copy wn12 ⟨Nat.le_of_ble_eq_true rfl, Nat.le_of_ble_eq_true rfl⟩ rfl hl.1 rfl (Nat.le_of_ble_eq_true rfl) dX1_start_15 (fun H locs S => ?_)
  refine lv_aload_n (pc := 18) hx hb dX1_start_18 rfl (lv_at hl 2 rfl) ?_
  refine lv_aload_n (pc := 19) hx hb dX1_start_19 rfl (lv_at hl 0 rfl) ?_
  obtain ⟨x9, e10, h⟩ := ob_out h
  refine r_gR (pc := 20) (k := 3) F S e10 (by decide) cl1 inRX1 (by decide) w79 (fun _ => rfl) dX1_start_20 ?_
  obtain ⟨M12, e11, h⟩ := ob_out h
  refine c_nV (pc := 23) (rest := []) F S (tX11_copy e11) mfX11_copy wn12 ⟨Nat.le_of_ble_eq_true rfl, Nat.le_of_ble_eq_true rfl⟩ rfl hl.1 rfl (Nat.le_of_ble_eq_true rfl) dX1_start_23 (fun H locs S => ?_)
  cases h
  exact r_vret (pc := 26) F S dX1_start_26
theorem sX6_startCue {M : Mem} {a0 : Nat} {a1 : Int32} {a2 : Int32} {r : Mem} (h : fX6_startCue M a0 a1 a2 = some r) : shp a0 = 6 := by
  unfold fX6_startCue at h
  exact (ck_out h).1
theorem mfX6_startCue : MF true yX6_startCue RX6 cX6_startCue 3 none 2 := ⟨w574, w4, by rw [if_pos rfl]; exact ⟨w572, w573⟩, ⟨by decide, by decide⟩, by decide +kernel⟩
set_option maxHeartbeats 4000000 in
theorem tX6_startCue {l : Launch} {G : GD} {M N Mo : Mem} {a0 : Nat} {a1 : Int32} {a2 : Int32} (h : fX6_startCue M a0 a1 a2 = some Mo) : MV l yX6_startCue cX6_startCue 3 2 45 G [.ref (G.2.1 a0), .int a1, .int a2] M N Mo N := by
  unfold fX6_startCue at h
  obtain ⟨hsh, h⟩ := ck_out h
  refine MV_of (own := RX6) (by decide) rfl (Nat.le_of_ble_eq_true rfl) ?_
  intro p e s m args below meth c F S ls hl
  have hx := F.1
  have hb := F.2.1
  have hown := F.2.2.2.2.1
  have hts := F.2.2.2.2.2.1
  have hZ := F.2.2.2.2.2.2.2.2.2
  have hl : lv_has ls 3 [(0, .ref (G.2.1 a0)), (1, .int a1), (2, .int a2)] := hl
  generalize s.heap = H, ([] : List Loc) = locs at S ⊢
  refine lv_iload_n (pc := 0) hx hb dX6_startCue_0 rfl (lv_at hl 1 rfl) ?_
  obtain ⟨v2, e1, h⟩ := ob_out h
  refine c_nI (pc := 1) (rest := []) F S (tX11_isCue e1) mfX11_isCue wn18 ⟨Nat.le_of_ble_eq_true rfl, Nat.le_of_ble_eq_true rfl⟩ rfl hl.1 rfl (Nat.le_of_ble_eq_true rfl) dX6_startCue_1 (fun H locs S => ?_)
  refine lv_if_eq (pc := 4) (tgt := 25) hx hb dX6_startCue_4 (by decide) (fun c3 => ?_) (fun c3 => ?_)
  · replace h := (if_pos c3).symm.trans h
    cases h
    exact r_vret (pc := 25) F S dX6_startCue_25
  · replace h := (if_neg c3).symm.trans h
    refine lv_aload_n (pc := 7) hx hb dX6_startCue_7 rfl (lv_at hl 0 rfl) ?_
    obtain ⟨x4, e5, h⟩ := ob_out h
    refine r_gR (pc := 8) (k := 10) F S e5 (by decide) cl6 inRX6 (by decide) w130 (fun _ => rfl) dX6_startCue_8 ?_
    refine lv_aload_n (pc := 11) hx hb dX6_startCue_11 rfl (lv_at hl 0 rfl) ?_
    obtain ⟨x6, e7, h⟩ := ob_out h
    refine r_gR (pc := 12) (k := 6) F S e7 (by decide) cl6 inRX6 (by decide) w119 (fun _ => rfl) dX6_startCue_12 ?_
    refine lv_aload_n (pc := 15) hx hb dX6_startCue_15 rfl (lv_at hl 0 rfl) ?_
    obtain ⟨x8, e9, h⟩ := ob_out h
    refine r_gR (pc := 16) (k := 9) F S e9 (by decide) cl6 inRX6 (by decide) w127 (fun _ => rfl) dX6_startCue_16 ?_
    refine lv_iload_n (pc := 19) hx hb dX6_startCue_19 rfl (lv_at hl 1 rfl) ?_
    obtain ⟨x10, e11, h⟩ := ob_out h
    refine r_aR24 (pc := 20) F S e11 dX6_startCue_20 ?_
    refine lv_iload_n (pc := 21) hx hb dX6_startCue_21 rfl (lv_at hl 2 rfl) ?_
    obtain ⟨M13, e12, h⟩ := ob_out h
    refine c_vV (pc := 22) (rest := []) F S (tX1_start e12) mfX1_start (sX1_start e12) (by decide) cl1 w575 ⟨Nat.le_of_ble_eq_true rfl, Nat.le_of_ble_eq_true rfl⟩ rfl hl.1 rfl (Nat.le_of_ble_eq_true rfl) dX6_startCue_22 (fun H locs S => ?_)
    cases h
    exact r_vret (pc := 25) F S dX6_startCue_25
theorem mfX11_go : MF true yX11_go RX11 cX11_go 4 (some .int) 2 := ⟨w569, w1, by rw [if_pos rfl]; exact ⟨w567, w568⟩, ⟨by decide, by decide⟩, by decide +kernel⟩
set_option maxHeartbeats 4000000 in
theorem tX11_go {l : Launch} {G : GD} {M N Mo : Mem} {a1 : Int32} {a2 : Int32} {r : Int32} (h : fX11_go M a1 a2 = some (r, Mo)) : MI l yX11_go cX11_go 4 .int 5 108 G [.ref (G.2.1 10), .int a1, .int a2] M N r Mo N := by
  unfold fX11_go at h
  refine MI_of (own := RX11) (by decide) rfl (Nat.le_of_ble_eq_true rfl) ?_
  intro p e s m args below meth c F S ls hl
  have hx := F.1
  have hb := F.2.1
  have hown := F.2.2.2.2.1
  have hts := F.2.2.2.2.2.1
  have hZ := F.2.2.2.2.2.2.2.2.2
  have hl : lv_has ls 4 [(0, .ref (G.2.1 10)), (1, .int a1), (2, .int a2)] := hl
  generalize s.heap = H, ([] : List Loc) = locs at S ⊢
  refine lv_aload_n (pc := 0) hx hb dX11_go_0 rfl (lv_at hl 0 rfl) ?_
  refine r_gR (pc := 1) (k := 0) (x := 34) (i := 10) (ci := 11) F S (by decide) (by decide) cl11 inRX11 (by decide) w319 (fun _ => rfl) dX11_go_1 ?_
  refine lv_iload_n (pc := 4) hx hb dX11_go_4 rfl (lv_at hl 1 rfl) ?_
  obtain ⟨r2, e1, h⟩ := ob_out h
  refine c_vO (pc := 5) (rest := []) F S (tX7_find e1) mfX7_find (by decide) (by decide) cl7 w410 ⟨Nat.le_of_ble_eq_true rfl, Nat.le_of_ble_eq_true rfl⟩ rfl hl.1 rfl (Nat.le_of_ble_eq_true rfl) dX11_go_5 (fun H locs S => ?_)
  cases r2 with
  | none =>
    replace h := caseO_n h
    refine W.eq (g2 := F0 m 8 ls (.null :: [])) rfl ?_
    refine lv_astore_nN (pc := 8) (lv' := [(3, .null), (0, .ref (G.2.1 10)), (1, .int a1), (2, .int a2)]) hx hb dX11_go_8 rfl hl (by decide) rfl (fun ls hl => ?_)
    refine lv_aload_nN (pc := 9) hx hb dX11_go_9 rfl (lv_at hl 0 rfl) ?_
    refine lv_ifnullN (pc := 10) (tgt := 20) hx hb dX11_go_10 (by decide) ?_
    refine lv_iconst (pc := 20) (v := (-1)) hx hb dX11_go_20 (by decide) ?_
    cases h
    exact r_iret (pc := 21) F S rfl dX11_go_21
  | some x3 =>
    replace h := caseO_s h
    refine W.eq (g2 := F0 m 8 ls (.ref (G.2.1 x3) :: [])) rfl ?_
    refine lv_astore_n (pc := 8) (lv' := [(3, .ref (G.2.1 x3)), (0, .ref (G.2.1 10)), (1, .int a1), (2, .int a2)]) hx hb dX11_go_8 rfl hl (by decide) rfl (fun ls hl => ?_)
    refine lv_aload_n (pc := 9) hx hb dX11_go_9 rfl (lv_at hl 0 rfl) ?_
    refine lv_ifnull (pc := 10) hx hb dX11_go_10 ?_
    refine lv_iload_n (pc := 13) hx hb dX11_go_13 rfl (lv_at hl 3 rfl) ?_
    obtain ⟨v5, e4, h⟩ := ob_out h
    refine c_sI (pc := 14) (rest := []) F S (tX11_isCue e4) mfX11_isCue w550 ⟨Nat.le_of_ble_eq_true rfl, Nat.le_of_ble_eq_true rfl⟩ rfl hl.1 rfl (Nat.le_of_ble_eq_true rfl) dX11_go_14 (fun H locs S => ?_)
    refine lv_if_ne (pc := 17) (tgt := 22) hx hb dX11_go_17 (by decide) (fun c6 => ?_) (fun c6 => ?_)
    · replace h := (if_neg c6).symm.trans h
      refine lv_aload_n (pc := 22) hx hb dX11_go_22 rfl (lv_at hl 0 rfl) ?_
      refine lv_iload_n (pc := 23) hx hb dX11_go_23 rfl (lv_at hl 3 rfl) ?_
      obtain ⟨v8, e7, h⟩ := ob_out h
      refine c_vI (pc := 24) (rest := []) F S (tX6_isRecorded e7) mfX6_isRecorded (sX6_isRecorded e7) (by decide) cl6 w570 ⟨Nat.le_of_ble_eq_true rfl, Nat.le_of_ble_eq_true rfl⟩ rfl hl.1 rfl (Nat.le_of_ble_eq_true rfl) dX11_go_24 (fun H locs S => ?_)
      refine lv_if_ne (pc := 27) (tgt := 33) hx hb dX11_go_27 (by decide) (fun c9 => ?_) (fun c9 => ?_)
      · replace h := (if_neg c9).symm.trans h
        refine lv_aload_n (pc := 33) hx hb dX11_go_33 rfl (lv_at hl 1 rfl) ?_
        refine r_gR (pc := 34) (k := 1) (x := 12) (i := 10) (ci := 11) F S (by decide) (by decide) cl11 inRX11 (by decide) w320 (fun _ => rfl) dX11_go_34 ?_
        refine lv_aload_n (pc := 37) hx hb dX11_go_37 rfl (lv_at hl 1 rfl) ?_
        refine r_gR (pc := 38) (k := 0) (x := 34) (i := 10) (ci := 11) F S (by decide) (by decide) cl11 inRX11 (by decide) w319 (fun _ => rfl) dX11_go_38 ?_
        obtain ⟨M11, e10, h⟩ := ob_out h
        refine c_vV (pc := 41) (rest := []) F S (tX2_push e10) mfX2_push (by decide) (by decide) cl2 w358 ⟨Nat.le_of_ble_eq_true rfl, Nat.le_of_ble_eq_true rfl⟩ rfl hl.1 rfl (Nat.le_of_ble_eq_true rfl) dX11_go_41 (fun H locs S => ?_)
        refine lv_aload_n (pc := 44) hx hb dX11_go_44 rfl (lv_at hl 0 rfl) ?_
        refine lv_iload_n (pc := 45) hx hb dX11_go_45 rfl (lv_at hl 3 rfl) ?_
        refine lv_aload_n (pc := 46) hx hb dX11_go_46 rfl (lv_at hl 0 rfl) ?_
        obtain ⟨x12, e13, h⟩ := ob_out h
        refine r_gR (pc := 47) (k := 8) F S e13 (by decide) cl6 inRX6 (by decide) w125 (fun _ => rfl) dX11_go_47 ?_
        refine lv_iload_n (pc := 50) hx hb dX11_go_50 rfl (lv_at hl 3 rfl) ?_
        obtain ⟨v14, e15, h⟩ := ob_out h
        refine r_aL (pc := 51) F S e15 dX11_go_51 ?_
        obtain ⟨M17, e16, h⟩ := ob_out h
        refine c_vV (pc := 52) (rest := []) F S (tX6_startCue e16) mfX6_startCue (sX6_startCue e16) (by decide) cl6 w571 ⟨Nat.le_of_ble_eq_true rfl, Nat.le_of_ble_eq_true rfl⟩ rfl hl.1 rfl (Nat.le_of_ble_eq_true rfl) dX11_go_52 (fun H locs S => ?_)
        refine lv_aload_n (pc := 55) hx hb dX11_go_55 rfl (lv_at hl 0 rfl) ?_
        obtain ⟨x18, e19, h⟩ := ob_out h
        refine r_gR (pc := 56) (k := 8) F S e19 (by decide) cl6 inRX6 (by decide) w125 (fun _ => rfl) dX11_go_56 ?_
        refine lv_iload_n (pc := 59) hx hb dX11_go_59 rfl (lv_at hl 3 rfl) ?_
        obtain ⟨v20, e21, h⟩ := ob_out h
        refine r_aL (pc := 60) F S e21 dX11_go_60 ?_
        cases h
        exact r_iret (pc := 61) F S rfl dX11_go_61
      · replace h := (if_pos c9).symm.trans h
        refine lv_bipush (pc := 30) (v := (-5)) hx hb dX11_go_30 (by decide) ?_
        cases h
        exact r_iret (pc := 32) F S rfl dX11_go_32
    · replace h := (if_pos c6).symm.trans h
      refine lv_iconst (pc := 20) (v := (-1)) hx hb dX11_go_20 (by decide) ?_
      cases h
      exact r_iret (pc := 21) F S rfl dX11_go_21
theorem sX0_clearTrips {M : Mem} {a0 : Nat} {r : (Int32 × Mem)} (h : fX0_clearTrips M a0 = some r) : shp a0 = 0 := by
  unfold fX0_clearTrips at h
  exact (ck_out h).1
theorem mfX0_clearTrips : MF true yX0_clearTrips RX0 cX0_clearTrips 2 (some .int) 0 := ⟨w590, w6, by rw [if_pos rfl]; exact ⟨w588, w589⟩, ⟨by decide, by decide⟩, by decide +kernel⟩
set_option maxHeartbeats 4000000 in
theorem tX0_clearTrips {l : Launch} {G : GD} {M N Mo : Mem} {a0 : Nat} {r : Int32} (h : fX0_clearTrips M a0 = some (r, Mo)) : MI l yX0_clearTrips cX0_clearTrips 2 .int 1 21 G [.ref (G.2.1 a0)] M N r Mo N := by
  unfold fX0_clearTrips at h
  obtain ⟨hsh, h⟩ := ck_out h
  refine MI_of (own := RX0) (by decide) rfl (Nat.le_of_ble_eq_true rfl) ?_
  intro p e s m args below meth c F S ls hl
  have hx := F.1
  have hb := F.2.1
  have hown := F.2.2.2.2.1
  have hts := F.2.2.2.2.2.1
  have hZ := F.2.2.2.2.2.2.2.2.2
  have hl : lv_has ls 2 [(0, .ref (G.2.1 a0))] := hl
  generalize s.heap = H, ([] : List Loc) = locs at S ⊢
  refine lv_aload_n (pc := 0) hx hb dX0_clearTrips_0 rfl (lv_at hl 0 rfl) ?_
  obtain ⟨v1, e2, h⟩ := ob_out h
  refine r_gI (pc := 1) (k := 1) F S e2 (by decide) cl0 inRX0 (by decide) w97 (fun _ => rfl) dX0_clearTrips_1 ?_
  obtain ⟨v4, e3, h⟩ := ob_out h
  refine c_sI (pc := 4) (rest := []) F S (tJ6_bitCount_0f7a4 e3) mfJ6_bitCount_0f7a4 w591 ⟨Nat.le_of_ble_eq_true rfl, Nat.le_of_ble_eq_true rfl⟩ rfl hl.1 rfl (Nat.le_of_ble_eq_true rfl) dX0_clearTrips_4 (fun H locs S => ?_)
  refine lv_istore_n (pc := 7) (lv' := [(1, .int v4), (0, .ref (G.2.1 a0))]) hx hb dX0_clearTrips_7 rfl hl (by decide) rfl (fun ls hl => ?_)
  refine lv_aload_n (pc := 8) hx hb dX0_clearTrips_8 rfl (lv_at hl 1 rfl) ?_
  refine lv_iconst (pc := 9) (v := 0) hx hb dX0_clearTrips_9 (by decide) ?_
  obtain ⟨M5, e6, h⟩ := ob_out h
  refine r_pI (pc := 10) (k := 1) (ty0 := tyX0) F S e6 (by decide) cl0 inRX0 tyX0_ok nmX0 (by decide) w97 rfl (by decide +kernel) (fun _ => Nat.le_of_ble_eq_true rfl) (fun _ => pf_0_1) dX0_clearTrips_10 (fun H locs S => ?_)
  refine lv_aload_n (pc := 13) hx hb dX0_clearTrips_13 rfl (lv_at hl 1 rfl) ?_
  obtain ⟨x7, e8, h⟩ := ob_out h
  refine r_gR (pc := 14) (k := 0) F S e8 (by decide) cl0 inRX0 (by decide) w95 (fun _ => rfl) dX0_clearTrips_14 ?_
  obtain ⟨M10, e9, h⟩ := ob_out h
  refine c_nV (pc := 17) (rest := []) F S (tX11_clear e9) mfX11_clear wn24 ⟨Nat.le_of_ble_eq_true rfl, Nat.le_of_ble_eq_true rfl⟩ rfl hl.1 rfl (Nat.le_of_ble_eq_true rfl) dX0_clearTrips_17 (fun H locs S => ?_)
  refine lv_iload_n (pc := 20) hx hb dX0_clearTrips_20 rfl (lv_at hl 0 rfl) ?_
  cases h
  exact r_iret (pc := 21) F S rfl dX0_clearTrips_21
theorem sX6_clearTrips {M : Mem} {a0 : Nat} {r : (Int32 × Mem)} (h : fX6_clearTrips M a0 = some r) : shp a0 = 6 := by
  unfold fX6_clearTrips at h
  exact (ck_out h).1
theorem mfX6_clearTrips : MF true yX6_clearTrips RX6 cX6_clearTrips 1 (some .int) 0 := ⟨w586, w4, by rw [if_pos rfl]; exact ⟨w584, w585⟩, ⟨by decide, by decide⟩, by decide +kernel⟩
set_option maxHeartbeats 4000000 in
theorem tX6_clearTrips {l : Launch} {G : GD} {M N Mo : Mem} {a0 : Nat} {r : Int32} (h : fX6_clearTrips M a0 = some (r, Mo)) : MI l yX6_clearTrips cX6_clearTrips 1 .int 2 42 G [.ref (G.2.1 a0)] M N r Mo N := by
  unfold fX6_clearTrips at h
  obtain ⟨hsh, h⟩ := ck_out h
  refine MI_of (own := RX6) (by decide) rfl (Nat.le_of_ble_eq_true rfl) ?_
  intro p e s m args below meth c F S ls hl
  have hx := F.1
  have hb := F.2.1
  have hown := F.2.2.2.2.1
  have hts := F.2.2.2.2.2.1
  have hZ := F.2.2.2.2.2.2.2.2.2
  have hl : lv_has ls 1 [(0, .ref (G.2.1 a0))] := hl
  generalize s.heap = H, ([] : List Loc) = locs at S ⊢
  refine lv_aload_n (pc := 0) hx hb dX6_clearTrips_0 rfl (lv_at hl 0 rfl) ?_
  obtain ⟨x1, e2, h⟩ := ob_out h
  refine r_gR (pc := 1) (k := 11) F S e2 (by decide) cl6 inRX6 (by decide) w132 (fun _ => rfl) dX6_clearTrips_1 ?_
  obtain ⟨v4, M5, e3, h⟩ := ob2_out h
  refine c_vI (pc := 4) (rest := []) F S (tX0_clearTrips e3) mfX0_clearTrips (sX0_clearTrips e3) (by decide) cl0 w587 ⟨Nat.le_of_ble_eq_true rfl, Nat.le_of_ble_eq_true rfl⟩ rfl hl.1 rfl (Nat.le_of_ble_eq_true rfl) dX6_clearTrips_4 (fun H locs S => ?_)
  refine lv_aload_n (pc := 7) hx hb dX6_clearTrips_7 rfl (lv_at hl 0 rfl) ?_
  obtain ⟨x6, e7, h⟩ := ob_out h
  refine r_gR (pc := 8) (k := 12) F S e7 (by decide) cl6 inRX6 (by decide) w134 (fun _ => rfl) dX6_clearTrips_8 ?_
  obtain ⟨v9, M10, e8, h⟩ := ob2_out h
  refine c_vI (pc := 11) (rest := [.int v4]) F S (tX0_clearTrips e8) mfX0_clearTrips (sX0_clearTrips e8) (by decide) cl0 w587 ⟨Nat.le_of_ble_eq_true rfl, Nat.le_of_ble_eq_true rfl⟩ rfl hl.1 rfl (Nat.le_of_ble_eq_true rfl) dX6_clearTrips_11 (fun H locs S => ?_)
  refine lv_iadd (pc := 14) hx hb dX6_clearTrips_14 ?_
  cases h
  exact r_iret (pc := 15) F S rfl dX6_clearTrips_15
theorem mfX11_reset : MF true yX11_reset RX11 cX11_reset 3 (some .int) 1 := ⟨w582, w1, by rw [if_pos rfl]; exact ⟨w580, w581⟩, ⟨by decide, by decide⟩, by decide +kernel⟩
set_option maxHeartbeats 4000000 in
theorem tX11_reset {l : Launch} {G : GD} {M N Mo : Mem} {a1 : Int32} {r : Int32} (h : fX11_reset M a1 = some (r, Mo)) : MI l yX11_reset cX11_reset 3 .int 5 108 G [.ref (G.2.1 10), .int a1] M N r Mo N := by
  unfold fX11_reset at h
  refine MI_of (own := RX11) (by decide) rfl (Nat.le_of_ble_eq_true rfl) ?_
  intro p e s m args below meth c F S ls hl
  have hx := F.1
  have hb := F.2.1
  have hown := F.2.2.2.2.1
  have hts := F.2.2.2.2.2.1
  have hZ := F.2.2.2.2.2.2.2.2.2
  have hl : lv_has ls 3 [(0, .ref (G.2.1 10)), (1, .int a1)] := hl
  generalize s.heap = H, ([] : List Loc) = locs at S ⊢
  refine lv_aload_n (pc := 0) hx hb dX11_reset_0 rfl (lv_at hl 0 rfl) ?_
  refine r_gR (pc := 1) (k := 0) (x := 34) (i := 10) (ci := 11) F S (by decide) (by decide) cl11 inRX11 (by decide) w319 (fun _ => rfl) dX11_reset_1 ?_
  refine lv_iload_n (pc := 4) hx hb dX11_reset_4 rfl (lv_at hl 1 rfl) ?_
  obtain ⟨r2, e1, h⟩ := ob_out h
  refine c_vO (pc := 5) (rest := []) F S (tX7_find e1) mfX7_find (by decide) (by decide) cl7 w410 ⟨Nat.le_of_ble_eq_true rfl, Nat.le_of_ble_eq_true rfl⟩ rfl hl.1 rfl (Nat.le_of_ble_eq_true rfl) dX11_reset_5 (fun H locs S => ?_)
  cases r2 with
  | none =>
    replace h := caseO_n h
    refine W.eq (g2 := F0 m 8 ls (.null :: [])) rfl ?_
    refine lv_astore_nN (pc := 8) (lv' := [(2, .null), (0, .ref (G.2.1 10)), (1, .int a1)]) hx hb dX11_reset_8 rfl hl (by decide) rfl (fun ls hl => ?_)
    refine lv_aload_nN (pc := 9) hx hb dX11_reset_9 rfl (lv_at hl 0 rfl) ?_
    refine lv_ifnonnullN (pc := 10) hx hb dX11_reset_10 ?_
    refine lv_iconst (pc := 13) (v := (-1)) hx hb dX11_reset_13 (by decide) ?_
    cases h
    exact r_iret (pc := 14) F S rfl dX11_reset_14
  | some x3 =>
    replace h := caseO_s h
    refine W.eq (g2 := F0 m 8 ls (.ref (G.2.1 x3) :: [])) rfl ?_
    refine lv_astore_n (pc := 8) (lv' := [(2, .ref (G.2.1 x3)), (0, .ref (G.2.1 10)), (1, .int a1)]) hx hb dX11_reset_8 rfl hl (by decide) rfl (fun ls hl => ?_)
    refine lv_aload_n (pc := 9) hx hb dX11_reset_9 rfl (lv_at hl 0 rfl) ?_
    refine lv_ifnonnull (pc := 10) (tgt := 15) hx hb dX11_reset_10 (by decide) ?_
    refine lv_aload_n (pc := 15) hx hb dX11_reset_15 rfl (lv_at hl 1 rfl) ?_
    refine r_gR (pc := 16) (k := 1) (x := 12) (i := 10) (ci := 11) F S (by decide) (by decide) cl11 inRX11 (by decide) w320 (fun _ => rfl) dX11_reset_16 ?_
    refine lv_aload_n (pc := 19) hx hb dX11_reset_19 rfl (lv_at hl 1 rfl) ?_
    refine r_gR (pc := 20) (k := 0) (x := 34) (i := 10) (ci := 11) F S (by decide) (by decide) cl11 inRX11 (by decide) w319 (fun _ => rfl) dX11_reset_20 ?_
    obtain ⟨M5, e4, h⟩ := ob_out h
    refine c_vV (pc := 23) (rest := []) F S (tX2_push e4) mfX2_push (by decide) (by decide) cl2 w358 ⟨Nat.le_of_ble_eq_true rfl, Nat.le_of_ble_eq_true rfl⟩ rfl hl.1 rfl (Nat.le_of_ble_eq_true rfl) dX11_reset_23 (fun H locs S => ?_)
    refine lv_aload_n (pc := 26) hx hb dX11_reset_26 rfl (lv_at hl 0 rfl) ?_
    obtain ⟨v7, M8, e6, h⟩ := ob2_out h
    refine c_vI (pc := 27) (rest := []) F S (tX6_clearTrips e6) mfX6_clearTrips (sX6_clearTrips e6) (by decide) cl6 w583 ⟨Nat.le_of_ble_eq_true rfl, Nat.le_of_ble_eq_true rfl⟩ rfl hl.1 rfl (Nat.le_of_ble_eq_true rfl) dX11_reset_27 (fun H locs S => ?_)
    cases h
    exact r_iret (pc := 30) F S rfl dX11_reset_30
theorem sX1_step {M : Mem} {a0 : Nat} {a1 : Nat} {r : Mem} (h : fX1_step M a0 a1 = some r) : shp a0 = 1 := by
  unfold fX1_step at h
  exact (ck_out h).1
theorem mfX1_step : MF true yX1_step RX1 cX1_step 3 none 1 := ⟨w604, w5, by rw [if_pos rfl]; exact ⟨w602, w603⟩, ⟨by decide, by decide⟩, by decide +kernel⟩
set_option maxHeartbeats 4000000 in
theorem pX1_step_L20 {p : Program} {l : Launch} {e : Env} {s : State} {m : MethodId} {args : Array Value} {below : List Frame} {meth : Method} {c : Code} {Q : State → Prop} {G : GD} (F : FX p s m args meth c RX1 cX1_step 3 none G) : ∀ (n : Nat) {M N : Mem} {a0 : Nat} {a1 : Nat} {a2 : Int32} {H : Heap} {locs : List Loc} {ls : Array Slot} {Mo : Mem}, shp a0 = 1 → ST G M N s H locs → lv_has ls 3 [(0, .ref (G.2.1 a0)), (1, .ref (G.2.1 a1)), (2, .int a2)] → fX1_step_L20 n M a0 a1 a2 = some Mo → (K1 : ∀ (H : Heap) (locs : List Loc) (ls : Array Slot), ST G Mo N s H locs → lv_has ls 3 [(0, .ref (G.2.1 a0))] → W p l e (Rm 0 0) s m args below meth c H locs 0 0 Q (F0 m 71 ls [])) → W p l e (Rm 0 0) s m args below meth c H locs 0 0 Q (F0 m 20 ls []) := by
  intro n
  induction n with
  | zero => intro M N a0 a1 a2 H locs ls Mo hsh S hl h K1; cases h
  | succ n ih =>
    intro M N a0 a1 a2 H locs ls Mo hsh S hl h K1
    rw [fX1_step_L20] at h
    have hx := F.1
    have hb := F.2.1
    have hown := F.2.2.2.2.1
    have hts := F.2.2.2.2.2.1
    have hZ := F.2.2.2.2.2.2.2.2.2
    refine lv_iload_n (pc := 20) hx hb dX1_step_20 rfl (lv_at hl 2 rfl) ?_
    refine lv_bipush (pc := 21) (v := 12) hx hb dX1_step_21 (by decide) ?_
    refine lv_icmp_ge (pc := 23) (tgt := 71) hx hb dX1_step_23 (by decide) (fun c8 => ?_) (fun c8 => ?_)
    · replace h := (if_pos c8).symm.trans h
      cases h
      exact K1 H locs ls S (lv_sub hl [0] rfl)
    · replace h := (if_neg c8).symm.trans h
      refine lv_iload_n (pc := 26) hx hb dX1_step_26 rfl (lv_at hl 2 rfl) ?_
      refine lv_aload_n (pc := 27) hx hb dX1_step_27 rfl (lv_at hl 1 rfl) ?_
      obtain ⟨v9, e10, h⟩ := ob_out h
      refine r_aN (pc := 28) F S e10 (by decide) dX1_step_28 ?_
      refine lv_icmp_ge (pc := 29) (tgt := 71) hx hb dX1_step_29 (by decide) (fun c11 => ?_) (fun c11 => ?_)
      · replace h := (if_pos c11).symm.trans h
        cases h
        exact K1 H locs ls S (lv_sub hl [0] rfl)
      · replace h := (if_neg c11).symm.trans h
        refine lv_aload_n (pc := 32) hx hb dX1_step_32 rfl (lv_at hl 1 rfl) ?_
        refine lv_iload_n (pc := 33) hx hb dX1_step_33 rfl (lv_at hl 2 rfl) ?_
        refine lv_aload_n (pc := 34) hx hb dX1_step_34 rfl (lv_at hl 0 rfl) ?_
        obtain ⟨x12, e13, h⟩ := ob_out h
        refine r_gR (pc := 35) (k := 2) F S e13 (by decide) cl1 inRX1 (by decide) w78 (fun _ => rfl) dX1_step_35 ?_
        refine lv_iload_n (pc := 38) hx hb dX1_step_38 rfl (lv_at hl 2 rfl) ?_
        obtain ⟨v14, e15, h⟩ := ob_out h
        refine r_aL (pc := 39) F S e15 dX1_step_39 ?_
        refine lv_aload_n (pc := 40) hx hb dX1_step_40 rfl (lv_at hl 0 rfl) ?_
        obtain ⟨x16, e17, h⟩ := ob_out h
        refine r_gR (pc := 41) (k := 3) F S e17 (by decide) cl1 inRX1 (by decide) w79 (fun _ => rfl) dX1_step_41 ?_
        refine lv_iload_n (pc := 44) hx hb dX1_step_44 rfl (lv_at hl 2 rfl) ?_
        obtain ⟨v18, e19, h⟩ := ob_out h
        refine r_aL (pc := 45) F S e19 dX1_step_45 ?_
        refine lv_aload_n (pc := 46) hx hb dX1_step_46 rfl (lv_at hl 0 rfl) ?_
        obtain ⟨x20, e21, h⟩ := ob_out h
        refine r_gR (pc := 47) (k := 2) F S e21 (by decide) cl1 inRX1 (by decide) w78 (fun _ => rfl) dX1_step_47 ?_
        refine lv_iload_n (pc := 50) hx hb dX1_step_50 rfl (lv_at hl 2 rfl) ?_
        obtain ⟨v22, e23, h⟩ := ob_out h
        refine r_aL (pc := 51) F S e23 dX1_step_51 ?_
        refine lv_isub (pc := 52) hx hb dX1_step_52 ?_
        refine lv_aload_n (pc := 53) hx hb dX1_step_53 rfl (lv_at hl 0 rfl) ?_
        obtain ⟨v24, e25, h⟩ := ob_out h
        refine r_gI (pc := 54) (k := 1) F S e25 (by decide) cl1 inRX1 (by decide) w77 (fun _ => rfl) dX1_step_54 ?_
        refine lv_imul (pc := 57) hx hb dX1_step_57 ?_
        refine lv_aload_n (pc := 58) hx hb dX1_step_58 rfl (lv_at hl 0 rfl) ?_
        obtain ⟨v26, e27, h⟩ := ob_out h
        refine r_gI (pc := 59) (k := 0) F S e27 (by decide) cl1 inRX1 (by decide) w76 (fun _ => rfl) dX1_step_59 ?_
        obtain ⟨v28, e29, h⟩ := ob_out h
        refine lv_idiv (pc := 62) hx hb dX1_step_62 (dv_out e29).1 ?_
        refine nm_i (dv_out e29).2 ?_
        refine lv_iadd (pc := 63) hx hb dX1_step_63 ?_
        obtain ⟨M30, e31, h⟩ := ob_out h
        refine r_aS (pc := 64) F S e31 dX1_step_64 (fun H locs S => ?_)
        refine lv_iinc (pc := 65) (lv' := [(2, .int (a2 + 1)), (0, .ref (G.2.1 a0)), (1, .ref (G.2.1 a1))]) hx hb dX1_step_65 hl (k := 2) rfl (iinc_n (by decide)) (by decide) rfl (fun ls hl => ?_)
        refine lv_goto (pc := 68) (tgt := 20) hx hb dX1_step_68 (by decide) ?_
        exact ih hsh S (lv_sub hl [1, 2, 0] rfl) h K1
set_option maxHeartbeats 4000000 in
theorem tX1_step {l : Launch} {G : GD} {M N Mo : Mem} {a0 : Nat} {a1 : Nat} (h : fX1_step M a0 a1 = some Mo) : MV l yX1_step cX1_step 3 0 0 G [.ref (G.2.1 a0), .ref (G.2.1 a1)] M N Mo N := by
  unfold fX1_step at h
  obtain ⟨hsh, h⟩ := ck_out h
  refine MV_of (own := RX1) (by decide) rfl (Nat.le_of_ble_eq_true rfl) ?_
  intro p e s m args below meth c F S ls hl
  have hx := F.1
  have hb := F.2.1
  have hown := F.2.2.2.2.1
  have hts := F.2.2.2.2.2.1
  have hZ := F.2.2.2.2.2.2.2.2.2
  have hl : lv_has ls 3 [(0, .ref (G.2.1 a0)), (1, .ref (G.2.1 a1))] := hl
  generalize s.heap = H, ([] : List Loc) = locs at S ⊢
  refine lv_aload_n (pc := 0) hx hb dX1_step_0 rfl (lv_at hl 0 rfl) ?_
  obtain ⟨v1, e2, h⟩ := ob_out h
  refine r_gI (pc := 1) (k := 0) F S e2 (by decide) cl1 inRX1 (by decide) w76 (fun _ => rfl) dX1_step_1 ?_
  refine lv_if_gt (pc := 4) (tgt := 8) hx hb dX1_step_4 (by decide) (fun c3 => ?_) (fun c3 => ?_)
  · replace h := (if_pos c3).symm.trans h
    refine lv_aload_n (pc := 8) hx hb dX1_step_8 rfl (lv_at hl 0 rfl) ?_
    refine lv_dup (pc := 9) hx hb dX1_step_9 rfl ?_
    obtain ⟨v4, e5, h⟩ := ob_out h
    refine r_gI (pc := 10) (k := 1) F S e5 (by decide) cl1 inRX1 (by decide) w77 (fun _ => rfl) dX1_step_10 ?_
    refine lv_iconst (pc := 13) (v := 1) hx hb dX1_step_13 (by decide) ?_
    refine lv_iadd (pc := 14) hx hb dX1_step_14 ?_
    obtain ⟨M6, e7, h⟩ := ob_out h
    refine r_pI (pc := 15) (k := 1) (ty0 := tyX1) F S e7 (by decide) cl1 inRX1 tyX1_ok nmX1 (by decide) w77 rfl (by decide +kernel) (fun _ => Nat.le_of_ble_eq_true rfl) (fun _ => pf_1_1) dX1_step_15 (fun H locs S => ?_)
    refine lv_iconst (pc := 18) (v := 0) hx hb dX1_step_18 (by decide) ?_
    refine lv_istore_n (pc := 19) (lv' := [(2, .int 0), (0, .ref (G.2.1 a0)), (1, .ref (G.2.1 a1))]) hx hb dX1_step_19 rfl hl (by decide) rfl (fun ls hl => ?_)
    obtain ⟨M8, e9, h⟩ := ob_out h
    refine pX1_step_L20 F 5000 hsh S (lv_sub hl [1, 2, 0] rfl) e9 (fun H locs ls S hl => ?_)
    refine lv_aload_n (pc := 71) hx hb dX1_step_71 rfl (lv_at hl 0 rfl) ?_
    obtain ⟨v10, e11, h⟩ := ob_out h
    refine r_gI (pc := 72) (k := 1) F S e11 (by decide) cl1 inRX1 (by decide) w77 (fun _ => rfl) dX1_step_72 ?_
    refine lv_aload_n (pc := 75) hx hb dX1_step_75 rfl (lv_at hl 0 rfl) ?_
    obtain ⟨v12, e13, h⟩ := ob_out h
    refine r_gI (pc := 76) (k := 0) F S e13 (by decide) cl1 inRX1 (by decide) w76 (fun _ => rfl) dX1_step_76 ?_
    refine lv_icmp_lt (pc := 79) (tgt := 92) hx hb dX1_step_79 (by decide) (fun c14 => ?_) (fun c14 => ?_)
    · replace h := (if_pos c14).symm.trans h
      cases h
      exact r_vret (pc := 92) F S dX1_step_92
    · replace h := (if_neg c14).symm.trans h
      refine lv_aload_n (pc := 82) hx hb dX1_step_82 rfl (lv_at hl 0 rfl) ?_
      refine lv_iconst (pc := 83) (v := 0) hx hb dX1_step_83 (by decide) ?_
      obtain ⟨M15, e16, h⟩ := ob_out h
      refine r_pI (pc := 84) (k := 0) (ty0 := tyX1) F S e16 (by decide) cl1 inRX1 tyX1_ok nmX1 (by decide) w76 rfl (by decide +kernel) (fun _ => Nat.le_of_ble_eq_true rfl) (fun _ => pf_1_0) dX1_step_84 (fun H locs S => ?_)
      refine lv_aload_n (pc := 87) hx hb dX1_step_87 rfl (lv_at hl 0 rfl) ?_
      refine lv_iconst (pc := 88) (v := 0) hx hb dX1_step_88 (by decide) ?_
      obtain ⟨M17, e18, h⟩ := ob_out h
      refine r_pI (pc := 89) (k := 1) (ty0 := tyX1) F S e18 (by decide) cl1 inRX1 tyX1_ok nmX1 (by decide) w77 rfl (by decide +kernel) (fun _ => Nat.le_of_ble_eq_true rfl) (fun _ => pf_1_1) dX1_step_89 (fun H locs S => ?_)
      cases h
      exact r_vret (pc := 92) F S dX1_step_92
  · replace h := (if_neg c3).symm.trans h
    cases h
    exact r_vret (pc := 7) F S dX1_step_7
theorem sX0_hasTripped {M : Mem} {a0 : Nat} {a1 : Int32} {r : (Int32)} (h : fX0_hasTripped M a0 a1 = some r) : shp a0 = 0 := by
  unfold fX0_hasTripped at h
  exact (ck_out h).1
theorem mfX0_hasTripped : MF true yX0_hasTripped RX0 cX0_hasTripped 2 (some .boolean) 1 := ⟨w621, w6, by rw [if_pos rfl]; exact ⟨w619, w620⟩, ⟨by decide, by decide⟩, by decide +kernel⟩
set_option maxHeartbeats 4000000 in
theorem tX0_hasTripped {l : Launch} {G : GD} {M N : Mem} {a0 : Nat} {a1 : Int32} {r : Int32} (h : fX0_hasTripped M a0 a1 = some r) : MI l yX0_hasTripped cX0_hasTripped 2 .boolean 0 0 G [.ref (G.2.1 a0), .int a1] M N r M N := by
  unfold fX0_hasTripped at h
  obtain ⟨hsh, h⟩ := ck_out h
  refine MI_of (own := RX0) (by decide) rfl (Nat.le_of_ble_eq_true rfl) ?_
  intro p e s m args below meth c F S ls hl
  have hx := F.1
  have hb := F.2.1
  have hown := F.2.2.2.2.1
  have hts := F.2.2.2.2.2.1
  have hZ := F.2.2.2.2.2.2.2.2.2
  have hl : lv_has ls 2 [(0, .ref (G.2.1 a0)), (1, .int a1)] := hl
  generalize s.heap = H, ([] : List Loc) = locs at S ⊢
  refine lv_aload_n (pc := 0) hx hb dX0_hasTripped_0 rfl (lv_at hl 0 rfl) ?_
  obtain ⟨v1, e2, h⟩ := ob_out h
  refine r_gI (pc := 1) (k := 1) F S e2 (by decide) cl0 inRX0 (by decide) w97 (fun _ => rfl) dX0_hasTripped_1 ?_
  refine lv_iload_n (pc := 4) hx hb dX0_hasTripped_4 rfl (lv_at hl 1 rfl) ?_
  refine lv_ishr (pc := 5) hx hb dX0_hasTripped_5 ?_
  refine lv_iconst (pc := 6) (v := 1) hx hb dX0_hasTripped_6 (by decide) ?_
  refine lv_iand (pc := 7) hx hb dX0_hasTripped_7 ?_
  refine lv_if_eq (pc := 8) (tgt := 15) hx hb dX0_hasTripped_8 (by decide) (fun c3 => ?_) (fun c3 => ?_)
  · replace h := (if_pos c3).symm.trans h
    refine lv_iconst (pc := 15) (v := 0) hx hb dX0_hasTripped_15 (by decide) ?_
    cases h
    exact r_iret (pc := 16) F S rfl dX0_hasTripped_16
  · replace h := (if_neg c3).symm.trans h
    refine lv_iconst (pc := 11) (v := 1) hx hb dX0_hasTripped_11 (by decide) ?_
    refine lv_goto (pc := 12) (tgt := 16) hx hb dX0_hasTripped_12 (by decide) ?_
    cases h
    exact r_iret (pc := 16) F S rfl dX0_hasTripped_16
theorem sX6_isFed {M : Mem} {a0 : Nat} {a1 : Int32} {r : (Int32)} (h : fX6_isFed M a0 a1 = some r) : shp a0 = 6 := by
  unfold fX6_isFed at h
  exact (ck_out h).1
theorem mfX6_isFed : MF true yX6_isFed RX6 cX6_isFed 3 (some .boolean) 1 := ⟨w616, w4, by rw [if_pos rfl]; exact ⟨w615, wp2⟩, ⟨by decide, by decide⟩, by decide +kernel⟩
set_option maxHeartbeats 4000000 in
theorem tX6_isFed {l : Launch} {G : GD} {M N : Mem} {a0 : Nat} {a1 : Int32} {r : Int32} (h : fX6_isFed M a0 a1 = some r) : MI l yX6_isFed cX6_isFed 3 .boolean 1 21 G [.ref (G.2.1 a0), .int a1] M N r M N := by
  unfold fX6_isFed at h
  obtain ⟨hsh, h⟩ := ck_out h
  refine MI_of (own := RX6) (by decide) rfl (Nat.le_of_ble_eq_true rfl) ?_
  intro p e s m args below meth c F S ls hl
  have hx := F.1
  have hb := F.2.1
  have hown := F.2.2.2.2.1
  have hts := F.2.2.2.2.2.1
  have hZ := F.2.2.2.2.2.2.2.2.2
  have hl : lv_has ls 3 [(0, .ref (G.2.1 a0)), (1, .int a1)] := hl
  generalize s.heap = H, ([] : List Loc) = locs at S ⊢
  refine lv_aload_n (pc := 0) hx hb dX6_isFed_0 rfl (lv_at hl 0 rfl) ?_
  refine lv_iload_n (pc := 1) hx hb dX6_isFed_1 rfl (lv_at hl 1 rfl) ?_
  obtain ⟨v2, e1, h⟩ := ob_out h
  refine c_vI (pc := 2) (rest := []) F S (tX6_dimmerOf e1) mfX6_dimmerOf (sX6_dimmerOf e1) (by decide) cl6 w617 ⟨Nat.le_of_ble_eq_true rfl, Nat.le_of_ble_eq_true rfl⟩ rfl hl.1 rfl (Nat.le_of_ble_eq_true rfl) dX6_isFed_2 (fun H locs S => ?_)
  refine lv_istore_n (pc := 5) (lv' := [(2, .int v2), (0, .ref (G.2.1 a0)), (1, .int a1)]) hx hb dX6_isFed_5 rfl hl (by decide) rfl (fun ls hl => ?_)
  refine lv_iload_n (pc := 6) hx hb dX6_isFed_6 rfl (lv_at hl 0 rfl) ?_
  refine lv_bipush (pc := 7) (v := (-6)) hx hb dX6_isFed_7 (by decide) ?_
  refine lv_icmp_eq (pc := 9) (tgt := 42) hx hb dX6_isFed_9 (by decide) (fun c3 => ?_) (fun c3 => ?_)
  · replace h := (if_pos c3).symm.trans h
    refine lv_iconst (pc := 42) (v := 0) hx hb dX6_isFed_42 (by decide) ?_
    cases h
    exact r_iret (pc := 43) F S rfl dX6_isFed_43
  · replace h := (if_neg c3).symm.trans h
    refine lv_aload_n (pc := 12) hx hb dX6_isFed_12 rfl (lv_at hl 1 rfl) ?_
    obtain ⟨x4, e5, h⟩ := ob_out h
    refine r_gR (pc := 13) (k := 11) F S e5 (by decide) cl6 inRX6 (by decide) w132 (fun _ => rfl) dX6_isFed_13 ?_
    refine lv_iload_n (pc := 16) hx hb dX6_isFed_16 rfl (lv_at hl 0 rfl) ?_
    obtain ⟨v7, e6, h⟩ := ob_out h
    refine c_vI (pc := 17) (rest := []) F S (tX0_hasTripped e6) mfX0_hasTripped (sX0_hasTripped e6) (by decide) cl0 w618 ⟨Nat.le_of_ble_eq_true rfl, Nat.le_of_ble_eq_true rfl⟩ rfl hl.1 rfl (Nat.le_of_ble_eq_true rfl) dX6_isFed_17 (fun H locs S => ?_)
    refine lv_if_ne (pc := 20) (tgt := 42) hx hb dX6_isFed_20 (by decide) (fun c8 => ?_) (fun c8 => ?_)
    · replace h := (if_neg c8).symm.trans h
      refine lv_iconst (pc := 42) (v := 0) hx hb dX6_isFed_42 (by decide) ?_
      cases h
      exact r_iret (pc := 43) F S rfl dX6_isFed_43
    · replace h := (if_pos c8).symm.trans h
      refine lv_aload_n (pc := 23) hx hb dX6_isFed_23 rfl (lv_at hl 1 rfl) ?_
      obtain ⟨x9, e10, h⟩ := ob_out h
      refine r_gR (pc := 24) (k := 12) F S e10 (by decide) cl6 inRX6 (by decide) w134 (fun _ => rfl) dX6_isFed_24 ?_
      refine lv_aload_n (pc := 27) hx hb dX6_isFed_27 rfl (lv_at hl 1 rfl) ?_
      refine lv_iload_n (pc := 28) hx hb dX6_isFed_28 rfl (lv_at hl 0 rfl) ?_
      obtain ⟨v12, e11, h⟩ := ob_out h
      refine c_vI (pc := 29) (rest := [.ref (G.2.1 x9)]) F S (tX6_phaseOf e11) mfX6_phaseOf (sX6_phaseOf e11) (by decide) cl6 w622 ⟨Nat.le_of_ble_eq_true rfl, Nat.le_of_ble_eq_true rfl⟩ rfl hl.1 rfl (Nat.le_of_ble_eq_true rfl) dX6_isFed_29 (fun H locs S => ?_)
      obtain ⟨v14, e13, h⟩ := ob_out h
      refine c_vI (pc := 32) (rest := []) F S (tX0_hasTripped e13) mfX0_hasTripped (sX0_hasTripped e13) (by decide) cl0 w618 ⟨Nat.le_of_ble_eq_true rfl, Nat.le_of_ble_eq_true rfl⟩ rfl hl.1 rfl (Nat.le_of_ble_eq_true rfl) dX6_isFed_32 (fun H locs S => ?_)
      refine lv_if_ne (pc := 35) (tgt := 42) hx hb dX6_isFed_35 (by decide) (fun c15 => ?_) (fun c15 => ?_)
      · replace h := (if_neg c15).symm.trans h
        refine lv_iconst (pc := 42) (v := 0) hx hb dX6_isFed_42 (by decide) ?_
        cases h
        exact r_iret (pc := 43) F S rfl dX6_isFed_43
      · replace h := (if_pos c15).symm.trans h
        refine lv_iconst (pc := 38) (v := 1) hx hb dX6_isFed_38 (by decide) ?_
        refine lv_goto (pc := 39) (tgt := 43) hx hb dX6_isFed_39 (by decide) ?_
        cases h
        exact r_iret (pc := 43) F S rfl dX6_isFed_43
theorem sX6_loadOfLamp {M : Mem} {a0 : Nat} {a1 : Int32} {a2 : Nat} {r : (Int32)} (h : fX6_loadOfLamp M a0 a1 a2 = some r) : shp a0 = 6 := by
  unfold fX6_loadOfLamp at h
  exact (ck_out h).1
theorem mfX6_loadOfLamp : MF true yX6_loadOfLamp RX6 cX6_loadOfLamp 3 (some .int) 2 := ⟨w612, w4, by rw [if_pos rfl]; exact ⟨w610, w611⟩, ⟨by decide, by decide⟩, by decide +kernel⟩
set_option maxHeartbeats 4000000 in
theorem tX6_loadOfLamp {l : Launch} {G : GD} {M N : Mem} {a0 : Nat} {a1 : Int32} {a2 : Nat} {r : Int32} (h : fX6_loadOfLamp M a0 a1 a2 = some r) : MI l yX6_loadOfLamp cX6_loadOfLamp 3 .int 2 44 G [.ref (G.2.1 a0), .int a1, .ref (G.2.1 a2)] M N r M N := by
  unfold fX6_loadOfLamp at h
  obtain ⟨hsh, h⟩ := ck_out h
  refine MI_of (own := RX6) (by decide) rfl (Nat.le_of_ble_eq_true rfl) ?_
  intro p e s m args below meth c F S ls hl
  have hx := F.1
  have hb := F.2.1
  have hown := F.2.2.2.2.1
  have hts := F.2.2.2.2.2.1
  have hZ := F.2.2.2.2.2.2.2.2.2
  have hl : lv_has ls 3 [(0, .ref (G.2.1 a0)), (1, .int a1), (2, .ref (G.2.1 a2))] := hl
  generalize s.heap = H, ([] : List Loc) = locs at S ⊢
  refine lv_aload_n (pc := 0) hx hb dX6_loadOfLamp_0 rfl (lv_at hl 0 rfl) ?_
  refine lv_iload_n (pc := 1) hx hb dX6_loadOfLamp_1 rfl (lv_at hl 1 rfl) ?_
  obtain ⟨v2, e1, h⟩ := ob_out h
  refine c_vI (pc := 2) (rest := []) F S (tX6_isFed e1) mfX6_isFed (sX6_isFed e1) (by decide) cl6 w613 ⟨Nat.le_of_ble_eq_true rfl, Nat.le_of_ble_eq_true rfl⟩ rfl hl.1 rfl (Nat.le_of_ble_eq_true rfl) dX6_loadOfLamp_2 (fun H locs S => ?_)
  refine lv_if_eq (pc := 5) (tgt := 21) hx hb dX6_loadOfLamp_5 (by decide) (fun c3 => ?_) (fun c3 => ?_)
  · replace h := (if_pos c3).symm.trans h
    refine lv_iconst (pc := 21) (v := 0) hx hb dX6_loadOfLamp_21 (by decide) ?_
    cases h
    exact r_iret (pc := 22) F S rfl dX6_loadOfLamp_22
  · replace h := (if_neg c3).symm.trans h
    refine lv_aload_n (pc := 8) hx hb dX6_loadOfLamp_8 rfl (lv_at hl 0 rfl) ?_
    refine lv_iload_n (pc := 9) hx hb dX6_loadOfLamp_9 rfl (lv_at hl 1 rfl) ?_
    refine lv_aload_n (pc := 10) hx hb dX6_loadOfLamp_10 rfl (lv_at hl 0 rfl) ?_
    obtain ⟨x4, e5, h⟩ := ob_out h
    refine r_gR (pc := 11) (k := 6) F S e5 (by decide) cl6 inRX6 (by decide) w119 (fun _ => rfl) dX6_loadOfLamp_11 ?_
    refine lv_aload_n (pc := 14) hx hb dX6_loadOfLamp_14 rfl (lv_at hl 2 rfl) ?_
    obtain ⟨v7, e6, h⟩ := ob_out h
    refine c_vI (pc := 15) (rest := []) F S (tX6_draw e6) mfX6_draw (sX6_draw e6) (by decide) cl6 w623 ⟨Nat.le_of_ble_eq_true rfl, Nat.le_of_ble_eq_true rfl⟩ rfl hl.1 rfl (Nat.le_of_ble_eq_true rfl) dX6_loadOfLamp_15 (fun H locs S => ?_)
    refine lv_goto (pc := 18) (tgt := 22) hx hb dX6_loadOfLamp_18 (by decide) ?_
    cases h
    exact r_iret (pc := 22) F S rfl dX6_loadOfLamp_22
theorem sX3_measureNow {M : Mem} {a0 : Nat} {a1 : Nat} {a2 : Nat} {r : Mem} (h : fX3_measureNow M a0 a1 a2 = some r) : shp a0 = 3 := by
  unfold fX3_measureNow at h
  exact (ck_out h).1
theorem mfX3_measureNow : MF true yX3_measureNow RX3 cX3_measureNow 4 none 2 := ⟨w608, w10, by rw [if_pos rfl]; exact ⟨w606, w607⟩, ⟨by decide, by decide⟩, by decide +kernel⟩
set_option maxHeartbeats 4000000 in
theorem pX3_measureNow_L6 {p : Program} {l : Launch} {e : Env} {s : State} {m : MethodId} {args : Array Value} {below : List Frame} {meth : Method} {c : Code} {Q : State → Prop} {G : GD} (F : FX p s m args meth c RX3 cX3_measureNow 4 none G) : ∀ (n : Nat) {M N : Mem} {a0 : Nat} {a1 : Nat} {a2 : Nat} {a3 : Int32} {H : Heap} {locs : List Loc} {ls : Array Slot} {Mo : Mem}, shp a0 = 3 → ST G M N s H locs → lv_has ls 4 [(0, .ref (G.2.1 a0)), (1, .ref (G.2.1 a1)), (2, .ref (G.2.1 a2)), (3, .int a3)] → fX3_measureNow_L6 n M a0 a1 a2 a3 = some Mo → (K1 : ∀ (H : Heap) (locs : List Loc) (ls : Array Slot), ST G Mo N s H locs → lv_has ls 4 [] → W p l e (Rm 3 67) s m args below meth c H locs 0 0 Q (F0 m 32 ls [])) → W p l e (Rm 3 67) s m args below meth c H locs 0 0 Q (F0 m 6 ls []) := by
  intro n
  induction n with
  | zero => intro M N a0 a1 a2 a3 H locs ls Mo hsh S hl h K1; cases h
  | succ n ih =>
    intro M N a0 a1 a2 a3 H locs ls Mo hsh S hl h K1
    rw [fX3_measureNow_L6] at h
    have hx := F.1
    have hb := F.2.1
    have hown := F.2.2.2.2.1
    have hts := F.2.2.2.2.2.1
    have hZ := F.2.2.2.2.2.2.2.2.2
    refine lv_iload_n (pc := 6) hx hb dX3_measureNow_6 rfl (lv_at hl 3 rfl) ?_
    refine lv_aload_n (pc := 7) hx hb dX3_measureNow_7 rfl (lv_at hl 1 rfl) ?_
    obtain ⟨v3, e4, h⟩ := ob_out h
    refine r_gI (pc := 8) (k := 2) F S e4 (by decide) cl6 inRX6 (by decide) w108 (fun _ => rfl) dX3_measureNow_8 ?_
    refine lv_icmp_ge (pc := 11) (tgt := 32) hx hb dX3_measureNow_11 (by decide) (fun c5 => ?_) (fun c5 => ?_)
    · replace h := (if_pos c5).symm.trans h
      cases h
      exact K1 H locs ls S (lv_sub hl [] rfl)
    · replace h := (if_neg c5).symm.trans h
      refine lv_aload_n (pc := 14) hx hb dX3_measureNow_14 rfl (lv_at hl 0 rfl) ?_
      refine lv_aload_n (pc := 15) hx hb dX3_measureNow_15 rfl (lv_at hl 1 rfl) ?_
      refine lv_iload_n (pc := 16) hx hb dX3_measureNow_16 rfl (lv_at hl 3 rfl) ?_
      refine lv_aload_n (pc := 17) hx hb dX3_measureNow_17 rfl (lv_at hl 1 rfl) ?_
      refine lv_iload_n (pc := 18) hx hb dX3_measureNow_18 rfl (lv_at hl 3 rfl) ?_
      refine lv_aload_n (pc := 19) hx hb dX3_measureNow_19 rfl (lv_at hl 2 rfl) ?_
      obtain ⟨v7, e6, h⟩ := ob_out h
      refine c_vI (pc := 20) (rest := [.int a3, .ref (G.2.1 a1), .ref (G.2.1 a0)]) F S (tX6_loadOfLamp e6) mfX6_loadOfLamp (sX6_loadOfLamp e6) (by decide) cl6 w609 ⟨Nat.le_of_ble_eq_true rfl, Nat.le_of_ble_eq_true rfl⟩ rfl hl.1 rfl (Nat.le_of_ble_eq_true rfl) dX3_measureNow_20 (fun H locs S => ?_)
      obtain ⟨M9, e8, h⟩ := ob_out h
      refine c_vV (pc := 23) (rest := []) F S (tX3_add e8) mfX3_add (sX3_add e8) (by decide) cl3 w511 ⟨Nat.le_of_ble_eq_true rfl, Nat.le_of_ble_eq_true rfl⟩ rfl hl.1 rfl (Nat.le_of_ble_eq_true rfl) dX3_measureNow_23 (fun H locs S => ?_)
      refine lv_iinc (pc := 26) (lv' := [(3, .int (a3 + 1)), (0, .ref (G.2.1 a0)), (1, .ref (G.2.1 a1)), (2, .ref (G.2.1 a2))]) hx hb dX3_measureNow_26 hl (k := 3) rfl (iinc_n (by decide)) (by decide) rfl (fun ls hl => ?_)
      refine lv_goto (pc := 29) (tgt := 6) hx hb dX3_measureNow_29 (by decide) ?_
      exact ih hsh S (lv_sub hl [1, 2, 3, 0] rfl) h K1
set_option maxHeartbeats 4000000 in
theorem tX3_measureNow {l : Launch} {G : GD} {M N Mo : Mem} {a0 : Nat} {a1 : Nat} {a2 : Nat} (h : fX3_measureNow M a0 a1 a2 = some Mo) : MV l yX3_measureNow cX3_measureNow 4 3 67 G [.ref (G.2.1 a0), .ref (G.2.1 a1), .ref (G.2.1 a2)] M N Mo N := by
  unfold fX3_measureNow at h
  obtain ⟨hsh, h⟩ := ck_out h
  refine MV_of (own := RX3) (by decide) rfl (Nat.le_of_ble_eq_true rfl) ?_
  intro p e s m args below meth c F S ls hl
  have hx := F.1
  have hb := F.2.1
  have hown := F.2.2.2.2.1
  have hts := F.2.2.2.2.2.1
  have hZ := F.2.2.2.2.2.2.2.2.2
  have hl : lv_has ls 4 [(0, .ref (G.2.1 a0)), (1, .ref (G.2.1 a1)), (2, .ref (G.2.1 a2))] := hl
  generalize s.heap = H, ([] : List Loc) = locs at S ⊢
  refine lv_aload_n (pc := 0) hx hb dX3_measureNow_0 rfl (lv_at hl 0 rfl) ?_
  obtain ⟨M2, e1, h⟩ := ob_out h
  refine c_vV (pc := 1) (rest := []) F S (tX3_empty e1) mfX3_empty (sX3_empty e1) (by decide) cl3 w495 ⟨Nat.le_of_ble_eq_true rfl, Nat.le_of_ble_eq_true rfl⟩ rfl hl.1 rfl (Nat.le_of_ble_eq_true rfl) dX3_measureNow_1 (fun H locs S => ?_)
  refine lv_iconst (pc := 4) (v := 0) hx hb dX3_measureNow_4 (by decide) ?_
  refine lv_istore_n (pc := 5) (lv' := [(3, .int 0), (0, .ref (G.2.1 a0)), (1, .ref (G.2.1 a1)), (2, .ref (G.2.1 a2))]) hx hb dX3_measureNow_5 rfl hl (by decide) rfl (fun ls hl => ?_)
  obtain ⟨M3, e4, h⟩ := ob_out h
  refine pX3_measureNow_L6 F 5000 hsh S (lv_sub hl [1, 2, 3, 0] rfl) e4 (fun H locs ls S hl => ?_)
  cases h
  exact r_vret (pc := 32) F S dX3_measureNow_32
theorem sX0_check {M : Mem} {a0 : Nat} {a1 : Nat} {a2 : Int32} {a3 : Int32} {r : (Int32 × Mem)} (h : fX0_check M a0 a1 a2 a3 = some r) : shp a0 = 0 := by
  unfold fX0_check at h
  exact (ck_out h).1
theorem mfX0_check : MF true yX0_check RX0 cX0_check 6 (some .int) 3 := ⟨w627, w6, by rw [if_pos rfl]; exact ⟨w625, w626⟩, ⟨by decide, by decide⟩, by decide +kernel⟩
set_option maxHeartbeats 4000000 in
theorem pX0_check_L6 {p : Program} {l : Launch} {e : Env} {s : State} {m : MethodId} {args : Array Value} {below : List Frame} {meth : Method} {c : Code} {Q : State → Prop} {G : GD} (F : FX p s m args meth c RX0 cX0_check 6 (some .int) G) : ∀ (n : Nat) {M N : Mem} {a0 : Nat} {a1 : Nat} {a2 : Int32} {a3 : Int32} {a4 : Int32} {a5 : Int32} {H : Heap} {locs : List Loc} {ls : Array Slot} {o4 : Int32} {Mo : Mem}, shp a0 = 0 → ST G M N s H locs → lv_has ls 6 [(0, .ref (G.2.1 a0)), (1, .ref (G.2.1 a1)), (2, .int a2), (3, .int a3), (4, .int a4), (5, .int a5)] → fX0_check_L6 n M a0 a1 a2 a3 a4 a5 = some (o4, Mo) → (K1 : ∀ (H : Heap) (locs : List Loc) (ls : Array Slot), ST G Mo N s H locs → lv_has ls 6 [(4, .int o4)] → W p l e (Rm 0 0) s m args below meth c H locs 0 0 Q (F0 m 92 ls [])) → W p l e (Rm 0 0) s m args below meth c H locs 0 0 Q (F0 m 6 ls []) := by
  intro n
  induction n with
  | zero => intro M N a0 a1 a2 a3 a4 a5 H locs ls o4 Mo hsh S hl h K1; cases h
  | succ n ih =>
    intro M N a0 a1 a2 a3 a4 a5 H locs ls o4 Mo hsh S hl h K1
    rw [fX0_check_L6] at h
    have hx := F.1
    have hb := F.2.1
    have hown := F.2.2.2.2.1
    have hts := F.2.2.2.2.2.1
    have hZ := F.2.2.2.2.2.2.2.2.2
    refine lv_iload (pc := 6) hx hb dX0_check_6 (lv_at hl 5 rfl) ?_
    refine lv_aload_n (pc := 8) hx hb dX0_check_8 rfl (lv_at hl 0 rfl) ?_
    obtain ⟨x1, e2, h⟩ := ob_out h
    refine r_gR (pc := 9) (k := 0) F S e2 (by decide) cl0 inRX0 (by decide) w95 (fun _ => rfl) dX0_check_9 ?_
    obtain ⟨v3, e4, h⟩ := ob_out h
    refine r_aN (pc := 12) F S e4 (by decide) dX0_check_12 ?_
    refine lv_icmp_ge (pc := 13) (tgt := 92) hx hb dX0_check_13 (by decide) (fun c5 => ?_) (fun c5 => ?_)
    · replace h := (if_pos c5).symm.trans h
      cases h
      exact K1 H locs ls S (lv_sub hl [4] rfl)
    · replace h := (if_neg c5).symm.trans h
      refine lv_iload (pc := 16) hx hb dX0_check_16 (lv_at hl 5 rfl) ?_
      refine lv_aload_n (pc := 18) hx hb dX0_check_18 rfl (lv_at hl 1 rfl) ?_
      obtain ⟨v6, e7, h⟩ := ob_out h
      refine r_aN (pc := 19) F S e7 (by decide) dX0_check_19 ?_
      refine lv_icmp_ge (pc := 20) (tgt := 92) hx hb dX0_check_20 (by decide) (fun c8 => ?_) (fun c8 => ?_)
      · replace h := (if_pos c8).symm.trans h
        cases h
        exact K1 H locs ls S (lv_sub hl [4] rfl)
      · replace h := (if_neg c8).symm.trans h
        refine lv_aload_n (pc := 23) hx hb dX0_check_23 rfl (lv_at hl 0 rfl) ?_
        obtain ⟨x9, e10, h⟩ := ob_out h
        refine r_gR (pc := 24) (k := 0) F S e10 (by decide) cl0 inRX0 (by decide) w95 (fun _ => rfl) dX0_check_24 ?_
        refine lv_iload (pc := 27) hx hb dX0_check_27 (lv_at hl 5 rfl) ?_
        refine lv_aload_n (pc := 29) hx hb dX0_check_29 rfl (lv_at hl 1 rfl) ?_
        refine lv_iload (pc := 30) hx hb dX0_check_30 (lv_at hl 5 rfl) ?_
        obtain ⟨v11, e12, h⟩ := ob_out h
        refine r_aL (pc := 32) F S e12 dX0_check_32 ?_
        refine lv_iload_n (pc := 33) hx hb dX0_check_33 rfl (lv_at hl 2 rfl) ?_
        obtain ⟨v13, d14, h⟩ := ob_out h
        have J15 : ∀ (H : Heap) (locs : List Loc) (ls : Array Slot), ST G M N s H locs → lv_has ls 6 [(0, .ref (G.2.1 a0)), (1, .ref (G.2.1 a1)), (2, .int a2), (3, .int a3), (4, .int a4), (5, .int a5)] → W p l e (Rm 0 0) s m args below meth c H locs 0 0 Q (F0 m 50 ls [.int v13, .int a5, .ref (G.2.1 x9)]) := by
          intro H locs ls S hl
          obtain ⟨M16, e17, h⟩ := ob_out h
          refine r_aS (pc := 50) F S e17 dX0_check_50 (fun H locs S => ?_)
          refine lv_aload_n (pc := 51) hx hb dX0_check_51 rfl (lv_at hl 0 rfl) ?_
          obtain ⟨x18, e19, h⟩ := ob_out h
          refine r_gR (pc := 52) (k := 0) F S e19 (by decide) cl0 inRX0 (by decide) w95 (fun _ => rfl) dX0_check_52 ?_
          refine lv_iload (pc := 55) hx hb dX0_check_55 (lv_at hl 5 rfl) ?_
          obtain ⟨v20, e21, h⟩ := ob_out h
          refine r_aL (pc := 57) F S e21 dX0_check_57 ?_
          refine lv_iload_n (pc := 58) hx hb dX0_check_58 rfl (lv_at hl 3 rfl) ?_
          refine lv_icmp_lt (pc := 59) (tgt := 86) hx hb dX0_check_59 (by decide) (fun c22 => ?_) (fun c22 => ?_)
          · replace h := (if_pos c22).symm.trans h
            refine lv_iinc (pc := 86) (lv' := [(5, .int (a5 + 1)), (0, .ref (G.2.1 a0)), (1, .ref (G.2.1 a1)), (2, .int a2), (3, .int a3), (4, .int a4)]) hx hb dX0_check_86 hl (k := 5) rfl (iinc_n (by decide)) (by decide) rfl (fun ls hl => ?_)
            refine lv_goto (pc := 89) (tgt := 6) hx hb dX0_check_89 (by decide) ?_
            exact ih hsh S (lv_sub hl [1, 2, 3, 4, 5, 0] rfl) h K1
          · replace h := (if_neg c22).symm.trans h
            refine lv_aload_n (pc := 62) hx hb dX0_check_62 rfl (lv_at hl 0 rfl) ?_
            obtain ⟨x23, e24, h⟩ := ob_out h
            refine r_gR (pc := 63) (k := 0) F S e24 (by decide) cl0 inRX0 (by decide) w95 (fun _ => rfl) dX0_check_63 ?_
            refine lv_iload (pc := 66) hx hb dX0_check_66 (lv_at hl 5 rfl) ?_
            refine lv_iconst (pc := 68) (v := 0) hx hb dX0_check_68 (by decide) ?_
            obtain ⟨M25, e26, h⟩ := ob_out h
            refine r_aS (pc := 69) F S e26 dX0_check_69 (fun H locs S => ?_)
            refine lv_aload_n (pc := 70) hx hb dX0_check_70 rfl (lv_at hl 0 rfl) ?_
            refine lv_dup (pc := 71) hx hb dX0_check_71 rfl ?_
            obtain ⟨v27, e28, h⟩ := ob_out h
            refine r_gI (pc := 72) (k := 1) F S e28 (by decide) cl0 inRX0 (by decide) w97 (fun _ => rfl) dX0_check_72 ?_
            refine lv_iconst (pc := 75) (v := 1) hx hb dX0_check_75 (by decide) ?_
            refine lv_iload (pc := 76) hx hb dX0_check_76 (lv_at hl 5 rfl) ?_
            refine lv_ishl (pc := 78) hx hb dX0_check_78 ?_
            refine lv_ior (pc := 79) hx hb dX0_check_79 ?_
            obtain ⟨M29, e30, h⟩ := ob_out h
            refine r_pI (pc := 80) (k := 1) (ty0 := tyX0) F S e30 (by decide) cl0 inRX0 tyX0_ok nmX0 (by decide) w97 rfl (by decide +kernel) (fun _ => Nat.le_of_ble_eq_true rfl) (fun _ => pf_0_1) dX0_check_80 (fun H locs S => ?_)
            refine lv_iinc (pc := 83) (lv' := [(4, .int (a4 + 1)), (0, .ref (G.2.1 a0)), (1, .ref (G.2.1 a1)), (2, .int a2), (3, .int a3), (5, .int a5)]) hx hb dX0_check_83 hl (k := 4) rfl (iinc_n (by decide)) (by decide) rfl (fun ls hl => ?_)
            refine lv_iinc (pc := 86) (lv' := [(5, .int (a5 + 1)), (4, .int (a4 + 1)), (0, .ref (G.2.1 a0)), (1, .ref (G.2.1 a1)), (2, .int a2), (3, .int a3)]) hx hb dX0_check_86 hl (k := 5) rfl (iinc_n (by decide)) (by decide) rfl (fun ls hl => ?_)
            refine lv_goto (pc := 89) (tgt := 6) hx hb dX0_check_89 (by decide) ?_
            exact ih hsh S (lv_sub hl [2, 3, 4, 5, 1, 0] rfl) h K1
        refine lv_icmp_le (pc := 34) (tgt := 49) hx hb dX0_check_34 (by decide) (fun c31 => ?_) (fun c31 => ?_)
        · replace d14 := (if_pos c31).symm.trans d14
          refine lv_iconst (pc := 49) (v := 0) hx hb dX0_check_49 (by decide) ?_
          cases d14
          exact J15 H locs ls S (lv_sub hl [0, 1, 2, 3, 4, 5] rfl)
        · replace d14 := (if_neg c31).symm.trans d14
          refine lv_aload_n (pc := 37) hx hb dX0_check_37 rfl (lv_at hl 0 rfl) ?_
          obtain ⟨x32, e33, d14⟩ := ob_out d14
          refine r_gR (pc := 38) (k := 0) F S e33 (by decide) cl0 inRX0 (by decide) w95 (fun _ => rfl) dX0_check_38 ?_
          refine lv_iload (pc := 41) hx hb dX0_check_41 (lv_at hl 5 rfl) ?_
          obtain ⟨v34, e35, d14⟩ := ob_out d14
          refine r_aL (pc := 43) F S e35 dX0_check_43 ?_
          refine lv_iconst (pc := 44) (v := 1) hx hb dX0_check_44 (by decide) ?_
          refine lv_iadd (pc := 45) hx hb dX0_check_45 ?_
          refine lv_goto (pc := 46) (tgt := 50) hx hb dX0_check_46 (by decide) ?_
          cases d14
          exact J15 H locs ls S (lv_sub hl [0, 1, 2, 3, 4, 5] rfl)
set_option maxHeartbeats 4000000 in
theorem tX0_check {l : Launch} {G : GD} {M N Mo : Mem} {a0 : Nat} {a1 : Nat} {a2 : Int32} {a3 : Int32} {r : Int32} (h : fX0_check M a0 a1 a2 a3 = some (r, Mo)) : MI l yX0_check cX0_check 6 .int 0 0 G [.ref (G.2.1 a0), .ref (G.2.1 a1), .int a2, .int a3] M N r Mo N := by
  unfold fX0_check at h
  obtain ⟨hsh, h⟩ := ck_out h
  refine MI_of (own := RX0) (by decide) rfl (Nat.le_of_ble_eq_true rfl) ?_
  intro p e s m args below meth c F S ls hl
  have hx := F.1
  have hb := F.2.1
  have hown := F.2.2.2.2.1
  have hts := F.2.2.2.2.2.1
  have hZ := F.2.2.2.2.2.2.2.2.2
  have hl : lv_has ls 6 [(0, .ref (G.2.1 a0)), (1, .ref (G.2.1 a1)), (2, .int a2), (3, .int a3)] := hl
  generalize s.heap = H, ([] : List Loc) = locs at S ⊢
  refine lv_iconst (pc := 0) (v := 0) hx hb dX0_check_0 (by decide) ?_
  refine lv_istore (pc := 1) (lv' := [(4, .int 0), (0, .ref (G.2.1 a0)), (1, .ref (G.2.1 a1)), (2, .int a2), (3, .int a3)]) hx hb dX0_check_1 hl (by decide) rfl (fun ls hl => ?_)
  refine lv_iconst (pc := 3) (v := 0) hx hb dX0_check_3 (by decide) ?_
  refine lv_istore (pc := 4) (lv' := [(5, .int 0), (4, .int 0), (0, .ref (G.2.1 a0)), (1, .ref (G.2.1 a1)), (2, .int a2), (3, .int a3)]) hx hb dX0_check_4 hl (by decide) rfl (fun ls hl => ?_)
  obtain ⟨v2, M1, e3, h⟩ := ob2_out h
  refine pX0_check_L6 F 5000 hsh S (lv_sub hl [2, 3, 4, 5, 1, 0] rfl) e3 (fun H locs ls S hl => ?_)
  refine lv_iload (pc := 92) hx hb dX0_check_92 (lv_at hl 0 rfl) ?_
  cases h
  exact r_iret (pc := 94) F S rfl dX0_check_94
