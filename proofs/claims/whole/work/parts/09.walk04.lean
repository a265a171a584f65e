/-! the walks: each method does what its function says -/
theorem mfX4_carryOneOut : MF true yX4_carryOneOut RX4 cX4_carryOneOut 3 (some .boolean) 2 := ⟨w683, w8, by rw [if_pos rfl]; exact ⟨w682, wp13⟩, ⟨by decide, by decide⟩, by decide +kernel⟩
set_option maxHeartbeats 4000000 in
theorem tX4_carryOneOut {l : Launch} {G : GD} {M N Mo : Mem} {a1 : Int32} {a2 : Nat} {r : Int32} (h : fX4_carryOneOut M a1 a2 = some (r, Mo)) : MI l yX4_carryOneOut cX4_carryOneOut 3 .boolean 4 89 G [.ref (G.2.1 14), .int a1, .ref (G.2.1 a2)] M N r Mo N := by
  unfold fX4_carryOneOut at h
  refine MI_of (own := RX4) (by decide) rfl (Nat.le_of_ble_eq_true rfl) ?_
  intro p e s m args below meth c F S ls hl
  have hx := F.1
  have hb := F.2.1
  have hown := F.2.2.2.2.1
  have hts := F.2.2.2.2.2.1
  have hZ := F.2.2.2.2.2.2.2.2.2
  have hl : lv_has ls 3 [(0, .ref (G.2.1 14)), (1, .int a1), (2, .ref (G.2.1 a2))] := hl
  generalize s.heap = H, ([] : List Loc) = locs at S ⊢
  refine lv_aload_n (pc := 0) hx hb dX4_carryOneOut_0 rfl (lv_at hl 0 rfl) ?_
  refine r_gR (pc := 1) (k := 4) (x := 17) (i := 14) (ci := 4) F S (by decide) (by decide) cl4 inRX4 (by decide) w224 (fun _ => rfl) dX4_carryOneOut_1 ?_
  refine lv_iload_n (pc := 4) hx hb dX4_carryOneOut_4 rfl (lv_at hl 1 rfl) ?_
  obtain ⟨v1, e2, h⟩ := ob_out h
  refine r_aL (pc := 5) F S e2 dX4_carryOneOut_5 ?_
  rcases Classical.em (v1 = 0) with c3 | c3
  · replace h := (if_pos c3).symm.trans h
    refine lv_tableIn (pc := 6) (tgt := 32) hx hb dX4_carryOneOut_6 (by rw [c3]; decide) (by rw [c3]; decide) (off := 26) (by rw [c3]; rfl) (by decide) ?_
    refine lv_aload_n (pc := 32) hx hb dX4_carryOneOut_32 rfl (lv_at hl 0 rfl) ?_
    refine lv_iload_n (pc := 33) hx hb dX4_carryOneOut_33 rfl (lv_at hl 1 rfl) ?_
    refine lv_aload_n (pc := 34) hx hb dX4_carryOneOut_34 rfl (lv_at hl 2 rfl) ?_
    obtain ⟨v5, M6, e4, h⟩ := ob2_out h
    refine c_vI (pc := 35) (rest := []) F S (tX4_changeLevels e4) mfX4_changeLevels (by decide) (by decide) cl4 w684 ⟨Nat.le_of_ble_eq_true rfl, Nat.le_of_ble_eq_true rfl⟩ rfl hl.1 rfl (Nat.le_of_ble_eq_true rfl) dX4_carryOneOut_35 (fun H locs S => ?_)
    obtain ⟨b7, e8, h⟩ := ob_out h
    cases h
    refine nm_i (bz_out e8).1 ?_
    exact r_iret (pc := 38) F S (bool_narrow (by rw [← (bz_out e8).1]; exact (bz_out e8).2)).1 dX4_carryOneOut_38
  replace h := (if_neg c3).symm.trans h
  rcases Classical.em (v1 = 1) with c9 | c9
  · replace h := (if_pos c9).symm.trans h
    refine lv_tableIn (pc := 6) (tgt := 39) hx hb dX4_carryOneOut_6 (by rw [c9]; decide) (by rw [c9]; decide) (off := 33) (by rw [c9]; rfl) (by decide) ?_
    refine lv_aload_n (pc := 39) hx hb dX4_carryOneOut_39 rfl (lv_at hl 2 rfl) ?_
    refine lv_aload_n (pc := 40) hx hb dX4_carryOneOut_40 rfl (lv_at hl 0 rfl) ?_
    refine r_gR (pc := 41) (k := 5) (x := 18) (i := 14) (ci := 4) F S (by decide) (by decide) cl4 inRX4 (by decide) w225 (fun _ => rfl) dX4_carryOneOut_41 ?_
    refine lv_iload_n (pc := 44) hx hb dX4_carryOneOut_44 rfl (lv_at hl 1 rfl) ?_
    obtain ⟨v10, e11, h⟩ := ob_out h
    refine r_aL (pc := 45) F S e11 dX4_carryOneOut_45 ?_
    refine lv_aload_n (pc := 46) hx hb dX4_carryOneOut_46 rfl (lv_at hl 0 rfl) ?_
    refine r_gR (pc := 47) (k := 6) (x := 19) (i := 14) (ci := 4) F S (by decide) (by decide) cl4 inRX4 (by decide) w226 (fun _ => rfl) dX4_carryOneOut_47 ?_
    refine lv_iload_n (pc := 50) hx hb dX4_carryOneOut_50 rfl (lv_at hl 1 rfl) ?_
    obtain ⟨v12, e13, h⟩ := ob_out h
    refine r_aL (pc := 51) F S e13 dX4_carryOneOut_51 ?_
    obtain ⟨M15, e14, h⟩ := ob_out h
    refine c_vV (pc := 52) (rest := []) F S (tX6_recordCue e14) mfX6_recordCue (sX6_recordCue e14) (by decide) cl6 w696 ⟨Nat.le_of_ble_eq_true rfl, Nat.le_of_ble_eq_true rfl⟩ rfl hl.1 rfl (Nat.le_of_ble_eq_true rfl) dX4_carryOneOut_52 (fun H locs S => ?_)
    refine lv_iconst (pc := 55) (v := 1) hx hb dX4_carryOneOut_55 (by decide) ?_
    cases h
    exact r_iret (pc := 56) F S rfl dX4_carryOneOut_56
  replace h := (if_neg c9).symm.trans h
  rcases Classical.em (v1 = 2) with c16 | c16
  · replace h := (if_pos c16).symm.trans h
    refine lv_tableIn (pc := 6) (tgt := 57) hx hb dX4_carryOneOut_6 (by rw [c16]; decide) (by rw [c16]; decide) (off := 51) (by rw [c16]; rfl) (by decide) ?_
    refine lv_aload_n (pc := 57) hx hb dX4_carryOneOut_57 rfl (lv_at hl 0 rfl) ?_
    refine lv_aload_n (pc := 58) hx hb dX4_carryOneOut_58 rfl (lv_at hl 0 rfl) ?_
    refine r_gR (pc := 59) (k := 5) (x := 18) (i := 14) (ci := 4) F S (by decide) (by decide) cl4 inRX4 (by decide) w225 (fun _ => rfl) dX4_carryOneOut_59 ?_
    refine lv_iload_n (pc := 62) hx hb dX4_carryOneOut_62 rfl (lv_at hl 1 rfl) ?_
    obtain ⟨v17, e18, h⟩ := ob_out h
    refine r_aL (pc := 63) F S e18 dX4_carryOneOut_63 ?_
    refine lv_aload_n (pc := 64) hx hb dX4_carryOneOut_64 rfl (lv_at hl 2 rfl) ?_
    obtain ⟨v20, M21, e19, h⟩ := ob2_out h
    refine c_vI (pc := 65) (rest := []) F S (tX4_startRecorded e19) mfX4_startRecorded (by decide) (by decide) cl4 w697 ⟨Nat.le_of_ble_eq_true rfl, Nat.le_of_ble_eq_true rfl⟩ rfl hl.1 rfl (Nat.le_of_ble_eq_true rfl) dX4_carryOneOut_65 (fun H locs S => ?_)
    obtain ⟨b22, e23, h⟩ := ob_out h
    cases h
    refine nm_i (bz_out e23).1 ?_
    exact r_iret (pc := 68) F S (bool_narrow (by rw [← (bz_out e23).1]; exact (bz_out e23).2)).1 dX4_carryOneOut_68
  replace h := (if_neg c16).symm.trans h
  refine lv_tableOut (pc := 6) (tgt := 69) hx hb dX4_carryOneOut_6 (tbl_out (fun k h1 h2 => ?_)) (by decide) ?_
  · rcases (show k = 0 ∨ k = 1 ∨ k = 2 by omega) with rfl | rfl | rfl
    · exact lv_neT c3 (by decide)
    · exact lv_neT c9 (by decide)
    · exact lv_neT c16 (by decide)
  refine lv_aload_n (pc := 69) hx hb dX4_carryOneOut_69 rfl (lv_at hl 2 rfl) ?_
  obtain ⟨v25, M26, e24, h⟩ := ob2_out h
  refine c_vI (pc := 70) (rest := []) F S (tX6_clearTrips e24) mfX6_clearTrips (sX6_clearTrips e24) (by decide) cl6 w703 ⟨Nat.le_of_ble_eq_true rfl, Nat.le_of_ble_eq_true rfl⟩ rfl hl.1 rfl (Nat.le_of_ble_eq_true rfl) dX4_carryOneOut_70 (fun H locs S => ?_)
  refine lv_pop (pc := 73) hx hb dX4_carryOneOut_73 rfl ?_
  refine lv_iconst (pc := 74) (v := 1) hx hb dX4_carryOneOut_74 (by decide) ?_
  cases h
  exact r_iret (pc := 75) F S rfl dX4_carryOneOut_75
theorem mfX4_carryAllOut : MF true yX4_carryAllOut RX4 cX4_carryAllOut 3 (some .int) 1 := ⟨w679, w8, by rw [if_pos rfl]; exact ⟨w677, w678⟩, ⟨by decide, by decide⟩, by decide +kernel⟩
set_option maxHeartbeats 4000000 in
theorem pX4_carryAllOut_L2 {p : Program} {l : Launch} {e : Env} {s : State} {m : MethodId} {args : Array Value} {below : List Frame} {meth : Method} {c : Code} {Q : State → Prop} {G : GD} (F : FX p s m args meth c RX4 cX4_carryAllOut 3 (some .int) G) : ∀ (n : Nat) {M N : Mem} {a1 : Nat} {a2 : Int32} {H : Heap} {locs : List Loc} {ls : Array Slot} {z : (Mem) ⊕ (Int32 × Mem)}, ST G M N s H locs → lv_has ls 3 [(0, .ref (G.2.1 14)), (1, .ref (G.2.1 a1)), (2, .int a2)] → fX4_carryAllOut_L2 n M a1 a2 = some z → (K1 : ∀ (Mo : Mem), z = .inl Mo → ∀ (H : Heap) (locs : List Loc) (ls : Array Slot), ST G Mo N s H locs → lv_has ls 3 [(0, .ref (G.2.1 14))] → W p l e (Rm 5 111) s m args below meth c H locs 0 0 Q (F0 m 33 ls [])) → (K2 : ∀ (r : Int32) (Mr : Mem), z = .inr (r, Mr) → ∀ (H : Heap) (locs : List Loc) (ls : Array Slot) (pcr : Nat), ST G Mr N s H locs → decode cX4_carryAllOut pcr = .ok (.ireturn, 1) → W p l e (Rm 5 111) s m args below meth c H locs 0 0 Q (F0 m pcr ls [.int r])) → W p l e (Rm 5 111) s m args below meth c H locs 0 0 Q (F0 m 2 ls []) := by
  intro n
  induction n with
  | zero => intro M N a1 a2 H locs ls z S hl h K1 K2; cases h
  | succ n ih =>
    intro M N a1 a2 H locs ls z S hl h K1 K2
    rw [fX4_carryAllOut_L2] at h
    have hx := F.1
    have hb := F.2.1
    have hown := F.2.2.2.2.1
    have hts := F.2.2.2.2.2.1
    have hZ := F.2.2.2.2.2.2.2.2.2
    refine lv_iload_n (pc := 2) hx hb dX4_carryAllOut_2 rfl (lv_at hl 2 rfl) ?_
    refine lv_aload_n (pc := 3) hx hb dX4_carryAllOut_3 rfl (lv_at hl 0 rfl) ?_
    obtain ⟨v1, e2, h⟩ := ob_out h
    refine r_gI (pc := 4) (k := 3) F S e2 (by decide) cl4 inRX4 (by decide) w223 (fun _ => rfl) dX4_carryAllOut_4 ?_
    refine lv_icmp_ge (pc := 7) (tgt := 33) hx hb dX4_carryAllOut_7 (by decide) (fun c3 => ?_) (fun c3 => ?_)
    · replace h := (if_pos c3).symm.trans h
      cases h
      exact K1 _ rfl H locs ls S (lv_sub hl [0] rfl)
    · replace h := (if_neg c3).symm.trans h
      refine lv_iload_n (pc := 10) hx hb dX4_carryAllOut_10 rfl (lv_at hl 2 rfl) ?_
      refine lv_bipush (pc := 11) (v := 60) hx hb dX4_carryAllOut_11 (by decide) ?_
      refine lv_icmp_ge (pc := 13) (tgt := 33) hx hb dX4_carryAllOut_13 (by decide) (fun c4 => ?_) (fun c4 => ?_)
      · replace h := (if_pos c4).symm.trans h
        cases h
        exact K1 _ rfl H locs ls S (lv_sub hl [0] rfl)
      · replace h := (if_neg c4).symm.trans h
        refine lv_aload_n (pc := 16) hx hb dX4_carryAllOut_16 rfl (lv_at hl 0 rfl) ?_
        refine lv_iload_n (pc := 17) hx hb dX4_carryAllOut_17 rfl (lv_at hl 2 rfl) ?_
        refine lv_aload_n (pc := 18) hx hb dX4_carryAllOut_18 rfl (lv_at hl 1 rfl) ?_
        obtain ⟨v6, M7, e5, h⟩ := ob2_out h
        refine c_vI (pc := 19) (rest := []) F S (tX4_carryOneOut e5) mfX4_carryOneOut (by decide) (by decide) cl4 w680 ⟨Nat.le_of_ble_eq_true rfl, Nat.le_of_ble_eq_true rfl⟩ rfl hl.1 rfl (Nat.le_of_ble_eq_true rfl) dX4_carryAllOut_19 (fun H locs S => ?_)
        refine lv_if_ne (pc := 22) (tgt := 27) hx hb dX4_carryAllOut_22 (by decide) (fun c8 => ?_) (fun c8 => ?_)
        · replace h := (if_neg c8).symm.trans h
          refine lv_iinc (pc := 27) (lv' := [(2, .int (a2 + 1)), (0, .ref (G.2.1 14)), (1, .ref (G.2.1 a1))]) hx hb dX4_carryAllOut_27 hl (k := 2) rfl (iinc_n (by decide)) (by decide) rfl (fun ls hl => ?_)
          refine lv_goto (pc := 30) (tgt := 2) hx hb dX4_carryAllOut_30 (by decide) ?_
          exact ih S (lv_sub hl [1, 2, 0] rfl) h K1 K2
        · replace h := (if_pos c8).symm.trans h
          refine lv_iload_n (pc := 25) hx hb dX4_carryAllOut_25 rfl (lv_at hl 2 rfl) ?_
          cases h
          exact K2 _ _ rfl H locs ls 26 S dX4_carryAllOut_26
set_option maxHeartbeats 4000000 in
theorem tX4_carryAllOut {l : Launch} {G : GD} {M N Mo : Mem} {a1 : Nat} {r : Int32} (h : fX4_carryAllOut M a1 = some (r, Mo)) : MI l yX4_carryAllOut cX4_carryAllOut 3 .int 5 111 G [.ref (G.2.1 14), .ref (G.2.1 a1)] M N r Mo N := by
  unfold fX4_carryAllOut at h
  refine MI_of (own := RX4) (by decide) rfl (Nat.le_of_ble_eq_true rfl) ?_
  intro p e s m args below meth c F S ls hl
  have hx := F.1
  have hb := F.2.1
  have hown := F.2.2.2.2.1
  have hts := F.2.2.2.2.2.1
  have hZ := F.2.2.2.2.2.2.2.2.2
  have hl : lv_has ls 3 [(0, .ref (G.2.1 14)), (1, .ref (G.2.1 a1))] := hl
  generalize s.heap = H, ([] : List Loc) = locs at S ⊢
  refine lv_iconst (pc := 0) (v := 0) hx hb dX4_carryAllOut_0 (by decide) ?_
  refine lv_istore_n (pc := 1) (lv' := [(2, .int 0), (0, .ref (G.2.1 14)), (1, .ref (G.2.1 a1))]) hx hb dX4_carryAllOut_1 rfl hl (by decide) rfl (fun ls hl => ?_)
  obtain ⟨z3, e2, h⟩ := ob_out h
  refine pX4_carryAllOut_L2 F 5000 S (lv_sub hl [1, 2, 0] rfl) e2 (fun M1 e4 H locs ls S hl => ?_) (fun v5 M6 e4 H locs ls pcr S hdr => ?_)
  rotate_left
  · subst e4
    replace h := caseS_r h
    cases h
    exact r_iret F S rfl hdr
  subst e4
  replace h := caseS_l h
  refine lv_aload_n (pc := 33) hx hb dX4_carryAllOut_33 rfl (lv_at hl 0 rfl) ?_
  obtain ⟨v7, e8, h⟩ := ob_out h
  refine r_gI (pc := 34) (k := 3) F S e8 (by decide) cl4 inRX4 (by decide) w223 (fun _ => rfl) dX4_carryAllOut_34 ?_
  cases h
  exact r_iret (pc := 37) F S rfl dX4_carryAllOut_37
theorem mfX11_carryOut : MF true yX11_carryOut RX11 cX11_carryOut 3 (some .int) 1 := ⟨w631, w1, by rw [if_pos rfl]; exact ⟨w629, w630⟩, ⟨by decide, by decide⟩, by decide +kernel⟩
set_option maxHeartbeats 4000000 in
theorem tX11_carryOut {l : Launch} {G : GD} {M N Mo : Mem} {a1 : Int32} {r : Int32} (h : fX11_carryOut M a1 = some (r, Mo)) : MI l yX11_carryOut cX11_carryOut 3 .int 6 133 G [.ref (G.2.1 10), .int a1] M N r Mo N := by
  unfold fX11_carryOut at h
  refine MI_of (own := RX11) (by decide) rfl (Nat.le_of_ble_eq_true rfl) ?_
  intro p e s m args below meth c F S ls hl
  have hx := F.1
  have hb := F.2.1
  have hown := F.2.2.2.2.1
  have hts := F.2.2.2.2.2.1
  have hZ := F.2.2.2.2.2.2.2.2.2
  have hl : lv_has ls 3 [(0, .ref (G.2.1 10)), (1, .int a1)] := hl
  generalize s.heap = H, ([] : List Loc) = locs at S ⊢
  refine lv_aload_n (pc := 0) hx hb dX11_carryOut_0 rfl (lv_at hl 0 rfl) ?_
  refine r_gR (pc := 1) (k := 0) (x := 34) (i := 10) (ci := 11) F S (by decide) (by decide) cl11 inRX11 (by decide) w319 (fun _ => rfl) dX11_carryOut_1 ?_
  refine lv_iload_n (pc := 4) hx hb dX11_carryOut_4 rfl (lv_at hl 1 rfl) ?_
  obtain ⟨r2, e1, h⟩ := ob_out h
  refine c_vO (pc := 5) (rest := []) F S (tX7_find e1) mfX7_find (by decide) (by decide) cl7 w410 ⟨Nat.le_of_ble_eq_true rfl, Nat.le_of_ble_eq_true rfl⟩ rfl hl.1 rfl (Nat.le_of_ble_eq_true rfl) dX11_carryOut_5 (fun H locs S => ?_)
  cases r2 with
  | none =>
    replace h := caseO_n h
    refine W.eq (g2 := F0 m 8 ls (.null :: [])) rfl ?_
    refine lv_astore_nN (pc := 8) (lv' := [(2, .null), (0, .ref (G.2.1 10)), (1, .int a1)]) hx hb dX11_carryOut_8 rfl hl (by decide) rfl (fun ls hl => ?_)
    refine lv_aload_nN (pc := 9) hx hb dX11_carryOut_9 rfl (lv_at hl 0 rfl) ?_
    refine lv_ifnonnullN (pc := 10) hx hb dX11_carryOut_10 ?_
    refine lv_iconst (pc := 13) (v := (-1)) hx hb dX11_carryOut_13 (by decide) ?_
    cases h
    exact r_iret (pc := 14) F S rfl dX11_carryOut_14
  | some x3 =>
    replace h := caseO_s h
    refine W.eq (g2 := F0 m 8 ls (.ref (G.2.1 x3) :: [])) rfl ?_
    refine lv_astore_n (pc := 8) (lv' := [(2, .ref (G.2.1 x3)), (0, .ref (G.2.1 10)), (1, .int a1)]) hx hb dX11_carryOut_8 rfl hl (by decide) rfl (fun ls hl => ?_)
    refine lv_aload_n (pc := 9) hx hb dX11_carryOut_9 rfl (lv_at hl 0 rfl) ?_
    refine lv_ifnonnull (pc := 10) (tgt := 15) hx hb dX11_carryOut_10 (by decide) ?_
    refine lv_aload_n (pc := 15) hx hb dX11_carryOut_15 rfl (lv_at hl 1 rfl) ?_
    refine r_gR (pc := 16) (k := 4) (x := 14) (i := 10) (ci := 11) F S (by decide) (by decide) cl11 inRX11 (by decide) w323 (fun _ => rfl) dX11_carryOut_16 ?_
    obtain ⟨v5, M6, e4, h⟩ := ob2_out h
    refine c_vI (pc := 19) (rest := []) F S (tX4_read e4) mfX4_read (by decide) (by decide) cl4 w632 ⟨Nat.le_of_ble_eq_true rfl, Nat.le_of_ble_eq_true rfl⟩ rfl hl.1 rfl (Nat.le_of_ble_eq_true rfl) dX11_carryOut_19 (fun H locs S => ?_)
    refine lv_if_ne (pc := 22) (tgt := 28) hx hb dX11_carryOut_22 (by decide) (fun c7 => ?_) (fun c7 => ?_)
    · replace h := (if_neg c7).symm.trans h
      refine lv_aload_n (pc := 28) hx hb dX11_carryOut_28 rfl (lv_at hl 1 rfl) ?_
      refine r_gR (pc := 29) (k := 1) (x := 12) (i := 10) (ci := 11) F S (by decide) (by decide) cl11 inRX11 (by decide) w320 (fun _ => rfl) dX11_carryOut_29 ?_
      refine lv_aload_n (pc := 32) hx hb dX11_carryOut_32 rfl (lv_at hl 1 rfl) ?_
      refine r_gR (pc := 33) (k := 0) (x := 34) (i := 10) (ci := 11) F S (by decide) (by decide) cl11 inRX11 (by decide) w319 (fun _ => rfl) dX11_carryOut_33 ?_
      obtain ⟨M9, e8, h⟩ := ob_out h
      refine c_vV (pc := 36) (rest := []) F S (tX2_push e8) mfX2_push (by decide) (by decide) cl2 w358 ⟨Nat.le_of_ble_eq_true rfl, Nat.le_of_ble_eq_true rfl⟩ rfl hl.1 rfl (Nat.le_of_ble_eq_true rfl) dX11_carryOut_36 (fun H locs S => ?_)
      refine lv_aload_n (pc := 39) hx hb dX11_carryOut_39 rfl (lv_at hl 1 rfl) ?_
      refine r_gR (pc := 40) (k := 5) (x := 15) (i := 10) (ci := 11) F S (by decide) (by decide) cl11 inRX11 (by decide) w324 (fun _ => rfl) dX11_carryOut_40 ?_
      refine lv_iconst (pc := 43) (v := 0) hx hb dX11_carryOut_43 (by decide) ?_
      obtain ⟨M10, e11, h⟩ := ob_out h
      refine r_pI (pc := 44) (k := 1) (ty0 := tyX5) F S e11 (by decide) cl5 inRX5 tyX5_ok nmX5 (by decide) w212 rfl (by decide +kernel) (fun _ => Nat.le_of_ble_eq_true rfl) (fun _ => pf_5_1) dX11_carryOut_44 (fun H locs S => ?_)
      refine lv_aload_n (pc := 47) hx hb dX11_carryOut_47 rfl (lv_at hl 1 rfl) ?_
      refine r_gR (pc := 48) (k := 4) (x := 14) (i := 10) (ci := 11) F S (by decide) (by decide) cl11 inRX11 (by decide) w323 (fun _ => rfl) dX11_carryOut_48 ?_
      refine lv_aload_n (pc := 51) hx hb dX11_carryOut_51 rfl (lv_at hl 0 rfl) ?_
      obtain ⟨v13, M14, e12, h⟩ := ob2_out h
      refine c_vI (pc := 52) (rest := []) F S (tX4_carryAllOut e12) mfX4_carryAllOut (by decide) (by decide) cl4 w676 ⟨Nat.le_of_ble_eq_true rfl, Nat.le_of_ble_eq_true rfl⟩ rfl hl.1 rfl (Nat.le_of_ble_eq_true rfl) dX11_carryOut_52 (fun H locs S => ?_)
      cases h
      exact r_iret (pc := 55) F S rfl dX11_carryOut_55
    · replace h := (if_pos c7).symm.trans h
      refine lv_bipush (pc := 25) (v := (-3)) hx hb dX11_carryOut_25 (by decide) ?_
      cases h
      exact r_iret (pc := 27) F S rfl dX11_carryOut_27
theorem mfX11_lamp : MF true yX11_lamp RX11 cX11_lamp 5 (some .int) 3 := ⟨w707, w1, by rw [if_pos rfl]; exact ⟨w705, w706⟩, ⟨by decide, by decide⟩, by decide +kernel⟩
set_option maxHeartbeats 4000000 in
theorem tX11_lamp {l : Launch} {G : GD} {M N : Mem} {a1 : Int32} {a2 : Int32} {a3 : Int32} {r : Int32} (h : fX11_lamp M a1 a2 a3 = some r) : MI l yX11_lamp cX11_lamp 5 .int 3 66 G [.ref (G.2.1 10), .int a1, .int a2, .int a3] M N r M N := by
  unfold fX11_lamp at h
  refine MI_of (own := RX11) (by decide) rfl (Nat.le_of_ble_eq_true rfl) ?_
  intro p e s m args below meth c F S ls hl
  have hx := F.1
  have hb := F.2.1
  have hown := F.2.2.2.2.1
  have hts := F.2.2.2.2.2.1
  have hZ := F.2.2.2.2.2.2.2.2.2
  have hl : lv_has ls 5 [(0, .ref (G.2.1 10)), (1, .int a1), (2, .int a2), (3, .int a3)] := hl
  generalize s.heap = H, ([] : List Loc) = locs at S ⊢
  refine lv_aload_n (pc := 0) hx hb dX11_lamp_0 rfl (lv_at hl 0 rfl) ?_
  refine r_gR (pc := 1) (k := 0) (x := 34) (i := 10) (ci := 11) F S (by decide) (by decide) cl11 inRX11 (by decide) w319 (fun _ => rfl) dX11_lamp_1 ?_
  refine lv_iload_n (pc := 4) hx hb dX11_lamp_4 rfl (lv_at hl 1 rfl) ?_
  obtain ⟨r2, e1, h⟩ := ob_out h
  refine c_vO (pc := 5) (rest := []) F S (tX7_find e1) mfX7_find (by decide) (by decide) cl7 w410 ⟨Nat.le_of_ble_eq_true rfl, Nat.le_of_ble_eq_true rfl⟩ rfl hl.1 rfl (Nat.le_of_ble_eq_true rfl) dX11_lamp_5 (fun H locs S => ?_)
  cases r2 with
  | none =>
    replace h := caseO_n h
    refine W.eq (g2 := F0 m 8 ls (.null :: [])) rfl ?_
    refine lv_astoreN (pc := 8) (lv' := [(4, .null), (0, .ref (G.2.1 10)), (1, .int a1), (2, .int a2), (3, .int a3)]) hx hb dX11_lamp_8 hl (by decide) rfl (fun ls hl => ?_)
    refine lv_aloadN (pc := 10) hx hb dX11_lamp_10 (lv_at hl 0 rfl) ?_
    refine lv_ifnullN (pc := 12) (tgt := 24) hx hb dX11_lamp_12 (by decide) ?_
    refine lv_iconst (pc := 24) (v := (-1)) hx hb dX11_lamp_24 (by decide) ?_
    cases h
    exact r_iret (pc := 25) F S rfl dX11_lamp_25
  | some x3 =>
    replace h := caseO_s h
    refine W.eq (g2 := F0 m 8 ls (.ref (G.2.1 x3) :: [])) rfl ?_
    refine lv_astore (pc := 8) (lv' := [(4, .ref (G.2.1 x3)), (0, .ref (G.2.1 10)), (1, .int a1), (2, .int a2), (3, .int a3)]) hx hb dX11_lamp_8 hl (by decide) rfl (fun ls hl => ?_)
    refine lv_aload (pc := 10) hx hb dX11_lamp_10 (lv_at hl 0 rfl) ?_
    refine lv_ifnull (pc := 12) hx hb dX11_lamp_12 ?_
    refine lv_aload (pc := 15) hx hb dX11_lamp_15 (lv_at hl 0 rfl) ?_
    refine lv_iload_n (pc := 17) hx hb dX11_lamp_17 rfl (lv_at hl 3 rfl) ?_
    obtain ⟨v5, e4, h⟩ := ob_out h
    refine c_vI (pc := 18) (rest := []) F S (tX6_hasLamp e4) mfX6_hasLamp (sX6_hasLamp e4) (by decide) cl6 w445 ⟨Nat.le_of_ble_eq_true rfl, Nat.le_of_ble_eq_true rfl⟩ rfl hl.1 rfl (Nat.le_of_ble_eq_true rfl) dX11_lamp_18 (fun H locs S => ?_)
    refine lv_if_ne (pc := 21) (tgt := 26) hx hb dX11_lamp_21 (by decide) (fun c6 => ?_) (fun c6 => ?_)
    · replace h := (if_neg c6).symm.trans h
      refine lv_iload_n (pc := 26) hx hb dX11_lamp_26 rfl (lv_at hl 4 rfl) ?_
      rcases Classical.em (a3 = 0) with c7 | c7
      · replace h := (if_pos c7).symm.trans h
        refine lv_tableIn (pc := 27) (tgt := 60) hx hb dX11_lamp_27 (by rw [c7]; decide) (by rw [c7]; decide) (off := 33) (by rw [c7]; rfl) (by decide) ?_
        refine lv_aload (pc := 60) hx hb dX11_lamp_60 (lv_at hl 0 rfl) ?_
        obtain ⟨x8, e9, h⟩ := ob_out h
        refine r_gR (pc := 62) (k := 3) F S e9 (by decide) cl6 inRX6 (by decide) w113 (fun _ => rfl) dX11_lamp_62 ?_
        refine lv_iload_n (pc := 65) hx hb dX11_lamp_65 rfl (lv_at hl 3 rfl) ?_
        obtain ⟨v10, e11, h⟩ := ob_out h
        refine r_aL (pc := 66) F S e11 dX11_lamp_66 ?_
        cases h
        exact r_iret (pc := 67) F S rfl dX11_lamp_67
      replace h := (if_neg c7).symm.trans h
      rcases Classical.em (a3 = 1) with c12 | c12
      · replace h := (if_pos c12).symm.trans h
        refine lv_tableIn (pc := 27) (tgt := 68) hx hb dX11_lamp_27 (by rw [c12]; decide) (by rw [c12]; decide) (off := 41) (by rw [c12]; rfl) (by decide) ?_
        refine lv_aload (pc := 68) hx hb dX11_lamp_68 (lv_at hl 0 rfl) ?_
        obtain ⟨x13, e14, h⟩ := ob_out h
        refine r_gR (pc := 70) (k := 4) F S e14 (by decide) cl6 inRX6 (by decide) w115 (fun _ => rfl) dX11_lamp_70 ?_
        refine lv_iload_n (pc := 73) hx hb dX11_lamp_73 rfl (lv_at hl 3 rfl) ?_
        obtain ⟨v15, e16, h⟩ := ob_out h
        refine r_aL (pc := 74) F S e16 dX11_lamp_74 ?_
        cases h
        exact r_iret (pc := 75) F S rfl dX11_lamp_75
      replace h := (if_neg c12).symm.trans h
      rcases Classical.em (a3 = 2) with c17 | c17
      · replace h := (if_pos c17).symm.trans h
        refine lv_tableIn (pc := 27) (tgt := 76) hx hb dX11_lamp_27 (by rw [c17]; decide) (by rw [c17]; decide) (off := 49) (by rw [c17]; rfl) (by decide) ?_
        refine lv_aload (pc := 76) hx hb dX11_lamp_76 (lv_at hl 0 rfl) ?_
        obtain ⟨x18, e19, h⟩ := ob_out h
        refine r_gR (pc := 78) (k := 5) F S e19 (by decide) cl6 inRX6 (by decide) w117 (fun _ => rfl) dX11_lamp_78 ?_
        refine lv_iload_n (pc := 81) hx hb dX11_lamp_81 rfl (lv_at hl 3 rfl) ?_
        obtain ⟨v20, e21, h⟩ := ob_out h
        refine r_aL (pc := 82) F S e21 dX11_lamp_82 ?_
        cases h
        exact r_iret (pc := 83) F S rfl dX11_lamp_83
      replace h := (if_neg c17).symm.trans h
      rcases Classical.em (a3 = 3) with c22 | c22
      · replace h := (if_pos c22).symm.trans h
        refine lv_tableIn (pc := 27) (tgt := 84) hx hb dX11_lamp_27 (by rw [c22]; decide) (by rw [c22]; decide) (off := 57) (by rw [c22]; rfl) (by decide) ?_
        refine lv_aload (pc := 84) hx hb dX11_lamp_84 (lv_at hl 0 rfl) ?_
        obtain ⟨x23, e24, h⟩ := ob_out h
        refine r_gR (pc := 86) (k := 6) F S e24 (by decide) cl6 inRX6 (by decide) w120 (fun _ => rfl) dX11_lamp_86 ?_
        refine lv_iload_n (pc := 89) hx hb dX11_lamp_89 rfl (lv_at hl 3 rfl) ?_
        obtain ⟨v25, e26, h⟩ := ob_out h
        refine r_aL (pc := 90) F S e26 dX11_lamp_90 ?_
        cases h
        exact r_iret (pc := 91) F S rfl dX11_lamp_91
      replace h := (if_neg c22).symm.trans h
      rcases Classical.em (a3 = 4) with c27 | c27
      · replace h := (if_pos c27).symm.trans h
        refine lv_tableIn (pc := 27) (tgt := 92) hx hb dX11_lamp_27 (by rw [c27]; decide) (by rw [c27]; decide) (off := 65) (by rw [c27]; rfl) (by decide) ?_
        refine lv_aload (pc := 92) hx hb dX11_lamp_92 (lv_at hl 0 rfl) ?_
        refine lv_iload_n (pc := 94) hx hb dX11_lamp_94 rfl (lv_at hl 3 rfl) ?_
        refine lv_aload_n (pc := 95) hx hb dX11_lamp_95 rfl (lv_at hl 1 rfl) ?_
        refine r_gR (pc := 96) (k := 0) (x := 34) (i := 10) (ci := 11) F S (by decide) (by decide) cl11 inRX11 (by decide) w319 (fun _ => rfl) dX11_lamp_96 ?_
        refine r_gR (pc := 99) (k := 1) (x := 36) (i := 34) (ci := 7) F S (by decide) (by decide) cl7 inRX7 (by decide) w168 (fun _ => rfl) dX11_lamp_99 ?_
        obtain ⟨v29, e28, h⟩ := ob_out h
        refine c_vI (pc := 102) (rest := []) F S (tX6_loadOfLamp e28) mfX6_loadOfLamp (sX6_loadOfLamp e28) (by decide) cl6 w708 ⟨Nat.le_of_ble_eq_true rfl, Nat.le_of_ble_eq_true rfl⟩ rfl hl.1 rfl (Nat.le_of_ble_eq_true rfl) dX11_lamp_102 (fun H locs S => ?_)
        cases h
        exact r_iret (pc := 105) F S rfl dX11_lamp_105
      replace h := (if_neg c27).symm.trans h
      refine lv_tableOut (pc := 27) (tgt := 106) hx hb dX11_lamp_27 (tbl_out (fun k h1 h2 => ?_)) (by decide) ?_
      · rcases (show k = 0 ∨ k = 1 ∨ k = 2 ∨ k = 3 ∨ k = 4 by omega) with rfl | rfl | rfl | rfl | rfl
        · exact lv_neT c7 (by decide)
        · exact lv_neT c12 (by decide)
        · exact lv_neT c17 (by decide)
        · exact lv_neT c22 (by decide)
        · exact lv_neT c27 (by decide)
      refine lv_bipush (pc := 106) (v := (-2)) hx hb dX11_lamp_106 (by decide) ?_
      cases h
      exact r_iret (pc := 108) F S rfl dX11_lamp_108
    · replace h := (if_pos c6).symm.trans h
      refine lv_iconst (pc := 24) (v := (-1)) hx hb dX11_lamp_24 (by decide) ?_
      cases h
      exact r_iret (pc := 25) F S rfl dX11_lamp_25
theorem sX6_lampsOn {M : Mem} {a0 : Nat} {a1 : Int32} {r : (Int32)} (h : fX6_lampsOn M a0 a1 = some r) : shp a0 = 6 := by
  unfold fX6_lampsOn at h
  exact (ck_out h).1
theorem mfX6_lampsOn : MF true yX6_lampsOn RX6 cX6_lampsOn 4 (some .int) 1 := ⟨w718, w4, by rw [if_pos rfl]; exact ⟨w716, w717⟩, ⟨by decide, by decide⟩, by decide +kernel⟩
set_option maxHeartbeats 4000000 in
theorem pX6_lampsOn_L4 {p : Program} {l : Launch} {e : Env} {s : State} {m : MethodId} {args : Array Value} {below : List Frame} {meth : Method} {c : Code} {Q : State → Prop} {G : GD} (F : FX p s m args meth c RX6 cX6_lampsOn 4 (some .int) G) : ∀ (n : Nat) {M N : Mem} {a0 : Nat} {a1 : Int32} {a2 : Int32} {a3 : Int32} {H : Heap} {locs : List Loc} {ls : Array Slot} {o2 : Int32}, shp a0 = 6 → ST G M N s H locs → lv_has ls 4 [(0, .ref (G.2.1 a0)), (1, .int a1), (2, .int a2), (3, .int a3)] → fX6_lampsOn_L4 n M a0 a1 a2 a3 = some o2 → (K1 : ∀ (H : Heap) (locs : List Loc) (ls : Array Slot), ST G M N s H locs → lv_has ls 4 [(2, .int o2)] → W p l e (Rm 1 21) s m args below meth c H locs 0 0 Q (F0 m 37 ls [])) → W p l e (Rm 1 21) s m args below meth c H locs 0 0 Q (F0 m 4 ls []) := by
  intro n
  induction n with
  | zero => intro M N a0 a1 a2 a3 H locs ls o2 hsh S hl h K1; cases h
  | succ n ih =>
    intro M N a0 a1 a2 a3 H locs ls o2 hsh S hl h K1
    rw [fX6_lampsOn_L4] at h
    have hx := F.1
    have hb := F.2.1
    have hown := F.2.2.2.2.1
    have hts := F.2.2.2.2.2.1
    have hZ := F.2.2.2.2.2.2.2.2.2
    refine lv_iload_n (pc := 4) hx hb dX6_lampsOn_4 rfl (lv_at hl 3 rfl) ?_
    refine lv_bipush (pc := 5) (v := 12) hx hb dX6_lampsOn_5 (by decide) ?_
    refine lv_icmp_ge (pc := 7) (tgt := 37) hx hb dX6_lampsOn_7 (by decide) (fun c1 => ?_) (fun c1 => ?_)
    · replace h := (if_pos c1).symm.trans h
      cases h
      exact K1 H locs ls S (lv_sub hl [2] rfl)
    · replace h := (if_neg c1).symm.trans h
      refine lv_aload_n (pc := 10) hx hb dX6_lampsOn_10 rfl (lv_at hl 0 rfl) ?_
      refine lv_iload_n (pc := 11) hx hb dX6_lampsOn_11 rfl (lv_at hl 3 rfl) ?_
      obtain ⟨v3, e2, h⟩ := ob_out h
      refine c_vI (pc := 12) (rest := []) F S (tX6_hasLamp e2) mfX6_hasLamp (sX6_hasLamp e2) (by decide) cl6 w453 ⟨Nat.le_of_ble_eq_true rfl, Nat.le_of_ble_eq_true rfl⟩ rfl hl.1 rfl (Nat.le_of_ble_eq_true rfl) dX6_lampsOn_12 (fun H locs S => ?_)
      refine lv_if_eq (pc := 15) (tgt := 37) hx hb dX6_lampsOn_15 (by decide) (fun c4 => ?_) (fun c4 => ?_)
      · replace h := (if_pos c4).symm.trans h
        cases h
        exact K1 H locs ls S (lv_sub hl [2] rfl)
      · replace h := (if_neg c4).symm.trans h
        refine lv_aload_n (pc := 18) hx hb dX6_lampsOn_18 rfl (lv_at hl 0 rfl) ?_
        obtain ⟨x5, e6, h⟩ := ob_out h
        refine r_gR (pc := 19) (k := 4) F S e6 (by decide) cl6 inRX6 (by decide) w114 (fun _ => rfl) dX6_lampsOn_19 ?_
        refine lv_iload_n (pc := 22) hx hb dX6_lampsOn_22 rfl (lv_at hl 3 rfl) ?_
        obtain ⟨v7, e8, h⟩ := ob_out h
        refine r_aL (pc := 23) F S e8 dX6_lampsOn_23 ?_
        refine lv_iload_n (pc := 24) hx hb dX6_lampsOn_24 rfl (lv_at hl 1 rfl) ?_
        refine lv_icmp_ne (pc := 25) (tgt := 31) hx hb dX6_lampsOn_25 (by decide) (fun c9 => ?_) (fun c9 => ?_)
        · replace h := (if_neg c9).symm.trans h
          refine lv_iinc (pc := 31) (lv' := [(3, .int (a3 + 1)), (0, .ref (G.2.1 a0)), (1, .int a1), (2, .int a2)]) hx hb dX6_lampsOn_31 hl (k := 3) rfl (iinc_n (by decide)) (by decide) rfl (fun ls hl => ?_)
          refine lv_goto (pc := 34) (tgt := 4) hx hb dX6_lampsOn_34 (by decide) ?_
          exact ih hsh S (lv_sub hl [1, 2, 3, 0] rfl) h K1
        · replace h := (if_pos c9).symm.trans h
          refine lv_iinc (pc := 28) (lv' := [(2, .int (a2 + 1)), (0, .ref (G.2.1 a0)), (1, .int a1), (3, .int a3)]) hx hb dX6_lampsOn_28 hl (k := 2) rfl (iinc_n (by decide)) (by decide) rfl (fun ls hl => ?_)
          refine lv_iinc (pc := 31) (lv' := [(3, .int (a3 + 1)), (2, .int (a2 + 1)), (0, .ref (G.2.1 a0)), (1, .int a1)]) hx hb dX6_lampsOn_31 hl (k := 3) rfl (iinc_n (by decide)) (by decide) rfl (fun ls hl => ?_)
          refine lv_goto (pc := 34) (tgt := 4) hx hb dX6_lampsOn_34 (by decide) ?_
          exact ih hsh S (lv_sub hl [2, 3, 1, 0] rfl) h K1
set_option maxHeartbeats 4000000 in
theorem tX6_lampsOn {l : Launch} {G : GD} {M N : Mem} {a0 : Nat} {a1 : Int32} {r : Int32} (h : fX6_lampsOn M a0 a1 = some r) : MI l yX6_lampsOn cX6_lampsOn 4 .int 1 21 G [.ref (G.2.1 a0), .int a1] M N r M N := by
  unfold fX6_lampsOn at h
  obtain ⟨hsh, h⟩ := ck_out h
  refine MI_of (own := RX6) (by decide) rfl (Nat.le_of_ble_eq_true rfl) ?_
  intro p e s m args below meth c F S ls hl
  have hx := F.1
  have hb := F.2.1
  have hown := F.2.2.2.2.1
  have hts := F.2.2.2.2.2.1
  have hZ := F.2.2.2.2.2.2.2.2.2
  have hl : lv_has ls 4 [(0, .ref (G.2.1 a0)), (1, .int a1)] := hl
  generalize s.heap = H, ([] : List Loc) = locs at S ⊢
  refine lv_iconst (pc := 0) (v := 0) hx hb dX6_lampsOn_0 (by decide) ?_
  refine lv_istore_n (pc := 1) (lv' := [(2, .int 0), (0, .ref (G.2.1 a0)), (1, .int a1)]) hx hb dX6_lampsOn_1 rfl hl (by decide) rfl (fun ls hl => ?_)
  refine lv_iconst (pc := 2) (v := 0) hx hb dX6_lampsOn_2 (by decide) ?_
  refine lv_istore_n (pc := 3) (lv' := [(3, .int 0), (2, .int 0), (0, .ref (G.2.1 a0)), (1, .int a1)]) hx hb dX6_lampsOn_3 rfl hl (by decide) rfl (fun ls hl => ?_)
  obtain ⟨v1, e2, h⟩ := ob_out h
  refine pX6_lampsOn_L4 F 5000 hsh S (lv_sub hl [2, 3, 1, 0] rfl) e2 (fun H locs ls S hl => ?_)
  refine lv_iload_n (pc := 37) hx hb dX6_lampsOn_37 rfl (lv_at hl 0 rfl) ?_
  cases h
  exact r_iret (pc := 38) F S rfl dX6_lampsOn_38
theorem mfX11_dimmer : MF true yX11_dimmer RX11 cX11_dimmer 5 (some .int) 3 := ⟨w712, w1, by rw [if_pos rfl]; exact ⟨w710, w711⟩, ⟨by decide, by decide⟩, by decide +kernel⟩
set_option maxHeartbeats 4000000 in
theorem tX11_dimmer {l : Launch} {G : GD} {M N Mo : Mem} {a1 : Int32} {a2 : Int32} {a3 : Int32} {r : Int32} (h : fX11_dimmer M a1 a2 a3 = some (r, Mo)) : MI l yX11_dimmer cX11_dimmer 5 .int 5 114 G [.ref (G.2.1 10), .int a1, .int a2, .int a3] M N r Mo N := by
  unfold fX11_dimmer at h
  refine MI_of (own := RX11) (by decide) rfl (Nat.le_of_ble_eq_true rfl) ?_
  intro p e s m args below meth c F S ls hl
  have hx := F.1
  have hb := F.2.1
  have hown := F.2.2.2.2.1
  have hts := F.2.2.2.2.2.1
  have hZ := F.2.2.2.2.2.2.2.2.2
  have hl : lv_has ls 5 [(0, .ref (G.2.1 10)), (1, .int a1), (2, .int a2), (3, .int a3)] := hl
  generalize s.heap = H, ([] : List Loc) = locs at S ⊢
  refine lv_aload_n (pc := 0) hx hb dX11_dimmer_0 rfl (lv_at hl 0 rfl) ?_
  refine r_gR (pc := 1) (k := 0) (x := 34) (i := 10) (ci := 11) F S (by decide) (by decide) cl11 inRX11 (by decide) w319 (fun _ => rfl) dX11_dimmer_1 ?_
  refine lv_iload_n (pc := 4) hx hb dX11_dimmer_4 rfl (lv_at hl 1 rfl) ?_
  obtain ⟨r2, e1, h⟩ := ob_out h
  refine c_vO (pc := 5) (rest := []) F S (tX7_find e1) mfX7_find (by decide) (by decide) cl7 w410 ⟨Nat.le_of_ble_eq_true rfl, Nat.le_of_ble_eq_true rfl⟩ rfl hl.1 rfl (Nat.le_of_ble_eq_true rfl) dX11_dimmer_5 (fun H locs S => ?_)
  cases r2 with
  | none =>
    replace h := caseO_n h
    refine W.eq (g2 := F0 m 8 ls (.null :: [])) rfl ?_
    refine lv_astoreN (pc := 8) (lv' := [(4, .null), (0, .ref (G.2.1 10)), (1, .int a1), (2, .int a2), (3, .int a3)]) hx hb dX11_dimmer_8 hl (by decide) rfl (fun ls hl => ?_)
    refine lv_aloadN (pc := 10) hx hb dX11_dimmer_10 (lv_at hl 0 rfl) ?_
    refine lv_ifnullN (pc := 12) (tgt := 22) hx hb dX11_dimmer_12 (by decide) ?_
    refine lv_iconst (pc := 22) (v := (-1)) hx hb dX11_dimmer_22 (by decide) ?_
    cases h
    exact r_iret (pc := 23) F S rfl dX11_dimmer_23
  | some x3 =>
    replace h := caseO_s h
    refine W.eq (g2 := F0 m 8 ls (.ref (G.2.1 x3) :: [])) rfl ?_
    refine lv_astore (pc := 8) (lv' := [(4, .ref (G.2.1 x3)), (0, .ref (G.2.1 10)), (1, .int a1), (2, .int a2), (3, .int a3)]) hx hb dX11_dimmer_8 hl (by decide) rfl (fun ls hl => ?_)
    refine lv_aload (pc := 10) hx hb dX11_dimmer_10 (lv_at hl 0 rfl) ?_
    refine lv_ifnull (pc := 12) hx hb dX11_dimmer_12 ?_
    refine lv_iload_n (pc := 15) hx hb dX11_dimmer_15 rfl (lv_at hl 3 rfl) ?_
    obtain ⟨v5, e4, h⟩ := ob_out h
    refine c_sI (pc := 16) (rest := []) F S (tX11_isDimmer e4) mfX11_isDimmer w429 ⟨Nat.le_of_ble_eq_true rfl, Nat.le_of_ble_eq_true rfl⟩ rfl hl.1 rfl (Nat.le_of_ble_eq_true rfl) dX11_dimmer_16 (fun H locs S => ?_)
    refine lv_if_ne (pc := 19) (tgt := 24) hx hb dX11_dimmer_19 (by decide) (fun c6 => ?_) (fun c6 => ?_)
    · replace h := (if_neg c6).symm.trans h
      refine lv_iload_n (pc := 24) hx hb dX11_dimmer_24 rfl (lv_at hl 4 rfl) ?_
      rcases Classical.em (a3 = 0) with c7 | c7
      · replace h := (if_pos c7).symm.trans h
        refine lv_tableIn (pc := 25) (tgt := 64) hx hb dX11_dimmer_25 (by rw [c7]; decide) (by rw [c7]; decide) (off := 39) (by rw [c7]; rfl) (by decide) ?_
        refine lv_aload (pc := 64) hx hb dX11_dimmer_64 (lv_at hl 0 rfl) ?_
        obtain ⟨x8, e9, h⟩ := ob_out h
        refine r_gR (pc := 66) (k := 7) F S e9 (by decide) cl6 inRX6 (by decide) w122 (fun _ => rfl) dX11_dimmer_66 ?_
        refine lv_iload_n (pc := 69) hx hb dX11_dimmer_69 rfl (lv_at hl 3 rfl) ?_
        obtain ⟨v10, e11, h⟩ := ob_out h
        refine r_aL (pc := 70) F S e11 dX11_dimmer_70 ?_
        cases h
        exact r_iret (pc := 71) F S rfl dX11_dimmer_71
      replace h := (if_neg c7).symm.trans h
      rcases Classical.em (a3 = 1) with c12 | c12
      · replace h := (if_pos c12).symm.trans h
        refine lv_tableIn (pc := 25) (tgt := 72) hx hb dX11_dimmer_25 (by rw [c12]; decide) (by rw [c12]; decide) (off := 47) (by rw [c12]; rfl) (by decide) ?_
        refine lv_aload_n (pc := 72) hx hb dX11_dimmer_72 rfl (lv_at hl 1 rfl) ?_
        refine r_gR (pc := 73) (k := 6) (x := 23) (i := 10) (ci := 11) F S (by decide) (by decide) cl11 inRX11 (by decide) w325 (fun _ => rfl) dX11_dimmer_73 ?_
        refine lv_aload (pc := 76) hx hb dX11_dimmer_76 (lv_at hl 0 rfl) ?_
        refine lv_aload_n (pc := 78) hx hb dX11_dimmer_78 rfl (lv_at hl 1 rfl) ?_
        refine r_gR (pc := 79) (k := 0) (x := 34) (i := 10) (ci := 11) F S (by decide) (by decide) cl11 inRX11 (by decide) w319 (fun _ => rfl) dX11_dimmer_79 ?_
        refine r_gR (pc := 82) (k := 1) (x := 36) (i := 34) (ci := 7) F S (by decide) (by decide) cl7 inRX7 (by decide) w168 (fun _ => rfl) dX11_dimmer_82 ?_
        obtain ⟨M14, e13, h⟩ := ob_out h
        refine c_vV (pc := 85) (rest := []) F S (tX3_measureNow e13) mfX3_measureNow (by decide) (by decide) cl3 w713 ⟨Nat.le_of_ble_eq_true rfl, Nat.le_of_ble_eq_true rfl⟩ rfl hl.1 rfl (Nat.le_of_ble_eq_true rfl) dX11_dimmer_85 (fun H locs S => ?_)
        refine lv_aload_n (pc := 88) hx hb dX11_dimmer_88 rfl (lv_at hl 1 rfl) ?_
        refine r_gR (pc := 89) (k := 6) (x := 23) (i := 10) (ci := 11) F S (by decide) (by decide) cl11 inRX11 (by decide) w325 (fun _ => rfl) dX11_dimmer_89 ?_
        refine r_gR (pc := 92) (k := 0) (x := 24) (i := 23) (ci := 3) F S (by decide) (by decide) cl3 inRX3 (by decide) w263 (fun _ => rfl) dX11_dimmer_92 ?_
        refine lv_iload_n (pc := 95) hx hb dX11_dimmer_95 rfl (lv_at hl 3 rfl) ?_
        obtain ⟨v15, e16, h⟩ := ob_out h
        refine r_aL (pc := 96) F S e16 dX11_dimmer_96 ?_
        cases h
        exact r_iret (pc := 97) F S rfl dX11_dimmer_97
      replace h := (if_neg c12).symm.trans h
      rcases Classical.em (a3 = 2) with c17 | c17
      · replace h := (if_pos c17).symm.trans h
        refine lv_tableIn (pc := 25) (tgt := 98) hx hb dX11_dimmer_25 (by rw [c17]; decide) (by rw [c17]; decide) (off := 73) (by rw [c17]; rfl) (by decide) ?_
        refine lv_aload (pc := 98) hx hb dX11_dimmer_98 (lv_at hl 0 rfl) ?_
        obtain ⟨x18, e19, h⟩ := ob_out h
        refine r_gR (pc := 100) (k := 11) F S e19 (by decide) cl6 inRX6 (by decide) w133 (fun _ => rfl) dX11_dimmer_100 ?_
        refine lv_iload_n (pc := 103) hx hb dX11_dimmer_103 rfl (lv_at hl 3 rfl) ?_
        obtain ⟨v21, e20, h⟩ := ob_out h
        refine c_vI (pc := 104) (rest := []) F S (tX0_hasTripped e20) mfX0_hasTripped (sX0_hasTripped e20) (by decide) cl0 w714 ⟨Nat.le_of_ble_eq_true rfl, Nat.le_of_ble_eq_true rfl⟩ rfl hl.1 rfl (Nat.le_of_ble_eq_true rfl) dX11_dimmer_104 (fun H locs S => ?_)
        refine lv_if_eq (pc := 107) (tgt := 114) hx hb dX11_dimmer_107 (by decide) (fun c22 => ?_) (fun c22 => ?_)
        · replace h := (if_pos c22).symm.trans h
          refine lv_iconst (pc := 114) (v := 0) hx hb dX11_dimmer_114 (by decide) ?_
          cases h
          exact r_iret (pc := 115) F S rfl dX11_dimmer_115
        · replace h := (if_neg c22).symm.trans h
          refine lv_iconst (pc := 110) (v := 1) hx hb dX11_dimmer_110 (by decide) ?_
          refine lv_goto (pc := 111) (tgt := 115) hx hb dX11_dimmer_111 (by decide) ?_
          cases h
          exact r_iret (pc := 115) F S rfl dX11_dimmer_115
      replace h := (if_neg c17).symm.trans h
      rcases Classical.em (a3 = 3) with c23 | c23
      · replace h := (if_pos c23).symm.trans h
        refine lv_tableIn (pc := 25) (tgt := 116) hx hb dX11_dimmer_25 (by rw [c23]; decide) (by rw [c23]; decide) (off := 91) (by rw [c23]; rfl) (by decide) ?_
        refine lv_aload (pc := 116) hx hb dX11_dimmer_116 (lv_at hl 0 rfl) ?_
        obtain ⟨x24, e25, h⟩ := ob_out h
        refine r_gR (pc := 118) (k := 11) F S e25 (by decide) cl6 inRX6 (by decide) w133 (fun _ => rfl) dX11_dimmer_118 ?_
        obtain ⟨x26, e27, h⟩ := ob_out h
        refine r_gR (pc := 121) (k := 0) F S e27 (by decide) cl0 inRX0 (by decide) w96 (fun _ => rfl) dX11_dimmer_121 ?_
        refine lv_iload_n (pc := 124) hx hb dX11_dimmer_124 rfl (lv_at hl 3 rfl) ?_
        obtain ⟨v28, e29, h⟩ := ob_out h
        refine r_aL (pc := 125) F S e29 dX11_dimmer_125 ?_
        cases h
        exact r_iret (pc := 126) F S rfl dX11_dimmer_126
      replace h := (if_neg c23).symm.trans h
      rcases Classical.em (a3 = 4) with c30 | c30
      · replace h := (if_pos c30).symm.trans h
        refine lv_tableIn (pc := 25) (tgt := 127) hx hb dX11_dimmer_25 (by rw [c30]; decide) (by rw [c30]; decide) (off := 102) (by rw [c30]; rfl) (by decide) ?_
        refine lv_aload (pc := 127) hx hb dX11_dimmer_127 (lv_at hl 0 rfl) ?_
        refine lv_iload_n (pc := 129) hx hb dX11_dimmer_129 rfl (lv_at hl 3 rfl) ?_
        obtain ⟨v32, e31, h⟩ := ob_out h
        refine c_vI (pc := 130) (rest := []) F S (tX6_lampsOn e31) mfX6_lampsOn (sX6_lampsOn e31) (by decide) cl6 w715 ⟨Nat.le_of_ble_eq_true rfl, Nat.le_of_ble_eq_true rfl⟩ rfl hl.1 rfl (Nat.le_of_ble_eq_true rfl) dX11_dimmer_130 (fun H locs S => ?_)
        cases h
        exact r_iret (pc := 133) F S rfl dX11_dimmer_133
      replace h := (if_neg c30).symm.trans h
      rcases Classical.em (a3 = 5) with c33 | c33
      · replace h := (if_pos c33).symm.trans h
        refine lv_tableIn (pc := 25) (tgt := 134) hx hb dX11_dimmer_25 (by rw [c33]; decide) (by rw [c33]; decide) (off := 109) (by rw [c33]; rfl) (by decide) ?_
        refine lv_aload_n (pc := 134) hx hb dX11_dimmer_134 rfl (lv_at hl 1 rfl) ?_
        refine r_gR (pc := 135) (k := 7) (x := 26) (i := 10) (ci := 11) F S (by decide) (by decide) cl11 inRX11 (by decide) w326 (fun _ => rfl) dX11_dimmer_135 ?_
        refine lv_aload (pc := 138) hx hb dX11_dimmer_138 (lv_at hl 0 rfl) ?_
        refine lv_aload_n (pc := 140) hx hb dX11_dimmer_140 rfl (lv_at hl 1 rfl) ?_
        refine r_gR (pc := 141) (k := 0) (x := 34) (i := 10) (ci := 11) F S (by decide) (by decide) cl11 inRX11 (by decide) w319 (fun _ => rfl) dX11_dimmer_141 ?_
        refine r_gR (pc := 144) (k := 1) (x := 36) (i := 34) (ci := 7) F S (by decide) (by decide) cl7 inRX7 (by decide) w168 (fun _ => rfl) dX11_dimmer_144 ?_
        obtain ⟨M35, e34, h⟩ := ob_out h
        refine c_vV (pc := 147) (rest := []) F S (tX10_measure e34) mfX10_measure (by decide) (by decide) cl10 w480 ⟨Nat.le_of_ble_eq_true rfl, Nat.le_of_ble_eq_true rfl⟩ rfl hl.1 rfl (Nat.le_of_ble_eq_true rfl) dX11_dimmer_147 (fun H locs S => ?_)
        refine lv_aload_n (pc := 150) hx hb dX11_dimmer_150 rfl (lv_at hl 1 rfl) ?_
        refine r_gR (pc := 151) (k := 7) (x := 26) (i := 10) (ci := 11) F S (by decide) (by decide) cl11 inRX11 (by decide) w326 (fun _ => rfl) dX11_dimmer_151 ?_
        refine r_gR (pc := 154) (k := 0) (x := 27) (i := 26) (ci := 10) F S (by decide) (by decide) cl10 inRX10 (by decide) w284 (fun _ => rfl) dX11_dimmer_154 ?_
        refine r_gR (pc := 157) (k := 0) (x := 28) (i := 27) (ci := 3) F S (by decide) (by decide) cl3 inRX3 (by decide) w263 (fun _ => rfl) dX11_dimmer_157 ?_
        refine lv_iload_n (pc := 160) hx hb dX11_dimmer_160 rfl (lv_at hl 3 rfl) ?_
        obtain ⟨v36, e37, h⟩ := ob_out h
        refine r_aL (pc := 161) F S e37 dX11_dimmer_161 ?_
        cases h
        exact r_iret (pc := 162) F S rfl dX11_dimmer_162
      replace h := (if_neg c33).symm.trans h
      refine lv_tableOut (pc := 25) (tgt := 163) hx hb dX11_dimmer_25 (tbl_out (fun k h1 h2 => ?_)) (by decide) ?_
      · rcases (show k = 0 ∨ k = 1 ∨ k = 2 ∨ k = 3 ∨ k = 4 ∨ k = 5 by omega) with rfl | rfl | rfl | rfl | rfl | rfl
        · exact lv_neT c7 (by decide)
        · exact lv_neT c12 (by decide)
        · exact lv_neT c17 (by decide)
        · exact lv_neT c23 (by decide)
        · exact lv_neT c30 (by decide)
        · exact lv_neT c33 (by decide)
      refine lv_bipush (pc := 163) (v := (-2)) hx hb dX11_dimmer_163 (by decide) ?_
      cases h
      exact r_iret (pc := 165) F S rfl dX11_dimmer_165
    · replace h := (if_pos c6).symm.trans h
      refine lv_iconst (pc := 22) (v := (-1)) hx hb dX11_dimmer_22 (by decide) ?_
      cases h
      exact r_iret (pc := 23) F S rfl dX11_dimmer_23
theorem sX6_dimmersOn {M : Mem} {a0 : Nat} {a1 : Int32} {r : (Int32)} (h : fX6_dimmersOn M a0 a1 = some r) : shp a0 = 6 := by
  unfold fX6_dimmersOn at h
  exact (ck_out h).1
theorem mfX6_dimmersOn : MF true yX6_dimmersOn RX6 cX6_dimmersOn 4 (some .int) 1 := ⟨w726, w4, by rw [if_pos rfl]; exact ⟨w724, w725⟩, ⟨by decide, by decide⟩, by decide +kernel⟩
set_option maxHeartbeats 4000000 in
theorem pX6_dimmersOn_L4 {p : Program} {l : Launch} {e : Env} {s : State} {m : MethodId} {args : Array Value} {below : List Frame} {meth : Method} {c : Code} {Q : State → Prop} {G : GD} (F : FX p s m args meth c RX6 cX6_dimmersOn 4 (some .int) G) : ∀ (n : Nat) {M N : Mem} {a0 : Nat} {a1 : Int32} {a2 : Int32} {a3 : Int32} {H : Heap} {locs : List Loc} {ls : Array Slot} {o2 : Int32}, shp a0 = 6 → ST G M N s H locs → lv_has ls 4 [(0, .ref (G.2.1 a0)), (1, .int a1), (2, .int a2), (3, .int a3)] → fX6_dimmersOn_L4 n M a0 a1 a2 a3 = some o2 → (K1 : ∀ (H : Heap) (locs : List Loc) (ls : Array Slot), ST G M N s H locs → lv_has ls 4 [(2, .int o2)] → W p l e (Rm 0 0) s m args below meth c H locs 0 0 Q (F0 m 32 ls [])) → W p l e (Rm 0 0) s m args below meth c H locs 0 0 Q (F0 m 4 ls []) := by
  intro n
  induction n with
  | zero => intro M N a0 a1 a2 a3 H locs ls o2 hsh S hl h K1; cases h
  | succ n ih =>
    intro M N a0 a1 a2 a3 H locs ls o2 hsh S hl h K1
    rw [fX6_dimmersOn_L4] at h
    have hx := F.1
    have hb := F.2.1
    have hown := F.2.2.2.2.1
    have hts := F.2.2.2.2.2.1
    have hZ := F.2.2.2.2.2.2.2.2.2
    refine lv_iload_n (pc := 4) hx hb dX6_dimmersOn_4 rfl (lv_at hl 3 rfl) ?_
    refine lv_bipush (pc := 5) (v := 12) hx hb dX6_dimmersOn_5 (by decide) ?_
    refine lv_icmp_ge (pc := 7) (tgt := 32) hx hb dX6_dimmersOn_7 (by decide) (fun c1 => ?_) (fun c1 => ?_)
    · replace h := (if_pos c1).symm.trans h
      cases h
      exact K1 H locs ls S (lv_sub hl [2] rfl)
    · replace h := (if_neg c1).symm.trans h
      refine lv_aload_n (pc := 10) hx hb dX6_dimmersOn_10 rfl (lv_at hl 0 rfl) ?_
      obtain ⟨x2, e3, h⟩ := ob_out h
      refine r_gR (pc := 11) (k := 7) F S e3 (by decide) cl6 inRX6 (by decide) w121 (fun _ => rfl) dX6_dimmersOn_11 ?_
      refine lv_iload_n (pc := 14) hx hb dX6_dimmersOn_14 rfl (lv_at hl 3 rfl) ?_
      obtain ⟨v4, e5, h⟩ := ob_out h
      refine r_aL (pc := 15) F S e5 dX6_dimmersOn_15 ?_
      refine lv_iload_n (pc := 16) hx hb dX6_dimmersOn_16 rfl (lv_at hl 1 rfl) ?_
      refine lv_icmp_ne (pc := 17) (tgt := 26) hx hb dX6_dimmersOn_17 (by decide) (fun c6 => ?_) (fun c6 => ?_)
      · replace h := (if_neg c6).symm.trans h
        refine lv_iinc (pc := 26) (lv' := [(3, .int (a3 + 1)), (0, .ref (G.2.1 a0)), (1, .int a1), (2, .int a2)]) hx hb dX6_dimmersOn_26 hl (k := 3) rfl (iinc_n (by decide)) (by decide) rfl (fun ls hl => ?_)
        refine lv_goto (pc := 29) (tgt := 4) hx hb dX6_dimmersOn_29 (by decide) ?_
        exact ih hsh S (lv_sub hl [1, 2, 3, 0] rfl) h K1
      · replace h := (if_pos c6).symm.trans h
        refine lv_iload_n (pc := 20) hx hb dX6_dimmersOn_20 rfl (lv_at hl 2 rfl) ?_
        refine lv_iconst (pc := 21) (v := 1) hx hb dX6_dimmersOn_21 (by decide) ?_
        refine lv_iload_n (pc := 22) hx hb dX6_dimmersOn_22 rfl (lv_at hl 3 rfl) ?_
        refine lv_ishl (pc := 23) hx hb dX6_dimmersOn_23 ?_
        refine lv_ior (pc := 24) hx hb dX6_dimmersOn_24 ?_
        obtain ⟨v7, e8, h⟩ := lt1_out h
        refine nm_i e8 ?_
        refine lv_istore_n (pc := 25) (lv' := [(2, .int v7), (0, .ref (G.2.1 a0)), (1, .int a1), (3, .int a3)]) hx hb dX6_dimmersOn_25 rfl hl (by decide) rfl (fun ls hl => ?_)
        refine lv_iinc (pc := 26) (lv' := [(3, .int (a3 + 1)), (2, .int v7), (0, .ref (G.2.1 a0)), (1, .int a1)]) hx hb dX6_dimmersOn_26 hl (k := 3) rfl (iinc_n (by decide)) (by decide) rfl (fun ls hl => ?_)
        refine lv_goto (pc := 29) (tgt := 4) hx hb dX6_dimmersOn_29 (by decide) ?_
        exact ih hsh S (lv_sub hl [2, 3, 1, 0] rfl) h K1
set_option maxHeartbeats 4000000 in
theorem tX6_dimmersOn {l : Launch} {G : GD} {M N : Mem} {a0 : Nat} {a1 : Int32} {r : Int32} (h : fX6_dimmersOn M a0 a1 = some r) : MI l yX6_dimmersOn cX6_dimmersOn 4 .int 0 0 G [.ref (G.2.1 a0), .int a1] M N r M N := by
  unfold fX6_dimmersOn at h
  obtain ⟨hsh, h⟩ := ck_out h
  refine MI_of (own := RX6) (by decide) rfl (Nat.le_of_ble_eq_true rfl) ?_
  intro p e s m args below meth c F S ls hl
  have hx := F.1
  have hb := F.2.1
  have hown := F.2.2.2.2.1
  have hts := F.2.2.2.2.2.1
  have hZ := F.2.2.2.2.2.2.2.2.2
  have hl : lv_has ls 4 [(0, .ref (G.2.1 a0)), (1, .int a1)] := hl
  generalize s.heap = H, ([] : List Loc) = locs at S ⊢
  refine lv_iconst (pc := 0) (v := 0) hx hb dX6_dimmersOn_0 (by decide) ?_
  refine lv_istore_n (pc := 1) (lv' := [(2, .int 0), (0, .ref (G.2.1 a0)), (1, .int a1)]) hx hb dX6_dimmersOn_1 rfl hl (by decide) rfl (fun ls hl => ?_)
  refine lv_iconst (pc := 2) (v := 0) hx hb dX6_dimmersOn_2 (by decide) ?_
  refine lv_istore_n (pc := 3) (lv' := [(3, .int 0), (2, .int 0), (0, .ref (G.2.1 a0)), (1, .int a1)]) hx hb dX6_dimmersOn_3 rfl hl (by decide) rfl (fun ls hl => ?_)
  obtain ⟨v1, e2, h⟩ := ob_out h
  refine pX6_dimmersOn_L4 F 5000 hsh S (lv_sub hl [2, 3, 1, 0] rfl) e2 (fun H locs ls S hl => ?_)
  refine lv_iload_n (pc := 32) hx hb dX6_dimmersOn_32 rfl (lv_at hl 0 rfl) ?_
  cases h
  exact r_iret (pc := 33) F S rfl dX6_dimmersOn_33
theorem mfX11_phase : MF true yX11_phase RX11 cX11_phase 5 (some .int) 3 := ⟨w722, w1, by rw [if_pos rfl]; exact ⟨w720, w721⟩, ⟨by decide, by decide⟩, by decide +kernel⟩
set_option maxHeartbeats 4000000 in
theorem tX11_phase {l : Launch} {G : GD} {M N Mo : Mem} {a1 : Int32} {a2 : Int32} {a3 : Int32} {r : Int32} (h : fX11_phase M a1 a2 a3 = some (r, Mo)) : MI l yX11_phase cX11_phase 5 .int 5 114 G [.ref (G.2.1 10), .int a1, .int a2, .int a3] M N r Mo N := by
  unfold fX11_phase at h
  refine MI_of (own := RX11) (by decide) rfl (Nat.le_of_ble_eq_true rfl) ?_
  intro p e s m args below meth c F S ls hl
  have hx := F.1
  have hb := F.2.1
  have hown := F.2.2.2.2.1
  have hts := F.2.2.2.2.2.1
  have hZ := F.2.2.2.2.2.2.2.2.2
  have hl : lv_has ls 5 [(0, .ref (G.2.1 10)), (1, .int a1), (2, .int a2), (3, .int a3)] := hl
  generalize s.heap = H, ([] : List Loc) = locs at S ⊢
  refine lv_aload_n (pc := 0) hx hb dX11_phase_0 rfl (lv_at hl 0 rfl) ?_
  refine r_gR (pc := 1) (k := 0) (x := 34) (i := 10) (ci := 11) F S (by decide) (by decide) cl11 inRX11 (by decide) w319 (fun _ => rfl) dX11_phase_1 ?_
  refine lv_iload_n (pc := 4) hx hb dX11_phase_4 rfl (lv_at hl 1 rfl) ?_
  obtain ⟨r2, e1, h⟩ := ob_out h
  refine c_vO (pc := 5) (rest := []) F S (tX7_find e1) mfX7_find (by decide) (by decide) cl7 w410 ⟨Nat.le_of_ble_eq_true rfl, Nat.le_of_ble_eq_true rfl⟩ rfl hl.1 rfl (Nat.le_of_ble_eq_true rfl) dX11_phase_5 (fun H locs S => ?_)
  cases r2 with
  | none =>
    replace h := caseO_n h
    refine W.eq (g2 := F0 m 8 ls (.null :: [])) rfl ?_
    refine lv_astoreN (pc := 8) (lv' := [(4, .null), (0, .ref (G.2.1 10)), (1, .int a1), (2, .int a2), (3, .int a3)]) hx hb dX11_phase_8 hl (by decide) rfl (fun ls hl => ?_)
    refine lv_aloadN (pc := 10) hx hb dX11_phase_10 (lv_at hl 0 rfl) ?_
    refine lv_ifnullN (pc := 12) (tgt := 22) hx hb dX11_phase_12 (by decide) ?_
    refine lv_iconst (pc := 22) (v := (-1)) hx hb dX11_phase_22 (by decide) ?_
    cases h
    exact r_iret (pc := 23) F S rfl dX11_phase_23
  | some x3 =>
    replace h := caseO_s h
    refine W.eq (g2 := F0 m 8 ls (.ref (G.2.1 x3) :: [])) rfl ?_
    refine lv_astore (pc := 8) (lv' := [(4, .ref (G.2.1 x3)), (0, .ref (G.2.1 10)), (1, .int a1), (2, .int a2), (3, .int a3)]) hx hb dX11_phase_8 hl (by decide) rfl (fun ls hl => ?_)
    refine lv_aload (pc := 10) hx hb dX11_phase_10 (lv_at hl 0 rfl) ?_
    refine lv_ifnull (pc := 12) hx hb dX11_phase_12 ?_
    refine lv_iload_n (pc := 15) hx hb dX11_phase_15 rfl (lv_at hl 3 rfl) ?_
    obtain ⟨v5, e4, h⟩ := ob_out h
    refine c_sI (pc := 16) (rest := []) F S (tX11_isPhase e4) mfX11_isPhase w473 ⟨Nat.le_of_ble_eq_true rfl, Nat.le_of_ble_eq_true rfl⟩ rfl hl.1 rfl (Nat.le_of_ble_eq_true rfl) dX11_phase_16 (fun H locs S => ?_)
    refine lv_if_ne (pc := 19) (tgt := 24) hx hb dX11_phase_19 (by decide) (fun c6 => ?_) (fun c6 => ?_)
    · replace h := (if_neg c6).symm.trans h
      refine lv_iload_n (pc := 24) hx hb dX11_phase_24 rfl (lv_at hl 4 rfl) ?_
      rcases Classical.em (a3 = 0) with c7 | c7
      · replace h := (if_pos c7).symm.trans h
        refine lv_tableIn (pc := 25) (tgt := 60) hx hb dX11_phase_25 (by rw [c7]; decide) (by rw [c7]; decide) (off := 35) (by rw [c7]; rfl) (by decide) ?_
        refine lv_aload_n (pc := 60) hx hb dX11_phase_60 rfl (lv_at hl 1 rfl) ?_
        refine r_gR (pc := 61) (k := 6) (x := 23) (i := 10) (ci := 11) F S (by decide) (by decide) cl11 inRX11 (by decide) w325 (fun _ => rfl) dX11_phase_61 ?_
        refine lv_aload (pc := 64) hx hb dX11_phase_64 (lv_at hl 0 rfl) ?_
        refine lv_aload_n (pc := 66) hx hb dX11_phase_66 rfl (lv_at hl 1 rfl) ?_
        refine r_gR (pc := 67) (k := 0) (x := 34) (i := 10) (ci := 11) F S (by decide) (by decide) cl11 inRX11 (by decide) w319 (fun _ => rfl) dX11_phase_67 ?_
        refine r_gR (pc := 70) (k := 1) (x := 36) (i := 34) (ci := 7) F S (by decide) (by decide) cl7 inRX7 (by decide) w168 (fun _ => rfl) dX11_phase_70 ?_
        obtain ⟨M9, e8, h⟩ := ob_out h
        refine c_vV (pc := 73) (rest := []) F S (tX3_measureNow e8) mfX3_measureNow (by decide) (by decide) cl3 w713 ⟨Nat.le_of_ble_eq_true rfl, Nat.le_of_ble_eq_true rfl⟩ rfl hl.1 rfl (Nat.le_of_ble_eq_true rfl) dX11_phase_73 (fun H locs S => ?_)
        refine lv_aload_n (pc := 76) hx hb dX11_phase_76 rfl (lv_at hl 1 rfl) ?_
        refine r_gR (pc := 77) (k := 6) (x := 23) (i := 10) (ci := 11) F S (by decide) (by decide) cl11 inRX11 (by decide) w325 (fun _ => rfl) dX11_phase_77 ?_
        refine r_gR (pc := 80) (k := 1) (x := 25) (i := 23) (ci := 3) F S (by decide) (by decide) cl3 inRX3 (by decide) w268 (fun _ => rfl) dX11_phase_80 ?_
        refine lv_iload_n (pc := 83) hx hb dX11_phase_83 rfl (lv_at hl 3 rfl) ?_
        obtain ⟨v10, e11, h⟩ := ob_out h
        refine r_aL (pc := 84) F S e11 dX11_phase_84 ?_
        cases h
        exact r_iret (pc := 85) F S rfl dX11_phase_85
      replace h := (if_neg c7).symm.trans h
      rcases Classical.em (a3 = 1) with c12 | c12
      · replace h := (if_pos c12).symm.trans h
        refine lv_tableIn (pc := 25) (tgt := 86) hx hb dX11_phase_25 (by rw [c12]; decide) (by rw [c12]; decide) (off := 61) (by rw [c12]; rfl) (by decide) ?_
        refine lv_aload (pc := 86) hx hb dX11_phase_86 (lv_at hl 0 rfl) ?_
        obtain ⟨x13, e14, h⟩ := ob_out h
        refine r_gR (pc := 88) (k := 12) F S e14 (by decide) cl6 inRX6 (by decide) w135 (fun _ => rfl) dX11_phase_88 ?_
        refine lv_iload_n (pc := 91) hx hb dX11_phase_91 rfl (lv_at hl 3 rfl) ?_
        obtain ⟨v16, e15, h⟩ := ob_out h
        refine c_vI (pc := 92) (rest := []) F S (tX0_hasTripped e15) mfX0_hasTripped (sX0_hasTripped e15) (by decide) cl0 w714 ⟨Nat.le_of_ble_eq_true rfl, Nat.le_of_ble_eq_true rfl⟩ rfl hl.1 rfl (Nat.le_of_ble_eq_true rfl) dX11_phase_92 (fun H locs S => ?_)
        refine lv_if_eq (pc := 95) (tgt := 102) hx hb dX11_phase_95 (by decide) (fun c17 => ?_) (fun c17 => ?_)
        · replace h := (if_pos c17).symm.trans h
          refine lv_iconst (pc := 102) (v := 0) hx hb dX11_phase_102 (by decide) ?_
          cases h
          exact r_iret (pc := 103) F S rfl dX11_phase_103
        · replace h := (if_neg c17).symm.trans h
          refine lv_iconst (pc := 98) (v := 1) hx hb dX11_phase_98 (by decide) ?_
          refine lv_goto (pc := 99) (tgt := 103) hx hb dX11_phase_99 (by decide) ?_
          cases h
          exact r_iret (pc := 103) F S rfl dX11_phase_103
      replace h := (if_neg c12).symm.trans h
      rcases Classical.em (a3 = 2) with c18 | c18
      · replace h := (if_pos c18).symm.trans h
        refine lv_tableIn (pc := 25) (tgt := 104) hx hb dX11_phase_25 (by rw [c18]; decide) (by rw [c18]; decide) (off := 79) (by rw [c18]; rfl) (by decide) ?_
        refine lv_aload (pc := 104) hx hb dX11_phase_104 (lv_at hl 0 rfl) ?_
        obtain ⟨x19, e20, h⟩ := ob_out h
        refine r_gR (pc := 106) (k := 12) F S e20 (by decide) cl6 inRX6 (by decide) w135 (fun _ => rfl) dX11_phase_106 ?_
        obtain ⟨x21, e22, h⟩ := ob_out h
        refine r_gR (pc := 109) (k := 0) F S e22 (by decide) cl0 inRX0 (by decide) w96 (fun _ => rfl) dX11_phase_109 ?_
        refine lv_iload_n (pc := 112) hx hb dX11_phase_112 rfl (lv_at hl 3 rfl) ?_
        obtain ⟨v23, e24, h⟩ := ob_out h
        refine r_aL (pc := 113) F S e24 dX11_phase_113 ?_
        cases h
        exact r_iret (pc := 114) F S rfl dX11_phase_114
      replace h := (if_neg c18).symm.trans h
      rcases Classical.em (a3 = 3) with c25 | c25
      · replace h := (if_pos c25).symm.trans h
        refine lv_tableIn (pc := 25) (tgt := 115) hx hb dX11_phase_25 (by rw [c25]; decide) (by rw [c25]; decide) (off := 90) (by rw [c25]; rfl) (by decide) ?_
        refine lv_aload (pc := 115) hx hb dX11_phase_115 (lv_at hl 0 rfl) ?_
        refine lv_iload_n (pc := 117) hx hb dX11_phase_117 rfl (lv_at hl 3 rfl) ?_
        obtain ⟨v27, e26, h⟩ := ob_out h
        refine c_vI (pc := 118) (rest := []) F S (tX6_dimmersOn e26) mfX6_dimmersOn (sX6_dimmersOn e26) (by decide) cl6 w723 ⟨Nat.le_of_ble_eq_true rfl, Nat.le_of_ble_eq_true rfl⟩ rfl hl.1 rfl (Nat.le_of_ble_eq_true rfl) dX11_phase_118 (fun H locs S => ?_)
        cases h
        exact r_iret (pc := 121) F S rfl dX11_phase_121
      replace h := (if_neg c25).symm.trans h
      rcases Classical.em (a3 = 4) with c28 | c28
      · replace h := (if_pos c28).symm.trans h
        refine lv_tableIn (pc := 25) (tgt := 122) hx hb dX11_phase_25 (by rw [c28]; decide) (by rw [c28]; decide) (off := 97) (by rw [c28]; rfl) (by decide) ?_
        refine lv_aload_n (pc := 122) hx hb dX11_phase_122 rfl (lv_at hl 1 rfl) ?_
        refine r_gR (pc := 123) (k := 7) (x := 26) (i := 10) (ci := 11) F S (by decide) (by decide) cl11 inRX11 (by decide) w326 (fun _ => rfl) dX11_phase_123 ?_
        refine lv_aload (pc := 126) hx hb dX11_phase_126 (lv_at hl 0 rfl) ?_
        refine lv_aload_n (pc := 128) hx hb dX11_phase_128 rfl (lv_at hl 1 rfl) ?_
        refine r_gR (pc := 129) (k := 0) (x := 34) (i := 10) (ci := 11) F S (by decide) (by decide) cl11 inRX11 (by decide) w319 (fun _ => rfl) dX11_phase_129 ?_
        refine r_gR (pc := 132) (k := 1) (x := 36) (i := 34) (ci := 7) F S (by decide) (by decide) cl7 inRX7 (by decide) w168 (fun _ => rfl) dX11_phase_132 ?_
        obtain ⟨M30, e29, h⟩ := ob_out h
        refine c_vV (pc := 135) (rest := []) F S (tX10_measure e29) mfX10_measure (by decide) (by decide) cl10 w480 ⟨Nat.le_of_ble_eq_true rfl, Nat.le_of_ble_eq_true rfl⟩ rfl hl.1 rfl (Nat.le_of_ble_eq_true rfl) dX11_phase_135 (fun H locs S => ?_)
        refine lv_aload_n (pc := 138) hx hb dX11_phase_138 rfl (lv_at hl 1 rfl) ?_
        refine r_gR (pc := 139) (k := 7) (x := 26) (i := 10) (ci := 11) F S (by decide) (by decide) cl11 inRX11 (by decide) w326 (fun _ => rfl) dX11_phase_139 ?_
        refine r_gR (pc := 142) (k := 0) (x := 27) (i := 26) (ci := 10) F S (by decide) (by decide) cl10 inRX10 (by decide) w284 (fun _ => rfl) dX11_phase_142 ?_
        refine r_gR (pc := 145) (k := 1) (x := 29) (i := 27) (ci := 3) F S (by decide) (by decide) cl3 inRX3 (by decide) w268 (fun _ => rfl) dX11_phase_145 ?_
        refine lv_iload_n (pc := 148) hx hb dX11_phase_148 rfl (lv_at hl 3 rfl) ?_
        obtain ⟨v31, e32, h⟩ := ob_out h
        refine r_aL (pc := 149) F S e32 dX11_phase_149 ?_
        cases h
        exact r_iret (pc := 150) F S rfl dX11_phase_150
      replace h := (if_neg c28).symm.trans h
      refine lv_tableOut (pc := 25) (tgt := 151) hx hb dX11_phase_25 (tbl_out (fun k h1 h2 => ?_)) (by decide) ?_
      · rcases (show k = 0 ∨ k = 1 ∨ k = 2 ∨ k = 3 ∨ k = 4 by omega) with rfl | rfl | rfl | rfl | rfl
        · exact lv_neT c7 (by decide)
        · exact lv_neT c12 (by decide)
        · exact lv_neT c18 (by decide)
        · exact lv_neT c25 (by decide)
        · exact lv_neT c28 (by decide)
      refine lv_bipush (pc := 151) (v := (-2)) hx hb dX11_phase_151 (by decide) ?_
      cases h
      exact r_iret (pc := 153) F S rfl dX11_phase_153
    · replace h := (if_pos c6).symm.trans h
      refine lv_iconst (pc := 22) (v := (-1)) hx hb dX11_phase_22 (by decide) ?_
      cases h
      exact r_iret (pc := 23) F S rfl dX11_phase_23
theorem sX3_sumOfPhases {M : Mem} {a0 : Nat} {r : (Int32)} (h : fX3_sumOfPhases M a0 = some r) : shp a0 = 3 := by
  unfold fX3_sumOfPhases at h
  exact (ck_out h).1
theorem mfX3_sumOfPhases : MF true yX3_sumOfPhases RX3 cX3_sumOfPhases 6 (some .int) 0 := ⟨w735, w10, by rw [if_pos rfl]; exact ⟨w733, w734⟩, ⟨by decide, by decide⟩, by decide +kernel⟩
set_option maxHeartbeats 4000000 in
theorem pX3_sumOfPhases_L13 {p : Program} {l : Launch} {e : Env} {s : State} {m : MethodId} {args : Array Value} {below : List Frame} {meth : Method} {c : Code} {Q : State → Prop} {G : GD} (F : FX p s m args meth c RX3 cX3_sumOfPhases 6 (some .int) G) : ∀ (n : Nat) {M N : Mem} {a1 : Int32} {a2 : Nat} {a3 : Int32} {a4 : Int32} {H : Heap} {locs : List Loc} {ls : Array Slot} {o1 : Int32}, ST G M N s H locs → lv_has ls 6 [(1, .int a1), (2, .ref (G.2.1 a2)), (3, .int a3), (4, .int a4)] → fX3_sumOfPhases_L13 n M a1 a2 a3 a4 = some o1 → (K1 : ∀ (H : Heap) (locs : List Loc) (ls : Array Slot), ST G M N s H locs → lv_has ls 6 [(1, .int o1)] → W p l e (Rm 0 0) s m args below meth c H locs 0 0 Q (F0 m 36 ls [])) → W p l e (Rm 0 0) s m args below meth c H locs 0 0 Q (F0 m 13 ls []) := by
  intro n
  induction n with
  | zero => intro M N a1 a2 a3 a4 H locs ls o1 S hl h K1; cases h
  | succ n ih =>
    intro M N a1 a2 a3 a4 H locs ls o1 S hl h K1
    rw [fX3_sumOfPhases_L13] at h
    have hx := F.1
    have hb := F.2.1
    have hown := F.2.2.2.2.1
    have hts := F.2.2.2.2.2.1
    have hZ := F.2.2.2.2.2.2.2.2.2
    refine lv_iload (pc := 13) hx hb dX3_sumOfPhases_13 (lv_at hl 3 rfl) ?_
    refine lv_iload_n (pc := 15) hx hb dX3_sumOfPhases_15 rfl (lv_at hl 2 rfl) ?_
    refine lv_icmp_ge (pc := 16) (tgt := 36) hx hb dX3_sumOfPhases_16 (by decide) (fun c5 => ?_) (fun c5 => ?_)
    · replace h := (if_pos c5).symm.trans h
      cases h
      exact K1 H locs ls S (lv_sub hl [0] rfl)
    · replace h := (if_neg c5).symm.trans h
      refine lv_aload_n (pc := 19) hx hb dX3_sumOfPhases_19 rfl (lv_at hl 1 rfl) ?_
      refine lv_iload (pc := 20) hx hb dX3_sumOfPhases_20 (lv_at hl 3 rfl) ?_
      obtain ⟨v6, e7, h⟩ := ob_out h
      refine r_aL (pc := 22) F S e7 dX3_sumOfPhases_22 ?_
      refine lv_istore (pc := 23) (lv' := [(5, .int v6), (1, .int a1), (2, .ref (G.2.1 a2)), (3, .int a3), (4, .int a4)]) hx hb dX3_sumOfPhases_23 hl (by decide) rfl (fun ls hl => ?_)
      refine lv_iload_n (pc := 25) hx hb dX3_sumOfPhases_25 rfl (lv_at hl 1 rfl) ?_
      refine lv_iload (pc := 26) hx hb dX3_sumOfPhases_26 (lv_at hl 0 rfl) ?_
      refine lv_iadd (pc := 28) hx hb dX3_sumOfPhases_28 ?_
      obtain ⟨v8, e9, h⟩ := lt1_out h
      refine nm_i e9 ?_
      refine lv_istore_n (pc := 29) (lv' := [(1, .int v8), (5, .int v6), (2, .ref (G.2.1 a2)), (3, .int a3), (4, .int a4)]) hx hb dX3_sumOfPhases_29 rfl hl (by decide) rfl (fun ls hl => ?_)
      refine lv_iinc (pc := 30) (lv' := [(4, .int (a4 + 1)), (1, .int v8), (5, .int v6), (2, .ref (G.2.1 a2)), (3, .int a3)]) hx hb dX3_sumOfPhases_30 hl (k := 4) rfl (iinc_n (by decide)) (by decide) rfl (fun ls hl => ?_)
      refine lv_goto (pc := 33) (tgt := 13) hx hb dX3_sumOfPhases_33 (by decide) ?_
      exact ih S (lv_sub hl [1, 3, 4, 0] rfl) h K1
set_option maxHeartbeats 4000000 in
theorem tX3_sumOfPhases {l : Launch} {G : GD} {M N : Mem} {a0 : Nat} {r : Int32} (h : fX3_sumOfPhases M a0 = some r) : MI l yX3_sumOfPhases cX3_sumOfPhases 6 .int 0 0 G [.ref (G.2.1 a0)] M N r M N := by
  unfold fX3_sumOfPhases at h
  obtain ⟨hsh, h⟩ := ck_out h
  refine MI_of (own := RX3) (by decide) rfl (Nat.le_of_ble_eq_true rfl) ?_
  intro p e s m args below meth c F S ls hl
  have hx := F.1
  have hb := F.2.1
  have hown := F.2.2.2.2.1
  have hts := F.2.2.2.2.2.1
  have hZ := F.2.2.2.2.2.2.2.2.2
  have hl : lv_has ls 6 [(0, .ref (G.2.1 a0))] := hl
  generalize s.heap = H, ([] : List Loc) = locs at S ⊢
  refine lv_iconst (pc := 0) (v := 0) hx hb dX3_sumOfPhases_0 (by decide) ?_
  refine lv_istore_n (pc := 1) (lv' := [(1, .int 0), (0, .ref (G.2.1 a0))]) hx hb dX3_sumOfPhases_1 rfl hl (by decide) rfl (fun ls hl => ?_)
  refine lv_aload_n (pc := 2) hx hb dX3_sumOfPhases_2 rfl (lv_at hl 1 rfl) ?_
  obtain ⟨x1, e2, h⟩ := ob_out h
  refine r_gR (pc := 3) (k := 1) F S e2 (by decide) cl3 inRX3 (by decide) w265 (fun _ => rfl) dX3_sumOfPhases_3 ?_
  refine lv_astore_n (pc := 6) (lv' := [(2, .ref (G.2.1 x1)), (1, .int 0), (0, .ref (G.2.1 a0))]) hx hb dX3_sumOfPhases_6 rfl hl (by decide) rfl (fun ls hl => ?_)
  refine lv_aload_n (pc := 7) hx hb dX3_sumOfPhases_7 rfl (lv_at hl 0 rfl) ?_
  obtain ⟨v3, e4, h⟩ := ob_out h
  refine r_aN (pc := 8) F S e4 (by decide) dX3_sumOfPhases_8 ?_
  refine lv_istore_n (pc := 9) (lv' := [(3, .int v3), (2, .ref (G.2.1 x1)), (1, .int 0), (0, .ref (G.2.1 a0))]) hx hb dX3_sumOfPhases_9 rfl hl (by decide) rfl (fun ls hl => ?_)
  refine lv_iconst (pc := 10) (v := 0) hx hb dX3_sumOfPhases_10 (by decide) ?_
  refine lv_istore (pc := 11) (lv' := [(4, .int 0), (3, .int v3), (2, .ref (G.2.1 x1)), (1, .int 0), (0, .ref (G.2.1 a0))]) hx hb dX3_sumOfPhases_11 hl (by decide) rfl (fun ls hl => ?_)
  obtain ⟨v5, e6, h⟩ := ob_out h
  refine pX3_sumOfPhases_L13 F 5000 S (lv_sub hl [3, 2, 1, 0] rfl) e6 (fun H locs ls S hl => ?_)
  refine lv_iload_n (pc := 36) hx hb dX3_sumOfPhases_36 rfl (lv_at hl 0 rfl) ?_
  cases h
  exact r_iret (pc := 37) F S rfl dX3_sumOfPhases_37
theorem mfX11_cue : MF true yX11_cue RX11 cX11_cue 5 (some .int) 3 := ⟨w730, w1, by rw [if_pos rfl]; exact ⟨w728, w729⟩, ⟨by decide, by decide⟩, by decide +kernel⟩
set_option maxHeartbeats 4000000 in
theorem tX11_cue {l : Launch} {G : GD} {M N Mo : Mem} {a1 : Int32} {a2 : Int32} {a3 : Int32} {r : Int32} (h : fX11_cue M a1 a2 a3 = some (r, Mo)) : MI l yX11_cue cX11_cue 5 .int 4 91 G [.ref (G.2.1 10), .int a1, .int a2, .int a3] M N r Mo N := by
  unfold fX11_cue at h
  refine MI_of (own := RX11) (by decide) rfl (Nat.le_of_ble_eq_true rfl) ?_
  intro p e s m args below meth c F S ls hl
  have hx := F.1
  have hb := F.2.1
  have hown := F.2.2.2.2.1
  have hts := F.2.2.2.2.2.1
  have hZ := F.2.2.2.2.2.2.2.2.2
  have hl : lv_has ls 5 [(0, .ref (G.2.1 10)), (1, .int a1), (2, .int a2), (3, .int a3)] := hl
  generalize s.heap = H, ([] : List Loc) = locs at S ⊢
  refine lv_aload_n (pc := 0) hx hb dX11_cue_0 rfl (lv_at hl 0 rfl) ?_
  refine r_gR (pc := 1) (k := 0) (x := 34) (i := 10) (ci := 11) F S (by decide) (by decide) cl11 inRX11 (by decide) w319 (fun _ => rfl) dX11_cue_1 ?_
  refine lv_iload_n (pc := 4) hx hb dX11_cue_4 rfl (lv_at hl 1 rfl) ?_
  obtain ⟨r2, e1, h⟩ := ob_out h
  refine c_vO (pc := 5) (rest := []) F S (tX7_find e1) mfX7_find (by decide) (by decide) cl7 w410 ⟨Nat.le_of_ble_eq_true rfl, Nat.le_of_ble_eq_true rfl⟩ rfl hl.1 rfl (Nat.le_of_ble_eq_true rfl) dX11_cue_5 (fun H locs S => ?_)
  cases r2 with
  | none =>
    replace h := caseO_n h
    refine W.eq (g2 := F0 m 8 ls (.null :: [])) rfl ?_
    refine lv_astoreN (pc := 8) (lv' := [(4, .null), (0, .ref (G.2.1 10)), (1, .int a1), (2, .int a2), (3, .int a3)]) hx hb dX11_cue_8 hl (by decide) rfl (fun ls hl => ?_)
    refine lv_aloadN (pc := 10) hx hb dX11_cue_10 (lv_at hl 0 rfl) ?_
    refine lv_ifnullN (pc := 12) (tgt := 22) hx hb dX11_cue_12 (by decide) ?_
    refine lv_iconst (pc := 22) (v := (-1)) hx hb dX11_cue_22 (by decide) ?_
    cases h
    exact r_iret (pc := 23) F S rfl dX11_cue_23
  | some x3 =>
    replace h := caseO_s h
    refine W.eq (g2 := F0 m 8 ls (.ref (G.2.1 x3) :: [])) rfl ?_
    refine lv_astore (pc := 8) (lv' := [(4, .ref (G.2.1 x3)), (0, .ref (G.2.1 10)), (1, .int a1), (2, .int a2), (3, .int a3)]) hx hb dX11_cue_8 hl (by decide) rfl (fun ls hl => ?_)
    refine lv_aload (pc := 10) hx hb dX11_cue_10 (lv_at hl 0 rfl) ?_
    refine lv_ifnull (pc := 12) hx hb dX11_cue_12 ?_
    refine lv_iload_n (pc := 15) hx hb dX11_cue_15 rfl (lv_at hl 3 rfl) ?_
    obtain ⟨v5, e4, h⟩ := ob_out h
    refine c_sI (pc := 16) (rest := []) F S (tX11_isCue e4) mfX11_isCue w550 ⟨Nat.le_of_ble_eq_true rfl, Nat.le_of_ble_eq_true rfl⟩ rfl hl.1 rfl (Nat.le_of_ble_eq_true rfl) dX11_cue_16 (fun H locs S => ?_)
    refine lv_if_ne (pc := 19) (tgt := 24) hx hb dX11_cue_19 (by decide) (fun c6 => ?_) (fun c6 => ?_)
    · replace h := (if_neg c6).symm.trans h
      refine lv_iload_n (pc := 24) hx hb dX11_cue_24 rfl (lv_at hl 4 rfl) ?_
      rcases Classical.em (a3 = 0) with c7 | c7
      · replace h := (if_pos c7).symm.trans h
        refine lv_tableIn (pc := 25) (tgt := 52) hx hb dX11_cue_25 (by rw [c7]; decide) (by rw [c7]; decide) (off := 27) (by rw [c7]; rfl) (by decide) ?_
        refine lv_aload (pc := 52) hx hb dX11_cue_52 (lv_at hl 0 rfl) ?_
        refine lv_iload_n (pc := 54) hx hb dX11_cue_54 rfl (lv_at hl 3 rfl) ?_
        obtain ⟨v9, e8, h⟩ := ob_out h
        refine c_vI (pc := 55) (rest := []) F S (tX6_isRecorded e8) mfX6_isRecorded (sX6_isRecorded e8) (by decide) cl6 w570 ⟨Nat.le_of_ble_eq_true rfl, Nat.le_of_ble_eq_true rfl⟩ rfl hl.1 rfl (Nat.le_of_ble_eq_true rfl) dX11_cue_55 (fun H locs S => ?_)
        refine lv_if_eq (pc := 58) (tgt := 65) hx hb dX11_cue_58 (by decide) (fun c10 => ?_) (fun c10 => ?_)
        · replace h := (if_pos c10).symm.trans h
          refine lv_iconst (pc := 65) (v := 0) hx hb dX11_cue_65 (by decide) ?_
          cases h
          exact r_iret (pc := 66) F S rfl dX11_cue_66
        · replace h := (if_neg c10).symm.trans h
          refine lv_iconst (pc := 61) (v := 1) hx hb dX11_cue_61 (by decide) ?_
          refine lv_goto (pc := 62) (tgt := 66) hx hb dX11_cue_62 (by decide) ?_
          cases h
          exact r_iret (pc := 66) F S rfl dX11_cue_66
      replace h := (if_neg c7).symm.trans h
      rcases Classical.em (a3 = 1) with c11 | c11
      · replace h := (if_pos c11).symm.trans h
        refine lv_tableIn (pc := 25) (tgt := 67) hx hb dX11_cue_25 (by rw [c11]; decide) (by rw [c11]; decide) (off := 42) (by rw [c11]; rfl) (by decide) ?_
        refine lv_aload (pc := 67) hx hb dX11_cue_67 (lv_at hl 0 rfl) ?_
        obtain ⟨x12, e13, h⟩ := ob_out h
        refine r_gR (pc := 69) (k := 8) F S e13 (by decide) cl6 inRX6 (by decide) w125 (fun _ => rfl) dX11_cue_69 ?_
        refine lv_iload_n (pc := 72) hx hb dX11_cue_72 rfl (lv_at hl 3 rfl) ?_
        obtain ⟨v14, e15, h⟩ := ob_out h
        refine r_aL (pc := 73) F S e15 dX11_cue_73 ?_
        cases h
        exact r_iret (pc := 74) F S rfl dX11_cue_74
      replace h := (if_neg c11).symm.trans h
      rcases Classical.em (a3 = 2) with c16 | c16
      · replace h := (if_pos c16).symm.trans h
        refine lv_tableIn (pc := 25) (tgt := 75) hx hb dX11_cue_25 (by rw [c16]; decide) (by rw [c16]; decide) (off := 50) (by rw [c16]; rfl) (by decide) ?_
        refine lv_aload_n (pc := 75) hx hb dX11_cue_75 rfl (lv_at hl 1 rfl) ?_
        refine r_gR (pc := 76) (k := 6) (x := 23) (i := 10) (ci := 11) F S (by decide) (by decide) cl11 inRX11 (by decide) w325 (fun _ => rfl) dX11_cue_76 ?_
        refine lv_aload (pc := 79) hx hb dX11_cue_79 (lv_at hl 0 rfl) ?_
        refine lv_iload_n (pc := 81) hx hb dX11_cue_81 rfl (lv_at hl 3 rfl) ?_
        refine lv_aload_n (pc := 82) hx hb dX11_cue_82 rfl (lv_at hl 1 rfl) ?_
        refine r_gR (pc := 83) (k := 0) (x := 34) (i := 10) (ci := 11) F S (by decide) (by decide) cl11 inRX11 (by decide) w319 (fun _ => rfl) dX11_cue_83 ?_
        refine r_gR (pc := 86) (k := 1) (x := 36) (i := 34) (ci := 7) F S (by decide) (by decide) cl7 inRX7 (by decide) w168 (fun _ => rfl) dX11_cue_86 ?_
        obtain ⟨M18, e17, h⟩ := ob_out h
        refine c_vV (pc := 89) (rest := []) F S (tX3_measureCue e17) mfX3_measureCue (by decide) (by decide) cl3 w731 ⟨Nat.le_of_ble_eq_true rfl, Nat.le_of_ble_eq_true rfl⟩ rfl hl.1 rfl (Nat.le_of_ble_eq_true rfl) dX11_cue_89 (fun H locs S => ?_)
        refine lv_aload_n (pc := 92) hx hb dX11_cue_92 rfl (lv_at hl 1 rfl) ?_
        refine r_gR (pc := 93) (k := 6) (x := 23) (i := 10) (ci := 11) F S (by decide) (by decide) cl11 inRX11 (by decide) w325 (fun _ => rfl) dX11_cue_93 ?_
        obtain ⟨v20, e19, h⟩ := ob_out h
        refine c_vI (pc := 96) (rest := []) F S (tX3_sumOfPhases e19) mfX3_sumOfPhases (by decide) (by decide) cl3 w732 ⟨Nat.le_of_ble_eq_true rfl, Nat.le_of_ble_eq_true rfl⟩ rfl hl.1 rfl (Nat.le_of_ble_eq_true rfl) dX11_cue_96 (fun H locs S => ?_)
        cases h
        exact r_iret (pc := 99) F S rfl dX11_cue_99
      replace h := (if_neg c16).symm.trans h
      refine lv_tableOut (pc := 25) (tgt := 100) hx hb dX11_cue_25 (tbl_out (fun k h1 h2 => ?_)) (by decide) ?_
      · rcases (show k = 0 ∨ k = 1 ∨ k = 2 by omega) with rfl | rfl | rfl
        · exact lv_neT c7 (by decide)
        · exact lv_neT c11 (by decide)
        · exact lv_neT c16 (by decide)
      refine lv_bipush (pc := 100) (v := (-2)) hx hb dX11_cue_100 (by decide) ?_
      cases h
      exact r_iret (pc := 102) F S rfl dX11_cue_102
    · replace h := (if_pos c6).symm.trans h
      refine lv_iconst (pc := 22) (v := (-1)) hx hb dX11_cue_22 (by decide) ?_
      cases h
      exact r_iret (pc := 23) F S rfl dX11_cue_23
theorem mfX11_inCue : MF true yX11_inCue RX11 cX11_inCue 5 (some .int) 3 := ⟨w739, w1, by rw [if_pos rfl]; exact ⟨w737, w738⟩, ⟨by decide, by decide⟩, by decide +kernel⟩
set_option maxHeartbeats 4000000 in
theorem tX11_inCue {l : Launch} {G : GD} {M N : Mem} {a1 : Int32} {a2 : Int32} {a3 : Int32} {r : Int32} (h : fX11_inCue M a1 a2 a3 = some r) : MI l yX11_inCue cX11_inCue 5 .int 3 63 G [.ref (G.2.1 10), .int a1, .int a2, .int a3] M N r M N := by
  unfold fX11_inCue at h
  refine MI_of (own := RX11) (by decide) rfl (Nat.le_of_ble_eq_true rfl) ?_
  intro p e s m args below meth c F S ls hl
  have hx := F.1
  have hb := F.2.1
  have hown := F.2.2.2.2.1
  have hts := F.2.2.2.2.2.1
  have hZ := F.2.2.2.2.2.2.2.2.2
  have hl : lv_has ls 5 [(0, .ref (G.2.1 10)), (1, .int a1), (2, .int a2), (3, .int a3)] := hl
  generalize s.heap = H, ([] : List Loc) = locs at S ⊢
  refine lv_aload_n (pc := 0) hx hb dX11_inCue_0 rfl (lv_at hl 0 rfl) ?_
  refine r_gR (pc := 1) (k := 0) (x := 34) (i := 10) (ci := 11) F S (by decide) (by decide) cl11 inRX11 (by decide) w319 (fun _ => rfl) dX11_inCue_1 ?_
  refine lv_iload_n (pc := 4) hx hb dX11_inCue_4 rfl (lv_at hl 1 rfl) ?_
  obtain ⟨r2, e1, h⟩ := ob_out h
  refine c_vO (pc := 5) (rest := []) F S (tX7_find e1) mfX7_find (by decide) (by decide) cl7 w410 ⟨Nat.le_of_ble_eq_true rfl, Nat.le_of_ble_eq_true rfl⟩ rfl hl.1 rfl (Nat.le_of_ble_eq_true rfl) dX11_inCue_5 (fun H locs S => ?_)
  cases r2 with
  | none =>
    replace h := caseO_n h
    refine W.eq (g2 := F0 m 8 ls (.null :: [])) rfl ?_
    refine lv_astoreN (pc := 8) (lv' := [(4, .null), (0, .ref (G.2.1 10)), (1, .int a1), (2, .int a2), (3, .int a3)]) hx hb dX11_inCue_8 hl (by decide) rfl (fun ls hl => ?_)
    refine lv_aloadN (pc := 10) hx hb dX11_inCue_10 (lv_at hl 0 rfl) ?_
    refine lv_ifnullN (pc := 12) (tgt := 31) hx hb dX11_inCue_12 (by decide) ?_
    refine lv_iconst (pc := 31) (v := (-1)) hx hb dX11_inCue_31 (by decide) ?_
    cases h
    exact r_iret (pc := 32) F S rfl dX11_inCue_32
  | some x3 =>
    replace h := caseO_s h
    refine W.eq (g2 := F0 m 8 ls (.ref (G.2.1 x3) :: [])) rfl ?_
    refine lv_astore (pc := 8) (lv' := [(4, .ref (G.2.1 x3)), (0, .ref (G.2.1 10)), (1, .int a1), (2, .int a2), (3, .int a3)]) hx hb dX11_inCue_8 hl (by decide) rfl (fun ls hl => ?_)
    refine lv_aload (pc := 10) hx hb dX11_inCue_10 (lv_at hl 0 rfl) ?_
    refine lv_ifnull (pc := 12) hx hb dX11_inCue_12 ?_
    refine lv_iload_n (pc := 15) hx hb dX11_inCue_15 rfl (lv_at hl 3 rfl) ?_
    obtain ⟨v5, e4, h⟩ := ob_out h
    refine c_sI (pc := 16) (rest := []) F S (tX11_isCue e4) mfX11_isCue w550 ⟨Nat.le_of_ble_eq_true rfl, Nat.le_of_ble_eq_true rfl⟩ rfl hl.1 rfl (Nat.le_of_ble_eq_true rfl) dX11_inCue_16 (fun H locs S => ?_)
    refine lv_if_eq (pc := 19) (tgt := 31) hx hb dX11_inCue_19 (by decide) (fun c6 => ?_) (fun c6 => ?_)
    · replace h := (if_pos c6).symm.trans h
      refine lv_iconst (pc := 31) (v := (-1)) hx hb dX11_inCue_31 (by decide) ?_
      cases h
      exact r_iret (pc := 32) F S rfl dX11_inCue_32
    · replace h := (if_neg c6).symm.trans h
      refine lv_aload (pc := 22) hx hb dX11_inCue_22 (lv_at hl 0 rfl) ?_
      refine lv_iload_n (pc := 24) hx hb dX11_inCue_24 rfl (lv_at hl 4 rfl) ?_
      obtain ⟨v8, e7, h⟩ := ob_out h
      refine c_vI (pc := 25) (rest := []) F S (tX6_hasLamp e7) mfX6_hasLamp (sX6_hasLamp e7) (by decide) cl6 w445 ⟨Nat.le_of_ble_eq_true rfl, Nat.le_of_ble_eq_true rfl⟩ rfl hl.1 rfl (Nat.le_of_ble_eq_true rfl) dX11_inCue_25 (fun H locs S => ?_)
      refine lv_if_ne (pc := 28) (tgt := 33) hx hb dX11_inCue_28 (by decide) (fun c9 => ?_) (fun c9 => ?_)
      · replace h := (if_neg c9).symm.trans h
        refine lv_aload (pc := 33) hx hb dX11_inCue_33 (lv_at hl 0 rfl) ?_
        refine lv_iload_n (pc := 35) hx hb dX11_inCue_35 rfl (lv_at hl 3 rfl) ?_
        obtain ⟨v11, e10, h⟩ := ob_out h
        refine c_vI (pc := 36) (rest := []) F S (tX6_isRecorded e10) mfX6_isRecorded (sX6_isRecorded e10) (by decide) cl6 w570 ⟨Nat.le_of_ble_eq_true rfl, Nat.le_of_ble_eq_true rfl⟩ rfl hl.1 rfl (Nat.le_of_ble_eq_true rfl) dX11_inCue_36 (fun H locs S => ?_)
        refine lv_if_eq (pc := 39) (tgt := 54) hx hb dX11_inCue_39 (by decide) (fun c12 => ?_) (fun c12 => ?_)
        · replace h := (if_pos c12).symm.trans h
          refine lv_bipush (pc := 54) (v := (-6)) hx hb dX11_inCue_54 (by decide) ?_
          cases h
          exact r_iret (pc := 56) F S rfl dX11_inCue_56
        · replace h := (if_neg c12).symm.trans h
          refine lv_aload (pc := 42) hx hb dX11_inCue_42 (lv_at hl 0 rfl) ?_
          obtain ⟨x13, e14, h⟩ := ob_out h
          refine r_gR (pc := 44) (k := 9) F S e14 (by decide) cl6 inRX6 (by decide) w129 (fun _ => rfl) dX11_inCue_44 ?_
          refine lv_iload_n (pc := 47) hx hb dX11_inCue_47 rfl (lv_at hl 3 rfl) ?_
          obtain ⟨x15, e16, h⟩ := ob_out h
          refine r_aR24 (pc := 48) F S e16 dX11_inCue_48 ?_
          refine lv_iload_n (pc := 49) hx hb dX11_inCue_49 rfl (lv_at hl 4 rfl) ?_
          obtain ⟨v17, e18, h⟩ := ob_out h
          refine r_aL (pc := 50) F S e18 dX11_inCue_50 ?_
          refine lv_goto (pc := 51) (tgt := 56) hx hb dX11_inCue_51 (by decide) ?_
          cases h
          exact r_iret (pc := 56) F S rfl dX11_inCue_56
      · replace h := (if_pos c9).symm.trans h
        refine lv_iconst (pc := 31) (v := (-1)) hx hb dX11_inCue_31 (by decide) ?_
        cases h
        exact r_iret (pc := 32) F S rfl dX11_inCue_32
theorem sX1_ticksLeft {M : Mem} {a0 : Nat} {r : (Int32)} (h : fX1_ticksLeft M a0 = some r) : shp a0 = 1 := by
  unfold fX1_ticksLeft at h
  exact (ck_out h).1
theorem mfX1_ticksLeft : MF true yX1_ticksLeft RX1 cX1_ticksLeft 1 (some .int) 0 := ⟨w747, w5, by rw [if_pos rfl]; exact ⟨w745, w746⟩, ⟨by decide, by decide⟩, by decide +kernel⟩
set_option maxHeartbeats 4000000 in
theorem tX1_ticksLeft {l : Launch} {G : GD} {M N : Mem} {a0 : Nat} {r : Int32} (h : fX1_ticksLeft M a0 = some r) : MI l yX1_ticksLeft cX1_ticksLeft 1 .int 0 0 G [.ref (G.2.1 a0)] M N r M N := by
  unfold fX1_ticksLeft at h
  obtain ⟨hsh, h⟩ := ck_out h
  refine MI_of (own := RX1) (by decide) rfl (Nat.le_of_ble_eq_true rfl) ?_
  intro p e s m args below meth c F S ls hl
  have hx := F.1
  have hb := F.2.1
  have hown := F.2.2.2.2.1
  have hts := F.2.2.2.2.2.1
  have hZ := F.2.2.2.2.2.2.2.2.2
  have hl : lv_has ls 1 [(0, .ref (G.2.1 a0))] := hl
  generalize s.heap = H, ([] : List Loc) = locs at S ⊢
  refine lv_aload_n (pc := 0) hx hb dX1_ticksLeft_0 rfl (lv_at hl 0 rfl) ?_
  obtain ⟨v1, e2, h⟩ := ob_out h
  refine r_gI (pc := 1) (k := 0) F S e2 (by decide) cl1 inRX1 (by decide) w76 (fun _ => rfl) dX1_ticksLeft_1 ?_
  refine lv_aload_n (pc := 4) hx hb dX1_ticksLeft_4 rfl (lv_at hl 0 rfl) ?_
  obtain ⟨v3, e4, h⟩ := ob_out h
  refine r_gI (pc := 5) (k := 1) F S e4 (by decide) cl1 inRX1 (by decide) w77 (fun _ => rfl) dX1_ticksLeft_5 ?_
  refine lv_isub (pc := 8) hx hb dX1_ticksLeft_8 ?_
  cases h
  exact r_iret (pc := 9) F S rfl dX1_ticksLeft_9
theorem mfX11_greatest : MF false yX11_greatest RX11 cX11_greatest 6 (some .int) 1 := ⟨w750, w1, by rw [if_neg (by decide)]; exact w749, ⟨by decide, by decide⟩, by decide +kernel⟩
set_option maxHeartbeats 4000000 in
theorem pX11_greatest_L10 {p : Program} {l : Launch} {e : Env} {s : State} {m : MethodId} {args : Array Value} {below : List Frame} {meth : Method} {c : Code} {Q : State → Prop} {G : GD} (F : FX p s m args meth c RX11 cX11_greatest 6 (some .int) G) : ∀ (n : Nat) {M N : Mem} {a1 : Int32} {a2 : Nat} {a3 : Int32} {a4 : Int32} {H : Heap} {locs : List Loc} {ls : Array Slot} {o1 : Int32}, ST G M N s H locs → lv_has ls 6 [(1, .int a1), (2, .ref (G.2.1 a2)), (3, .int a3), (4, .int a4)] → fX11_greatest_L10 n M a1 a2 a3 a4 = some o1 → (K1 : ∀ (H : Heap) (locs : List Loc) (ls : Array Slot), ST G M N s H locs → lv_has ls 6 [(1, .int o1)] → W p l e (Rm 1 21) s m args below meth c H locs 0 0 Q (F0 m 35 ls [])) → W p l e (Rm 1 21) s m args below meth c H locs 0 0 Q (F0 m 10 ls []) := by
  intro n
  induction n with
  | zero => intro M N a1 a2 a3 a4 H locs ls o1 S hl h K1; cases h
  | succ n ih =>
    intro M N a1 a2 a3 a4 H locs ls o1 S hl h K1
    rw [fX11_greatest_L10] at h
    have hx := F.1
    have hb := F.2.1
    have hown := F.2.2.2.2.1
    have hts := F.2.2.2.2.2.1
    have hZ := F.2.2.2.2.2.2.2.2.2
    refine lv_iload (pc := 10) hx hb dX11_greatest_10 (lv_at hl 3 rfl) ?_
    refine lv_iload_n (pc := 12) hx hb dX11_greatest_12 rfl (lv_at hl 2 rfl) ?_
    refine lv_icmp_ge (pc := 13) (tgt := 35) hx hb dX11_greatest_13 (by decide) (fun c3 => ?_) (fun c3 => ?_)
    · replace h := (if_pos c3).symm.trans h
      cases h
      exact K1 H locs ls S (lv_sub hl [0] rfl)
    · replace h := (if_neg c3).symm.trans h
      refine lv_aload_n (pc := 16) hx hb dX11_greatest_16 rfl (lv_at hl 1 rfl) ?_
      refine lv_iload (pc := 17) hx hb dX11_greatest_17 (lv_at hl 3 rfl) ?_
      obtain ⟨v4, e5, h⟩ := ob_out h
      refine r_aL (pc := 19) F S e5 dX11_greatest_19 ?_
      refine lv_istore (pc := 20) (lv' := [(5, .int v4), (1, .int a1), (2, .ref (G.2.1 a2)), (3, .int a3), (4, .int a4)]) hx hb dX11_greatest_20 hl (by decide) rfl (fun ls hl => ?_)
      refine lv_iload_n (pc := 22) hx hb dX11_greatest_22 rfl (lv_at hl 1 rfl) ?_
      refine lv_iload (pc := 23) hx hb dX11_greatest_23 (lv_at hl 0 rfl) ?_
      refine c_max (pc := 25) F w457 w458 w14 w459 (Nat.le_of_ble_eq_true rfl) hl.1 (Nat.le_of_ble_eq_true rfl) dX11_greatest_25 ?_
      obtain ⟨v6, e7, h⟩ := lt1_out h
      refine nm_i e7 ?_
      refine lv_istore_n (pc := 28) (lv' := [(1, .int v6), (5, .int v4), (2, .ref (G.2.1 a2)), (3, .int a3), (4, .int a4)]) hx hb dX11_greatest_28 rfl hl (by decide) rfl (fun ls hl => ?_)
      refine lv_iinc (pc := 29) (lv' := [(4, .int (a4 + 1)), (1, .int v6), (5, .int v4), (2, .ref (G.2.1 a2)), (3, .int a3)]) hx hb dX11_greatest_29 hl (k := 4) rfl (iinc_n (by decide)) (by decide) rfl (fun ls hl => ?_)
      refine lv_goto (pc := 32) (tgt := 10) hx hb dX11_greatest_32 (by decide) ?_
      exact ih S (lv_sub hl [1, 3, 4, 0] rfl) h K1
set_option maxHeartbeats 4000000 in
theorem tX11_greatest {l : Launch} {G : GD} {M N : Mem} {a0 : Nat} {r : Int32} (h : fX11_greatest M a0 = some r) : MI l yX11_greatest cX11_greatest 6 .int 1 21 G [.ref (G.2.1 a0)] M N r M N := by
  unfold fX11_greatest at h
  refine MI_of (own := RX11) (by decide) rfl (Nat.le_of_ble_eq_true rfl) ?_
  intro p e s m args below meth c F S ls hl
  have hx := F.1
  have hb := F.2.1
  have hown := F.2.2.2.2.1
  have hts := F.2.2.2.2.2.1
  have hZ := F.2.2.2.2.2.2.2.2.2
  have hl : lv_has ls 6 [(0, .ref (G.2.1 a0))] := hl
  generalize s.heap = H, ([] : List Loc) = locs at S ⊢
  refine lv_iconst (pc := 0) (v := 0) hx hb dX11_greatest_0 (by decide) ?_
  refine lv_istore_n (pc := 1) (lv' := [(1, .int 0), (0, .ref (G.2.1 a0))]) hx hb dX11_greatest_1 rfl hl (by decide) rfl (fun ls hl => ?_)
  refine lv_aload_n (pc := 2) hx hb dX11_greatest_2 rfl (lv_at hl 1 rfl) ?_
  refine lv_astore_n (pc := 3) (lv' := [(2, .ref (G.2.1 a0)), (1, .int 0), (0, .ref (G.2.1 a0))]) hx hb dX11_greatest_3 rfl hl (by decide) rfl (fun ls hl => ?_)
  refine lv_aload_n (pc := 4) hx hb dX11_greatest_4 rfl (lv_at hl 0 rfl) ?_
  obtain ⟨v1, e2, h⟩ := ob_out h
  refine r_aN (pc := 5) F S e2 (by decide) dX11_greatest_5 ?_
  refine lv_istore_n (pc := 6) (lv' := [(3, .int v1), (2, .ref (G.2.1 a0)), (1, .int 0), (0, .ref (G.2.1 a0))]) hx hb dX11_greatest_6 rfl hl (by decide) rfl (fun ls hl => ?_)
  refine lv_iconst (pc := 7) (v := 0) hx hb dX11_greatest_7 (by decide) ?_
  refine lv_istore (pc := 8) (lv' := [(4, .int 0), (3, .int v1), (2, .ref (G.2.1 a0)), (1, .int 0), (0, .ref (G.2.1 a0))]) hx hb dX11_greatest_8 hl (by decide) rfl (fun ls hl => ?_)
  obtain ⟨v3, e4, h⟩ := ob_out h
  refine pX11_greatest_L10 F 5000 S (lv_sub hl [3, 2, 1, 0] rfl) e4 (fun H locs ls S hl => ?_)
  refine lv_iload_n (pc := 35) hx hb dX11_greatest_35 rfl (lv_at hl 0 rfl) ?_
  cases h
  exact r_iret (pc := 36) F S rfl dX11_greatest_36
theorem mfX11_least : MF false yX11_least RX11 cX11_least 6 (some .int) 1 := ⟨w753, w1, by rw [if_neg (by decide)]; exact w752, ⟨by decide, by decide⟩, by decide +kernel⟩
set_option maxHeartbeats 4000000 in
theorem pX11_least_L21 {p : Program} {l : Launch} {e : Env} {s : State} {m : MethodId} {args : Array Value} {below : List Frame} {meth : Method} {c : Code} {Q : State → Prop} {G : GD} (F : FX p s m args meth c RX11 cX11_least 6 (some .int) G) : ∀ (n : Nat) {M N : Mem} {a1 : Int32} {a2 : Nat} {a3 : Int32} {a4 : Int32} {H : Heap} {locs : List Loc} {ls : Array Slot} {o1 : Int32}, ST G M N s H locs → lv_has ls 6 [(1, .int a1), (2, .ref (G.2.1 a2)), (3, .int a3), (4, .int a4)] → fX11_least_L21 n M a1 a2 a3 a4 = some o1 → (K1 : ∀ (H : Heap) (locs : List Loc) (ls : Array Slot), ST G M N s H locs → lv_has ls 6 [(1, .int o1)] → W p l e (Rm 1 21) s m args below meth c H locs 0 0 Q (F0 m 46 ls [])) → W p l e (Rm 1 21) s m args below meth c H locs 0 0 Q (F0 m 21 ls []) := by
  intro n
  induction n with
  | zero => intro M N a1 a2 a3 a4 H locs ls o1 S hl h K1; cases h
  | succ n ih =>
    intro M N a1 a2 a3 a4 H locs ls o1 S hl h K1
    rw [fX11_least_L21] at h
    have hx := F.1
    have hb := F.2.1
    have hown := F.2.2.2.2.1
    have hts := F.2.2.2.2.2.1
    have hZ := F.2.2.2.2.2.2.2.2.2
    refine lv_iload (pc := 21) hx hb dX11_least_21 (lv_at hl 3 rfl) ?_
    refine lv_iload_n (pc := 23) hx hb dX11_least_23 rfl (lv_at hl 2 rfl) ?_
    refine lv_icmp_ge (pc := 24) (tgt := 46) hx hb dX11_least_24 (by decide) (fun c8 => ?_) (fun c8 => ?_)
    · replace h := (if_pos c8).symm.trans h
      cases h
      exact K1 H locs ls S (lv_sub hl [0] rfl)
    · replace h := (if_neg c8).symm.trans h
      refine lv_aload_n (pc := 27) hx hb dX11_least_27 rfl (lv_at hl 1 rfl) ?_
      refine lv_iload (pc := 28) hx hb dX11_least_28 (lv_at hl 3 rfl) ?_
      obtain ⟨v9, e10, h⟩ := ob_out h
      refine r_aL (pc := 30) F S e10 dX11_least_30 ?_
      refine lv_istore (pc := 31) (lv' := [(5, .int v9), (1, .int a1), (2, .ref (G.2.1 a2)), (3, .int a3), (4, .int a4)]) hx hb dX11_least_31 hl (by decide) rfl (fun ls hl => ?_)
      refine lv_iload_n (pc := 33) hx hb dX11_least_33 rfl (lv_at hl 1 rfl) ?_
      refine lv_iload (pc := 34) hx hb dX11_least_34 (lv_at hl 0 rfl) ?_
      refine c_min (pc := 36) F w754 w755 w14 w756 (Nat.le_of_ble_eq_true rfl) hl.1 (Nat.le_of_ble_eq_true rfl) dX11_least_36 ?_
      obtain ⟨v11, e12, h⟩ := lt1_out h
      refine nm_i e12 ?_
      refine lv_istore_n (pc := 39) (lv' := [(1, .int v11), (5, .int v9), (2, .ref (G.2.1 a2)), (3, .int a3), (4, .int a4)]) hx hb dX11_least_39 rfl hl (by decide) rfl (fun ls hl => ?_)
      refine lv_iinc (pc := 40) (lv' := [(4, .int (a4 + 1)), (1, .int v11), (5, .int v9), (2, .ref (G.2.1 a2)), (3, .int a3)]) hx hb dX11_least_40 hl (k := 4) rfl (iinc_n (by decide)) (by decide) rfl (fun ls hl => ?_)
      refine lv_goto (pc := 43) (tgt := 21) hx hb dX11_least_43 (by decide) ?_
      exact ih S (lv_sub hl [1, 3, 4, 0] rfl) h K1
set_option maxHeartbeats 4000000 in
theorem tX11_least {l : Launch} {G : GD} {M N : Mem} {a0 : Nat} {r : Int32} (h : fX11_least M a0 = some r) : MI l yX11_least cX11_least 6 .int 1 21 G [.ref (G.2.1 a0)] M N r M N := by
  unfold fX11_least at h
  refine MI_of (own := RX11) (by decide) rfl (Nat.le_of_ble_eq_true rfl) ?_
  intro p e s m args below meth c F S ls hl
  have hx := F.1
  have hb := F.2.1
  have hown := F.2.2.2.2.1
  have hts := F.2.2.2.2.2.1
  have hZ := F.2.2.2.2.2.2.2.2.2
  have hl : lv_has ls 6 [(0, .ref (G.2.1 a0))] := hl
  generalize s.heap = H, ([] : List Loc) = locs at S ⊢
  refine lv_aload_n (pc := 0) hx hb dX11_least_0 rfl (lv_at hl 0 rfl) ?_
  obtain ⟨v1, e2, h⟩ := ob_out h
  refine r_aN (pc := 1) F S e2 (by decide) dX11_least_1 ?_
  obtain ⟨v3, d4, h⟩ := ob_out h
  have J5 : ∀ (H : Heap) (locs : List Loc) (ls : Array Slot), ST G M N s H locs → lv_has ls 6 [(0, .ref (G.2.1 a0))] → W p l e (Rm 1 21) s m args below meth c H locs 0 0 (MQ below (va_Qi (fun r' (_ : Unit) => r' = r) (fun _ t => Wd G M N t) (AG G.2.1)) args s 0 0 (AG G.2.1)) (F0 m 12 ls [.int v3]) := by
    intro H locs ls S hl
    refine lv_istore_n (pc := 12) (lv' := [(1, .int v3), (0, .ref (G.2.1 a0))]) hx hb dX11_least_12 rfl hl (by decide) rfl (fun ls hl => ?_)
    refine lv_aload_n (pc := 13) hx hb dX11_least_13 rfl (lv_at hl 1 rfl) ?_
    refine lv_astore_n (pc := 14) (lv' := [(2, .ref (G.2.1 a0)), (1, .int v3), (0, .ref (G.2.1 a0))]) hx hb dX11_least_14 rfl hl (by decide) rfl (fun ls hl => ?_)
    refine lv_aload_n (pc := 15) hx hb dX11_least_15 rfl (lv_at hl 0 rfl) ?_
    obtain ⟨v6, e7, h⟩ := ob_out h
    refine r_aN (pc := 16) F S e7 (by decide) dX11_least_16 ?_
    refine lv_istore_n (pc := 17) (lv' := [(3, .int v6), (2, .ref (G.2.1 a0)), (1, .int v3), (0, .ref (G.2.1 a0))]) hx hb dX11_least_17 rfl hl (by decide) rfl (fun ls hl => ?_)
    refine lv_iconst (pc := 18) (v := 0) hx hb dX11_least_18 (by decide) ?_
    refine lv_istore (pc := 19) (lv' := [(4, .int 0), (3, .int v6), (2, .ref (G.2.1 a0)), (1, .int v3), (0, .ref (G.2.1 a0))]) hx hb dX11_least_19 hl (by decide) rfl (fun ls hl => ?_)
    obtain ⟨v8, e9, h⟩ := ob_out h
    refine pX11_least_L21 F 5000 S (lv_sub hl [3, 2, 1, 0] rfl) e9 (fun H locs ls S hl => ?_)
    refine lv_iload_n (pc := 46) hx hb dX11_least_46 rfl (lv_at hl 0 rfl) ?_
    cases h
    exact r_iret (pc := 47) F S rfl dX11_least_47
  refine lv_if_le (pc := 2) (tgt := 11) hx hb dX11_least_2 (by decide) (fun c10 => ?_) (fun c10 => ?_)
  · replace d4 := (if_pos c10).symm.trans d4
    refine lv_iconst (pc := 11) (v := 0) hx hb dX11_least_11 (by decide) ?_
    cases d4
    exact J5 H locs ls S (lv_sub hl [0] rfl)
  · replace d4 := (if_neg c10).symm.trans d4
    refine lv_aload_n (pc := 5) hx hb dX11_least_5 rfl (lv_at hl 0 rfl) ?_
    refine lv_iconst (pc := 6) (v := 0) hx hb dX11_least_6 (by decide) ?_
    obtain ⟨v11, e12, d4⟩ := ob_out d4
    refine r_aL (pc := 7) F S e12 dX11_least_7 ?_
    refine lv_goto (pc := 8) (tgt := 12) hx hb dX11_least_8 (by decide) ?_
    cases d4
    exact J5 H locs ls S (lv_sub hl [0] rfl)
