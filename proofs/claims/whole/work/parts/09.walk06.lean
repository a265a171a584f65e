/-! the walks: each method does what its function says -/
theorem mfX11_ifGo : MF true yX11_ifGo RX11 cX11_ifGo 5 (some .int) 3 := ⟨w819, w1, by rw [if_pos rfl]; exact ⟨w817, w818⟩, ⟨by decide, by decide⟩, by decide +kernel⟩
set_option maxHeartbeats 4000000 in
theorem tX11_ifGo {l : Launch} {G : GD} {M N Mo : Mem} {a1 : Int32} {a2 : Int32} {a3 : Int32} {r : Int32} (h : fX11_ifGo M a1 a2 a3 = some (r, Mo)) : MI l yX11_ifGo cX11_ifGo 5 .int 6 142 G [.ref (G.2.1 10), .int a1, .int a2, .int a3] M N r Mo N := by
  unfold fX11_ifGo at h
  refine MI_of (own := RX11) (by decide) rfl (Nat.le_of_ble_eq_true rfl) ?_
  intro p e s m args below meth c F S ls hl
  have hx := F.1
  have hb := F.2.1
  have hown := F.2.2.2.2.1
  have hts := F.2.2.2.2.2.1
  have hZ := F.2.2.2.2.2.2.2.2.2
  have hl : lv_has ls 5 [(0, .ref (G.2.1 10)), (1, .int a1), (2, .int a2), (3, .int a3)] := hl
  generalize s.heap = H, ([] : List Loc) = locs at S ⊢
  refine lv_aload_n (pc := 0) hx hb dX11_ifGo_0 rfl (lv_at hl 0 rfl) ?_
  refine r_gR (pc := 1) (k := 0) (x := 34) (i := 10) (ci := 11) F S (by decide) (by decide) cl11 inRX11 (by decide) w319 (fun _ => rfl) dX11_ifGo_1 ?_
  refine lv_iload_n (pc := 4) hx hb dX11_ifGo_4 rfl (lv_at hl 1 rfl) ?_
  obtain ⟨r2, e1, h⟩ := ob_out h
  refine c_vO (pc := 5) (rest := []) F S (tX7_find e1) mfX7_find (by decide) (by decide) cl7 w410 ⟨Nat.le_of_ble_eq_true rfl, Nat.le_of_ble_eq_true rfl⟩ rfl hl.1 rfl (Nat.le_of_ble_eq_true rfl) dX11_ifGo_5 (fun H locs S => ?_)
  cases r2 with
  | none =>
    replace h := caseO_n h
    refine W.eq (g2 := F0 m 8 ls (.null :: [])) rfl ?_
    refine lv_astoreN (pc := 8) (lv' := [(4, .null), (0, .ref (G.2.1 10)), (1, .int a1), (2, .int a2), (3, .int a3)]) hx hb dX11_ifGo_8 hl (by decide) rfl (fun ls hl => ?_)
    refine lv_aloadN (pc := 10) hx hb dX11_ifGo_10 (lv_at hl 0 rfl) ?_
    refine lv_ifnullN (pc := 12) (tgt := 22) hx hb dX11_ifGo_12 (by decide) ?_
    refine lv_iconst (pc := 22) (v := (-1)) hx hb dX11_ifGo_22 (by decide) ?_
    cases h
    exact r_iret (pc := 23) F S rfl dX11_ifGo_23
  | some x3 =>
    replace h := caseO_s h
    refine W.eq (g2 := F0 m 8 ls (.ref (G.2.1 x3) :: [])) rfl ?_
    refine lv_astore (pc := 8) (lv' := [(4, .ref (G.2.1 x3)), (0, .ref (G.2.1 10)), (1, .int a1), (2, .int a2), (3, .int a3)]) hx hb dX11_ifGo_8 hl (by decide) rfl (fun ls hl => ?_)
    refine lv_aload (pc := 10) hx hb dX11_ifGo_10 (lv_at hl 0 rfl) ?_
    refine lv_ifnull (pc := 12) hx hb dX11_ifGo_12 ?_
    refine lv_iload_n (pc := 15) hx hb dX11_ifGo_15 rfl (lv_at hl 3 rfl) ?_
    obtain ⟨v5, e4, h⟩ := ob_out h
    refine c_sI (pc := 16) (rest := []) F S (tX11_isCue e4) mfX11_isCue w550 ⟨Nat.le_of_ble_eq_true rfl, Nat.le_of_ble_eq_true rfl⟩ rfl hl.1 rfl (Nat.le_of_ble_eq_true rfl) dX11_ifGo_16 (fun H locs S => ?_)
    refine lv_if_ne (pc := 19) (tgt := 24) hx hb dX11_ifGo_19 (by decide) (fun c6 => ?_) (fun c6 => ?_)
    · replace h := (if_neg c6).symm.trans h
      refine lv_iload_n (pc := 24) hx hb dX11_ifGo_24 rfl (lv_at hl 4 rfl) ?_
      refine lv_iconst (pc := 25) (v := 0) hx hb dX11_ifGo_25 (by decide) ?_
      refine lv_iconst (pc := 26) (v := 3) hx hb dX11_ifGo_26 (by decide) ?_
      obtain ⟨v8, e7, h⟩ := ob_out h
      refine c_sI (pc := 27) (rest := []) F S (tX11_isIn e7) mfX11_isIn w353 ⟨Nat.le_of_ble_eq_true rfl, Nat.le_of_ble_eq_true rfl⟩ rfl hl.1 rfl (Nat.le_of_ble_eq_true rfl) dX11_ifGo_27 (fun H locs S => ?_)
      refine lv_if_ne (pc := 30) (tgt := 36) hx hb dX11_ifGo_30 (by decide) (fun c9 => ?_) (fun c9 => ?_)
      · replace h := (if_neg c9).symm.trans h
        refine lv_aload (pc := 36) hx hb dX11_ifGo_36 (lv_at hl 0 rfl) ?_
        refine lv_iload_n (pc := 38) hx hb dX11_ifGo_38 rfl (lv_at hl 3 rfl) ?_
        obtain ⟨v11, e10, h⟩ := ob_out h
        refine c_vI (pc := 39) (rest := []) F S (tX6_isRecorded e10) mfX6_isRecorded (sX6_isRecorded e10) (by decide) cl6 w570 ⟨Nat.le_of_ble_eq_true rfl, Nat.le_of_ble_eq_true rfl⟩ rfl hl.1 rfl (Nat.le_of_ble_eq_true rfl) dX11_ifGo_39 (fun H locs S => ?_)
        refine lv_if_ne (pc := 42) (tgt := 48) hx hb dX11_ifGo_42 (by decide) (fun c12 => ?_) (fun c12 => ?_)
        · replace h := (if_neg c12).symm.trans h
          refine lv_aload_n (pc := 48) hx hb dX11_ifGo_48 rfl (lv_at hl 1 rfl) ?_
          refine r_gR (pc := 49) (k := 8) (x := 33) (i := 10) (ci := 11) F S (by decide) (by decide) cl11 inRX11 (by decide) w327 (fun _ => rfl) dX11_ifGo_49 ?_
          refine lv_aload_n (pc := 52) hx hb dX11_ifGo_52 rfl (lv_at hl 1 rfl) ?_
          refine r_gR (pc := 53) (k := 0) (x := 34) (i := 10) (ci := 11) F S (by decide) (by decide) cl11 inRX11 (by decide) w319 (fun _ => rfl) dX11_ifGo_53 ?_
          refine lv_aload (pc := 56) hx hb dX11_ifGo_56 (lv_at hl 0 rfl) ?_
          refine lv_iload_n (pc := 58) hx hb dX11_ifGo_58 rfl (lv_at hl 3 rfl) ?_
          refine lv_aload_n (pc := 59) hx hb dX11_ifGo_59 rfl (lv_at hl 1 rfl) ?_
          refine r_gR (pc := 60) (k := 6) (x := 23) (i := 10) (ci := 11) F S (by decide) (by decide) cl11 inRX11 (by decide) w325 (fun _ => rfl) dX11_ifGo_60 ?_
          obtain ⟨M14, e13, h⟩ := ob_out h
          refine c_vV (pc := 63) (rest := []) F S (tX8_playToTheEnd e13) mfX8_playToTheEnd (by decide) (by decide) cl8 w820 ⟨Nat.le_of_ble_eq_true rfl, Nat.le_of_ble_eq_true rfl⟩ rfl hl.1 rfl (Nat.le_of_ble_eq_true rfl) dX11_ifGo_63 (fun H locs S => ?_)
          refine lv_iload_n (pc := 66) hx hb dX11_ifGo_66 rfl (lv_at hl 4 rfl) ?_
          rcases Classical.em (a3 = 0) with c15 | c15
          · replace h := (if_pos c15).symm.trans h
            refine lv_tableIn (pc := 67) (tgt := 92) hx hb dX11_ifGo_67 (by rw [c15]; decide) (by rw [c15]; decide) (off := 25) (by rw [c15]; rfl) (by decide) ?_
            refine lv_aload_n (pc := 92) hx hb dX11_ifGo_92 rfl (lv_at hl 1 rfl) ?_
            refine r_gR (pc := 93) (k := 8) (x := 33) (i := 10) (ci := 11) F S (by decide) (by decide) cl11 inRX11 (by decide) w327 (fun _ => rfl) dX11_ifGo_93 ?_
            obtain ⟨v16, e17, h⟩ := ob_out h
            refine r_gI (pc := 96) (k := 1) F S e17 (by decide) cl8 inRX8 (by decide) w301 (fun _ => rfl) dX11_ifGo_96 ?_
            cases h
            exact r_iret (pc := 99) F S rfl dX11_ifGo_99
          replace h := (if_neg c15).symm.trans h
          rcases Classical.em (a3 = 1) with c18 | c18
          · replace h := (if_pos c18).symm.trans h
            refine lv_tableIn (pc := 67) (tgt := 100) hx hb dX11_ifGo_67 (by rw [c18]; decide) (by rw [c18]; decide) (off := 33) (by rw [c18]; rfl) (by decide) ?_
            refine lv_aload_n (pc := 100) hx hb dX11_ifGo_100 rfl (lv_at hl 1 rfl) ?_
            refine r_gR (pc := 101) (k := 8) (x := 33) (i := 10) (ci := 11) F S (by decide) (by decide) cl11 inRX11 (by decide) w327 (fun _ => rfl) dX11_ifGo_101 ?_
            obtain ⟨v19, e20, h⟩ := ob_out h
            refine r_gI (pc := 104) (k := 2) F S e20 (by decide) cl8 inRX8 (by decide) w303 (fun _ => rfl) dX11_ifGo_104 ?_
            cases h
            exact r_iret (pc := 107) F S rfl dX11_ifGo_107
          replace h := (if_neg c18).symm.trans h
          rcases Classical.em (a3 = 2) with c21 | c21
          · replace h := (if_pos c21).symm.trans h
            refine lv_tableIn (pc := 67) (tgt := 108) hx hb dX11_ifGo_67 (by rw [c21]; decide) (by rw [c21]; decide) (off := 41) (by rw [c21]; rfl) (by decide) ?_
            refine lv_aload_n (pc := 108) hx hb dX11_ifGo_108 rfl (lv_at hl 1 rfl) ?_
            refine r_gR (pc := 109) (k := 8) (x := 33) (i := 10) (ci := 11) F S (by decide) (by decide) cl11 inRX11 (by decide) w327 (fun _ => rfl) dX11_ifGo_109 ?_
            obtain ⟨v22, e23, h⟩ := ob_out h
            refine r_gI (pc := 112) (k := 3) F S e23 (by decide) cl8 inRX8 (by decide) w305 (fun _ => rfl) dX11_ifGo_112 ?_
            cases h
            exact r_iret (pc := 115) F S rfl dX11_ifGo_115
          replace h := (if_neg c21).symm.trans h
          refine lv_tableOut (pc := 67) (tgt := 116) hx hb dX11_ifGo_67 (tbl_out (fun k h1 h2 => ?_)) (by decide) ?_
          · rcases (show k = 0 ∨ k = 1 ∨ k = 2 by omega) with rfl | rfl | rfl
            · exact lv_neT c15 (by decide)
            · exact lv_neT c18 (by decide)
            · exact lv_neT c21 (by decide)
          refine lv_aload_n (pc := 116) hx hb dX11_ifGo_116 rfl (lv_at hl 1 rfl) ?_
          refine r_gR (pc := 117) (k := 8) (x := 33) (i := 10) (ci := 11) F S (by decide) (by decide) cl11 inRX11 (by decide) w327 (fun _ => rfl) dX11_ifGo_117 ?_
          obtain ⟨v24, e25, h⟩ := ob_out h
          refine r_gI (pc := 120) (k := 4) F S e25 (by decide) cl8 inRX8 (by decide) w307 (fun _ => rfl) dX11_ifGo_120 ?_
          cases h
          exact r_iret (pc := 123) F S rfl dX11_ifGo_123
        · replace h := (if_pos c12).symm.trans h
          refine lv_bipush (pc := 45) (v := (-5)) hx hb dX11_ifGo_45 (by decide) ?_
          cases h
          exact r_iret (pc := 47) F S rfl dX11_ifGo_47
      · replace h := (if_pos c9).symm.trans h
        refine lv_bipush (pc := 33) (v := (-2)) hx hb dX11_ifGo_33 (by decide) ?_
        cases h
        exact r_iret (pc := 35) F S rfl dX11_ifGo_35
    · replace h := (if_pos c6).symm.trans h
      refine lv_iconst (pc := 22) (v := (-1)) hx hb dX11_ifGo_22 (by decide) ?_
      cases h
      exact r_iret (pc := 23) F S rfl dX11_ifGo_23
theorem mfX8_isSafe : MF true yX8_isSafe RX8 cX8_isSafe 7 (some .boolean) 5 := ⟨w841, w12, by rw [if_pos rfl]; exact ⟨w839, w840⟩, ⟨by decide, by decide⟩, by decide +kernel⟩
set_option maxHeartbeats 4000000 in
theorem pX8_isSafe_L11 {p : Program} {l : Launch} {e : Env} {s : State} {m : MethodId} {args : Array Value} {below : List Frame} {meth : Method} {c : Code} {Q : State → Prop} {G : GD} (F : FX p s m args meth c RX8 cX8_isSafe 7 (some .boolean) G) : ∀ (n : Nat) {M N : Mem} {a1 : Nat} {a4 : Int32} {a5 : Nat} {a6 : Int32} {H : Heap} {locs : List Loc} {ls : Array Slot} {z : (Mem) ⊕ (Int32 × Mem)}, ST G M N s H locs → lv_has ls 7 [(0, .ref (G.2.1 33)), (1, .ref (G.2.1 a1)), (4, .int a4), (5, .ref (G.2.1 a5)), (6, .int a6)] → fX8_isSafe_L11 n M a1 a4 a5 a6 = some z → (K1 : ∀ (Mo : Mem), z = .inl Mo → ∀ (H : Heap) (locs : List Loc) (ls : Array Slot), ST G Mo N s H locs → lv_has ls 7 [] → W p l e (Rm 5 115) s m args below meth c H locs 0 0 Q (F0 m 46 ls [])) → (K2 : ∀ (r : Int32) (Mr : Mem), z = .inr (r, Mr) → ∀ (H : Heap) (locs : List Loc) (ls : Array Slot) (pcr : Nat), ST G Mr N s H locs → decode cX8_isSafe pcr = .ok (.ireturn, 1) → W p l e (Rm 5 115) s m args below meth c H locs 0 0 Q (F0 m pcr ls [.int r])) → W p l e (Rm 5 115) s m args below meth c H locs 0 0 Q (F0 m 11 ls []) := by
  intro n
  induction n with
  | zero => intro M N a1 a4 a5 a6 H locs ls z S hl h K1 K2; cases h
  | succ n ih =>
    intro M N a1 a4 a5 a6 H locs ls z S hl h K1 K2
    rw [fX8_isSafe_L11] at h
    have hx := F.1
    have hb := F.2.1
    have hown := F.2.2.2.2.1
    have hts := F.2.2.2.2.2.1
    have hZ := F.2.2.2.2.2.2.2.2.2
    refine lv_iload (pc := 11) hx hb dX8_isSafe_11 (lv_at hl 4 rfl) ?_
    refine lv_iload (pc := 13) hx hb dX8_isSafe_13 (lv_at hl 2 rfl) ?_
    refine lv_aload_n (pc := 15) hx hb dX8_isSafe_15 rfl (lv_at hl 1 rfl) ?_
    obtain ⟨x3, e4, h⟩ := ob_out h
    refine r_gR (pc := 16) (k := 0) F S e4 (by decide) cl7 inRX7 (by decide) w164 (fun _ => rfl) dX8_isSafe_16 ?_
    refine lv_iconst (pc := 19) (v := 2) hx hb dX8_isSafe_19 (by decide) ?_
    obtain ⟨v5, e6, h⟩ := ob_out h
    refine r_aL (pc := 20) F S e6 dX8_isSafe_20 ?_
    refine lv_iadd (pc := 21) hx hb dX8_isSafe_21 ?_
    refine lv_icmp_gt (pc := 22) (tgt := 46) hx hb dX8_isSafe_22 (by decide) (fun c7 => ?_) (fun c7 => ?_)
    · replace h := (if_pos c7).symm.trans h
      cases h
      exact K1 _ rfl H locs ls S (lv_sub hl [] rfl)
    · replace h := (if_neg c7).symm.trans h
      refine lv_aload_n (pc := 25) hx hb dX8_isSafe_25 rfl (lv_at hl 0 rfl) ?_
      refine r_gR (pc := 26) (k := 0) (x := 718) (i := 33) (ci := 8) F S (by decide) (by decide) cl8 inRX8 (by decide) w299 (fun _ => rfl) dX8_isSafe_26 ?_
      refine lv_aload_n (pc := 29) hx hb dX8_isSafe_29 rfl (lv_at hl 1 rfl) ?_
      refine lv_aload (pc := 30) hx hb dX8_isSafe_30 (lv_at hl 3 rfl) ?_
      obtain ⟨v9, M10, e8, h⟩ := ob2_out h
      refine c_vI (pc := 32) (rest := []) F S (tX6_passTick e8) mfX6_passTick (by decide) (by decide) cl6 w831 ⟨Nat.le_of_ble_eq_true rfl, Nat.le_of_ble_eq_true rfl⟩ rfl hl.1 rfl (Nat.le_of_ble_eq_true rfl) dX8_isSafe_32 (fun H locs S => ?_)
      refine lv_if_le (pc := 35) (tgt := 40) hx hb dX8_isSafe_35 (by decide) (fun c11 => ?_) (fun c11 => ?_)
      · replace h := (if_pos c11).symm.trans h
        refine lv_iinc (pc := 40) (lv' := [(6, .int (a6 + 1)), (0, .ref (G.2.1 33)), (1, .ref (G.2.1 a1)), (4, .int a4), (5, .ref (G.2.1 a5))]) hx hb dX8_isSafe_40 hl (k := 4) rfl (iinc_n (by decide)) (by decide) rfl (fun ls hl => ?_)
        refine lv_goto (pc := 43) (tgt := 11) hx hb dX8_isSafe_43 (by decide) ?_
        exact ih S (lv_sub hl [1, 2, 3, 4, 0] rfl) h K1 K2
      · replace h := (if_neg c11).symm.trans h
        refine lv_iconst (pc := 38) (v := 0) hx hb dX8_isSafe_38 (by decide) ?_
        cases h
        exact K2 _ _ rfl H locs ls 39 S dX8_isSafe_39
set_option maxHeartbeats 4000000 in
theorem tX8_isSafe {l : Launch} {G : GD} {M N Mo : Mem} {a1 : Nat} {a2 : Nat} {a3 : Int32} {a4 : Int32} {a5 : Nat} {r : Int32} (h : fX8_isSafe M a1 a2 a3 a4 a5 = some (r, Mo)) : MI l yX8_isSafe cX8_isSafe 7 .boolean 5 115 G [.ref (G.2.1 33), .ref (G.2.1 a1), .ref (G.2.1 a2), .int a3, .int a4, .ref (G.2.1 a5)] M N r Mo N := by
  unfold fX8_isSafe at h
  refine MI_of (own := RX8) (by decide) rfl (Nat.le_of_ble_eq_true rfl) ?_
  intro p e s m args below meth c F S ls hl
  have hx := F.1
  have hb := F.2.1
  have hown := F.2.2.2.2.1
  have hts := F.2.2.2.2.2.1
  have hZ := F.2.2.2.2.2.2.2.2.2
  have hl : lv_has ls 7 [(0, .ref (G.2.1 33)), (1, .ref (G.2.1 a1)), (2, .ref (G.2.1 a2)), (3, .int a3), (4, .int a4), (5, .ref (G.2.1 a5))] := hl
  generalize s.heap = H, ([] : List Loc) = locs at S ⊢
  refine lv_aload_n (pc := 0) hx hb dX8_isSafe_0 rfl (lv_at hl 0 rfl) ?_
  refine lv_aload_n (pc := 1) hx hb dX8_isSafe_1 rfl (lv_at hl 2 rfl) ?_
  refine lv_iload_n (pc := 2) hx hb dX8_isSafe_2 rfl (lv_at hl 3 rfl) ?_
  refine lv_iload (pc := 3) hx hb dX8_isSafe_3 (lv_at hl 4 rfl) ?_
  obtain ⟨M2, e1, h⟩ := ob_out h
  refine c_vV (pc := 5) (rest := []) F S (tX8_begin e1) mfX8_begin (by decide) (by decide) cl8 w825 ⟨Nat.le_of_ble_eq_true rfl, Nat.le_of_ble_eq_true rfl⟩ rfl hl.1 rfl (Nat.le_of_ble_eq_true rfl) dX8_isSafe_5 (fun H locs S => ?_)
  refine lv_iconst (pc := 8) (v := 1) hx hb dX8_isSafe_8 (by decide) ?_
  refine lv_istore (pc := 9) (lv' := [(6, .int 1), (0, .ref (G.2.1 33)), (1, .ref (G.2.1 a1)), (2, .ref (G.2.1 a2)), (3, .int a3), (4, .int a4), (5, .ref (G.2.1 a5))]) hx hb dX8_isSafe_9 hl (by decide) rfl (fun ls hl => ?_)
  obtain ⟨z5, e4, h⟩ := ob_out h
  refine pX8_isSafe_L11 F 5000 S (lv_sub hl [1, 2, 5, 6, 0] rfl) e4 (fun M3 e6 H locs ls S hl => ?_) (fun v7 M8 e6 H locs ls pcr S hdr => ?_)
  rotate_left
  · subst e6
    replace h := caseS_r h
    obtain ⟨b9, e10, h⟩ := ob_out h
    cases h
    refine nm_i (bz_out e10).1 ?_
    exact r_iret F S (bool_narrow (by rw [← (bz_out e10).1]; exact (bz_out e10).2)).1 hdr
  subst e6
  replace h := caseS_l h
  refine lv_iconst (pc := 46) (v := 1) hx hb dX8_isSafe_46 (by decide) ?_
  cases h
  exact r_iret (pc := 47) F S rfl dX8_isSafe_47
theorem mfX11_safeTicks : MF true yX11_safeTicks RX11 cX11_safeTicks 5 (some .int) 2 := ⟨w837, w1, by rw [if_pos rfl]; exact ⟨w835, w836⟩, ⟨by decide, by decide⟩, by decide +kernel⟩
set_option maxHeartbeats 4000000 in
theorem pX11_safeTicks_L36 {p : Program} {l : Launch} {e : Env} {s : State} {m : MethodId} {args : Array Value} {below : List Frame} {meth : Method} {c : Code} {Q : State → Prop} {G : GD} (F : FX p s m args meth c RX11 cX11_safeTicks 5 (some .int) G) : ∀ (n : Nat) {M N : Mem} {a2 : Int32} {a3 : Nat} {a4 : Int32} {H : Heap} {locs : List Loc} {ls : Array Slot} {z : (Mem) ⊕ (Int32 × Mem)}, ST G M N s H locs → lv_has ls 5 [(0, .ref (G.2.1 10)), (2, .int a2), (3, .ref (G.2.1 a3)), (4, .int a4)] → fX11_safeTicks_L36 n M a2 a3 a4 = some z → (K1 : ∀ (Mo : Mem), z = .inl Mo → ∀ (H : Heap) (locs : List Loc) (ls : Array Slot), ST G Mo N s H locs → lv_has ls 5 [] → W p l e (Rm 6 141) s m args below meth c H locs 0 0 Q (F0 m 74 ls [])) → (K2 : ∀ (r : Int32) (Mr : Mem), z = .inr (r, Mr) → ∀ (H : Heap) (locs : List Loc) (ls : Array Slot) (pcr : Nat), ST G Mr N s H locs → decode cX11_safeTicks pcr = .ok (.ireturn, 1) → W p l e (Rm 6 141) s m args below meth c H locs 0 0 Q (F0 m pcr ls [.int r])) → W p l e (Rm 6 141) s m args below meth c H locs 0 0 Q (F0 m 36 ls []) := by
  intro n
  induction n with
  | zero => intro M N a2 a3 a4 H locs ls z S hl h K1 K2; cases h
  | succ n ih =>
    intro M N a2 a3 a4 H locs ls z S hl h K1 K2
    rw [fX11_safeTicks_L36] at h
    have hx := F.1
    have hb := F.2.1
    have hown := F.2.2.2.2.1
    have hts := F.2.2.2.2.2.1
    have hZ := F.2.2.2.2.2.2.2.2.2
    refine lv_iload (pc := 36) hx hb dX11_safeTicks_36 (lv_at hl 3 rfl) ?_
    refine lv_bipush (pc := 38) (v := 50) hx hb dX11_safeTicks_38 (by decide) ?_
    refine lv_icmp_gt (pc := 40) (tgt := 74) hx hb dX11_safeTicks_40 (by decide) (fun c10 => ?_) (fun c10 => ?_)
    · replace h := (if_pos c10).symm.trans h
      cases h
      exact K1 _ rfl H locs ls S (lv_sub hl [] rfl)
    · replace h := (if_neg c10).symm.trans h
      refine lv_aload_n (pc := 43) hx hb dX11_safeTicks_43 rfl (lv_at hl 0 rfl) ?_
      refine r_gR (pc := 44) (k := 8) (x := 33) (i := 10) (ci := 11) F S (by decide) (by decide) cl11 inRX11 (by decide) w327 (fun _ => rfl) dX11_safeTicks_44 ?_
      refine lv_aload_n (pc := 47) hx hb dX11_safeTicks_47 rfl (lv_at hl 0 rfl) ?_
      refine r_gR (pc := 48) (k := 0) (x := 34) (i := 10) (ci := 11) F S (by decide) (by decide) cl11 inRX11 (by decide) w319 (fun _ => rfl) dX11_safeTicks_48 ?_
      refine lv_aload_n (pc := 51) hx hb dX11_safeTicks_51 rfl (lv_at hl 2 rfl) ?_
      refine lv_iload_n (pc := 52) hx hb dX11_safeTicks_52 rfl (lv_at hl 1 rfl) ?_
      refine lv_iload (pc := 53) hx hb dX11_safeTicks_53 (lv_at hl 3 rfl) ?_
      refine lv_aload_n (pc := 55) hx hb dX11_safeTicks_55 rfl (lv_at hl 0 rfl) ?_
      refine r_gR (pc := 56) (k := 6) (x := 23) (i := 10) (ci := 11) F S (by decide) (by decide) cl11 inRX11 (by decide) w325 (fun _ => rfl) dX11_safeTicks_56 ?_
      obtain ⟨v12, M13, e11, h⟩ := ob2_out h
      refine c_vI (pc := 59) (rest := []) F S (tX8_isSafe e11) mfX8_isSafe (by decide) (by decide) cl8 w838 ⟨Nat.le_of_ble_eq_true rfl, Nat.le_of_ble_eq_true rfl⟩ rfl hl.1 rfl (Nat.le_of_ble_eq_true rfl) dX11_safeTicks_59 (fun H locs S => ?_)
      refine lv_if_eq (pc := 62) (tgt := 68) hx hb dX11_safeTicks_62 (by decide) (fun c14 => ?_) (fun c14 => ?_)
      · replace h := (if_pos c14).symm.trans h
        refine lv_iinc (pc := 68) (lv' := [(4, .int (a4 + 1)), (0, .ref (G.2.1 10)), (2, .int a2), (3, .ref (G.2.1 a3))]) hx hb dX11_safeTicks_68 hl (k := 3) rfl (iinc_n (by decide)) (by decide) rfl (fun ls hl => ?_)
        refine lv_goto (pc := 71) (tgt := 36) hx hb dX11_safeTicks_71 (by decide) ?_
        exact ih S (lv_sub hl [1, 2, 3, 0] rfl) h K1 K2
      · replace h := (if_neg c14).symm.trans h
        refine lv_iload (pc := 65) hx hb dX11_safeTicks_65 (lv_at hl 3 rfl) ?_
        cases h
        exact K2 _ _ rfl H locs ls 67 S dX11_safeTicks_67
set_option maxHeartbeats 4000000 in
theorem tX11_safeTicks {l : Launch} {G : GD} {M N Mo : Mem} {a1 : Int32} {a2 : Int32} {r : Int32} (h : fX11_safeTicks M a1 a2 = some (r, Mo)) : MI l yX11_safeTicks cX11_safeTicks 5 .int 6 141 G [.ref (G.2.1 10), .int a1, .int a2] M N r Mo N := by
  unfold fX11_safeTicks at h
  refine MI_of (own := RX11) (by decide) rfl (Nat.le_of_ble_eq_true rfl) ?_
  intro p e s m args below meth c F S ls hl
  have hx := F.1
  have hb := F.2.1
  have hown := F.2.2.2.2.1
  have hts := F.2.2.2.2.2.1
  have hZ := F.2.2.2.2.2.2.2.2.2
  have hl : lv_has ls 5 [(0, .ref (G.2.1 10)), (1, .int a1), (2, .int a2)] := hl
  generalize s.heap = H, ([] : List Loc) = locs at S ⊢
  refine lv_aload_n (pc := 0) hx hb dX11_safeTicks_0 rfl (lv_at hl 0 rfl) ?_
  refine r_gR (pc := 1) (k := 0) (x := 34) (i := 10) (ci := 11) F S (by decide) (by decide) cl11 inRX11 (by decide) w319 (fun _ => rfl) dX11_safeTicks_1 ?_
  refine lv_iload_n (pc := 4) hx hb dX11_safeTicks_4 rfl (lv_at hl 1 rfl) ?_
  obtain ⟨r2, e1, h⟩ := ob_out h
  refine c_vO (pc := 5) (rest := []) F S (tX7_find e1) mfX7_find (by decide) (by decide) cl7 w410 ⟨Nat.le_of_ble_eq_true rfl, Nat.le_of_ble_eq_true rfl⟩ rfl hl.1 rfl (Nat.le_of_ble_eq_true rfl) dX11_safeTicks_5 (fun H locs S => ?_)
  cases r2 with
  | none =>
    replace h := caseO_n h
    refine W.eq (g2 := F0 m 8 ls (.null :: [])) rfl ?_
    refine lv_astore_nN (pc := 8) (lv' := [(3, .null), (0, .ref (G.2.1 10)), (1, .int a1), (2, .int a2)]) hx hb dX11_safeTicks_8 rfl hl (by decide) rfl (fun ls hl => ?_)
    refine lv_aload_nN (pc := 9) hx hb dX11_safeTicks_9 rfl (lv_at hl 0 rfl) ?_
    refine lv_ifnullN (pc := 10) (tgt := 20) hx hb dX11_safeTicks_10 (by decide) ?_
    refine lv_iconst (pc := 20) (v := (-1)) hx hb dX11_safeTicks_20 (by decide) ?_
    cases h
    exact r_iret (pc := 21) F S rfl dX11_safeTicks_21
  | some x3 =>
    replace h := caseO_s h
    refine W.eq (g2 := F0 m 8 ls (.ref (G.2.1 x3) :: [])) rfl ?_
    refine lv_astore_n (pc := 8) (lv' := [(3, .ref (G.2.1 x3)), (0, .ref (G.2.1 10)), (1, .int a1), (2, .int a2)]) hx hb dX11_safeTicks_8 rfl hl (by decide) rfl (fun ls hl => ?_)
    refine lv_aload_n (pc := 9) hx hb dX11_safeTicks_9 rfl (lv_at hl 0 rfl) ?_
    refine lv_ifnull (pc := 10) hx hb dX11_safeTicks_10 ?_
    refine lv_iload_n (pc := 13) hx hb dX11_safeTicks_13 rfl (lv_at hl 3 rfl) ?_
    obtain ⟨v5, e4, h⟩ := ob_out h
    refine c_sI (pc := 14) (rest := []) F S (tX11_isCue e4) mfX11_isCue w550 ⟨Nat.le_of_ble_eq_true rfl, Nat.le_of_ble_eq_true rfl⟩ rfl hl.1 rfl (Nat.le_of_ble_eq_true rfl) dX11_safeTicks_14 (fun H locs S => ?_)
    refine lv_if_ne (pc := 17) (tgt := 22) hx hb dX11_safeTicks_17 (by decide) (fun c6 => ?_) (fun c6 => ?_)
    · replace h := (if_neg c6).symm.trans h
      refine lv_aload_n (pc := 22) hx hb dX11_safeTicks_22 rfl (lv_at hl 0 rfl) ?_
      refine lv_iload_n (pc := 23) hx hb dX11_safeTicks_23 rfl (lv_at hl 3 rfl) ?_
      obtain ⟨v8, e7, h⟩ := ob_out h
      refine c_vI (pc := 24) (rest := []) F S (tX6_isRecorded e7) mfX6_isRecorded (sX6_isRecorded e7) (by decide) cl6 w570 ⟨Nat.le_of_ble_eq_true rfl, Nat.le_of_ble_eq_true rfl⟩ rfl hl.1 rfl (Nat.le_of_ble_eq_true rfl) dX11_safeTicks_24 (fun H locs S => ?_)
      refine lv_if_ne (pc := 27) (tgt := 33) hx hb dX11_safeTicks_27 (by decide) (fun c9 => ?_) (fun c9 => ?_)
      · replace h := (if_neg c9).symm.trans h
        refine lv_iconst (pc := 33) (v := 1) hx hb dX11_safeTicks_33 (by decide) ?_
        refine lv_istore (pc := 34) (lv' := [(4, .int 1), (3, .ref (G.2.1 x3)), (0, .ref (G.2.1 10)), (1, .int a1), (2, .int a2)]) hx hb dX11_safeTicks_34 hl (by decide) rfl (fun ls hl => ?_)
        obtain ⟨z12, e11, h⟩ := ob_out h
        refine pX11_safeTicks_L36 F 5000 S (lv_sub hl [2, 4, 1, 0] rfl) e11 (fun M10 e13 H locs ls S hl => ?_) (fun v14 M15 e13 H locs ls pcr S hdr => ?_)
        rotate_left
        · subst e13
          replace h := caseS_r h
          cases h
          exact r_iret F S rfl hdr
        subst e13
        replace h := caseS_l h
        refine lv_bipush (pc := 74) (v := (-6)) hx hb dX11_safeTicks_74 (by decide) ?_
        cases h
        exact r_iret (pc := 76) F S rfl dX11_safeTicks_76
      · replace h := (if_pos c9).symm.trans h
        refine lv_bipush (pc := 30) (v := (-5)) hx hb dX11_safeTicks_30 (by decide) ?_
        cases h
        exact r_iret (pc := 32) F S rfl dX11_safeTicks_32
    · replace h := (if_pos c6).symm.trans h
      refine lv_iconst (pc := 20) (v := (-1)) hx hb dX11_safeTicks_20 (by decide) ?_
      cases h
      exact r_iret (pc := 21) F S rfl dX11_safeTicks_21
theorem mfX11_bestFeed : MF true yX11_bestFeed RX11 cX11_bestFeed 9 (some .int) 2 := ⟨w845, w1, by rw [if_pos rfl]; exact ⟨w843, w844⟩, ⟨by decide, by decide⟩, by decide +kernel⟩
set_option maxHeartbeats 4000000 in
theorem pX11_bestFeed_L39 {p : Program} {l : Launch} {e : Env} {s : State} {m : MethodId} {args : Array Value} {below : List Frame} {meth : Method} {c : Code} {Q : State → Prop} {G : GD} (F : FX p s m args meth c RX11 cX11_bestFeed 9 (some .int) G) : ∀ (n : Nat) {M N : Mem} {a2 : Int32} {a3 : Nat} {a4 : Int32} {a5 : Int32} {a6 : Int32} {a7 : Int32} {H : Heap} {locs : List Loc} {ls : Array Slot} {o5 : Int32} {Mo : Mem}, ST G M N s H locs → lv_has ls 9 [(0, .ref (G.2.1 10)), (2, .int a2), (3, .ref (G.2.1 a3)), (4, .int a4), (5, .int a5), (6, .int a6), (7, .int a7)] → fX11_bestFeed_L39 n M a2 a3 a4 a5 a6 a7 = some (o5, Mo) → (K1 : ∀ (H : Heap) (locs : List Loc) (ls : Array Slot), ST G Mo N s H locs → lv_has ls 9 [(2, .int a2), (3, .ref (G.2.1 a3)), (4, .int a4), (5, .int o5)] → W p l e (Rm 5 114) s m args below meth c H locs 0 0 Q (F0 m 109 ls [])) → W p l e (Rm 5 114) s m args below meth c H locs 0 0 Q (F0 m 39 ls []) := by
  intro n
  induction n with
  | zero => intro M N a2 a3 a4 a5 a6 a7 H locs ls o5 Mo S hl h K1; cases h
  | succ n ih =>
    intro M N a2 a3 a4 a5 a6 a7 H locs ls o5 Mo S hl h K1
    rw [fX11_bestFeed_L39] at h
    have hx := F.1
    have hb := F.2.1
    have hown := F.2.2.2.2.1
    have hts := F.2.2.2.2.2.1
    have hZ := F.2.2.2.2.2.2.2.2.2
    refine lv_iload (pc := 39) hx hb dX11_bestFeed_39 (lv_at hl 6 rfl) ?_
    refine lv_iconst (pc := 41) (v := 3) hx hb dX11_bestFeed_41 (by decide) ?_
    refine lv_icmp_ge (pc := 42) (tgt := 109) hx hb dX11_bestFeed_42 (by decide) (fun c11 => ?_) (fun c11 => ?_)
    · replace h := (if_pos c11).symm.trans h
      cases h
      exact K1 H locs ls S (lv_sub hl [1, 2, 3, 4] rfl)
    · replace h := (if_neg c11).symm.trans h
      refine lv_aload_n (pc := 45) hx hb dX11_bestFeed_45 rfl (lv_at hl 2 rfl) ?_
      obtain ⟨x12, e13, h⟩ := ob_out h
      refine r_gR (pc := 46) (k := 7) F S e13 (by decide) cl6 inRX6 (by decide) w122 (fun _ => rfl) dX11_bestFeed_46 ?_
      refine lv_iload_n (pc := 49) hx hb dX11_bestFeed_49 rfl (lv_at hl 1 rfl) ?_
      refine lv_iload (pc := 50) hx hb dX11_bestFeed_50 (lv_at hl 6 rfl) ?_
      obtain ⟨M14, e15, h⟩ := ob_out h
      refine r_aS (pc := 52) F S e15 dX11_bestFeed_52 (fun H locs S => ?_)
      refine lv_aload_n (pc := 53) hx hb dX11_bestFeed_53 rfl (lv_at hl 0 rfl) ?_
      refine r_gR (pc := 54) (k := 7) (x := 26) (i := 10) (ci := 11) F S (by decide) (by decide) cl11 inRX11 (by decide) w326 (fun _ => rfl) dX11_bestFeed_54 ?_
      refine lv_aload_n (pc := 57) hx hb dX11_bestFeed_57 rfl (lv_at hl 2 rfl) ?_
      refine lv_aload_n (pc := 58) hx hb dX11_bestFeed_58 rfl (lv_at hl 0 rfl) ?_
      refine r_gR (pc := 59) (k := 0) (x := 34) (i := 10) (ci := 11) F S (by decide) (by decide) cl11 inRX11 (by decide) w319 (fun _ => rfl) dX11_bestFeed_59 ?_
      refine r_gR (pc := 62) (k := 1) (x := 36) (i := 34) (ci := 7) F S (by decide) (by decide) cl7 inRX7 (by decide) w168 (fun _ => rfl) dX11_bestFeed_62 ?_
      obtain ⟨M17, e16, h⟩ := ob_out h
      refine c_vV (pc := 65) (rest := []) F S (tX10_measure e16) mfX10_measure (by decide) (by decide) cl10 w480 ⟨Nat.le_of_ble_eq_true rfl, Nat.le_of_ble_eq_true rfl⟩ rfl hl.1 rfl (Nat.le_of_ble_eq_true rfl) dX11_bestFeed_65 (fun H locs S => ?_)
      refine lv_aload_n (pc := 68) hx hb dX11_bestFeed_68 rfl (lv_at hl 0 rfl) ?_
      refine r_gR (pc := 69) (k := 7) (x := 26) (i := 10) (ci := 11) F S (by decide) (by decide) cl11 inRX11 (by decide) w326 (fun _ => rfl) dX11_bestFeed_69 ?_
      refine r_gR (pc := 72) (k := 0) (x := 27) (i := 26) (ci := 10) F S (by decide) (by decide) cl10 inRX10 (by decide) w284 (fun _ => rfl) dX11_bestFeed_72 ?_
      refine r_gR (pc := 75) (k := 1) (x := 29) (i := 27) (ci := 3) F S (by decide) (by decide) cl3 inRX3 (by decide) w268 (fun _ => rfl) dX11_bestFeed_75 ?_
      obtain ⟨v19, e18, h⟩ := ob_out h
      refine c_sI (pc := 78) (rest := []) F S (tX11_greatest e18) mfX11_greatest w748 ⟨Nat.le_of_ble_eq_true rfl, Nat.le_of_ble_eq_true rfl⟩ rfl hl.1 rfl (Nat.le_of_ble_eq_true rfl) dX11_bestFeed_78 (fun H locs S => ?_)
      refine lv_istore (pc := 81) (lv' := [(8, .int v19), (0, .ref (G.2.1 10)), (2, .int a2), (3, .ref (G.2.1 a3)), (4, .int a4), (5, .int a5), (6, .int a6), (7, .int a7)]) hx hb dX11_bestFeed_81 hl (by decide) rfl (fun ls hl => ?_)
      refine lv_iload (pc := 83) hx hb dX11_bestFeed_83 (lv_at hl 7 rfl) ?_
      refine lv_if_eq (pc := 85) (tgt := 95) hx hb dX11_bestFeed_85 (by decide) (fun c20 => ?_) (fun c20 => ?_)
      · replace h := (if_pos c20).symm.trans h
        refine lv_iload (pc := 95) hx hb dX11_bestFeed_95 (lv_at hl 0 rfl) ?_
        refine lv_istore (pc := 97) (lv' := [(6, .int v19), (8, .int v19), (0, .ref (G.2.1 10)), (2, .int a2), (3, .ref (G.2.1 a3)), (4, .int a4), (5, .int a5), (7, .int a7)]) hx hb dX11_bestFeed_97 hl (by decide) rfl (fun ls hl => ?_)
        refine lv_iload (pc := 99) hx hb dX11_bestFeed_99 (lv_at hl 7 rfl) ?_
        refine lv_istore (pc := 101) (lv' := [(5, .int a7), (6, .int v19), (8, .int v19), (0, .ref (G.2.1 10)), (2, .int a2), (3, .ref (G.2.1 a3)), (4, .int a4), (7, .int a7)]) hx hb dX11_bestFeed_101 hl (by decide) rfl (fun ls hl => ?_)
        refine lv_iinc (pc := 103) (lv' := [(7, .int (a7 + 1)), (5, .int a7), (6, .int v19), (8, .int v19), (0, .ref (G.2.1 10)), (2, .int a2), (3, .ref (G.2.1 a3)), (4, .int a4)]) hx hb dX11_bestFeed_103 hl (k := 7) rfl (iinc_n (by decide)) (by decide) rfl (fun ls hl => ?_)
        refine lv_goto (pc := 106) (tgt := 39) hx hb dX11_bestFeed_106 (by decide) ?_
        exact ih S (lv_sub hl [4, 5, 6, 7, 1, 2, 0] rfl) h K1
      · replace h := (if_neg c20).symm.trans h
        refine lv_iload (pc := 88) hx hb dX11_bestFeed_88 (lv_at hl 0 rfl) ?_
        refine lv_iload (pc := 90) hx hb dX11_bestFeed_90 (lv_at hl 6 rfl) ?_
        refine lv_icmp_ge (pc := 92) (tgt := 103) hx hb dX11_bestFeed_92 (by decide) (fun c21 => ?_) (fun c21 => ?_)
        · replace h := (if_pos c21).symm.trans h
          refine lv_iinc (pc := 103) (lv' := [(7, .int (a7 + 1)), (8, .int v19), (0, .ref (G.2.1 10)), (2, .int a2), (3, .ref (G.2.1 a3)), (4, .int a4), (5, .int a5), (6, .int a6)]) hx hb dX11_bestFeed_103 hl (k := 7) rfl (iinc_n (by decide)) (by decide) rfl (fun ls hl => ?_)
          refine lv_goto (pc := 106) (tgt := 39) hx hb dX11_bestFeed_106 (by decide) ?_
          exact ih S (lv_sub hl [2, 3, 4, 5, 6, 7, 0] rfl) h K1
        · replace h := (if_neg c21).symm.trans h
          refine lv_iload (pc := 95) hx hb dX11_bestFeed_95 (lv_at hl 0 rfl) ?_
          refine lv_istore (pc := 97) (lv' := [(6, .int v19), (8, .int v19), (0, .ref (G.2.1 10)), (2, .int a2), (3, .ref (G.2.1 a3)), (4, .int a4), (5, .int a5), (7, .int a7)]) hx hb dX11_bestFeed_97 hl (by decide) rfl (fun ls hl => ?_)
          refine lv_iload (pc := 99) hx hb dX11_bestFeed_99 (lv_at hl 7 rfl) ?_
          refine lv_istore (pc := 101) (lv' := [(5, .int a7), (6, .int v19), (8, .int v19), (0, .ref (G.2.1 10)), (2, .int a2), (3, .ref (G.2.1 a3)), (4, .int a4), (7, .int a7)]) hx hb dX11_bestFeed_101 hl (by decide) rfl (fun ls hl => ?_)
          refine lv_iinc (pc := 103) (lv' := [(7, .int (a7 + 1)), (5, .int a7), (6, .int v19), (8, .int v19), (0, .ref (G.2.1 10)), (2, .int a2), (3, .ref (G.2.1 a3)), (4, .int a4)]) hx hb dX11_bestFeed_103 hl (k := 7) rfl (iinc_n (by decide)) (by decide) rfl (fun ls hl => ?_)
          refine lv_goto (pc := 106) (tgt := 39) hx hb dX11_bestFeed_106 (by decide) ?_
          exact ih S (lv_sub hl [4, 5, 6, 7, 1, 2, 0] rfl) h K1
set_option maxHeartbeats 4000000 in
theorem tX11_bestFeed {l : Launch} {G : GD} {M N Mo : Mem} {a1 : Int32} {a2 : Int32} {r : Int32} (h : fX11_bestFeed M a1 a2 = some (r, Mo)) : MI l yX11_bestFeed cX11_bestFeed 9 .int 5 114 G [.ref (G.2.1 10), .int a1, .int a2] M N r Mo N := by
  unfold fX11_bestFeed at h
  refine MI_of (own := RX11) (by decide) rfl (Nat.le_of_ble_eq_true rfl) ?_
  intro p e s m args below meth c F S ls hl
  have hx := F.1
  have hb := F.2.1
  have hown := F.2.2.2.2.1
  have hts := F.2.2.2.2.2.1
  have hZ := F.2.2.2.2.2.2.2.2.2
  have hl : lv_has ls 9 [(0, .ref (G.2.1 10)), (1, .int a1), (2, .int a2)] := hl
  generalize s.heap = H, ([] : List Loc) = locs at S ⊢
  refine lv_aload_n (pc := 0) hx hb dX11_bestFeed_0 rfl (lv_at hl 0 rfl) ?_
  refine r_gR (pc := 1) (k := 0) (x := 34) (i := 10) (ci := 11) F S (by decide) (by decide) cl11 inRX11 (by decide) w319 (fun _ => rfl) dX11_bestFeed_1 ?_
  refine lv_iload_n (pc := 4) hx hb dX11_bestFeed_4 rfl (lv_at hl 1 rfl) ?_
  obtain ⟨r2, e1, h⟩ := ob_out h
  refine c_vO (pc := 5) (rest := []) F S (tX7_find e1) mfX7_find (by decide) (by decide) cl7 w410 ⟨Nat.le_of_ble_eq_true rfl, Nat.le_of_ble_eq_true rfl⟩ rfl hl.1 rfl (Nat.le_of_ble_eq_true rfl) dX11_bestFeed_5 (fun H locs S => ?_)
  cases r2 with
  | none =>
    replace h := caseO_n h
    refine W.eq (g2 := F0 m 8 ls (.null :: [])) rfl ?_
    refine lv_astore_nN (pc := 8) (lv' := [(3, .null), (0, .ref (G.2.1 10)), (1, .int a1), (2, .int a2)]) hx hb dX11_bestFeed_8 rfl hl (by decide) rfl (fun ls hl => ?_)
    refine lv_aload_nN (pc := 9) hx hb dX11_bestFeed_9 rfl (lv_at hl 0 rfl) ?_
    refine lv_ifnullN (pc := 10) (tgt := 20) hx hb dX11_bestFeed_10 (by decide) ?_
    refine lv_iconst (pc := 20) (v := (-1)) hx hb dX11_bestFeed_20 (by decide) ?_
    cases h
    exact r_iret (pc := 21) F S rfl dX11_bestFeed_21
  | some x3 =>
    replace h := caseO_s h
    refine W.eq (g2 := F0 m 8 ls (.ref (G.2.1 x3) :: [])) rfl ?_
    refine lv_astore_n (pc := 8) (lv' := [(3, .ref (G.2.1 x3)), (0, .ref (G.2.1 10)), (1, .int a1), (2, .int a2)]) hx hb dX11_bestFeed_8 rfl hl (by decide) rfl (fun ls hl => ?_)
    refine lv_aload_n (pc := 9) hx hb dX11_bestFeed_9 rfl (lv_at hl 0 rfl) ?_
    refine lv_ifnull (pc := 10) hx hb dX11_bestFeed_10 ?_
    refine lv_iload_n (pc := 13) hx hb dX11_bestFeed_13 rfl (lv_at hl 3 rfl) ?_
    obtain ⟨v5, e4, h⟩ := ob_out h
    refine c_sI (pc := 14) (rest := []) F S (tX11_isDimmer e4) mfX11_isDimmer w429 ⟨Nat.le_of_ble_eq_true rfl, Nat.le_of_ble_eq_true rfl⟩ rfl hl.1 rfl (Nat.le_of_ble_eq_true rfl) dX11_bestFeed_14 (fun H locs S => ?_)
    refine lv_if_ne (pc := 17) (tgt := 22) hx hb dX11_bestFeed_17 (by decide) (fun c6 => ?_) (fun c6 => ?_)
    · replace h := (if_neg c6).symm.trans h
      refine lv_aload_n (pc := 22) hx hb dX11_bestFeed_22 rfl (lv_at hl 0 rfl) ?_
      obtain ⟨x7, e8, h⟩ := ob_out h
      refine r_gR (pc := 23) (k := 7) F S e8 (by decide) cl6 inRX6 (by decide) w122 (fun _ => rfl) dX11_bestFeed_23 ?_
      refine lv_iload_n (pc := 26) hx hb dX11_bestFeed_26 rfl (lv_at hl 3 rfl) ?_
      obtain ⟨v9, e10, h⟩ := ob_out h
      refine r_aL (pc := 27) F S e10 dX11_bestFeed_27 ?_
      refine lv_istore (pc := 28) (lv' := [(4, .int v9), (3, .ref (G.2.1 x3)), (0, .ref (G.2.1 10)), (1, .int a1), (2, .int a2)]) hx hb dX11_bestFeed_28 hl (by decide) rfl (fun ls hl => ?_)
      refine lv_iconst (pc := 30) (v := 0) hx hb dX11_bestFeed_30 (by decide) ?_
      refine lv_istore (pc := 31) (lv' := [(5, .int 0), (4, .int v9), (3, .ref (G.2.1 x3)), (0, .ref (G.2.1 10)), (1, .int a1), (2, .int a2)]) hx hb dX11_bestFeed_31 hl (by decide) rfl (fun ls hl => ?_)
      refine lv_iconst (pc := 33) (v := 0) hx hb dX11_bestFeed_33 (by decide) ?_
      refine lv_istore (pc := 34) (lv' := [(6, .int 0), (5, .int 0), (4, .int v9), (3, .ref (G.2.1 x3)), (0, .ref (G.2.1 10)), (1, .int a1), (2, .int a2)]) hx hb dX11_bestFeed_34 hl (by decide) rfl (fun ls hl => ?_)
      refine lv_iconst (pc := 36) (v := 0) hx hb dX11_bestFeed_36 (by decide) ?_
      refine lv_istore (pc := 37) (lv' := [(7, .int 0), (6, .int 0), (5, .int 0), (4, .int v9), (3, .ref (G.2.1 x3)), (0, .ref (G.2.1 10)), (1, .int a1), (2, .int a2)]) hx hb dX11_bestFeed_37 hl (by decide) rfl (fun ls hl => ?_)
      obtain ⟨v12, M11, e13, h⟩ := ob2_out h
      refine pX11_bestFeed_L39 F 5000 S (lv_sub hl [5, 7, 4, 3, 2, 1, 0] rfl) e13 (fun H locs ls S hl => ?_)
      refine lv_aload_n (pc := 109) hx hb dX11_bestFeed_109 rfl (lv_at hl 1 rfl) ?_
      obtain ⟨x14, e15, h⟩ := ob_out h
      refine r_gR (pc := 110) (k := 7) F S e15 (by decide) cl6 inRX6 (by decide) w122 (fun _ => rfl) dX11_bestFeed_110 ?_
      refine lv_iload_n (pc := 113) hx hb dX11_bestFeed_113 rfl (lv_at hl 0 rfl) ?_
      refine lv_iload (pc := 114) hx hb dX11_bestFeed_114 (lv_at hl 2 rfl) ?_
      obtain ⟨M16, e17, h⟩ := ob_out h
      refine r_aS (pc := 116) F S e17 dX11_bestFeed_116 (fun H locs S => ?_)
      refine lv_iload (pc := 117) hx hb dX11_bestFeed_117 (lv_at hl 3 rfl) ?_
      cases h
      exact r_iret (pc := 119) F S rfl dX11_bestFeed_119
    · replace h := (if_pos c6).symm.trans h
      refine lv_iconst (pc := 20) (v := (-1)) hx hb dX11_bestFeed_20 (by decide) ?_
      cases h
      exact r_iret (pc := 21) F S rfl dX11_bestFeed_21
theorem mfX11_ifDays : MF true yX11_ifDays RX11 cX11_ifDays 8 (some .int) 3 := ⟨w849, w1, by rw [if_pos rfl]; exact ⟨w847, w848⟩, ⟨by decide, by decide⟩, by decide +kernel⟩
set_option maxHeartbeats 4000000 in
theorem tX11_ifDays {l : Launch} {G : GD} {M N Mo : Mem} {a1 : Int32} {a2 : Int32} {a3 : Int32} {r : Int32} (h : fX11_ifDays M a1 a2 a3 = some (r, Mo)) : MI l yX11_ifDays cX11_ifDays 8 .int 5 116 G [.ref (G.2.1 10), .int a1, .int a2, .int a3] M N r Mo N := by
  unfold fX11_ifDays at h
  refine MI_of (own := RX11) (by decide) rfl (Nat.le_of_ble_eq_true rfl) ?_
  intro p e s m args below meth c F S ls hl
  have hx := F.1
  have hb := F.2.1
  have hown := F.2.2.2.2.1
  have hts := F.2.2.2.2.2.1
  have hZ := F.2.2.2.2.2.2.2.2.2
  have hl : lv_has ls 8 [(0, .ref (G.2.1 10)), (1, .int a1), (2, .int a2), (3, .int a3)] := hl
  generalize s.heap = H, ([] : List Loc) = locs at S ⊢
  refine lv_aload_n (pc := 0) hx hb dX11_ifDays_0 rfl (lv_at hl 0 rfl) ?_
  refine r_gR (pc := 1) (k := 0) (x := 34) (i := 10) (ci := 11) F S (by decide) (by decide) cl11 inRX11 (by decide) w319 (fun _ => rfl) dX11_ifDays_1 ?_
  refine lv_iload_n (pc := 4) hx hb dX11_ifDays_4 rfl (lv_at hl 1 rfl) ?_
  obtain ⟨r2, e1, h⟩ := ob_out h
  refine c_vO (pc := 5) (rest := []) F S (tX7_find e1) mfX7_find (by decide) (by decide) cl7 w410 ⟨Nat.le_of_ble_eq_true rfl, Nat.le_of_ble_eq_true rfl⟩ rfl hl.1 rfl (Nat.le_of_ble_eq_true rfl) dX11_ifDays_5 (fun H locs S => ?_)
  cases r2 with
  | none =>
    replace h := caseO_n h
    refine W.eq (g2 := F0 m 8 ls (.null :: [])) rfl ?_
    refine lv_astoreN (pc := 8) (lv' := [(4, .null), (0, .ref (G.2.1 10)), (1, .int a1), (2, .int a2), (3, .int a3)]) hx hb dX11_ifDays_8 hl (by decide) rfl (fun ls hl => ?_)
    refine lv_aloadN (pc := 10) hx hb dX11_ifDays_10 (lv_at hl 0 rfl) ?_
    refine lv_ifnonnullN (pc := 12) hx hb dX11_ifDays_12 ?_
    refine lv_iconst (pc := 15) (v := (-1)) hx hb dX11_ifDays_15 (by decide) ?_
    cases h
    exact r_iret (pc := 16) F S rfl dX11_ifDays_16
  | some x3 =>
    replace h := caseO_s h
    refine W.eq (g2 := F0 m 8 ls (.ref (G.2.1 x3) :: [])) rfl ?_
    refine lv_astore (pc := 8) (lv' := [(4, .ref (G.2.1 x3)), (0, .ref (G.2.1 10)), (1, .int a1), (2, .int a2), (3, .int a3)]) hx hb dX11_ifDays_8 hl (by decide) rfl (fun ls hl => ?_)
    refine lv_aload (pc := 10) hx hb dX11_ifDays_10 (lv_at hl 0 rfl) ?_
    refine lv_ifnonnull (pc := 12) (tgt := 17) hx hb dX11_ifDays_12 (by decide) ?_
    refine lv_iload_n (pc := 17) hx hb dX11_ifDays_17 rfl (lv_at hl 3 rfl) ?_
    refine lv_iload_n (pc := 18) hx hb dX11_ifDays_18 rfl (lv_at hl 4 rfl) ?_
    obtain ⟨v5, e4, h⟩ := ob_out h
    refine c_sI (pc := 19) (rest := []) F S (tX11_areDays e4) mfX11_areDays w415 ⟨Nat.le_of_ble_eq_true rfl, Nat.le_of_ble_eq_true rfl⟩ rfl hl.1 rfl (Nat.le_of_ble_eq_true rfl) dX11_ifDays_19 (fun H locs S => ?_)
    refine lv_if_ne (pc := 22) (tgt := 28) hx hb dX11_ifDays_22 (by decide) (fun c6 => ?_) (fun c6 => ?_)
    · replace h := (if_neg c6).symm.trans h
      refine lv_aload (pc := 28) hx hb dX11_ifDays_28 (lv_at hl 0 rfl) ?_
      obtain ⟨v7, e8, h⟩ := ob_out h
      refine r_gI (pc := 30) (k := 0) F S e8 (by decide) cl6 inRX6 (by decide) w105 (fun _ => rfl) dX11_ifDays_30 ?_
      refine lv_istore (pc := 33) (lv' := [(5, .int v7), (4, .ref (G.2.1 x3)), (0, .ref (G.2.1 10)), (1, .int a1), (2, .int a2), (3, .int a3)]) hx hb dX11_ifDays_33 hl (by decide) rfl (fun ls hl => ?_)
      refine lv_aload (pc := 35) hx hb dX11_ifDays_35 (lv_at hl 1 rfl) ?_
      obtain ⟨v9, e10, h⟩ := ob_out h
      refine r_gI (pc := 37) (k := 1) F S e10 (by decide) cl6 inRX6 (by decide) w107 (fun _ => rfl) dX11_ifDays_37 ?_
      refine lv_istore (pc := 40) (lv' := [(6, .int v9), (5, .int v7), (4, .ref (G.2.1 x3)), (0, .ref (G.2.1 10)), (1, .int a1), (2, .int a2), (3, .int a3)]) hx hb dX11_ifDays_40 hl (by decide) rfl (fun ls hl => ?_)
      refine lv_aload (pc := 42) hx hb dX11_ifDays_42 (lv_at hl 2 rfl) ?_
      refine lv_iload_n (pc := 44) hx hb dX11_ifDays_44 rfl (lv_at hl 5 rfl) ?_
      obtain ⟨M11, e12, h⟩ := ob_out h
      refine r_pI (pc := 45) (k := 0) (ty0 := tyX6) F S e12 (by decide) cl6 inRX6 tyX6_ok nmX6 (by decide) w105 rfl (by decide +kernel) (fun _ => Nat.le_of_ble_eq_true rfl) (fun _ => pf_6_0) dX11_ifDays_45 (fun H locs S => ?_)
      refine lv_aload (pc := 48) hx hb dX11_ifDays_48 (lv_at hl 2 rfl) ?_
      refine lv_iload_n (pc := 50) hx hb dX11_ifDays_50 rfl (lv_at hl 6 rfl) ?_
      obtain ⟨M13, e14, h⟩ := ob_out h
      refine r_pI (pc := 51) (k := 1) (ty0 := tyX6) F S e14 (by decide) cl6 inRX6 tyX6_ok nmX6 (by decide) w107 rfl (by decide +kernel) (fun _ => Nat.le_of_ble_eq_true rfl) (fun _ => pf_6_1) dX11_ifDays_51 (fun H locs S => ?_)
      refine lv_aload_n (pc := 54) hx hb dX11_ifDays_54 rfl (lv_at hl 3 rfl) ?_
      refine r_gR (pc := 55) (k := 0) (x := 34) (i := 10) (ci := 11) F S (by decide) (by decide) cl11 inRX11 (by decide) w319 (fun _ => rfl) dX11_ifDays_55 ?_
      obtain ⟨v16, e15, h⟩ := ob_out h
      refine c_vI (pc := 58) (rest := []) F S (tX7_allMissing e15) mfX7_allMissing (by decide) (by decide) cl7 w803 ⟨Nat.le_of_ble_eq_true rfl, Nat.le_of_ble_eq_true rfl⟩ rfl hl.1 rfl (Nat.le_of_ble_eq_true rfl) dX11_ifDays_58 (fun H locs S => ?_)
      refine lv_istore (pc := 61) (lv' := [(7, .int v16), (6, .int v9), (5, .int v7), (4, .ref (G.2.1 x3)), (0, .ref (G.2.1 10)), (1, .int a1), (2, .int a2), (3, .int a3)]) hx hb dX11_ifDays_61 hl (by decide) rfl (fun ls hl => ?_)
      refine lv_aload (pc := 63) hx hb dX11_ifDays_63 (lv_at hl 3 rfl) ?_
      refine lv_iload (pc := 65) hx hb dX11_ifDays_65 (lv_at hl 2 rfl) ?_
      obtain ⟨M17, e18, h⟩ := ob_out h
      refine r_pI (pc := 67) (k := 0) (ty0 := tyX6) F S e18 (by decide) cl6 inRX6 tyX6_ok nmX6 (by decide) w105 rfl (by decide +kernel) (fun _ => Nat.le_of_ble_eq_true rfl) (fun _ => pf_6_0) dX11_ifDays_67 (fun H locs S => ?_)
      refine lv_aload (pc := 70) hx hb dX11_ifDays_70 (lv_at hl 3 rfl) ?_
      refine lv_iload (pc := 72) hx hb dX11_ifDays_72 (lv_at hl 1 rfl) ?_
      obtain ⟨M19, e20, h⟩ := ob_out h
      refine r_pI (pc := 74) (k := 1) (ty0 := tyX6) F S e20 (by decide) cl6 inRX6 tyX6_ok nmX6 (by decide) w107 rfl (by decide +kernel) (fun _ => Nat.le_of_ble_eq_true rfl) (fun _ => pf_6_1) dX11_ifDays_74 (fun H locs S => ?_)
      refine lv_iload (pc := 77) hx hb dX11_ifDays_77 (lv_at hl 0 rfl) ?_
      cases h
      exact r_iret (pc := 79) F S rfl dX11_ifDays_79
    · replace h := (if_pos c6).symm.trans h
      refine lv_bipush (pc := 25) (v := (-2)) hx hb dX11_ifDays_25 (by decide) ?_
      cases h
      exact r_iret (pc := 27) F S rfl dX11_ifDays_27
theorem mfX5_signsIn : MF false yX5_signsIn RX5 cX5_signsIn 7 (some .int) 1 := ⟨w856, w9, by rw [if_neg (by decide)]; exact w855, ⟨by decide, by decide⟩, by decide +kernel⟩
set_option maxHeartbeats 4000000 in
theorem pX5_signsIn_L2 {p : Program} {l : Launch} {e : Env} {s : State} {m : MethodId} {args : Array Value} {below : List Frame} {meth : Method} {c : Code} {Q : State → Prop} {G : GD} (F : FX p s m args meth c RX5 cX5_signsIn 7 (some .int) G) : ∀ (n : Nat) {M N : Mem} {a0 : Int64} {a2 : Int32} {H : Heap} {locs : List Loc} {ls : Array Slot} {z : (Unit) ⊕ Int32}, ST G M N s H locs → lv_has ls 7 [(0, .long a0), (2, .int a2)] → fX5_signsIn_L2 n a0 a2 = some z → (K1 : ∀ (o : Unit), z = .inl o → ∀ (H : Heap) (locs : List Loc) (ls : Array Slot), ST G M N s H locs → lv_has ls 7 [] → W p l e (Rm 0 0) s m args below meth c H locs 0 0 Q (F0 m 67 ls [])) → (K2 : ∀ (r : Int32), z = .inr r → ∀ (H : Heap) (locs : List Loc) (ls : Array Slot) (pcr : Nat), ST G M N s H locs → decode cX5_signsIn pcr = .ok (.ireturn, 1) → W p l e (Rm 0 0) s m args below meth c H locs 0 0 Q (F0 m pcr ls [.int r])) → W p l e (Rm 0 0) s m args below meth c H locs 0 0 Q (F0 m 2 ls []) := by
  intro n
  induction n with
  | zero => intro M N a0 a2 H locs ls z S hl h K1 K2; cases h
  | succ n ih =>
    intro M N a0 a2 H locs ls z S hl h K1 K2
    rw [fX5_signsIn_L2] at h
    have hx := F.1
    have hb := F.2.1
    have hown := F.2.2.2.2.1
    have hts := F.2.2.2.2.2.1
    have hZ := F.2.2.2.2.2.2.2.2.2
    refine lv_iload_n (pc := 2) hx hb dX5_signsIn_2 rfl (lv_at hl 1 rfl) ?_
    refine lv_bipush (pc := 3) (v := 8) hx hb dX5_signsIn_3 (by decide) ?_
    refine lv_icmp_ge (pc := 5) (tgt := 67) hx hb dX5_signsIn_5 (by decide) (fun c1 => ?_) (fun c1 => ?_)
    · replace h := (if_pos c1).symm.trans h
      cases h
      exact K1 _ rfl H locs ls S (lv_sub hl [] rfl)
    · replace h := (if_neg c1).symm.trans h
      refine lv_lload_n (pc := 8) hx hb dX5_signsIn_8 rfl (lv_at hl 0 rfl) ?_
      refine lv_bipush (pc := 9) (v := 8) hx hb dX5_signsIn_9 (by decide) ?_
      refine lv_iload_n (pc := 11) hx hb dX5_signsIn_11 rfl (lv_at hl 1 rfl) ?_
      refine lv_imul (pc := 12) hx hb dX5_signsIn_12 ?_
      refine lv_lushr (pc := 13) (v := (a0.toUInt64 >>> ((8 * a2).toInt64.toUInt64 &&& Int64.toUInt64 63)).toInt64) hx hb dX5_signsIn_13 rfl ?_
      obtain ⟨v2, e3, h⟩ := lt1_out h
      refine nm_l e3 ?_
      refine lv_lstore_n (pc := 14) (lv' := [(3, .long v2), (0, .long a0), (2, .int a2)]) hx hb dX5_signsIn_14 rfl hl (by decide) rfl (fun ls hl => ?_)
      refine lv_lload_n (pc := 15) hx hb dX5_signsIn_15 rfl (lv_at hl 0 rfl) ?_
      refine lv_ldc2 (pc := 16) (v := 255) hx hb hown (hts _ w857) dX5_signsIn_16 ?_
      refine lv_land (pc := 19) hx hb dX5_signsIn_19 ?_
      obtain ⟨v4, e5, h⟩ := lt1_out h
      refine nm_l e5 ?_
      refine lv_lstore (pc := 20) (lv' := [(5, .long v4), (3, .long v2), (0, .long a0), (2, .int a2)]) hx hb dX5_signsIn_20 hl (by decide) rfl (fun ls hl => ?_)
      refine lv_lload (pc := 22) hx hb dX5_signsIn_22 (lv_at hl 0 rfl) ?_
      refine lv_lconst (pc := 24) (v := 0) hx hb dX5_signsIn_24 rfl ?_
      refine W.lcmp (pc := 25) hx hb dX5_signsIn_25 ?_
      refine lv_if_ne (pc := 26) (tgt := 41) hx hb dX5_signsIn_26 (by decide) (fun c6 => ?_) (fun c6 => ?_)
      · replace h := (if_neg c6).symm.trans h
        refine lv_lload (pc := 41) hx hb dX5_signsIn_41 (lv_at hl 0 rfl) ?_
        refine lv_ldc2 (pc := 43) (v := 33) hx hb hown (hts _ w858) dX5_signsIn_43 ?_
        refine W.lcmp (pc := 46) hx hb dX5_signsIn_46 ?_
        refine lv_if_lt (pc := 47) (tgt := 59) hx hb dX5_signsIn_47 (by decide) (fun c7 => ?_) (fun c7 => ?_)
        · replace h := (if_pos c7).symm.trans h
          refine lv_iconst (pc := 59) (v := 0) hx hb dX5_signsIn_59 (by decide) ?_
          cases h
          exact K2 _ rfl H locs ls 60 S dX5_signsIn_60
        · replace h := (if_neg c7).symm.trans h
          refine lv_lload (pc := 50) hx hb dX5_signsIn_50 (lv_at hl 0 rfl) ?_
          refine lv_ldc2 (pc := 52) (v := 126) hx hb hown (hts _ w859) dX5_signsIn_52 ?_
          refine W.lcmp (pc := 55) hx hb dX5_signsIn_55 ?_
          refine lv_if_le (pc := 56) (tgt := 61) hx hb dX5_signsIn_56 (by decide) (fun c8 => ?_) (fun c8 => ?_)
          · replace h := (if_pos c8).symm.trans h
            refine lv_iinc (pc := 61) (lv' := [(2, .int (a2 + 1)), (5, .long v4), (3, .long v2), (0, .long a0)]) hx hb dX5_signsIn_61 hl (k := 3) rfl (iinc_n (by decide)) (by decide) rfl (fun ls hl => ?_)
            refine lv_goto (pc := 64) (tgt := 2) hx hb dX5_signsIn_64 (by decide) ?_
            exact ih S (lv_sub hl [3, 0] rfl) h K1 K2
          · replace h := (if_neg c8).symm.trans h
            refine lv_iconst (pc := 59) (v := 0) hx hb dX5_signsIn_59 (by decide) ?_
            cases h
            exact K2 _ rfl H locs ls 60 S dX5_signsIn_60
      · replace h := (if_pos c6).symm.trans h
        refine lv_lload_n (pc := 29) hx hb dX5_signsIn_29 rfl (lv_at hl 1 rfl) ?_
        refine lv_lconst (pc := 30) (v := 0) hx hb dX5_signsIn_30 rfl ?_
        refine W.lcmp (pc := 31) hx hb dX5_signsIn_31 ?_
        refine lv_if_ne (pc := 32) (tgt := 39) hx hb dX5_signsIn_32 (by decide) (fun c9 => ?_) (fun c9 => ?_)
        · replace h := (if_neg c9).symm.trans h
          refine lv_iconst (pc := 39) (v := 0) hx hb dX5_signsIn_39 (by decide) ?_
          cases h
          exact K2 _ rfl H locs ls 40 S dX5_signsIn_40
        · replace h := (if_pos c9).symm.trans h
          refine lv_iload_n (pc := 35) hx hb dX5_signsIn_35 rfl (lv_at hl 3 rfl) ?_
          refine lv_goto (pc := 36) (tgt := 40) hx hb dX5_signsIn_36 (by decide) ?_
          cases h
          exact K2 _ rfl H locs ls 40 S dX5_signsIn_40
set_option maxHeartbeats 4000000 in
theorem tX5_signsIn {l : Launch} {G : GD} {M N : Mem} {a0 : Int64} {r : Int32} (h : fX5_signsIn a0 = some r) : MI l yX5_signsIn cX5_signsIn 7 .int 0 0 G [.long a0] M N r M N := by
  unfold fX5_signsIn at h
  refine MI_of (own := RX5) (by decide) rfl (Nat.le_of_ble_eq_true rfl) ?_
  intro p e s m args below meth c F S ls hl
  have hx := F.1
  have hb := F.2.1
  have hown := F.2.2.2.2.1
  have hts := F.2.2.2.2.2.1
  have hZ := F.2.2.2.2.2.2.2.2.2
  have hl : lv_has ls 7 [(0, .long a0)] := hl
  generalize s.heap = H, ([] : List Loc) = locs at S ⊢
  refine lv_iconst (pc := 0) (v := 0) hx hb dX5_signsIn_0 (by decide) ?_
  refine lv_istore_n (pc := 1) (lv' := [(2, .int 0), (0, .long a0)]) hx hb dX5_signsIn_1 rfl hl (by decide) rfl (fun ls hl => ?_)
  obtain ⟨z2, e1, h⟩ := ob_out h
  refine pX5_signsIn_L2 F 5000 S (lv_sub hl [1, 0] rfl) e1 (fun u4 e3 H locs ls S hl => ?_) (fun v5 e3 H locs ls pcr S hdr => ?_)
  rotate_left
  · subst e3
    replace h := caseS_r h
    cases h
    exact r_iret F S rfl hdr
  subst e3
  replace h := caseS_l h
  refine lv_bipush (pc := 67) (v := 8) hx hb dX5_signsIn_67 (by decide) ?_
  cases h
  exact r_iret (pc := 69) F S rfl dX5_signsIn_69
theorem mfX5_append : MF true yX5_append RX5 cX5_append 5 none 2 := ⟨w863, w9, by rw [if_pos rfl]; exact ⟨w861, w862⟩, ⟨by decide, by decide⟩, by decide +kernel⟩
set_option maxHeartbeats 4000000 in
theorem pX5_append_L5 {p : Program} {l : Launch} {e : Env} {s : State} {m : MethodId} {args : Array Value} {below : List Frame} {meth : Method} {c : Code} {Q : State → Prop} {G : GD} (F : FX p s m args meth c RX5 cX5_append 5 none G) : ∀ (n : Nat) {M N : Mem} {a1 : Int64} {a4 : Int32} {H : Heap} {locs : List Loc} {ls : Array Slot} {Mo : Mem}, ST G M N s H locs → lv_has ls 5 [(0, .ref (G.2.1 15)), (1, .long a1), (4, .int a4)] → fX5_append_L5 n M a1 a4 = some Mo → (K1 : ∀ (H : Heap) (locs : List Loc) (ls : Array Slot), ST G Mo N s H locs → lv_has ls 5 [] → W p l e (Rm 0 0) s m args below meth c H locs 0 0 Q (F0 m 59 ls [])) → W p l e (Rm 0 0) s m args below meth c H locs 0 0 Q (F0 m 5 ls []) := by
  intro n
  induction n with
  | zero => intro M N a1 a4 H locs ls Mo S hl h K1; cases h
  | succ n ih =>
    intro M N a1 a4 H locs ls Mo S hl h K1
    rw [fX5_append_L5] at h
    have hx := F.1
    have hb := F.2.1
    have hown := F.2.2.2.2.1
    have hts := F.2.2.2.2.2.1
    have hZ := F.2.2.2.2.2.2.2.2.2
    refine lv_iload (pc := 5) hx hb dX5_append_5 (lv_at hl 2 rfl) ?_
    refine lv_if_lt (pc := 7) (tgt := 59) hx hb dX5_append_7 (by decide) (fun c3 => ?_) (fun c3 => ?_)
    · replace h := (if_pos c3).symm.trans h
      cases h
      exact K1 H locs ls S (lv_sub hl [] rfl)
    · replace h := (if_neg c3).symm.trans h
      refine lv_aload_n (pc := 10) hx hb dX5_append_10 rfl (lv_at hl 0 rfl) ?_
      obtain ⟨v4, e5, h⟩ := ob_out h
      refine r_gI (pc := 11) (k := 1) F S e5 (by decide) cl5 inRX5 (by decide) w211 (fun _ => rfl) dX5_append_11 ?_
      refine lv_aload_n (pc := 14) hx hb dX5_append_14 rfl (lv_at hl 0 rfl) ?_
      refine r_gR (pc := 15) (k := 0) (x := 16) (i := 15) (ci := 5) F S (by decide) (by decide) cl5 inRX5 (by decide) w208 (fun _ => rfl) dX5_append_15 ?_
      refine r_aN (pc := 18) (t := 20) (i := 16) (x := 60) F S (by decide) (by decide) dX5_append_18 ?_
      refine lv_icmp_ge (pc := 19) (tgt := 59) hx hb dX5_append_19 (by decide) (fun c6 => ?_) (fun c6 => ?_)
      · replace h := (if_pos c6).symm.trans h
        cases h
        exact K1 H locs ls S (lv_sub hl [] rfl)
      · replace h := (if_neg c6).symm.trans h
        refine lv_aload_n (pc := 22) hx hb dX5_append_22 rfl (lv_at hl 0 rfl) ?_
        refine r_gR (pc := 23) (k := 0) (x := 16) (i := 15) (ci := 5) F S (by decide) (by decide) cl5 inRX5 (by decide) w208 (fun _ => rfl) dX5_append_23 ?_
        refine lv_aload_n (pc := 26) hx hb dX5_append_26 rfl (lv_at hl 0 rfl) ?_
        obtain ⟨v7, e8, h⟩ := ob_out h
        refine r_gI (pc := 27) (k := 1) F S e8 (by decide) cl5 inRX5 (by decide) w211 (fun _ => rfl) dX5_append_27 ?_
        refine lv_lload_n (pc := 30) hx hb dX5_append_30 rfl (lv_at hl 1 rfl) ?_
        refine lv_bipush (pc := 31) (v := 8) hx hb dX5_append_31 (by decide) ?_
        refine lv_iload (pc := 33) hx hb dX5_append_33 (lv_at hl 2 rfl) ?_
        refine lv_imul (pc := 35) hx hb dX5_append_35 ?_
        refine lv_lushr (pc := 36) (v := (a1.toUInt64 >>> ((8 * a4).toInt64.toUInt64 &&& Int64.toUInt64 63)).toInt64) hx hb dX5_append_36 rfl ?_
        refine lv_ldc2 (pc := 37) (v := 255) hx hb hown (hts _ w857) dX5_append_37 ?_
        refine lv_land (pc := 40) hx hb dX5_append_40 ?_
        refine lv_l2i (pc := 41) (v := (((a1.toUInt64 >>> ((8 * a4).toInt64.toUInt64 &&& Int64.toUInt64 63)).toInt64) &&& 255).toInt32) hx hb dX5_append_41 rfl ?_
        obtain ⟨M9, e10, h⟩ := ob_out h
        refine r_aS (pc := 42) F S e10 dX5_append_42 (fun H locs S => ?_)
        refine lv_aload_n (pc := 43) hx hb dX5_append_43 rfl (lv_at hl 0 rfl) ?_
        refine lv_dup (pc := 44) hx hb dX5_append_44 rfl ?_
        obtain ⟨v11, e12, h⟩ := ob_out h
        refine r_gI (pc := 45) (k := 1) F S e12 (by decide) cl5 inRX5 (by decide) w211 (fun _ => rfl) dX5_append_45 ?_
        refine lv_iconst (pc := 48) (v := 1) hx hb dX5_append_48 (by decide) ?_
        refine lv_iadd (pc := 49) hx hb dX5_append_49 ?_
        obtain ⟨M13, e14, h⟩ := ob_out h
        refine r_pI (pc := 50) (k := 1) (ty0 := tyX5) F S e14 (by decide) cl5 inRX5 tyX5_ok nmX5 (by decide) w211 rfl (by decide +kernel) (fun _ => Nat.le_of_ble_eq_true rfl) (fun _ => pf_5_1) dX5_append_50 (fun H locs S => ?_)
        refine lv_iinc (pc := 53) (lv' := [(4, .int (a4 + (-1))), (0, .ref (G.2.1 15)), (1, .long a1)]) hx hb dX5_append_53 hl (k := 2) rfl (iinc_n (by decide)) (by decide) rfl (fun ls hl => ?_)
        refine lv_goto (pc := 56) (tgt := 5) hx hb dX5_append_56 (by decide) ?_
        exact ih S (lv_sub hl [1, 2, 0] rfl) h K1
set_option maxHeartbeats 4000000 in
theorem tX5_append {l : Launch} {G : GD} {M N Mo : Mem} {a1 : Int64} {a3 : Int32} (h : fX5_append M a1 a3 = some Mo) : MV l yX5_append cX5_append 5 0 0 G [.ref (G.2.1 15), .long a1, .int a3] M N Mo N := by
  unfold fX5_append at h
  refine MV_of (own := RX5) (by decide) rfl (Nat.le_of_ble_eq_true rfl) ?_
  intro p e s m args below meth c F S ls hl
  have hx := F.1
  have hb := F.2.1
  have hown := F.2.2.2.2.1
  have hts := F.2.2.2.2.2.1
  have hZ := F.2.2.2.2.2.2.2.2.2
  have hl : lv_has ls 5 [(0, .ref (G.2.1 15)), (1, .long a1), (3, .int a3)] := hl
  generalize s.heap = H, ([] : List Loc) = locs at S ⊢
  refine lv_iload_n (pc := 0) hx hb dX5_append_0 rfl (lv_at hl 2 rfl) ?_
  refine lv_iconst (pc := 1) (v := 1) hx hb dX5_append_1 (by decide) ?_
  refine lv_isub (pc := 2) hx hb dX5_append_2 ?_
  obtain ⟨v1, e2, h⟩ := lt1_out h
  refine nm_i e2 ?_
  refine lv_istore (pc := 3) (lv' := [(4, .int v1), (0, .ref (G.2.1 15)), (1, .long a1), (3, .int a3)]) hx hb dX5_append_3 hl (by decide) rfl (fun ls hl => ?_)
  obtain ⟨M3, e4, h⟩ := ob_out h
  refine pX5_append_L5 F 5000 S (lv_sub hl [1, 2, 0] rfl) e4 (fun H locs ls S hl => ?_)
  cases h
  exact r_vret (pc := 59) F S dX5_append_59
theorem mfX11_put : MF true yX11_put RX11 cX11_put 4 (some .int) 1 := ⟨w853, w1, by rw [if_pos rfl]; exact ⟨w851, w852⟩, ⟨by decide, by decide⟩, by decide +kernel⟩
set_option maxHeartbeats 4000000 in
theorem tX11_put {l : Launch} {G : GD} {M N Mo : Mem} {a1 : Int64} {r : Int32} (h : fX11_put M a1 = some (r, Mo)) : MI l yX11_put cX11_put 4 .int 1 26 G [.ref (G.2.1 10), .long a1] M N r Mo N := by
  unfold fX11_put at h
  refine MI_of (own := RX11) (by decide) rfl (Nat.le_of_ble_eq_true rfl) ?_
  intro p e s m args below meth c F S ls hl
  have hx := F.1
  have hb := F.2.1
  have hown := F.2.2.2.2.1
  have hts := F.2.2.2.2.2.1
  have hZ := F.2.2.2.2.2.2.2.2.2
  have hl : lv_has ls 4 [(0, .ref (G.2.1 10)), (1, .long a1)] := hl
  generalize s.heap = H, ([] : List Loc) = locs at S ⊢
  refine lv_lload_n (pc := 0) hx hb dX11_put_0 rfl (lv_at hl 1 rfl) ?_
  obtain ⟨v2, e1, h⟩ := ob_out h
  refine c_sI (pc := 1) (rest := []) F S (tX5_signsIn e1) mfX5_signsIn w854 ⟨Nat.le_of_ble_eq_true rfl, Nat.le_of_ble_eq_true rfl⟩ rfl hl.1 rfl (Nat.le_of_ble_eq_true rfl) dX11_put_1 (fun H locs S => ?_)
  refine lv_istore_n (pc := 4) (lv' := [(3, .int v2), (0, .ref (G.2.1 10)), (1, .long a1)]) hx hb dX11_put_4 rfl hl (by decide) rfl (fun ls hl => ?_)
  refine lv_iload_n (pc := 5) hx hb dX11_put_5 rfl (lv_at hl 0 rfl) ?_
  refine lv_if_ne (pc := 6) (tgt := 12) hx hb dX11_put_6 (by decide) (fun c3 => ?_) (fun c3 => ?_)
  · replace h := (if_neg c3).symm.trans h
    refine lv_aload_n (pc := 12) hx hb dX11_put_12 rfl (lv_at hl 1 rfl) ?_
    refine r_gR (pc := 13) (k := 5) (x := 15) (i := 10) (ci := 11) F S (by decide) (by decide) cl11 inRX11 (by decide) w324 (fun _ => rfl) dX11_put_13 ?_
    obtain ⟨v4, e5, h⟩ := ob_out h
    refine r_gI (pc := 16) (k := 1) F S e5 (by decide) cl5 inRX5 (by decide) w212 (fun _ => rfl) dX11_put_16 ?_
    refine lv_iload_n (pc := 19) hx hb dX11_put_19 rfl (lv_at hl 0 rfl) ?_
    refine lv_iadd (pc := 20) hx hb dX11_put_20 ?_
    refine lv_bipush (pc := 21) (v := 60) hx hb dX11_put_21 (by decide) ?_
    refine lv_icmp_le (pc := 23) (tgt := 29) hx hb dX11_put_23 (by decide) (fun c6 => ?_) (fun c6 => ?_)
    · replace h := (if_pos c6).symm.trans h
      refine lv_aload_n (pc := 29) hx hb dX11_put_29 rfl (lv_at hl 1 rfl) ?_
      refine r_gR (pc := 30) (k := 5) (x := 15) (i := 10) (ci := 11) F S (by decide) (by decide) cl11 inRX11 (by decide) w324 (fun _ => rfl) dX11_put_30 ?_
      refine lv_lload_n (pc := 33) hx hb dX11_put_33 rfl (lv_at hl 2 rfl) ?_
      refine lv_iload_n (pc := 34) hx hb dX11_put_34 rfl (lv_at hl 0 rfl) ?_
      obtain ⟨M8, e7, h⟩ := ob_out h
      refine c_vV (pc := 35) (rest := []) F S (tX5_append e7) mfX5_append (by decide) (by decide) cl5 w860 ⟨Nat.le_of_ble_eq_true rfl, Nat.le_of_ble_eq_true rfl⟩ rfl hl.1 rfl (Nat.le_of_ble_eq_true rfl) dX11_put_35 (fun H locs S => ?_)
      refine lv_aload_n (pc := 38) hx hb dX11_put_38 rfl (lv_at hl 1 rfl) ?_
      refine r_gR (pc := 39) (k := 5) (x := 15) (i := 10) (ci := 11) F S (by decide) (by decide) cl11 inRX11 (by decide) w324 (fun _ => rfl) dX11_put_39 ?_
      obtain ⟨v9, e10, h⟩ := ob_out h
      refine r_gI (pc := 42) (k := 1) F S e10 (by decide) cl5 inRX5 (by decide) w212 (fun _ => rfl) dX11_put_42 ?_
      cases h
      exact r_iret (pc := 45) F S rfl dX11_put_45
    · replace h := (if_neg c6).symm.trans h
      refine lv_bipush (pc := 26) (v := (-4)) hx hb dX11_put_26 (by decide) ?_
      cases h
      exact r_iret (pc := 28) F S rfl dX11_put_28
  · replace h := (if_pos c3).symm.trans h
    refine lv_bipush (pc := 9) (v := (-2)) hx hb dX11_put_9 (by decide) ?_
    cases h
    exact r_iret (pc := 11) F S rfl dX11_put_11
theorem mfX11_wipe : MF true yX11_wipe RX11 cX11_wipe 2 (some .int) 0 := ⟨w867, w1, by rw [if_pos rfl]; exact ⟨w865, w866⟩, ⟨by decide, by decide⟩, by decide +kernel⟩
set_option maxHeartbeats 4000000 in
theorem tX11_wipe {l : Launch} {G : GD} {M N Mo : Mem} {r : Int32} (h : fX11_wipe M = some (r, Mo)) : MI l yX11_wipe cX11_wipe 2 .int 0 0 G [.ref (G.2.1 10)] M N r Mo N := by
  unfold fX11_wipe at h
  refine MI_of (own := RX11) (by decide) rfl (Nat.le_of_ble_eq_true rfl) ?_
  intro p e s m args below meth c F S ls hl
  have hx := F.1
  have hb := F.2.1
  have hown := F.2.2.2.2.1
  have hts := F.2.2.2.2.2.1
  have hZ := F.2.2.2.2.2.2.2.2.2
  have hl : lv_has ls 2 [(0, .ref (G.2.1 10))] := hl
  generalize s.heap = H, ([] : List Loc) = locs at S ⊢
  refine lv_aload_n (pc := 0) hx hb dX11_wipe_0 rfl (lv_at hl 0 rfl) ?_
  refine r_gR (pc := 1) (k := 5) (x := 15) (i := 10) (ci := 11) F S (by decide) (by decide) cl11 inRX11 (by decide) w324 (fun _ => rfl) dX11_wipe_1 ?_
  obtain ⟨v1, e2, h⟩ := ob_out h
  refine r_gI (pc := 4) (k := 1) F S e2 (by decide) cl5 inRX5 (by decide) w212 (fun _ => rfl) dX11_wipe_4 ?_
  refine lv_istore_n (pc := 7) (lv' := [(1, .int v1), (0, .ref (G.2.1 10))]) hx hb dX11_wipe_7 rfl hl (by decide) rfl (fun ls hl => ?_)
  refine lv_aload_n (pc := 8) hx hb dX11_wipe_8 rfl (lv_at hl 1 rfl) ?_
  refine r_gR (pc := 9) (k := 5) (x := 15) (i := 10) (ci := 11) F S (by decide) (by decide) cl11 inRX11 (by decide) w324 (fun _ => rfl) dX11_wipe_9 ?_
  refine lv_iconst (pc := 12) (v := 0) hx hb dX11_wipe_12 (by decide) ?_
  obtain ⟨M3, e4, h⟩ := ob_out h
  refine r_pI (pc := 13) (k := 1) (ty0 := tyX5) F S e4 (by decide) cl5 inRX5 tyX5_ok nmX5 (by decide) w212 rfl (by decide +kernel) (fun _ => Nat.le_of_ble_eq_true rfl) (fun _ => pf_5_1) dX11_wipe_13 (fun H locs S => ?_)
  refine lv_iload_n (pc := 16) hx hb dX11_wipe_16 rfl (lv_at hl 0 rfl) ?_
  cases h
  exact r_iret (pc := 17) F S rfl dX11_wipe_17
theorem mfX11_fault : MF true yX11_fault RX11 cX11_fault 1 (some .int) 0 := ⟨w871, w1, by rw [if_pos rfl]; exact ⟨w869, w870⟩, ⟨by decide, by decide⟩, by decide +kernel⟩
set_option maxHeartbeats 4000000 in
theorem tX11_fault {l : Launch} {G : GD} {M N Mo : Mem} {r : Int32} (h : fX11_fault M = some (r, Mo)) : MI l yX11_fault cX11_fault 1 .int 6 131 G [.ref (G.2.1 10)] M N r Mo N := by
  unfold fX11_fault at h
  refine MI_of (own := RX11) (by decide) rfl (Nat.le_of_ble_eq_true rfl) ?_
  intro p e s m args below meth c F S ls hl
  have hx := F.1
  have hb := F.2.1
  have hown := F.2.2.2.2.1
  have hts := F.2.2.2.2.2.1
  have hZ := F.2.2.2.2.2.2.2.2.2
  have hl : lv_has ls 1 [(0, .ref (G.2.1 10))] := hl
  generalize s.heap = H, ([] : List Loc) = locs at S ⊢
  refine lv_aload_n (pc := 0) hx hb dX11_fault_0 rfl (lv_at hl 0 rfl) ?_
  refine r_gR (pc := 1) (k := 4) (x := 14) (i := 10) (ci := 11) F S (by decide) (by decide) cl11 inRX11 (by decide) w323 (fun _ => rfl) dX11_fault_1 ?_
  obtain ⟨v2, M3, e1, h⟩ := ob2_out h
  refine c_vI (pc := 4) (rest := []) F S (tX4_read e1) mfX4_read (by decide) (by decide) cl4 w632 ⟨Nat.le_of_ble_eq_true rfl, Nat.le_of_ble_eq_true rfl⟩ rfl hl.1 rfl (Nat.le_of_ble_eq_true rfl) dX11_fault_4 (fun H locs S => ?_)
  refine lv_if_eq (pc := 7) (tgt := 15) hx hb dX11_fault_7 (by decide) (fun c4 => ?_) (fun c4 => ?_)
  · replace h := (if_pos c4).symm.trans h
    refine lv_aload_n (pc := 15) hx hb dX11_fault_15 rfl (lv_at hl 0 rfl) ?_
    refine r_gR (pc := 16) (k := 4) (x := 14) (i := 10) (ci := 11) F S (by decide) (by decide) cl11 inRX11 (by decide) w323 (fun _ => rfl) dX11_fault_16 ?_
    obtain ⟨v5, e6, h⟩ := ob_out h
    refine r_gI (pc := 19) (k := 1) F S e6 (by decide) cl4 inRX4 (by decide) w221 (fun _ => rfl) dX11_fault_19 ?_
    cases h
    exact r_iret (pc := 22) F S rfl dX11_fault_22
  · replace h := (if_neg c4).symm.trans h
    refine lv_bipush (pc := 10) (v := (-6)) hx hb dX11_fault_10 (by decide) ?_
    refine lv_goto (pc := 12) (tgt := 22) hx hb dX11_fault_12 (by decide) ?_
    cases h
    exact r_iret (pc := 22) F S rfl dX11_fault_22
theorem mfX2_pop : MF true yX2_pop RX2 cX2_pop 2 (some .boolean) 1 := ⟨w879, w7, by rw [if_pos rfl]; exact ⟨w877, w878⟩, ⟨by decide, by decide⟩, by decide +kernel⟩
set_option maxHeartbeats 4000000 in
theorem tX2_pop {l : Launch} {G : GD} {M N Mo : Mem} {a1 : Nat} {r : Int32} (h : fX2_pop M a1 = some (r, Mo)) : MI l yX2_pop cX2_pop 2 .boolean 4 87 G [.ref (G.2.1 12), .ref (G.2.1 a1)] M N r Mo N := by
  unfold fX2_pop at h
  refine MI_of (own := RX2) (by decide) rfl (Nat.le_of_ble_eq_true rfl) ?_
  intro p e s m args below meth c F S ls hl
  have hx := F.1
  have hb := F.2.1
  have hown := F.2.2.2.2.1
  have hts := F.2.2.2.2.2.1
  have hZ := F.2.2.2.2.2.2.2.2.2
  have hl : lv_has ls 2 [(0, .ref (G.2.1 12)), (1, .ref (G.2.1 a1))] := hl
  generalize s.heap = H, ([] : List Loc) = locs at S ⊢
  refine lv_aload_n (pc := 0) hx hb dX2_pop_0 rfl (lv_at hl 0 rfl) ?_
  obtain ⟨v1, e2, h⟩ := ob_out h
  refine r_gI (pc := 1) (k := 1) F S e2 (by decide) cl2 inRX2 (by decide) w189 (fun _ => rfl) dX2_pop_1 ?_
  refine lv_if_gt (pc := 4) (tgt := 9) hx hb dX2_pop_4 (by decide) (fun c3 => ?_) (fun c3 => ?_)
  · replace h := (if_pos c3).symm.trans h
    refine lv_aload_n (pc := 9) hx hb dX2_pop_9 rfl (lv_at hl 0 rfl) ?_
    refine lv_dup (pc := 10) hx hb dX2_pop_10 rfl ?_
    obtain ⟨v4, e5, h⟩ := ob_out h
    refine r_gI (pc := 11) (k := 1) F S e5 (by decide) cl2 inRX2 (by decide) w189 (fun _ => rfl) dX2_pop_11 ?_
    refine lv_iconst (pc := 14) (v := 1) hx hb dX2_pop_14 (by decide) ?_
    refine lv_isub (pc := 15) hx hb dX2_pop_15 ?_
    obtain ⟨M6, e7, h⟩ := ob_out h
    refine r_pI (pc := 16) (k := 1) (ty0 := tyX2) F S e7 (by decide) cl2 inRX2 tyX2_ok nmX2 (by decide) w189 rfl (by decide +kernel) (fun _ => Nat.le_of_ble_eq_true rfl) (fun _ => pf_2_1) dX2_pop_16 (fun H locs S => ?_)
    refine lv_aload_n (pc := 19) hx hb dX2_pop_19 rfl (lv_at hl 1 rfl) ?_
    refine lv_aload_n (pc := 20) hx hb dX2_pop_20 rfl (lv_at hl 0 rfl) ?_
    refine r_gR (pc := 21) (k := 0) (x := 13) (i := 12) (ci := 2) F S (by decide) (by decide) cl2 inRX2 (by decide) w188 (fun _ => rfl) dX2_pop_21 ?_
    refine lv_aload_n (pc := 24) hx hb dX2_pop_24 rfl (lv_at hl 0 rfl) ?_
    obtain ⟨v8, e9, h⟩ := ob_out h
    refine r_gI (pc := 25) (k := 1) F S e9 (by decide) cl2 inRX2 (by decide) w189 (fun _ => rfl) dX2_pop_25 ?_
    obtain ⟨x10, e11, h⟩ := ob_out h
    refine r_aD (pc := 28) F S e11 dX2_pop_28 ?_
    obtain ⟨M13, e12, h⟩ := ob_out h
    refine c_vV (pc := 29) (rest := []) F S (tX7_copyFrom e12) mfX7_copyFrom (sX7_copyFrom e12) (by decide) cl7 w366 ⟨Nat.le_of_ble_eq_true rfl, Nat.le_of_ble_eq_true rfl⟩ rfl hl.1 rfl (Nat.le_of_ble_eq_true rfl) dX2_pop_29 (fun H locs S => ?_)
    refine lv_iconst (pc := 32) (v := 1) hx hb dX2_pop_32 (by decide) ?_
    cases h
    exact r_iret (pc := 33) F S rfl dX2_pop_33
  · replace h := (if_neg c3).symm.trans h
    refine lv_iconst (pc := 7) (v := 0) hx hb dX2_pop_7 (by decide) ?_
    cases h
    exact r_iret (pc := 8) F S rfl dX2_pop_8
theorem mfX11_undo : MF true yX11_undo RX11 cX11_undo 1 (some .int) 0 := ⟨w875, w1, by rw [if_pos rfl]; exact ⟨w873, w874⟩, ⟨by decide, by decide⟩, by decide +kernel⟩
set_option maxHeartbeats 4000000 in
theorem tX11_undo {l : Launch} {G : GD} {M N Mo : Mem} {r : Int32} (h : fX11_undo M = some (r, Mo)) : MI l yX11_undo cX11_undo 1 .int 5 108 G [.ref (G.2.1 10)] M N r Mo N := by
  unfold fX11_undo at h
  refine MI_of (own := RX11) (by decide) rfl (Nat.le_of_ble_eq_true rfl) ?_
  intro p e s m args below meth c F S ls hl
  have hx := F.1
  have hb := F.2.1
  have hown := F.2.2.2.2.1
  have hts := F.2.2.2.2.2.1
  have hZ := F.2.2.2.2.2.2.2.2.2
  have hl : lv_has ls 1 [(0, .ref (G.2.1 10))] := hl
  generalize s.heap = H, ([] : List Loc) = locs at S ⊢
  refine lv_aload_n (pc := 0) hx hb dX11_undo_0 rfl (lv_at hl 0 rfl) ?_
  refine r_gR (pc := 1) (k := 1) (x := 12) (i := 10) (ci := 11) F S (by decide) (by decide) cl11 inRX11 (by decide) w320 (fun _ => rfl) dX11_undo_1 ?_
  refine lv_aload_n (pc := 4) hx hb dX11_undo_4 rfl (lv_at hl 0 rfl) ?_
  refine r_gR (pc := 5) (k := 0) (x := 34) (i := 10) (ci := 11) F S (by decide) (by decide) cl11 inRX11 (by decide) w319 (fun _ => rfl) dX11_undo_5 ?_
  obtain ⟨v2, M3, e1, h⟩ := ob2_out h
  refine c_vI (pc := 8) (rest := []) F S (tX2_pop e1) mfX2_pop (by decide) (by decide) cl2 w876 ⟨Nat.le_of_ble_eq_true rfl, Nat.le_of_ble_eq_true rfl⟩ rfl hl.1 rfl (Nat.le_of_ble_eq_true rfl) dX11_undo_8 (fun H locs S => ?_)
  refine lv_if_eq (pc := 11) (tgt := 24) hx hb dX11_undo_11 (by decide) (fun c4 => ?_) (fun c4 => ?_)
  · replace h := (if_pos c4).symm.trans h
    refine lv_bipush (pc := 24) (v := (-5)) hx hb dX11_undo_24 (by decide) ?_
    cases h
    exact r_iret (pc := 26) F S rfl dX11_undo_26
  · replace h := (if_neg c4).symm.trans h
    refine lv_aload_n (pc := 14) hx hb dX11_undo_14 rfl (lv_at hl 0 rfl) ?_
    refine r_gR (pc := 15) (k := 1) (x := 12) (i := 10) (ci := 11) F S (by decide) (by decide) cl11 inRX11 (by decide) w320 (fun _ => rfl) dX11_undo_15 ?_
    obtain ⟨v5, e6, h⟩ := ob_out h
    refine r_gI (pc := 18) (k := 1) F S e6 (by decide) cl2 inRX2 (by decide) w190 (fun _ => rfl) dX11_undo_18 ?_
    refine lv_goto (pc := 21) (tgt := 26) hx hb dX11_undo_21 (by decide) ?_
    cases h
    exact r_iret (pc := 26) F S rfl dX11_undo_26
theorem sX7_allLamps {M : Mem} {a0 : Nat} {r : (Int32)} (h : fX7_allLamps M a0 = some r) : shp a0 = 7 := by
  unfold fX7_allLamps at h
  exact (ck_out h).1
theorem mfX7_allLamps : MF true yX7_allLamps RX7 cX7_allLamps 6 (some .int) 0 := ⟨w888, w2, by rw [if_pos rfl]; exact ⟨w886, w887⟩, ⟨by decide, by decide⟩, by decide +kernel⟩
set_option maxHeartbeats 4000000 in
theorem pX7_allLamps_L13 {p : Program} {l : Launch} {e : Env} {s : State} {m : MethodId} {args : Array Value} {below : List Frame} {meth : Method} {c : Code} {Q : State → Prop} {G : GD} (F : FX p s m args meth c RX7 cX7_allLamps 6 (some .int) G) : ∀ (n : Nat) {M N : Mem} {a1 : Int32} {a2 : Nat} {a3 : Int32} {a4 : Int32} {H : Heap} {locs : List Loc} {ls : Array Slot} {o1 : Int32}, ST G M N s H locs → lv_has ls 6 [(1, .int a1), (2, .ref (G.2.1 a2)), (3, .int a3), (4, .int a4)] → fX7_allLamps_L13 n M a1 a2 a3 a4 = some o1 → (K1 : ∀ (H : Heap) (locs : List Loc) (ls : Array Slot), ST G M N s H locs → lv_has ls 6 [(1, .int o1)] → W p l e (Rm 0 0) s m args below meth c H locs 0 0 Q (F0 m 39 ls [])) → W p l e (Rm 0 0) s m args below meth c H locs 0 0 Q (F0 m 13 ls []) := by
  intro n
  induction n with
  | zero => intro M N a1 a2 a3 a4 H locs ls o1 S hl h K1; cases h
  | succ n ih =>
    intro M N a1 a2 a3 a4 H locs ls o1 S hl h K1
    rw [fX7_allLamps_L13] at h
    have hx := F.1
    have hb := F.2.1
    have hown := F.2.2.2.2.1
    have hts := F.2.2.2.2.2.1
    have hZ := F.2.2.2.2.2.2.2.2.2
    refine lv_iload (pc := 13) hx hb dX7_allLamps_13 (lv_at hl 3 rfl) ?_
    refine lv_iload_n (pc := 15) hx hb dX7_allLamps_15 rfl (lv_at hl 2 rfl) ?_
    refine lv_icmp_ge (pc := 16) (tgt := 39) hx hb dX7_allLamps_16 (by decide) (fun c5 => ?_) (fun c5 => ?_)
    · replace h := (if_pos c5).symm.trans h
      cases h
      exact K1 H locs ls S (lv_sub hl [0] rfl)
    · replace h := (if_neg c5).symm.trans h
      refine lv_aload_n (pc := 19) hx hb dX7_allLamps_19 rfl (lv_at hl 1 rfl) ?_
      refine lv_iload (pc := 20) hx hb dX7_allLamps_20 (lv_at hl 3 rfl) ?_
      obtain ⟨x6, e7, h⟩ := ob_out h
      refine r_aR22 (pc := 22) F S e7 dX7_allLamps_22 ?_
      refine lv_astore (pc := 23) (lv' := [(5, .ref (G.2.1 x6)), (1, .int a1), (2, .ref (G.2.1 a2)), (3, .int a3), (4, .int a4)]) hx hb dX7_allLamps_23 hl (by decide) rfl (fun ls hl => ?_)
      refine lv_iload_n (pc := 25) hx hb dX7_allLamps_25 rfl (lv_at hl 1 rfl) ?_
      refine lv_aload (pc := 26) hx hb dX7_allLamps_26 (lv_at hl 0 rfl) ?_
      obtain ⟨v8, e9, h⟩ := ob_out h
      refine r_gI (pc := 28) (k := 2) F S e9 (by decide) cl6 inRX6 (by decide) w110 (fun _ => rfl) dX7_allLamps_28 ?_
      refine lv_iadd (pc := 31) hx hb dX7_allLamps_31 ?_
      obtain ⟨v10, e11, h⟩ := lt1_out h
      refine nm_i e11 ?_
      refine lv_istore_n (pc := 32) (lv' := [(1, .int v10), (5, .ref (G.2.1 x6)), (2, .ref (G.2.1 a2)), (3, .int a3), (4, .int a4)]) hx hb dX7_allLamps_32 rfl hl (by decide) rfl (fun ls hl => ?_)
      refine lv_iinc (pc := 33) (lv' := [(4, .int (a4 + 1)), (1, .int v10), (5, .ref (G.2.1 x6)), (2, .ref (G.2.1 a2)), (3, .int a3)]) hx hb dX7_allLamps_33 hl (k := 4) rfl (iinc_n (by decide)) (by decide) rfl (fun ls hl => ?_)
      refine lv_goto (pc := 36) (tgt := 13) hx hb dX7_allLamps_36 (by decide) ?_
      exact ih S (lv_sub hl [1, 3, 4, 0] rfl) h K1
set_option maxHeartbeats 4000000 in
theorem tX7_allLamps {l : Launch} {G : GD} {M N : Mem} {a0 : Nat} {r : Int32} (h : fX7_allLamps M a0 = some r) : MI l yX7_allLamps cX7_allLamps 6 .int 0 0 G [.ref (G.2.1 a0)] M N r M N := by
  unfold fX7_allLamps at h
  obtain ⟨hsh, h⟩ := ck_out h
  refine MI_of (own := RX7) (by decide) rfl (Nat.le_of_ble_eq_true rfl) ?_
  intro p e s m args below meth c F S ls hl
  have hx := F.1
  have hb := F.2.1
  have hown := F.2.2.2.2.1
  have hts := F.2.2.2.2.2.1
  have hZ := F.2.2.2.2.2.2.2.2.2
  have hl : lv_has ls 6 [(0, .ref (G.2.1 a0))] := hl
  generalize s.heap = H, ([] : List Loc) = locs at S ⊢
  refine lv_iconst (pc := 0) (v := 0) hx hb dX7_allLamps_0 (by decide) ?_
  refine lv_istore_n (pc := 1) (lv' := [(1, .int 0), (0, .ref (G.2.1 a0))]) hx hb dX7_allLamps_1 rfl hl (by decide) rfl (fun ls hl => ?_)
  refine lv_aload_n (pc := 2) hx hb dX7_allLamps_2 rfl (lv_at hl 1 rfl) ?_
  obtain ⟨x1, e2, h⟩ := ob_out h
  refine r_gR (pc := 3) (k := 2) F S e2 (by decide) cl7 inRX7 (by decide) w170 (fun _ => rfl) dX7_allLamps_3 ?_
  refine lv_astore_n (pc := 6) (lv' := [(2, .ref (G.2.1 x1)), (1, .int 0), (0, .ref (G.2.1 a0))]) hx hb dX7_allLamps_6 rfl hl (by decide) rfl (fun ls hl => ?_)
  refine lv_aload_n (pc := 7) hx hb dX7_allLamps_7 rfl (lv_at hl 0 rfl) ?_
  obtain ⟨v3, e4, h⟩ := ob_out h
  refine r_aN (pc := 8) F S e4 (by decide) dX7_allLamps_8 ?_
  refine lv_istore_n (pc := 9) (lv' := [(3, .int v3), (2, .ref (G.2.1 x1)), (1, .int 0), (0, .ref (G.2.1 a0))]) hx hb dX7_allLamps_9 rfl hl (by decide) rfl (fun ls hl => ?_)
  refine lv_iconst (pc := 10) (v := 0) hx hb dX7_allLamps_10 (by decide) ?_
  refine lv_istore (pc := 11) (lv' := [(4, .int 0), (3, .int v3), (2, .ref (G.2.1 x1)), (1, .int 0), (0, .ref (G.2.1 a0))]) hx hb dX7_allLamps_11 hl (by decide) rfl (fun ls hl => ?_)
  obtain ⟨v5, e6, h⟩ := ob_out h
  refine pX7_allLamps_L13 F 5000 S (lv_sub hl [3, 2, 1, 0] rfl) e6 (fun H locs ls S hl => ?_)
  refine lv_iload_n (pc := 39) hx hb dX7_allLamps_39 rfl (lv_at hl 0 rfl) ?_
  cases h
  exact r_iret (pc := 40) F S rfl dX7_allLamps_40
theorem mfX11_save : MF true yX11_save RX11 cX11_save 2 (some .int) 1 := ⟨w883, w1, by rw [if_pos rfl]; exact ⟨w881, w882⟩, ⟨by decide, by decide⟩, by decide +kernel⟩
set_option maxHeartbeats 4000000 in
theorem tX11_save {l : Launch} {G : GD} {M N Mo : Mem} {a1 : Int32} {r : Int32} (h : fX11_save M a1 = some (r, Mo)) : MI l yX11_save cX11_save 2 .int 4 87 G [.ref (G.2.1 10), .int a1] M N r Mo N := by
  unfold fX11_save at h
  refine MI_of (own := RX11) (by decide) rfl (Nat.le_of_ble_eq_true rfl) ?_
  intro p e s m args below meth c F S ls hl
  have hx := F.1
  have hb := F.2.1
  have hown := F.2.2.2.2.1
  have hts := F.2.2.2.2.2.1
  have hZ := F.2.2.2.2.2.2.2.2.2
  have hl : lv_has ls 2 [(0, .ref (G.2.1 10)), (1, .int a1)] := hl
  generalize s.heap = H, ([] : List Loc) = locs at S ⊢
  refine lv_iload_n (pc := 0) hx hb dX11_save_0 rfl (lv_at hl 1 rfl) ?_
  refine lv_iconst (pc := 1) (v := 0) hx hb dX11_save_1 (by decide) ?_
  refine lv_iconst (pc := 2) (v := 1) hx hb dX11_save_2 (by decide) ?_
  obtain ⟨v2, e1, h⟩ := ob_out h
  refine c_sI (pc := 3) (rest := []) F S (tX11_isIn e1) mfX11_isIn w353 ⟨Nat.le_of_ble_eq_true rfl, Nat.le_of_ble_eq_true rfl⟩ rfl hl.1 rfl (Nat.le_of_ble_eq_true rfl) dX11_save_3 (fun H locs S => ?_)
  refine lv_if_ne (pc := 6) (tgt := 12) hx hb dX11_save_6 (by decide) (fun c3 => ?_) (fun c3 => ?_)
  · replace h := (if_neg c3).symm.trans h
    refine lv_aload_n (pc := 12) hx hb dX11_save_12 rfl (lv_at hl 0 rfl) ?_
    refine r_gR (pc := 13) (k := 2) (x := 11) (i := 10) (ci := 11) F S (by decide) (by decide) cl11 inRX11 (by decide) w321 (fun _ => rfl) dX11_save_13 ?_
    refine lv_iload_n (pc := 16) hx hb dX11_save_16 rfl (lv_at hl 1 rfl) ?_
    obtain ⟨x4, e5, h⟩ := ob_out h
    refine r_aD (pc := 17) F S e5 dX11_save_17 ?_
    refine lv_aload_n (pc := 18) hx hb dX11_save_18 rfl (lv_at hl 0 rfl) ?_
    refine r_gR (pc := 19) (k := 0) (x := 34) (i := 10) (ci := 11) F S (by decide) (by decide) cl11 inRX11 (by decide) w319 (fun _ => rfl) dX11_save_19 ?_
    obtain ⟨M7, e6, h⟩ := ob_out h
    refine c_vV (pc := 22) (rest := []) F S (tX7_copyFrom e6) mfX7_copyFrom (sX7_copyFrom e6) (by decide) cl7 w884 ⟨Nat.le_of_ble_eq_true rfl, Nat.le_of_ble_eq_true rfl⟩ rfl hl.1 rfl (Nat.le_of_ble_eq_true rfl) dX11_save_22 (fun H locs S => ?_)
    refine lv_aload_n (pc := 25) hx hb dX11_save_25 rfl (lv_at hl 0 rfl) ?_
    refine lv_dup (pc := 26) hx hb dX11_save_26 rfl ?_
    obtain ⟨v8, e9, h⟩ := ob_out h
    refine r_gI (pc := 27) (k := 3) F S e9 (by decide) cl11 inRX11 (by decide) w322 (fun _ => rfl) dX11_save_27 ?_
    refine lv_iconst (pc := 30) (v := 1) hx hb dX11_save_30 (by decide) ?_
    refine lv_iload_n (pc := 31) hx hb dX11_save_31 rfl (lv_at hl 1 rfl) ?_
    refine lv_ishl (pc := 32) hx hb dX11_save_32 ?_
    refine lv_ior (pc := 33) hx hb dX11_save_33 ?_
    obtain ⟨M10, e11, h⟩ := ob_out h
    refine r_pI (pc := 34) (k := 3) (ty0 := tyX11) F S e11 (by decide) cl11 inRX11 tyX11_ok nmX11 (by decide) w322 rfl (by decide +kernel) (fun _ => Nat.le_of_ble_eq_true rfl) (fun _ => pf_11_3) dX11_save_34 (fun H locs S => ?_)
    refine lv_aload_n (pc := 37) hx hb dX11_save_37 rfl (lv_at hl 0 rfl) ?_
    refine r_gR (pc := 38) (k := 0) (x := 34) (i := 10) (ci := 11) F S (by decide) (by decide) cl11 inRX11 (by decide) w319 (fun _ => rfl) dX11_save_38 ?_
    obtain ⟨v13, e12, h⟩ := ob_out h
    refine c_vI (pc := 41) (rest := []) F S (tX7_allLamps e12) mfX7_allLamps (by decide) (by decide) cl7 w885 ⟨Nat.le_of_ble_eq_true rfl, Nat.le_of_ble_eq_true rfl⟩ rfl hl.1 rfl (Nat.le_of_ble_eq_true rfl) dX11_save_41 (fun H locs S => ?_)
    cases h
    exact r_iret (pc := 44) F S rfl dX11_save_44
  · replace h := (if_pos c3).symm.trans h
    refine lv_bipush (pc := 9) (v := (-2)) hx hb dX11_save_9 (by decide) ?_
    cases h
    exact r_iret (pc := 11) F S rfl dX11_save_11
theorem mfX11_restore : MF true yX11_restore RX11 cX11_restore 2 (some .int) 1 := ⟨w892, w1, by rw [if_pos rfl]; exact ⟨w890, w891⟩, ⟨by decide, by decide⟩, by decide +kernel⟩
set_option maxHeartbeats 4000000 in
theorem tX11_restore {l : Launch} {G : GD} {M N Mo : Mem} {a1 : Int32} {r : Int32} (h : fX11_restore M a1 = some (r, Mo)) : MI l yX11_restore cX11_restore 2 .int 5 108 G [.ref (G.2.1 10), .int a1] M N r Mo N := by
  unfold fX11_restore at h
  refine MI_of (own := RX11) (by decide) rfl (Nat.le_of_ble_eq_true rfl) ?_
  intro p e s m args below meth c F S ls hl
  have hx := F.1
  have hb := F.2.1
  have hown := F.2.2.2.2.1
  have hts := F.2.2.2.2.2.1
  have hZ := F.2.2.2.2.2.2.2.2.2
  have hl : lv_has ls 2 [(0, .ref (G.2.1 10)), (1, .int a1)] := hl
  generalize s.heap = H, ([] : List Loc) = locs at S ⊢
  refine lv_iload_n (pc := 0) hx hb dX11_restore_0 rfl (lv_at hl 1 rfl) ?_
  refine lv_iconst (pc := 1) (v := 0) hx hb dX11_restore_1 (by decide) ?_
  refine lv_iconst (pc := 2) (v := 1) hx hb dX11_restore_2 (by decide) ?_
  obtain ⟨v2, e1, h⟩ := ob_out h
  refine c_sI (pc := 3) (rest := []) F S (tX11_isIn e1) mfX11_isIn w353 ⟨Nat.le_of_ble_eq_true rfl, Nat.le_of_ble_eq_true rfl⟩ rfl hl.1 rfl (Nat.le_of_ble_eq_true rfl) dX11_restore_3 (fun H locs S => ?_)
  refine lv_if_ne (pc := 6) (tgt := 12) hx hb dX11_restore_6 (by decide) (fun c3 => ?_) (fun c3 => ?_)
  · replace h := (if_neg c3).symm.trans h
    refine lv_aload_n (pc := 12) hx hb dX11_restore_12 rfl (lv_at hl 0 rfl) ?_
    obtain ⟨v4, e5, h⟩ := ob_out h
    refine r_gI (pc := 13) (k := 3) F S e5 (by decide) cl11 inRX11 (by decide) w322 (fun _ => rfl) dX11_restore_13 ?_
    refine lv_iload_n (pc := 16) hx hb dX11_restore_16 rfl (lv_at hl 1 rfl) ?_
    obtain ⟨v7, e6, h⟩ := ob_out h
    refine c_sI (pc := 17) (rest := []) F S (tX11_hasBit e6) mfX11_hasBit w893 ⟨Nat.le_of_ble_eq_true rfl, Nat.le_of_ble_eq_true rfl⟩ rfl hl.1 rfl (Nat.le_of_ble_eq_true rfl) dX11_restore_17 (fun H locs S => ?_)
    refine lv_if_ne (pc := 20) (tgt := 26) hx hb dX11_restore_20 (by decide) (fun c8 => ?_) (fun c8 => ?_)
    · replace h := (if_neg c8).symm.trans h
      refine lv_aload_n (pc := 26) hx hb dX11_restore_26 rfl (lv_at hl 0 rfl) ?_
      refine r_gR (pc := 27) (k := 1) (x := 12) (i := 10) (ci := 11) F S (by decide) (by decide) cl11 inRX11 (by decide) w320 (fun _ => rfl) dX11_restore_27 ?_
      refine lv_aload_n (pc := 30) hx hb dX11_restore_30 rfl (lv_at hl 0 rfl) ?_
      refine r_gR (pc := 31) (k := 0) (x := 34) (i := 10) (ci := 11) F S (by decide) (by decide) cl11 inRX11 (by decide) w319 (fun _ => rfl) dX11_restore_31 ?_
      obtain ⟨M10, e9, h⟩ := ob_out h
      refine c_vV (pc := 34) (rest := []) F S (tX2_push e9) mfX2_push (by decide) (by decide) cl2 w358 ⟨Nat.le_of_ble_eq_true rfl, Nat.le_of_ble_eq_true rfl⟩ rfl hl.1 rfl (Nat.le_of_ble_eq_true rfl) dX11_restore_34 (fun H locs S => ?_)
      refine lv_aload_n (pc := 37) hx hb dX11_restore_37 rfl (lv_at hl 0 rfl) ?_
      refine r_gR (pc := 38) (k := 0) (x := 34) (i := 10) (ci := 11) F S (by decide) (by decide) cl11 inRX11 (by decide) w319 (fun _ => rfl) dX11_restore_38 ?_
      refine lv_aload_n (pc := 41) hx hb dX11_restore_41 rfl (lv_at hl 0 rfl) ?_
      refine r_gR (pc := 42) (k := 2) (x := 11) (i := 10) (ci := 11) F S (by decide) (by decide) cl11 inRX11 (by decide) w321 (fun _ => rfl) dX11_restore_42 ?_
      refine lv_iload_n (pc := 45) hx hb dX11_restore_45 rfl (lv_at hl 1 rfl) ?_
      obtain ⟨x11, e12, h⟩ := ob_out h
      refine r_aD (pc := 46) F S e12 dX11_restore_46 ?_
      obtain ⟨M14, e13, h⟩ := ob_out h
      refine c_vV (pc := 47) (rest := []) F S (tX7_copyFrom e13) mfX7_copyFrom (by decide) (by decide) cl7 w884 ⟨Nat.le_of_ble_eq_true rfl, Nat.le_of_ble_eq_true rfl⟩ rfl hl.1 rfl (Nat.le_of_ble_eq_true rfl) dX11_restore_47 (fun H locs S => ?_)
      refine lv_aload_n (pc := 50) hx hb dX11_restore_50 rfl (lv_at hl 0 rfl) ?_
      refine r_gR (pc := 51) (k := 0) (x := 34) (i := 10) (ci := 11) F S (by decide) (by decide) cl11 inRX11 (by decide) w319 (fun _ => rfl) dX11_restore_51 ?_
      obtain ⟨v16, e15, h⟩ := ob_out h
      refine c_vI (pc := 54) (rest := []) F S (tX7_allLamps e15) mfX7_allLamps (by decide) (by decide) cl7 w885 ⟨Nat.le_of_ble_eq_true rfl, Nat.le_of_ble_eq_true rfl⟩ rfl hl.1 rfl (Nat.le_of_ble_eq_true rfl) dX11_restore_54 (fun H locs S => ?_)
      cases h
      exact r_iret (pc := 57) F S rfl dX11_restore_57
    · replace h := (if_pos c8).symm.trans h
      refine lv_bipush (pc := 23) (v := (-5)) hx hb dX11_restore_23 (by decide) ?_
      cases h
      exact r_iret (pc := 25) F S rfl dX11_restore_25
  · replace h := (if_pos c3).symm.trans h
    refine lv_bipush (pc := 9) (v := (-2)) hx hb dX11_restore_9 (by decide) ?_
    cases h
    exact r_iret (pc := 11) F S rfl dX11_restore_11
theorem mfX12_in : MF false yX12_in RX12 cX12_in 3 (some .boolean) 3 := ⟨w974, w13, by rw [if_neg (by decide)]; exact w973, ⟨by decide, by decide⟩, by decide +kernel⟩
set_option maxHeartbeats 4000000 in
theorem tX12_in {l : Launch} {G : GD} {M N : Mem} {a0 : Int32} {a1 : Int32} {a2 : Int32} {r : Int32} (h : fX12_in a0 a1 a2 = some r) : MI l yX12_in cX12_in 3 .boolean 0 0 G [.int a0, .int a1, .int a2] M N r M N := by
  unfold fX12_in at h
  refine MI_of (own := RX12) (by decide) rfl (Nat.le_of_ble_eq_true rfl) ?_
  intro p e s m args below meth c F S ls hl
  have hx := F.1
  have hb := F.2.1
  have hown := F.2.2.2.2.1
  have hts := F.2.2.2.2.2.1
  have hZ := F.2.2.2.2.2.2.2.2.2
  have hl : lv_has ls 3 [(0, .int a0), (1, .int a1), (2, .int a2)] := hl
  generalize s.heap = H, ([] : List Loc) = locs at S ⊢
  refine lv_iload_n (pc := 0) hx hb dX12_in_0 rfl (lv_at hl 0 rfl) ?_
  refine lv_iload_n (pc := 1) hx hb dX12_in_1 rfl (lv_at hl 1 rfl) ?_
  refine lv_icmp_lt (pc := 2) (tgt := 14) hx hb dX12_in_2 (by decide) (fun c1 => ?_) (fun c1 => ?_)
  · replace h := (if_pos c1).symm.trans h
    refine lv_iconst (pc := 14) (v := 0) hx hb dX12_in_14 (by decide) ?_
    cases h
    exact r_iret (pc := 15) F S rfl dX12_in_15
  · replace h := (if_neg c1).symm.trans h
    refine lv_iload_n (pc := 5) hx hb dX12_in_5 rfl (lv_at hl 0 rfl) ?_
    refine lv_iload_n (pc := 6) hx hb dX12_in_6 rfl (lv_at hl 2 rfl) ?_
    refine lv_icmp_gt (pc := 7) (tgt := 14) hx hb dX12_in_7 (by decide) (fun c2 => ?_) (fun c2 => ?_)
    · replace h := (if_pos c2).symm.trans h
      refine lv_iconst (pc := 14) (v := 0) hx hb dX12_in_14 (by decide) ?_
      cases h
      exact r_iret (pc := 15) F S rfl dX12_in_15
    · replace h := (if_neg c2).symm.trans h
      refine lv_iconst (pc := 10) (v := 1) hx hb dX12_in_10 (by decide) ?_
      refine lv_goto (pc := 11) (tgt := 15) hx hb dX12_in_11 (by decide) ?_
      cases h
      exact r_iret (pc := 15) F S rfl dX12_in_15
theorem mfX12_at1 : MF false yX12_at1 RX12 cX12_at1 2 (some .int) 2 := ⟨w902, w13, by rw [if_neg (by decide)]; exact w901, ⟨by decide, by decide⟩, by decide +kernel⟩
set_option maxHeartbeats 4000000 in
theorem tX12_at1 {l : Launch} {G : GD} {M N : Mem} {a0 : Int32} {a1 : Int32} {r : Int32} (h : fX12_at1 a0 a1 = some r) : MI l yX12_at1 cX12_at1 2 .int 0 0 G [.int a0, .int a1] M N r M N := by
  unfold fX12_at1 at h
  refine MI_of (own := RX12) (by decide) rfl (Nat.le_of_ble_eq_true rfl) ?_
  intro p e s m args below meth c F S ls hl
  have hx := F.1
  have hb := F.2.1
  have hown := F.2.2.2.2.1
  have hts := F.2.2.2.2.2.1
  have hZ := F.2.2.2.2.2.2.2.2.2
  have hl : lv_has ls 2 [(0, .int a0), (1, .int a1)] := hl
  generalize s.heap = H, ([] : List Loc) = locs at S ⊢
  refine lv_bipush (pc := 0) (v := 22) hx hb dX12_at1_0 (by decide) ?_
  refine lv_sipush (pc := 2) (v := 223) hx hb dX12_at1_2 (by decide) ?_
  refine lv_iload_n (pc := 5) hx hb dX12_at1_5 rfl (lv_at hl 0 rfl) ?_
  refine lv_imul (pc := 6) hx hb dX12_at1_6 ?_
  refine lv_iadd (pc := 7) hx hb dX12_at1_7 ?_
  refine lv_iload_n (pc := 8) hx hb dX12_at1_8 rfl (lv_at hl 1 rfl) ?_
  refine lv_iadd (pc := 9) hx hb dX12_at1_9 ?_
  cases h
  exact r_iret (pc := 10) F S rfl dX12_at1_10
theorem mfX12_ofLamp : MF false yX12_ofLamp RX12 cX12_ofLamp 3 (some .int) 3 := ⟨w999, w13, by rw [if_neg (by decide)]; exact w998, ⟨by decide, by decide⟩, by decide +kernel⟩
set_option maxHeartbeats 4000000 in
theorem tX12_ofLamp {l : Launch} {G : GD} {M N : Mem} {a0 : Int32} {a1 : Int32} {a2 : Int32} {r : Int32} (h : fX12_ofLamp a0 a1 a2 = some r) : MI l yX12_ofLamp cX12_ofLamp 3 .int 1 21 G [.int a0, .int a1, .int a2] M N r M N := by
  unfold fX12_ofLamp at h
  refine MI_of (own := RX12) (by decide) rfl (Nat.le_of_ble_eq_true rfl) ?_
  intro p e s m args below meth c F S ls hl
  have hx := F.1
  have hb := F.2.1
  have hown := F.2.2.2.2.1
  have hts := F.2.2.2.2.2.1
  have hZ := F.2.2.2.2.2.2.2.2.2
  have hl : lv_has ls 3 [(0, .int a0), (1, .int a1), (2, .int a2)] := hl
  generalize s.heap = H, ([] : List Loc) = locs at S ⊢
  refine lv_iload_n (pc := 0) hx hb dX12_ofLamp_0 rfl (lv_at hl 0 rfl) ?_
  refine lv_iconst (pc := 1) (v := 3) hx hb dX12_ofLamp_1 (by decide) ?_
  refine lv_bipush (pc := 2) (v := 6) hx hb dX12_ofLamp_2 (by decide) ?_
  refine lv_iload_n (pc := 4) hx hb dX12_ofLamp_4 rfl (lv_at hl 1 rfl) ?_
  refine lv_imul (pc := 5) hx hb dX12_ofLamp_5 ?_
  refine lv_iadd (pc := 6) hx hb dX12_ofLamp_6 ?_
  refine lv_iload_n (pc := 7) hx hb dX12_ofLamp_7 rfl (lv_at hl 2 rfl) ?_
  refine lv_iadd (pc := 8) hx hb dX12_ofLamp_8 ?_
  obtain ⟨v2, e1, h⟩ := ob_out h
  refine c_sI (pc := 9) (rest := []) F S (tX12_at1 e1) mfX12_at1 w900 ⟨Nat.le_of_ble_eq_true rfl, Nat.le_of_ble_eq_true rfl⟩ rfl hl.1 rfl (Nat.le_of_ble_eq_true rfl) dX12_ofLamp_9 (fun H locs S => ?_)
  cases h
  exact r_iret (pc := 12) F S rfl dX12_ofLamp_12
theorem mfX12_ofCue : MF false yX12_ofCue RX12 cX12_ofCue 2 (some .int) 2 := ⟨w1002, w13, by rw [if_neg (by decide)]; exact w1001, ⟨by decide, by decide⟩, by decide +kernel⟩
set_option maxHeartbeats 4000000 in
theorem tX12_ofCue {l : Launch} {G : GD} {M N : Mem} {a0 : Int32} {a1 : Int32} {r : Int32} (h : fX12_ofCue a0 a1 = some r) : MI l yX12_ofCue cX12_ofCue 2 .int 1 21 G [.int a0, .int a1] M N r M N := by
  unfold fX12_ofCue at h
  refine MI_of (own := RX12) (by decide) rfl (Nat.le_of_ble_eq_true rfl) ?_
  intro p e s m args below meth c F S ls hl
  have hx := F.1
  have hb := F.2.1
  have hown := F.2.2.2.2.1
  have hts := F.2.2.2.2.2.1
  have hZ := F.2.2.2.2.2.2.2.2.2
  have hl : lv_has ls 2 [(0, .int a0), (1, .int a1)] := hl
  generalize s.heap = H, ([] : List Loc) = locs at S ⊢
  refine lv_iload_n (pc := 0) hx hb dX12_ofCue_0 rfl (lv_at hl 0 rfl) ?_
  refine lv_bipush (pc := 1) (v := 117) hx hb dX12_ofCue_1 (by decide) ?_
  refine lv_bipush (pc := 3) (v := 13) hx hb dX12_ofCue_3 (by decide) ?_
  refine lv_iload_n (pc := 5) hx hb dX12_ofCue_5 rfl (lv_at hl 1 rfl) ?_
  refine lv_imul (pc := 6) hx hb dX12_ofCue_6 ?_
  refine lv_iadd (pc := 7) hx hb dX12_ofCue_7 ?_
  obtain ⟨v2, e1, h⟩ := ob_out h
  refine c_sI (pc := 8) (rest := []) F S (tX12_at1 e1) mfX12_at1 w900 ⟨Nat.le_of_ble_eq_true rfl, Nat.le_of_ble_eq_true rfl⟩ rfl hl.1 rfl (Nat.le_of_ble_eq_true rfl) dX12_ofCue_8 (fun H locs S => ?_)
  cases h
  exact r_iret (pc := 11) F S rfl dX12_ofCue_11
theorem mfX12_isPremiere : MF false yX12_isPremiere RX12 cX12_isPremiere 1 (some .boolean) 1 := ⟨w989, w13, by rw [if_neg (by decide)]; exact w988, ⟨by decide, by decide⟩, by decide +kernel⟩
set_option maxHeartbeats 4000000 in
theorem tX12_isPremiere {l : Launch} {G : GD} {M N : Mem} {a0 : Int32} {r : Int32} (h : fX12_isPremiere a0 = some r) : MI l yX12_isPremiere cX12_isPremiere 1 .boolean 1 22 G [.int a0] M N r M N := by
  unfold fX12_isPremiere at h
  refine MI_of (own := RX12) (by decide) rfl (Nat.le_of_ble_eq_true rfl) ?_
  intro p e s m args below meth c F S ls hl
  have hx := F.1
  have hb := F.2.1
  have hown := F.2.2.2.2.1
  have hts := F.2.2.2.2.2.1
  have hZ := F.2.2.2.2.2.2.2.2.2
  have hl : lv_has ls 1 [(0, .int a0)] := hl
  generalize s.heap = H, ([] : List Loc) = locs at S ⊢
  refine lv_iload_n (pc := 0) hx hb dX12_isPremiere_0 rfl (lv_at hl 0 rfl) ?_
  refine lv_iconst (pc := 1) (v := 0) hx hb dX12_isPremiere_1 (by decide) ?_
  refine lv_iconst (pc := 2) (v := 2) hx hb dX12_isPremiere_2 (by decide) ?_
  obtain ⟨v2, e1, h⟩ := ob_out h
  refine c_sI (pc := 3) (rest := []) F S (tX12_in e1) mfX12_in w972 ⟨Nat.le_of_ble_eq_true rfl, Nat.le_of_ble_eq_true rfl⟩ rfl hl.1 rfl (Nat.le_of_ble_eq_true rfl) dX12_isPremiere_3 (fun H locs S => ?_)
  obtain ⟨b3, e4, h⟩ := ob_out h
  cases h
  refine nm_i (bz_out e4).1 ?_
  exact r_iret (pc := 6) F S (bool_narrow (by rw [← (bz_out e4).1]; exact (bz_out e4).2)).1 dX12_isPremiere_6
theorem mfX12_isLamp : MF true yX12_isLamp RX12 cX12_isLamp 3 (some .boolean) 2 := ⟨w1010, w13, by rw [if_pos rfl]; exact ⟨w1009, wp20⟩, ⟨by decide, by decide⟩, by decide +kernel⟩
set_option maxHeartbeats 4000000 in
theorem tX12_isLamp {l : Launch} {G : GD} {M N : Mem} {a1 : Int32} {a2 : Int32} {r : Int32} (h : fX12_isLamp N a1 a2 = some r) : MI l yX12_isLamp cX12_isLamp 3 .boolean 2 42 G [.ref (G.2.1 0), .int a1, .int a2] M N r M N := by
  unfold fX12_isLamp at h
  refine MI_of (own := RX12) (by decide) rfl (Nat.le_of_ble_eq_true rfl) ?_
  intro p e s m args below meth c F S ls hl
  have hx := F.1
  have hb := F.2.1
  have hown := F.2.2.2.2.1
  have hts := F.2.2.2.2.2.1
  have hZ := F.2.2.2.2.2.2.2.2.2
  have hl : lv_has ls 3 [(0, .ref (G.2.1 0)), (1, .int a1), (2, .int a2)] := hl
  generalize s.heap = H, ([] : List Loc) = locs at S ⊢
  refine lv_iload_n (pc := 0) hx hb dX12_isLamp_0 rfl (lv_at hl 1 rfl) ?_
  obtain ⟨v2, e1, h⟩ := ob_out h
  refine c_sI (pc := 1) (rest := []) F S (tX12_isPremiere e1) mfX12_isPremiere w987 ⟨Nat.le_of_ble_eq_true rfl, Nat.le_of_ble_eq_true rfl⟩ rfl hl.1 rfl (Nat.le_of_ble_eq_true rfl) dX12_isLamp_1 (fun H locs S => ?_)
  refine lv_if_eq (pc := 4) (tgt := 31) hx hb dX12_isLamp_4 (by decide) (fun c3 => ?_) (fun c3 => ?_)
  · replace h := (if_pos c3).symm.trans h
    refine lv_iconst (pc := 31) (v := 0) hx hb dX12_isLamp_31 (by decide) ?_
    cases h
    exact r_iret (pc := 32) F S rfl dX12_isLamp_32
  · replace h := (if_neg c3).symm.trans h
    refine lv_iload_n (pc := 7) hx hb dX12_isLamp_7 rfl (lv_at hl 2 rfl) ?_
    refine lv_iconst (pc := 8) (v := 0) hx hb dX12_isLamp_8 (by decide) ?_
    refine lv_aload_n (pc := 9) hx hb dX12_isLamp_9 rfl (lv_at hl 0 rfl) ?_
    refine r_gR (pc := 10) (k := 0) (x := 1) (i := 0) (ci := 12) F S (by decide) (by decide) cl12 inRX12 (by decide) w903 (fun _ => rfl) dX12_isLamp_10 ?_
    refine lv_iload_n (pc := 13) hx hb dX12_isLamp_13 rfl (lv_at hl 1 rfl) ?_
    refine lv_iconst (pc := 14) (v := 2) hx hb dX12_isLamp_14 (by decide) ?_
    obtain ⟨v5, e4, h⟩ := ob_out h
    refine c_sI (pc := 15) (rest := [.ref (G.2.1 1), .int 0, .int a2]) F S (tX12_at1 e4) mfX12_at1 w900 ⟨Nat.le_of_ble_eq_true rfl, Nat.le_of_ble_eq_true rfl⟩ rfl hl.1 rfl (Nat.le_of_ble_eq_true rfl) dX12_isLamp_15 (fun H locs S => ?_)
    obtain ⟨v6, e7, h⟩ := ob_out h
    refine r_nL (pc := 18) F S e7 dX12_isLamp_18 ?_
    refine lv_iconst (pc := 19) (v := 1) hx hb dX12_isLamp_19 (by decide) ?_
    refine lv_isub (pc := 20) hx hb dX12_isLamp_20 ?_
    obtain ⟨v9, e8, h⟩ := ob_out h
    refine c_sI (pc := 21) (rest := []) F S (tX12_in e8) mfX12_in w972 ⟨Nat.le_of_ble_eq_true rfl, Nat.le_of_ble_eq_true rfl⟩ rfl hl.1 rfl (Nat.le_of_ble_eq_true rfl) dX12_isLamp_21 (fun H locs S => ?_)
    refine lv_if_eq (pc := 24) (tgt := 31) hx hb dX12_isLamp_24 (by decide) (fun c10 => ?_) (fun c10 => ?_)
    · replace h := (if_pos c10).symm.trans h
      refine lv_iconst (pc := 31) (v := 0) hx hb dX12_isLamp_31 (by decide) ?_
      cases h
      exact r_iret (pc := 32) F S rfl dX12_isLamp_32
    · replace h := (if_neg c10).symm.trans h
      refine lv_iconst (pc := 27) (v := 1) hx hb dX12_isLamp_27 (by decide) ?_
      refine lv_goto (pc := 28) (tgt := 32) hx hb dX12_isLamp_28 (by decide) ?_
      cases h
      exact r_iret (pc := 32) F S rfl dX12_isLamp_32
theorem mfX12_isDimmer : MF false yX12_isDimmer RX12 cX12_isDimmer 1 (some .boolean) 1 := ⟨w996, w13, by rw [if_neg (by decide)]; exact w995, ⟨by decide, by decide⟩, by decide +kernel⟩
set_option maxHeartbeats 4000000 in
theorem tX12_isDimmer {l : Launch} {G : GD} {M N : Mem} {a0 : Int32} {r : Int32} (h : fX12_isDimmer a0 = some r) : MI l yX12_isDimmer cX12_isDimmer 1 .boolean 1 22 G [.int a0] M N r M N := by
  unfold fX12_isDimmer at h
  refine MI_of (own := RX12) (by decide) rfl (Nat.le_of_ble_eq_true rfl) ?_
  intro p e s m args below meth c F S ls hl
  have hx := F.1
  have hb := F.2.1
  have hown := F.2.2.2.2.1
  have hts := F.2.2.2.2.2.1
  have hZ := F.2.2.2.2.2.2.2.2.2
  have hl : lv_has ls 1 [(0, .int a0)] := hl
  generalize s.heap = H, ([] : List Loc) = locs at S ⊢
  refine lv_iload_n (pc := 0) hx hb dX12_isDimmer_0 rfl (lv_at hl 0 rfl) ?_
  refine lv_iconst (pc := 1) (v := 0) hx hb dX12_isDimmer_1 (by decide) ?_
  refine lv_bipush (pc := 2) (v := 11) hx hb dX12_isDimmer_2 (by decide) ?_
  obtain ⟨v2, e1, h⟩ := ob_out h
  refine c_sI (pc := 4) (rest := []) F S (tX12_in e1) mfX12_in w972 ⟨Nat.le_of_ble_eq_true rfl, Nat.le_of_ble_eq_true rfl⟩ rfl hl.1 rfl (Nat.le_of_ble_eq_true rfl) dX12_isDimmer_4 (fun H locs S => ?_)
  obtain ⟨b3, e4, h⟩ := ob_out h
  cases h
  refine nm_i (bz_out e4).1 ?_
  exact r_iret (pc := 7) F S (bool_narrow (by rw [← (bz_out e4).1]; exact (bz_out e4).2)).1 dX12_isDimmer_7
