/-! the walks: each method does what its function says -/
theorem mfX11_of : MF true yX11_of RX11 cX11_of 4 (some .int) 2 := ⟨w743, w1, by rw [if_pos rfl]; exact ⟨w741, w742⟩, ⟨by decide, by decide⟩, by decide +kernel⟩
set_option maxHeartbeats 4000000 in
theorem tX11_of {l : Launch} {G : GD} {M N Mo : Mem} {a1 : Int32} {a2 : Int32} {r : Int32} (h : fX11_of M a1 a2 = some (r, Mo)) : MI l yX11_of cX11_of 4 .int 4 90 G [.ref (G.2.1 10), .int a1, .int a2] M N r Mo N := by
  unfold fX11_of at h
  refine MI_of (own := RX11) (by decide) rfl (Nat.le_of_ble_eq_true rfl) ?_
  intro p e s m args below meth c F S ls hl
  have hx := F.1
  have hb := F.2.1
  have hown := F.2.2.2.2.1
  have hts := F.2.2.2.2.2.1
  have hZ := F.2.2.2.2.2.2.2.2.2
  have hl : lv_has ls 4 [(0, .ref (G.2.1 10)), (1, .int a1), (2, .int a2)] := hl
  generalize s.heap = H, ([] : List Loc) = locs at S ⊢
  refine lv_aload_n (pc := 0) hx hb dX11_of_0 rfl (lv_at hl 0 rfl) ?_
  refine r_gR (pc := 1) (k := 0) (x := 34) (i := 10) (ci := 11) F S (by decide) (by decide) cl11 inRX11 (by decide) w319 (fun _ => rfl) dX11_of_1 ?_
  refine lv_iload_n (pc := 4) hx hb dX11_of_4 rfl (lv_at hl 1 rfl) ?_
  obtain ⟨r2, e1, h⟩ := ob_out h
  refine c_vO (pc := 5) (rest := []) F S (tX7_find e1) mfX7_find (by decide) (by decide) cl7 w410 ⟨Nat.le_of_ble_eq_true rfl, Nat.le_of_ble_eq_true rfl⟩ rfl hl.1 rfl (Nat.le_of_ble_eq_true rfl) dX11_of_5 (fun H locs S => ?_)
  cases r2 with
  | none =>
    replace h := caseO_n h
    refine W.eq (g2 := F0 m 8 ls (.null :: [])) rfl ?_
    refine lv_astore_nN (pc := 8) (lv' := [(3, .null), (0, .ref (G.2.1 10)), (1, .int a1), (2, .int a2)]) hx hb dX11_of_8 rfl hl (by decide) rfl (fun ls hl => ?_)
    refine lv_aload_nN (pc := 9) hx hb dX11_of_9 rfl (lv_at hl 0 rfl) ?_
    refine lv_ifnonnullN (pc := 10) hx hb dX11_of_10 ?_
    refine lv_iconst (pc := 13) (v := (-1)) hx hb dX11_of_13 (by decide) ?_
    cases h
    exact r_iret (pc := 14) F S rfl dX11_of_14
  | some x3 =>
    replace h := caseO_s h
    refine W.eq (g2 := F0 m 8 ls (.ref (G.2.1 x3) :: [])) rfl ?_
    refine lv_astore_n (pc := 8) (lv' := [(3, .ref (G.2.1 x3)), (0, .ref (G.2.1 10)), (1, .int a1), (2, .int a2)]) hx hb dX11_of_8 rfl hl (by decide) rfl (fun ls hl => ?_)
    refine lv_aload_n (pc := 9) hx hb dX11_of_9 rfl (lv_at hl 0 rfl) ?_
    refine lv_ifnonnull (pc := 10) (tgt := 15) hx hb dX11_of_10 (by decide) ?_
    refine lv_iload_n (pc := 15) hx hb dX11_of_15 rfl (lv_at hl 3 rfl) ?_
    rcases Classical.em (a2 = 0) with c4 | c4
    · replace h := (if_pos c4).symm.trans h
      refine lv_tableIn (pc := 16) (tgt := 68) hx hb dX11_of_16 (by rw [c4]; decide) (by rw [c4]; decide) (off := 52) (by rw [c4]; rfl) (by decide) ?_
      refine lv_aload_n (pc := 68) hx hb dX11_of_68 rfl (lv_at hl 0 rfl) ?_
      obtain ⟨v5, e6, h⟩ := ob_out h
      refine r_gI (pc := 69) (k := 0) F S e6 (by decide) cl6 inRX6 (by decide) w105 (fun _ => rfl) dX11_of_69 ?_
      cases h
      exact r_iret (pc := 72) F S rfl dX11_of_72
    replace h := (if_neg c4).symm.trans h
    rcases Classical.em (a2 = 1) with c7 | c7
    · replace h := (if_pos c7).symm.trans h
      refine lv_tableIn (pc := 16) (tgt := 73) hx hb dX11_of_16 (by rw [c7]; decide) (by rw [c7]; decide) (off := 57) (by rw [c7]; rfl) (by decide) ?_
      refine lv_aload_n (pc := 73) hx hb dX11_of_73 rfl (lv_at hl 0 rfl) ?_
      obtain ⟨v8, e9, h⟩ := ob_out h
      refine r_gI (pc := 74) (k := 1) F S e9 (by decide) cl6 inRX6 (by decide) w107 (fun _ => rfl) dX11_of_74 ?_
      cases h
      exact r_iret (pc := 77) F S rfl dX11_of_77
    replace h := (if_neg c7).symm.trans h
    rcases Classical.em (a2 = 2) with c10 | c10
    · replace h := (if_pos c10).symm.trans h
      refine lv_tableIn (pc := 16) (tgt := 78) hx hb dX11_of_16 (by rw [c10]; decide) (by rw [c10]; decide) (off := 62) (by rw [c10]; rfl) (by decide) ?_
      refine lv_aload_n (pc := 78) hx hb dX11_of_78 rfl (lv_at hl 0 rfl) ?_
      obtain ⟨v11, e12, h⟩ := ob_out h
      refine r_gI (pc := 79) (k := 2) F S e12 (by decide) cl6 inRX6 (by decide) w111 (fun _ => rfl) dX11_of_79 ?_
      cases h
      exact r_iret (pc := 82) F S rfl dX11_of_82
    replace h := (if_neg c10).symm.trans h
    rcases Classical.em (a2 = 3) with c13 | c13
    · replace h := (if_pos c13).symm.trans h
      refine lv_tableIn (pc := 16) (tgt := 83) hx hb dX11_of_16 (by rw [c13]; decide) (by rw [c13]; decide) (off := 67) (by rw [c13]; rfl) (by decide) ?_
      refine lv_aload_n (pc := 83) hx hb dX11_of_83 rfl (lv_at hl 0 rfl) ?_
      obtain ⟨v15, e14, h⟩ := ob_out h
      refine c_vI (pc := 84) (rest := []) F S (tX6_recordedCues e14) mfX6_recordedCues (sX6_recordedCues e14) (by decide) cl6 w555 ⟨Nat.le_of_ble_eq_true rfl, Nat.le_of_ble_eq_true rfl⟩ rfl hl.1 rfl (Nat.le_of_ble_eq_true rfl) dX11_of_84 (fun H locs S => ?_)
      cases h
      exact r_iret (pc := 87) F S rfl dX11_of_87
    replace h := (if_neg c13).symm.trans h
    rcases Classical.em (a2 = 4) with c16 | c16
    · replace h := (if_pos c16).symm.trans h
      refine lv_tableIn (pc := 16) (tgt := 88) hx hb dX11_of_16 (by rw [c16]; decide) (by rw [c16]; decide) (off := 72) (by rw [c16]; rfl) (by decide) ?_
      refine lv_aload_n (pc := 88) hx hb dX11_of_88 rfl (lv_at hl 0 rfl) ?_
      obtain ⟨x17, e18, h⟩ := ob_out h
      refine r_gR (pc := 89) (k := 10) F S e18 (by decide) cl6 inRX6 (by decide) w131 (fun _ => rfl) dX11_of_89 ?_
      obtain ⟨v20, e19, h⟩ := ob_out h
      refine c_vI (pc := 92) (rest := []) F S (tX1_ticksLeft e19) mfX1_ticksLeft (sX1_ticksLeft e19) (by decide) cl1 w744 ⟨Nat.le_of_ble_eq_true rfl, Nat.le_of_ble_eq_true rfl⟩ rfl hl.1 rfl (Nat.le_of_ble_eq_true rfl) dX11_of_92 (fun H locs S => ?_)
      cases h
      exact r_iret (pc := 95) F S rfl dX11_of_95
    replace h := (if_neg c16).symm.trans h
    rcases Classical.em (a2 = 5) with c21 | c21
    · replace h := (if_pos c21).symm.trans h
      refine lv_tableIn (pc := 16) (tgt := 96) hx hb dX11_of_16 (by rw [c21]; decide) (by rw [c21]; decide) (off := 80) (by rw [c21]; rfl) (by decide) ?_
      refine lv_aload_n (pc := 96) hx hb dX11_of_96 rfl (lv_at hl 1 rfl) ?_
      refine r_gR (pc := 97) (k := 6) (x := 23) (i := 10) (ci := 11) F S (by decide) (by decide) cl11 inRX11 (by decide) w325 (fun _ => rfl) dX11_of_97 ?_
      refine lv_aload_n (pc := 100) hx hb dX11_of_100 rfl (lv_at hl 0 rfl) ?_
      refine lv_aload_n (pc := 101) hx hb dX11_of_101 rfl (lv_at hl 1 rfl) ?_
      refine r_gR (pc := 102) (k := 0) (x := 34) (i := 10) (ci := 11) F S (by decide) (by decide) cl11 inRX11 (by decide) w319 (fun _ => rfl) dX11_of_102 ?_
      refine r_gR (pc := 105) (k := 1) (x := 36) (i := 34) (ci := 7) F S (by decide) (by decide) cl7 inRX7 (by decide) w168 (fun _ => rfl) dX11_of_105 ?_
      obtain ⟨M23, e22, h⟩ := ob_out h
      refine c_vV (pc := 108) (rest := []) F S (tX3_measureNow e22) mfX3_measureNow (by decide) (by decide) cl3 w713 ⟨Nat.le_of_ble_eq_true rfl, Nat.le_of_ble_eq_true rfl⟩ rfl hl.1 rfl (Nat.le_of_ble_eq_true rfl) dX11_of_108 (fun H locs S => ?_)
      refine lv_aload_n (pc := 111) hx hb dX11_of_111 rfl (lv_at hl 1 rfl) ?_
      refine r_gR (pc := 112) (k := 6) (x := 23) (i := 10) (ci := 11) F S (by decide) (by decide) cl11 inRX11 (by decide) w325 (fun _ => rfl) dX11_of_112 ?_
      obtain ⟨v25, e24, h⟩ := ob_out h
      refine c_vI (pc := 115) (rest := []) F S (tX3_sumOfPhases e24) mfX3_sumOfPhases (by decide) (by decide) cl3 w732 ⟨Nat.le_of_ble_eq_true rfl, Nat.le_of_ble_eq_true rfl⟩ rfl hl.1 rfl (Nat.le_of_ble_eq_true rfl) dX11_of_115 (fun H locs S => ?_)
      cases h
      exact r_iret (pc := 118) F S rfl dX11_of_118
    replace h := (if_neg c21).symm.trans h
    rcases Classical.em (a2 = 6) with c26 | c26
    · replace h := (if_pos c26).symm.trans h
      refine lv_tableIn (pc := 16) (tgt := 119) hx hb dX11_of_16 (by rw [c26]; decide) (by rw [c26]; decide) (off := 103) (by rw [c26]; rfl) (by decide) ?_
      refine lv_aload_n (pc := 119) hx hb dX11_of_119 rfl (lv_at hl 0 rfl) ?_
      obtain ⟨x27, e28, h⟩ := ob_out h
      refine r_gR (pc := 120) (k := 11) F S e28 (by decide) cl6 inRX6 (by decide) w133 (fun _ => rfl) dX11_of_120 ?_
      obtain ⟨v29, e30, h⟩ := ob_out h
      refine r_gI (pc := 123) (k := 1) F S e30 (by decide) cl0 inRX0 (by decide) w98 (fun _ => rfl) dX11_of_123 ?_
      cases h
      exact r_iret (pc := 126) F S rfl dX11_of_126
    replace h := (if_neg c26).symm.trans h
    rcases Classical.em (a2 = 7) with c31 | c31
    · replace h := (if_pos c31).symm.trans h
      refine lv_tableIn (pc := 16) (tgt := 127) hx hb dX11_of_16 (by rw [c31]; decide) (by rw [c31]; decide) (off := 111) (by rw [c31]; rfl) (by decide) ?_
      refine lv_aload_n (pc := 127) hx hb dX11_of_127 rfl (lv_at hl 0 rfl) ?_
      obtain ⟨x32, e33, h⟩ := ob_out h
      refine r_gR (pc := 128) (k := 12) F S e33 (by decide) cl6 inRX6 (by decide) w135 (fun _ => rfl) dX11_of_128 ?_
      obtain ⟨v34, e35, h⟩ := ob_out h
      refine r_gI (pc := 131) (k := 1) F S e35 (by decide) cl0 inRX0 (by decide) w98 (fun _ => rfl) dX11_of_131 ?_
      cases h
      exact r_iret (pc := 134) F S rfl dX11_of_134
    replace h := (if_neg c31).symm.trans h
    rcases Classical.em (a2 = 8) with c36 | c36
    · replace h := (if_pos c36).symm.trans h
      refine lv_tableIn (pc := 16) (tgt := 135) hx hb dX11_of_16 (by rw [c36]; decide) (by rw [c36]; decide) (off := 119) (by rw [c36]; rfl) (by decide) ?_
      refine lv_aload_n (pc := 135) hx hb dX11_of_135 rfl (lv_at hl 1 rfl) ?_
      refine r_gR (pc := 136) (k := 6) (x := 23) (i := 10) (ci := 11) F S (by decide) (by decide) cl11 inRX11 (by decide) w325 (fun _ => rfl) dX11_of_136 ?_
      refine lv_aload_n (pc := 139) hx hb dX11_of_139 rfl (lv_at hl 0 rfl) ?_
      refine lv_aload_n (pc := 140) hx hb dX11_of_140 rfl (lv_at hl 1 rfl) ?_
      refine r_gR (pc := 141) (k := 0) (x := 34) (i := 10) (ci := 11) F S (by decide) (by decide) cl11 inRX11 (by decide) w319 (fun _ => rfl) dX11_of_141 ?_
      refine r_gR (pc := 144) (k := 1) (x := 36) (i := 34) (ci := 7) F S (by decide) (by decide) cl7 inRX7 (by decide) w168 (fun _ => rfl) dX11_of_144 ?_
      obtain ⟨M38, e37, h⟩ := ob_out h
      refine c_vV (pc := 147) (rest := []) F S (tX3_measureNow e37) mfX3_measureNow (by decide) (by decide) cl3 w713 ⟨Nat.le_of_ble_eq_true rfl, Nat.le_of_ble_eq_true rfl⟩ rfl hl.1 rfl (Nat.le_of_ble_eq_true rfl) dX11_of_147 (fun H locs S => ?_)
      refine lv_aload_n (pc := 150) hx hb dX11_of_150 rfl (lv_at hl 1 rfl) ?_
      refine r_gR (pc := 151) (k := 6) (x := 23) (i := 10) (ci := 11) F S (by decide) (by decide) cl11 inRX11 (by decide) w325 (fun _ => rfl) dX11_of_151 ?_
      refine r_gR (pc := 154) (k := 1) (x := 25) (i := 23) (ci := 3) F S (by decide) (by decide) cl3 inRX3 (by decide) w268 (fun _ => rfl) dX11_of_154 ?_
      obtain ⟨v40, e39, h⟩ := ob_out h
      refine c_sI (pc := 157) (rest := []) F S (tX11_greatest e39) mfX11_greatest w748 ⟨Nat.le_of_ble_eq_true rfl, Nat.le_of_ble_eq_true rfl⟩ rfl hl.1 rfl (Nat.le_of_ble_eq_true rfl) dX11_of_157 (fun H locs S => ?_)
      refine lv_aload_n (pc := 160) hx hb dX11_of_160 rfl (lv_at hl 1 rfl) ?_
      refine r_gR (pc := 161) (k := 6) (x := 23) (i := 10) (ci := 11) F S (by decide) (by decide) cl11 inRX11 (by decide) w325 (fun _ => rfl) dX11_of_161 ?_
      refine r_gR (pc := 164) (k := 1) (x := 25) (i := 23) (ci := 3) F S (by decide) (by decide) cl3 inRX3 (by decide) w268 (fun _ => rfl) dX11_of_164 ?_
      obtain ⟨v42, e41, h⟩ := ob_out h
      refine c_sI (pc := 167) (rest := [.int v40]) F S (tX11_least e41) mfX11_least w751 ⟨Nat.le_of_ble_eq_true rfl, Nat.le_of_ble_eq_true rfl⟩ rfl hl.1 rfl (Nat.le_of_ble_eq_true rfl) dX11_of_167 (fun H locs S => ?_)
      refine lv_isub (pc := 170) hx hb dX11_of_170 ?_
      cases h
      exact r_iret (pc := 171) F S rfl dX11_of_171
    replace h := (if_neg c36).symm.trans h
    refine lv_tableOut (pc := 16) (tgt := 172) hx hb dX11_of_16 (tbl_out (fun k h1 h2 => ?_)) (by decide) ?_
    · rcases (show k = 0 ∨ k = 1 ∨ k = 2 ∨ k = 3 ∨ k = 4 ∨ k = 5 ∨ k = 6 ∨ k = 7 ∨ k = 8 by omega) with rfl | rfl | rfl | rfl | rfl | rfl | rfl | rfl | rfl
      · exact lv_neT c4 (by decide)
      · exact lv_neT c7 (by decide)
      · exact lv_neT c10 (by decide)
      · exact lv_neT c13 (by decide)
      · exact lv_neT c16 (by decide)
      · exact lv_neT c21 (by decide)
      · exact lv_neT c26 (by decide)
      · exact lv_neT c31 (by decide)
      · exact lv_neT c36 (by decide)
    refine lv_bipush (pc := 172) (v := (-2)) hx hb dX11_of_172 (by decide) ?_
    cases h
    exact r_iret (pc := 174) F S rfl dX11_of_174
theorem sX6_isOn {M : Mem} {a0 : Nat} {a1 : Int32} {r : (Int32)} (h : fX6_isOn M a0 a1 = some r) : shp a0 = 6 := by
  unfold fX6_isOn at h
  exact (ck_out h).1
theorem mfX6_isOn : MF true yX6_isOn RX6 cX6_isOn 2 (some .boolean) 1 := ⟨w768, w4, by rw [if_pos rfl]; exact ⟨w766, w767⟩, ⟨by decide, by decide⟩, by decide +kernel⟩
set_option maxHeartbeats 4000000 in
theorem tX6_isOn {l : Launch} {G : GD} {M N : Mem} {a0 : Nat} {a1 : Int32} {r : Int32} (h : fX6_isOn M a0 a1 = some r) : MI l yX6_isOn cX6_isOn 2 .boolean 1 22 G [.ref (G.2.1 a0), .int a1] M N r M N := by
  unfold fX6_isOn at h
  obtain ⟨hsh, h⟩ := ck_out h
  refine MI_of (own := RX6) (by decide) rfl (Nat.le_of_ble_eq_true rfl) ?_
  intro p e s m args below meth c F S ls hl
  have hx := F.1
  have hb := F.2.1
  have hown := F.2.2.2.2.1
  have hts := F.2.2.2.2.2.1
  have hZ := F.2.2.2.2.2.2.2.2.2
  have hl : lv_has ls 2 [(0, .ref (G.2.1 a0)), (1, .int a1)] := hl
  generalize s.heap = H, ([] : List Loc) = locs at S ⊢
  refine lv_iload_n (pc := 0) hx hb dX6_isOn_0 rfl (lv_at hl 1 rfl) ?_
  refine lv_aload_n (pc := 1) hx hb dX6_isOn_1 rfl (lv_at hl 0 rfl) ?_
  obtain ⟨v1, e2, h⟩ := ob_out h
  refine r_gI (pc := 2) (k := 0) F S e2 (by decide) cl6 inRX6 (by decide) w104 (fun _ => rfl) dX6_isOn_2 ?_
  refine lv_aload_n (pc := 5) hx hb dX6_isOn_5 rfl (lv_at hl 0 rfl) ?_
  obtain ⟨v3, e4, h⟩ := ob_out h
  refine r_gI (pc := 6) (k := 1) F S e4 (by decide) cl6 inRX6 (by decide) w106 (fun _ => rfl) dX6_isOn_6 ?_
  obtain ⟨v6, e5, h⟩ := ob_out h
  refine c_nI (pc := 9) (rest := []) F S (tX11_isIn e5) mfX11_isIn wn25 ⟨Nat.le_of_ble_eq_true rfl, Nat.le_of_ble_eq_true rfl⟩ rfl hl.1 rfl (Nat.le_of_ble_eq_true rfl) dX6_isOn_9 (fun H locs S => ?_)
  obtain ⟨b7, e8, h⟩ := ob_out h
  cases h
  refine nm_i (bz_out e8).1 ?_
  exact r_iret (pc := 12) F S (bool_narrow (by rw [← (bz_out e8).1]; exact (bz_out e8).2)).1 dX6_isOn_12
theorem sX6_lampsOfType {M : Mem} {a0 : Nat} {a1 : Int32} {r : (Int32)} (h : fX6_lampsOfType M a0 a1 = some r) : shp a0 = 6 := by
  unfold fX6_lampsOfType at h
  exact (ck_out h).1
theorem mfX6_lampsOfType : MF true yX6_lampsOfType RX6 cX6_lampsOfType 4 (some .int) 1 := ⟨w773, w4, by rw [if_pos rfl]; exact ⟨w771, w772⟩, ⟨by decide, by decide⟩, by decide +kernel⟩
set_option maxHeartbeats 4000000 in
theorem pX6_lampsOfType_L4 {p : Program} {l : Launch} {e : Env} {s : State} {m : MethodId} {args : Array Value} {below : List Frame} {meth : Method} {c : Code} {Q : State → Prop} {G : GD} (F : FX p s m args meth c RX6 cX6_lampsOfType 4 (some .int) G) : ∀ (n : Nat) {M N : Mem} {a0 : Nat} {a1 : Int32} {a2 : Int32} {a3 : Int32} {H : Heap} {locs : List Loc} {ls : Array Slot} {o2 : Int32}, shp a0 = 6 → ST G M N s H locs → lv_has ls 4 [(0, .ref (G.2.1 a0)), (1, .int a1), (2, .int a2), (3, .int a3)] → fX6_lampsOfType_L4 n M a0 a1 a2 a3 = some o2 → (K1 : ∀ (H : Heap) (locs : List Loc) (ls : Array Slot), ST G M N s H locs → lv_has ls 4 [(2, .int o2)] → W p l e (Rm 1 21) s m args below meth c H locs 0 0 Q (F0 m 37 ls [])) → W p l e (Rm 1 21) s m args below meth c H locs 0 0 Q (F0 m 4 ls []) := by
  intro n
  induction n with
  | zero => intro M N a0 a1 a2 a3 H locs ls o2 hsh S hl h K1; cases h
  | succ n ih =>
    intro M N a0 a1 a2 a3 H locs ls o2 hsh S hl h K1
    rw [fX6_lampsOfType_L4] at h
    have hx := F.1
    have hb := F.2.1
    have hown := F.2.2.2.2.1
    have hts := F.2.2.2.2.2.1
    have hZ := F.2.2.2.2.2.2.2.2.2
    refine lv_iload_n (pc := 4) hx hb dX6_lampsOfType_4 rfl (lv_at hl 3 rfl) ?_
    refine lv_bipush (pc := 5) (v := 12) hx hb dX6_lampsOfType_5 (by decide) ?_
    refine lv_icmp_ge (pc := 7) (tgt := 37) hx hb dX6_lampsOfType_7 (by decide) (fun c1 => ?_) (fun c1 => ?_)
    · replace h := (if_pos c1).symm.trans h
      cases h
      exact K1 H locs ls S (lv_sub hl [2] rfl)
    · replace h := (if_neg c1).symm.trans h
      refine lv_aload_n (pc := 10) hx hb dX6_lampsOfType_10 rfl (lv_at hl 0 rfl) ?_
      refine lv_iload_n (pc := 11) hx hb dX6_lampsOfType_11 rfl (lv_at hl 3 rfl) ?_
      obtain ⟨v3, e2, h⟩ := ob_out h
      refine c_vI (pc := 12) (rest := []) F S (tX6_hasLamp e2) mfX6_hasLamp (sX6_hasLamp e2) (by decide) cl6 w453 ⟨Nat.le_of_ble_eq_true rfl, Nat.le_of_ble_eq_true rfl⟩ rfl hl.1 rfl (Nat.le_of_ble_eq_true rfl) dX6_lampsOfType_12 (fun H locs S => ?_)
      refine lv_if_eq (pc := 15) (tgt := 37) hx hb dX6_lampsOfType_15 (by decide) (fun c4 => ?_) (fun c4 => ?_)
      · replace h := (if_pos c4).symm.trans h
        cases h
        exact K1 H locs ls S (lv_sub hl [2] rfl)
      · replace h := (if_neg c4).symm.trans h
        refine lv_aload_n (pc := 18) hx hb dX6_lampsOfType_18 rfl (lv_at hl 0 rfl) ?_
        obtain ⟨x5, e6, h⟩ := ob_out h
        refine r_gR (pc := 19) (k := 3) F S e6 (by decide) cl6 inRX6 (by decide) w112 (fun _ => rfl) dX6_lampsOfType_19 ?_
        refine lv_iload_n (pc := 22) hx hb dX6_lampsOfType_22 rfl (lv_at hl 3 rfl) ?_
        obtain ⟨v7, e8, h⟩ := ob_out h
        refine r_aL (pc := 23) F S e8 dX6_lampsOfType_23 ?_
        refine lv_iload_n (pc := 24) hx hb dX6_lampsOfType_24 rfl (lv_at hl 1 rfl) ?_
        refine lv_icmp_ne (pc := 25) (tgt := 31) hx hb dX6_lampsOfType_25 (by decide) (fun c9 => ?_) (fun c9 => ?_)
        · replace h := (if_neg c9).symm.trans h
          refine lv_iinc (pc := 31) (lv' := [(3, .int (a3 + 1)), (0, .ref (G.2.1 a0)), (1, .int a1), (2, .int a2)]) hx hb dX6_lampsOfType_31 hl (k := 3) rfl (iinc_n (by decide)) (by decide) rfl (fun ls hl => ?_)
          refine lv_goto (pc := 34) (tgt := 4) hx hb dX6_lampsOfType_34 (by decide) ?_
          exact ih hsh S (lv_sub hl [1, 2, 3, 0] rfl) h K1
        · replace h := (if_pos c9).symm.trans h
          refine lv_iinc (pc := 28) (lv' := [(2, .int (a2 + 1)), (0, .ref (G.2.1 a0)), (1, .int a1), (3, .int a3)]) hx hb dX6_lampsOfType_28 hl (k := 2) rfl (iinc_n (by decide)) (by decide) rfl (fun ls hl => ?_)
          refine lv_iinc (pc := 31) (lv' := [(3, .int (a3 + 1)), (2, .int (a2 + 1)), (0, .ref (G.2.1 a0)), (1, .int a1)]) hx hb dX6_lampsOfType_31 hl (k := 3) rfl (iinc_n (by decide)) (by decide) rfl (fun ls hl => ?_)
          refine lv_goto (pc := 34) (tgt := 4) hx hb dX6_lampsOfType_34 (by decide) ?_
          exact ih hsh S (lv_sub hl [2, 3, 1, 0] rfl) h K1
set_option maxHeartbeats 4000000 in
theorem tX6_lampsOfType {l : Launch} {G : GD} {M N : Mem} {a0 : Nat} {a1 : Int32} {r : Int32} (h : fX6_lampsOfType M a0 a1 = some r) : MI l yX6_lampsOfType cX6_lampsOfType 4 .int 1 21 G [.ref (G.2.1 a0), .int a1] M N r M N := by
  unfold fX6_lampsOfType at h
  obtain ⟨hsh, h⟩ := ck_out h
  refine MI_of (own := RX6) (by decide) rfl (Nat.le_of_ble_eq_true rfl) ?_
  intro p e s m args below meth c F S ls hl
  have hx := F.1
  have hb := F.2.1
  have hown := F.2.2.2.2.1
  have hts := F.2.2.2.2.2.1
  have hZ := F.2.2.2.2.2.2.2.2.2
  have hl : lv_has ls 4 [(0, .ref (G.2.1 a0)), (1, .int a1)] := hl
  generalize s.heap = H, ([] : List Loc) = locs at S ⊢
  refine lv_iconst (pc := 0) (v := 0) hx hb dX6_lampsOfType_0 (by decide) ?_
  refine lv_istore_n (pc := 1) (lv' := [(2, .int 0), (0, .ref (G.2.1 a0)), (1, .int a1)]) hx hb dX6_lampsOfType_1 rfl hl (by decide) rfl (fun ls hl => ?_)
  refine lv_iconst (pc := 2) (v := 0) hx hb dX6_lampsOfType_2 (by decide) ?_
  refine lv_istore_n (pc := 3) (lv' := [(3, .int 0), (2, .int 0), (0, .ref (G.2.1 a0)), (1, .int a1)]) hx hb dX6_lampsOfType_3 rfl hl (by decide) rfl (fun ls hl => ?_)
  obtain ⟨v1, e2, h⟩ := ob_out h
  refine pX6_lampsOfType_L4 F 5000 hsh S (lv_sub hl [2, 3, 1, 0] rfl) e2 (fun H locs ls S hl => ?_)
  refine lv_iload_n (pc := 37) hx hb dX6_lampsOfType_37 rfl (lv_at hl 0 rfl) ?_
  cases h
  exact r_iret (pc := 38) F S rfl dX6_lampsOfType_38
theorem sX7_needed {M : Mem} {a0 : Nat} {a1 : Int32} {a2 : Int32} {r : (Int32)} (h : fX7_needed M a0 a1 a2 = some r) : shp a0 = 7 := by
  unfold fX7_needed at h
  exact (ck_out h).1
theorem mfX7_needed : MF true yX7_needed RX7 cX7_needed 8 (some .int) 2 := ⟨w764, w2, by rw [if_pos rfl]; exact ⟨w762, w763⟩, ⟨by decide, by decide⟩, by decide +kernel⟩
set_option maxHeartbeats 4000000 in
theorem pX7_needed_L16 {p : Program} {l : Launch} {e : Env} {s : State} {m : MethodId} {args : Array Value} {below : List Frame} {meth : Method} {c : Code} {Q : State → Prop} {G : GD} (F : FX p s m args meth c RX7 cX7_needed 8 (some .int) G) : ∀ (n : Nat) {M N : Mem} {a1 : Int32} {a2 : Int32} {a3 : Int32} {a4 : Nat} {a5 : Int32} {a6 : Int32} {H : Heap} {locs : List Loc} {ls : Array Slot} {o3 : Int32}, ST G M N s H locs → lv_has ls 8 [(1, .int a1), (2, .int a2), (3, .int a3), (4, .ref (G.2.1 a4)), (5, .int a5), (6, .int a6)] → fX7_needed_L16 n M a1 a2 a3 a4 a5 a6 = some o3 → (K1 : ∀ (H : Heap) (locs : List Loc) (ls : Array Slot), ST G M N s H locs → lv_has ls 8 [(3, .int o3)] → W p l e (Rm 2 44) s m args below meth c H locs 0 0 Q (F0 m 54 ls [])) → W p l e (Rm 2 44) s m args below meth c H locs 0 0 Q (F0 m 16 ls []) := by
  intro n
  induction n with
  | zero => intro M N a1 a2 a3 a4 a5 a6 H locs ls o3 S hl h K1; cases h
  | succ n ih =>
    intro M N a1 a2 a3 a4 a5 a6 H locs ls o3 S hl h K1
    rw [fX7_needed_L16] at h
    have hx := F.1
    have hb := F.2.1
    have hown := F.2.2.2.2.1
    have hts := F.2.2.2.2.2.1
    have hZ := F.2.2.2.2.2.2.2.2.2
    refine lv_iload (pc := 16) hx hb dX7_needed_16 (lv_at hl 5 rfl) ?_
    refine lv_iload (pc := 18) hx hb dX7_needed_18 (lv_at hl 4 rfl) ?_
    refine lv_icmp_ge (pc := 20) (tgt := 54) hx hb dX7_needed_20 (by decide) (fun c5 => ?_) (fun c5 => ?_)
    · replace h := (if_pos c5).symm.trans h
      cases h
      exact K1 H locs ls S (lv_sub hl [2] rfl)
    · replace h := (if_neg c5).symm.trans h
      refine lv_aload (pc := 23) hx hb dX7_needed_23 (lv_at hl 3 rfl) ?_
      refine lv_iload (pc := 25) hx hb dX7_needed_25 (lv_at hl 5 rfl) ?_
      obtain ⟨x6, e7, h⟩ := ob_out h
      refine r_aR22 (pc := 27) F S e7 dX7_needed_27 ?_
      refine lv_astore (pc := 28) (lv' := [(7, .ref (G.2.1 x6)), (1, .int a1), (2, .int a2), (3, .int a3), (4, .ref (G.2.1 a4)), (5, .int a5), (6, .int a6)]) hx hb dX7_needed_28 hl (by decide) rfl (fun ls hl => ?_)
      refine lv_aload (pc := 30) hx hb dX7_needed_30 (lv_at hl 0 rfl) ?_
      refine lv_iload_n (pc := 32) hx hb dX7_needed_32 rfl (lv_at hl 2 rfl) ?_
      obtain ⟨v9, e8, h⟩ := ob_out h
      refine c_vI (pc := 33) (rest := []) F S (tX6_isOn e8) mfX6_isOn (sX6_isOn e8) (by decide) cl6 w765 ⟨Nat.le_of_ble_eq_true rfl, Nat.le_of_ble_eq_true rfl⟩ rfl hl.1 rfl (Nat.le_of_ble_eq_true rfl) dX7_needed_33 (fun H locs S => ?_)
      refine lv_if_eq (pc := 36) (tgt := 48) hx hb dX7_needed_36 (by decide) (fun c10 => ?_) (fun c10 => ?_)
      · replace h := (if_pos c10).symm.trans h
        refine lv_iinc (pc := 48) (lv' := [(6, .int (a6 + 1)), (7, .ref (G.2.1 x6)), (1, .int a1), (2, .int a2), (3, .int a3), (4, .ref (G.2.1 a4)), (5, .int a5)]) hx hb dX7_needed_48 hl (k := 6) rfl (iinc_n (by decide)) (by decide) rfl (fun ls hl => ?_)
        refine lv_goto (pc := 51) (tgt := 16) hx hb dX7_needed_51 (by decide) ?_
        exact ih S (lv_sub hl [2, 3, 4, 5, 6, 0] rfl) h K1
      · replace h := (if_neg c10).symm.trans h
        refine lv_iload_n (pc := 39) hx hb dX7_needed_39 rfl (lv_at hl 3 rfl) ?_
        refine lv_aload (pc := 40) hx hb dX7_needed_40 (lv_at hl 0 rfl) ?_
        refine lv_iload_n (pc := 42) hx hb dX7_needed_42 rfl (lv_at hl 1 rfl) ?_
        obtain ⟨v12, e11, h⟩ := ob_out h
        refine c_vI (pc := 43) (rest := [.int a3]) F S (tX6_lampsOfType e11) mfX6_lampsOfType (sX6_lampsOfType e11) (by decide) cl6 w770 ⟨Nat.le_of_ble_eq_true rfl, Nat.le_of_ble_eq_true rfl⟩ rfl hl.1 rfl (Nat.le_of_ble_eq_true rfl) dX7_needed_43 (fun H locs S => ?_)
        refine lv_iadd (pc := 46) hx hb dX7_needed_46 ?_
        obtain ⟨v13, e14, h⟩ := lt1_out h
        refine nm_i e14 ?_
        refine lv_istore_n (pc := 47) (lv' := [(3, .int v13), (7, .ref (G.2.1 x6)), (1, .int a1), (2, .int a2), (4, .ref (G.2.1 a4)), (5, .int a5), (6, .int a6)]) hx hb dX7_needed_47 rfl hl (by decide) rfl (fun ls hl => ?_)
        refine lv_iinc (pc := 48) (lv' := [(6, .int (a6 + 1)), (3, .int v13), (7, .ref (G.2.1 x6)), (1, .int a1), (2, .int a2), (4, .ref (G.2.1 a4)), (5, .int a5)]) hx hb dX7_needed_48 hl (k := 6) rfl (iinc_n (by decide)) (by decide) rfl (fun ls hl => ?_)
        refine lv_goto (pc := 51) (tgt := 16) hx hb dX7_needed_51 (by decide) ?_
        exact ih S (lv_sub hl [3, 4, 1, 5, 6, 0] rfl) h K1
set_option maxHeartbeats 4000000 in
theorem tX7_needed {l : Launch} {G : GD} {M N : Mem} {a0 : Nat} {a1 : Int32} {a2 : Int32} {r : Int32} (h : fX7_needed M a0 a1 a2 = some r) : MI l yX7_needed cX7_needed 8 .int 2 44 G [.ref (G.2.1 a0), .int a1, .int a2] M N r M N := by
  unfold fX7_needed at h
  obtain ⟨hsh, h⟩ := ck_out h
  refine MI_of (own := RX7) (by decide) rfl (Nat.le_of_ble_eq_true rfl) ?_
  intro p e s m args below meth c F S ls hl
  have hx := F.1
  have hb := F.2.1
  have hown := F.2.2.2.2.1
  have hts := F.2.2.2.2.2.1
  have hZ := F.2.2.2.2.2.2.2.2.2
  have hl : lv_has ls 8 [(0, .ref (G.2.1 a0)), (1, .int a1), (2, .int a2)] := hl
  generalize s.heap = H, ([] : List Loc) = locs at S ⊢
  refine lv_iconst (pc := 0) (v := 0) hx hb dX7_needed_0 (by decide) ?_
  refine lv_istore_n (pc := 1) (lv' := [(3, .int 0), (0, .ref (G.2.1 a0)), (1, .int a1), (2, .int a2)]) hx hb dX7_needed_1 rfl hl (by decide) rfl (fun ls hl => ?_)
  refine lv_aload_n (pc := 2) hx hb dX7_needed_2 rfl (lv_at hl 1 rfl) ?_
  obtain ⟨x1, e2, h⟩ := ob_out h
  refine r_gR (pc := 3) (k := 2) F S e2 (by decide) cl7 inRX7 (by decide) w170 (fun _ => rfl) dX7_needed_3 ?_
  refine lv_astore (pc := 6) (lv' := [(4, .ref (G.2.1 x1)), (3, .int 0), (0, .ref (G.2.1 a0)), (1, .int a1), (2, .int a2)]) hx hb dX7_needed_6 hl (by decide) rfl (fun ls hl => ?_)
  refine lv_aload (pc := 8) hx hb dX7_needed_8 (lv_at hl 0 rfl) ?_
  obtain ⟨v3, e4, h⟩ := ob_out h
  refine r_aN (pc := 10) F S e4 (by decide) dX7_needed_10 ?_
  refine lv_istore (pc := 11) (lv' := [(5, .int v3), (4, .ref (G.2.1 x1)), (3, .int 0), (0, .ref (G.2.1 a0)), (1, .int a1), (2, .int a2)]) hx hb dX7_needed_11 hl (by decide) rfl (fun ls hl => ?_)
  refine lv_iconst (pc := 13) (v := 0) hx hb dX7_needed_13 (by decide) ?_
  refine lv_istore (pc := 14) (lv' := [(6, .int 0), (5, .int v3), (4, .ref (G.2.1 x1)), (3, .int 0), (0, .ref (G.2.1 a0)), (1, .int a1), (2, .int a2)]) hx hb dX7_needed_14 hl (by decide) rfl (fun ls hl => ?_)
  obtain ⟨v5, e6, h⟩ := ob_out h
  refine pX7_needed_L16 F 5000 S (lv_sub hl [5, 6, 3, 2, 1, 0] rfl) e6 (fun H locs ls S hl => ?_)
  refine lv_iload_n (pc := 54) hx hb dX7_needed_54 rfl (lv_at hl 0 rfl) ?_
  cases h
  exact r_iret (pc := 55) F S rfl dX7_needed_55
theorem sX9_stockOf {M : Mem} {a0 : Nat} {a1 : Int32} {r : (Int32)} (h : fX9_stockOf M a0 a1 = some r) : shp a0 = 9 := by
  unfold fX9_stockOf at h
  exact (ck_out h).1
theorem mfX9_stockOf : MF true yX9_stockOf RX9 cX9_stockOf 2 (some .int) 1 := ⟨w782, w3, by rw [if_pos rfl]; exact ⟨w780, w781⟩, ⟨by decide, by decide⟩, by decide +kernel⟩
set_option maxHeartbeats 4000000 in
theorem tX9_stockOf {l : Launch} {G : GD} {M N : Mem} {a0 : Nat} {a1 : Int32} {r : Int32} (h : fX9_stockOf M a0 a1 = some r) : MI l yX9_stockOf cX9_stockOf 2 .int 1 21 G [.ref (G.2.1 a0), .int a1] M N r M N := by
  unfold fX9_stockOf at h
  obtain ⟨hsh, h⟩ := ck_out h
  refine MI_of (own := RX9) (by decide) rfl (Nat.le_of_ble_eq_true rfl) ?_
  intro p e s m args below meth c F S ls hl
  have hx := F.1
  have hb := F.2.1
  have hown := F.2.2.2.2.1
  have hts := F.2.2.2.2.2.1
  have hZ := F.2.2.2.2.2.2.2.2.2
  have hl : lv_has ls 2 [(0, .ref (G.2.1 a0)), (1, .int a1)] := hl
  generalize s.heap = H, ([] : List Loc) = locs at S ⊢
  refine lv_aload_n (pc := 0) hx hb dX9_stockOf_0 rfl (lv_at hl 0 rfl) ?_
  refine lv_iload_n (pc := 1) hx hb dX9_stockOf_1 rfl (lv_at hl 1 rfl) ?_
  obtain ⟨v2, e1, h⟩ := ob_out h
  refine c_vI (pc := 2) (rest := []) F S (tX9_has e1) mfX9_has (sX9_has e1) (by decide) cl9 w783 ⟨Nat.le_of_ble_eq_true rfl, Nat.le_of_ble_eq_true rfl⟩ rfl hl.1 rfl (Nat.le_of_ble_eq_true rfl) dX9_stockOf_2 (fun H locs S => ?_)
  refine lv_if_eq (pc := 5) (tgt := 17) hx hb dX9_stockOf_5 (by decide) (fun c3 => ?_) (fun c3 => ?_)
  · replace h := (if_pos c3).symm.trans h
    refine lv_iconst (pc := 17) (v := 0) hx hb dX9_stockOf_17 (by decide) ?_
    cases h
    exact r_iret (pc := 18) F S rfl dX9_stockOf_18
  · replace h := (if_neg c3).symm.trans h
    refine lv_aload_n (pc := 8) hx hb dX9_stockOf_8 rfl (lv_at hl 0 rfl) ?_
    obtain ⟨x4, e5, h⟩ := ob_out h
    refine r_gR (pc := 9) (k := 2) F S e5 (by decide) cl9 inRX9 (by decide) w49 (fun _ => rfl) dX9_stockOf_9 ?_
    refine lv_iload_n (pc := 12) hx hb dX9_stockOf_12 rfl (lv_at hl 1 rfl) ?_
    obtain ⟨v6, e7, h⟩ := ob_out h
    refine r_aL (pc := 13) F S e7 dX9_stockOf_13 ?_
    refine lv_goto (pc := 14) (tgt := 18) hx hb dX9_stockOf_14 (by decide) ?_
    cases h
    exact r_iret (pc := 18) F S rfl dX9_stockOf_18
theorem sX7_missing {M : Mem} {a0 : Nat} {a1 : Int32} {a2 : Int32} {r : (Int32)} (h : fX7_missing M a0 a1 a2 = some r) : shp a0 = 7 := by
  unfold fX7_missing at h
  exact (ck_out h).1
theorem mfX7_missing : MF true yX7_missing RX7 cX7_missing 3 (some .int) 2 := ⟨w777, w2, by rw [if_pos rfl]; exact ⟨w775, w776⟩, ⟨by decide, by decide⟩, by decide +kernel⟩
set_option maxHeartbeats 4000000 in
theorem tX7_missing {l : Launch} {G : GD} {M N : Mem} {a0 : Nat} {a1 : Int32} {a2 : Int32} {r : Int32} (h : fX7_missing M a0 a1 a2 = some r) : MI l yX7_missing cX7_missing 3 .int 3 71 G [.ref (G.2.1 a0), .int a1, .int a2] M N r M N := by
  unfold fX7_missing at h
  obtain ⟨hsh, h⟩ := ck_out h
  refine MI_of (own := RX7) (by decide) rfl (Nat.le_of_ble_eq_true rfl) ?_
  intro p e s m args below meth c F S ls hl
  have hx := F.1
  have hb := F.2.1
  have hown := F.2.2.2.2.1
  have hts := F.2.2.2.2.2.1
  have hZ := F.2.2.2.2.2.2.2.2.2
  have hl : lv_has ls 3 [(0, .ref (G.2.1 a0)), (1, .int a1), (2, .int a2)] := hl
  generalize s.heap = H, ([] : List Loc) = locs at S ⊢
  refine lv_iconst (pc := 0) (v := 0) hx hb dX7_missing_0 (by decide) ?_
  refine lv_aload_n (pc := 1) hx hb dX7_missing_1 rfl (lv_at hl 0 rfl) ?_
  refine lv_iload_n (pc := 2) hx hb dX7_missing_2 rfl (lv_at hl 1 rfl) ?_
  refine lv_iload_n (pc := 3) hx hb dX7_missing_3 rfl (lv_at hl 2 rfl) ?_
  obtain ⟨v2, e1, h⟩ := ob_out h
  refine c_vI (pc := 4) (rest := [.int 0]) F S (tX7_needed e1) mfX7_needed (sX7_needed e1) (by decide) cl7 w778 ⟨Nat.le_of_ble_eq_true rfl, Nat.le_of_ble_eq_true rfl⟩ rfl hl.1 rfl (Nat.le_of_ble_eq_true rfl) dX7_missing_4 (fun H locs S => ?_)
  refine lv_aload_n (pc := 7) hx hb dX7_missing_7 rfl (lv_at hl 0 rfl) ?_
  obtain ⟨x3, e4, h⟩ := ob_out h
  refine r_gR (pc := 8) (k := 1) F S e4 (by decide) cl7 inRX7 (by decide) w167 (fun _ => rfl) dX7_missing_8 ?_
  refine lv_iload_n (pc := 11) hx hb dX7_missing_11 rfl (lv_at hl 1 rfl) ?_
  obtain ⟨v6, e5, h⟩ := ob_out h
  refine c_vI (pc := 12) (rest := [.int v2, .int 0]) F S (tX9_stockOf e5) mfX9_stockOf (sX9_stockOf e5) (by decide) cl9 w779 ⟨Nat.le_of_ble_eq_true rfl, Nat.le_of_ble_eq_true rfl⟩ rfl hl.1 rfl (Nat.le_of_ble_eq_true rfl) dX7_missing_12 (fun H locs S => ?_)
  refine lv_isub (pc := 15) hx hb dX7_missing_15 ?_
  refine c_max (pc := 16) F w784 w458 w14 w459 (Nat.le_of_ble_eq_true rfl) hl.1 (Nat.le_of_ble_eq_true rfl) dX7_missing_16 ?_
  cases h
  exact r_iret (pc := 19) F S rfl dX7_missing_19
theorem sX9_priceOf {M : Mem} {a0 : Nat} {a1 : Int32} {r : (Int32)} (h : fX9_priceOf M a0 a1 = some r) : shp a0 = 9 := by
  unfold fX9_priceOf at h
  exact (ck_out h).1
theorem mfX9_priceOf : MF true yX9_priceOf RX9 cX9_priceOf 2 (some .int) 1 := ⟨w792, w3, by rw [if_pos rfl]; exact ⟨w790, w791⟩, ⟨by decide, by decide⟩, by decide +kernel⟩
set_option maxHeartbeats 4000000 in
theorem tX9_priceOf {l : Launch} {G : GD} {M N : Mem} {a0 : Nat} {a1 : Int32} {r : Int32} (h : fX9_priceOf M a0 a1 = some r) : MI l yX9_priceOf cX9_priceOf 2 .int 1 21 G [.ref (G.2.1 a0), .int a1] M N r M N := by
  unfold fX9_priceOf at h
  obtain ⟨hsh, h⟩ := ck_out h
  refine MI_of (own := RX9) (by decide) rfl (Nat.le_of_ble_eq_true rfl) ?_
  intro p e s m args below meth c F S ls hl
  have hx := F.1
  have hb := F.2.1
  have hown := F.2.2.2.2.1
  have hts := F.2.2.2.2.2.1
  have hZ := F.2.2.2.2.2.2.2.2.2
  have hl : lv_has ls 2 [(0, .ref (G.2.1 a0)), (1, .int a1)] := hl
  generalize s.heap = H, ([] : List Loc) = locs at S ⊢
  refine lv_aload_n (pc := 0) hx hb dX9_priceOf_0 rfl (lv_at hl 0 rfl) ?_
  refine lv_iload_n (pc := 1) hx hb dX9_priceOf_1 rfl (lv_at hl 1 rfl) ?_
  obtain ⟨v2, e1, h⟩ := ob_out h
  refine c_vI (pc := 2) (rest := []) F S (tX9_has e1) mfX9_has (sX9_has e1) (by decide) cl9 w783 ⟨Nat.le_of_ble_eq_true rfl, Nat.le_of_ble_eq_true rfl⟩ rfl hl.1 rfl (Nat.le_of_ble_eq_true rfl) dX9_priceOf_2 (fun H locs S => ?_)
  refine lv_if_eq (pc := 5) (tgt := 17) hx hb dX9_priceOf_5 (by decide) (fun c3 => ?_) (fun c3 => ?_)
  · replace h := (if_pos c3).symm.trans h
    refine lv_iconst (pc := 17) (v := 0) hx hb dX9_priceOf_17 (by decide) ?_
    cases h
    exact r_iret (pc := 18) F S rfl dX9_priceOf_18
  · replace h := (if_neg c3).symm.trans h
    refine lv_aload_n (pc := 8) hx hb dX9_priceOf_8 rfl (lv_at hl 0 rfl) ?_
    obtain ⟨x4, e5, h⟩ := ob_out h
    refine r_gR (pc := 9) (k := 3) F S e5 (by decide) cl9 inRX9 (by decide) w50 (fun _ => rfl) dX9_priceOf_9 ?_
    refine lv_iload_n (pc := 12) hx hb dX9_priceOf_12 rfl (lv_at hl 1 rfl) ?_
    obtain ⟨v6, e7, h⟩ := ob_out h
    refine r_aL (pc := 13) F S e7 dX9_priceOf_13 ?_
    refine lv_goto (pc := 14) (tgt := 18) hx hb dX9_priceOf_14 (by decide) ?_
    cases h
    exact r_iret (pc := 18) F S rfl dX9_priceOf_18
theorem sX7_cost {M : Mem} {a0 : Nat} {a1 : Int32} {a2 : Int32} {r : (Int32)} (h : fX7_cost M a0 a1 a2 = some r) : shp a0 = 7 := by
  unfold fX7_cost at h
  exact (ck_out h).1
theorem mfX7_cost : MF true yX7_cost RX7 cX7_cost 3 (some .int) 2 := ⟨w788, w2, by rw [if_pos rfl]; exact ⟨w786, w787⟩, ⟨by decide, by decide⟩, by decide +kernel⟩
set_option maxHeartbeats 4000000 in
theorem tX7_cost {l : Launch} {G : GD} {M N : Mem} {a0 : Nat} {a1 : Int32} {a2 : Int32} {r : Int32} (h : fX7_cost M a0 a1 a2 = some r) : MI l yX7_cost cX7_cost 3 .int 3 71 G [.ref (G.2.1 a0), .int a1, .int a2] M N r M N := by
  unfold fX7_cost at h
  obtain ⟨hsh, h⟩ := ck_out h
  refine MI_of (own := RX7) (by decide) rfl (Nat.le_of_ble_eq_true rfl) ?_
  intro p e s m args below meth c F S ls hl
  have hx := F.1
  have hb := F.2.1
  have hown := F.2.2.2.2.1
  have hts := F.2.2.2.2.2.1
  have hZ := F.2.2.2.2.2.2.2.2.2
  have hl : lv_has ls 3 [(0, .ref (G.2.1 a0)), (1, .int a1), (2, .int a2)] := hl
  generalize s.heap = H, ([] : List Loc) = locs at S ⊢
  refine lv_aload_n (pc := 0) hx hb dX7_cost_0 rfl (lv_at hl 0 rfl) ?_
  obtain ⟨x1, e2, h⟩ := ob_out h
  refine r_gR (pc := 1) (k := 1) F S e2 (by decide) cl7 inRX7 (by decide) w167 (fun _ => rfl) dX7_cost_1 ?_
  refine lv_iload_n (pc := 4) hx hb dX7_cost_4 rfl (lv_at hl 1 rfl) ?_
  obtain ⟨v4, e3, h⟩ := ob_out h
  refine c_vI (pc := 5) (rest := []) F S (tX9_priceOf e3) mfX9_priceOf (sX9_priceOf e3) (by decide) cl9 w789 ⟨Nat.le_of_ble_eq_true rfl, Nat.le_of_ble_eq_true rfl⟩ rfl hl.1 rfl (Nat.le_of_ble_eq_true rfl) dX7_cost_5 (fun H locs S => ?_)
  refine lv_aload_n (pc := 8) hx hb dX7_cost_8 rfl (lv_at hl 0 rfl) ?_
  refine lv_iload_n (pc := 9) hx hb dX7_cost_9 rfl (lv_at hl 1 rfl) ?_
  refine lv_iload_n (pc := 10) hx hb dX7_cost_10 rfl (lv_at hl 2 rfl) ?_
  obtain ⟨v6, e5, h⟩ := ob_out h
  refine c_vI (pc := 11) (rest := [.int v4]) F S (tX7_needed e5) mfX7_needed (sX7_needed e5) (by decide) cl7 w778 ⟨Nat.le_of_ble_eq_true rfl, Nat.le_of_ble_eq_true rfl⟩ rfl hl.1 rfl (Nat.le_of_ble_eq_true rfl) dX7_cost_11 (fun H locs S => ?_)
  refine lv_aload_n (pc := 14) hx hb dX7_cost_14 rfl (lv_at hl 0 rfl) ?_
  obtain ⟨x7, e8, h⟩ := ob_out h
  refine r_gR (pc := 15) (k := 1) F S e8 (by decide) cl7 inRX7 (by decide) w167 (fun _ => rfl) dX7_cost_15 ?_
  refine lv_iload_n (pc := 18) hx hb dX7_cost_18 rfl (lv_at hl 1 rfl) ?_
  obtain ⟨v10, e9, h⟩ := ob_out h
  refine c_vI (pc := 19) (rest := [.int v6, .int v4]) F S (tX9_stockOf e9) mfX9_stockOf (sX9_stockOf e9) (by decide) cl9 w779 ⟨Nat.le_of_ble_eq_true rfl, Nat.le_of_ble_eq_true rfl⟩ rfl hl.1 rfl (Nat.le_of_ble_eq_true rfl) dX7_cost_19 (fun H locs S => ?_)
  refine c_min (pc := 22) F w793 w755 w14 w756 (Nat.le_of_ble_eq_true rfl) hl.1 (Nat.le_of_ble_eq_true rfl) dX7_cost_22 ?_
  refine lv_imul (pc := 25) hx hb dX7_cost_25 ?_
  cases h
  exact r_iret (pc := 26) F S rfl dX7_cost_26
theorem mfX11_hire : MF true yX11_hire RX11 cX11_hire 4 (some .int) 3 := ⟨w760, w1, by rw [if_pos rfl]; exact ⟨w758, w759⟩, ⟨by decide, by decide⟩, by decide +kernel⟩
set_option maxHeartbeats 4000000 in
theorem tX11_hire {l : Launch} {G : GD} {M N : Mem} {a1 : Int32} {a2 : Int32} {a3 : Int32} {r : Int32} (h : fX11_hire M a1 a2 a3 = some r) : MI l yX11_hire cX11_hire 4 .int 4 93 G [.ref (G.2.1 10), .int a1, .int a2, .int a3] M N r M N := by
  unfold fX11_hire at h
  refine MI_of (own := RX11) (by decide) rfl (Nat.le_of_ble_eq_true rfl) ?_
  intro p e s m args below meth c F S ls hl
  have hx := F.1
  have hb := F.2.1
  have hown := F.2.2.2.2.1
  have hts := F.2.2.2.2.2.1
  have hZ := F.2.2.2.2.2.2.2.2.2
  have hl : lv_has ls 4 [(0, .ref (G.2.1 10)), (1, .int a1), (2, .int a2), (3, .int a3)] := hl
  generalize s.heap = H, ([] : List Loc) = locs at S ⊢
  refine lv_aload_n (pc := 0) hx hb dX11_hire_0 rfl (lv_at hl 0 rfl) ?_
  refine r_gR (pc := 1) (k := 0) (x := 34) (i := 10) (ci := 11) F S (by decide) (by decide) cl11 inRX11 (by decide) w319 (fun _ => rfl) dX11_hire_1 ?_
  refine r_gR (pc := 4) (k := 1) (x := 36) (i := 34) (ci := 7) F S (by decide) (by decide) cl7 inRX7 (by decide) w168 (fun _ => rfl) dX11_hire_4 ?_
  refine lv_iload_n (pc := 7) hx hb dX11_hire_7 rfl (lv_at hl 1 rfl) ?_
  obtain ⟨v2, e1, h⟩ := ob_out h
  refine c_vI (pc := 8) (rest := []) F S (tX9_has e1) mfX9_has (by decide) (by decide) cl9 w422 ⟨Nat.le_of_ble_eq_true rfl, Nat.le_of_ble_eq_true rfl⟩ rfl hl.1 rfl (Nat.le_of_ble_eq_true rfl) dX11_hire_8 (fun H locs S => ?_)
  refine lv_if_ne (pc := 11) (tgt := 16) hx hb dX11_hire_11 (by decide) (fun c3 => ?_) (fun c3 => ?_)
  · replace h := (if_neg c3).symm.trans h
    refine lv_iload_n (pc := 16) hx hb dX11_hire_16 rfl (lv_at hl 2 rfl) ?_
    refine lv_iconst (pc := 17) (v := 0) hx hb dX11_hire_17 (by decide) ?_
    refine lv_bipush (pc := 18) (v := 6) hx hb dX11_hire_18 (by decide) ?_
    obtain ⟨v5, e4, h⟩ := ob_out h
    refine c_sI (pc := 20) (rest := []) F S (tX11_isIn e4) mfX11_isIn w353 ⟨Nat.le_of_ble_eq_true rfl, Nat.le_of_ble_eq_true rfl⟩ rfl hl.1 rfl (Nat.le_of_ble_eq_true rfl) dX11_hire_20 (fun H locs S => ?_)
    refine lv_if_ne (pc := 23) (tgt := 29) hx hb dX11_hire_23 (by decide) (fun c6 => ?_) (fun c6 => ?_)
    · replace h := (if_neg c6).symm.trans h
      refine lv_iload_n (pc := 29) hx hb dX11_hire_29 rfl (lv_at hl 3 rfl) ?_
      rcases Classical.em (a3 = 0) with c7 | c7
      · replace h := (if_pos c7).symm.trans h
        refine lv_tableIn (pc := 30) (tgt := 56) hx hb dX11_hire_30 (by rw [c7]; decide) (by rw [c7]; decide) (off := 26) (by rw [c7]; rfl) (by decide) ?_
        refine lv_aload_n (pc := 56) hx hb dX11_hire_56 rfl (lv_at hl 0 rfl) ?_
        refine r_gR (pc := 57) (k := 0) (x := 34) (i := 10) (ci := 11) F S (by decide) (by decide) cl11 inRX11 (by decide) w319 (fun _ => rfl) dX11_hire_57 ?_
        refine lv_iload_n (pc := 60) hx hb dX11_hire_60 rfl (lv_at hl 1 rfl) ?_
        refine lv_iload_n (pc := 61) hx hb dX11_hire_61 rfl (lv_at hl 2 rfl) ?_
        obtain ⟨v9, e8, h⟩ := ob_out h
        refine c_vI (pc := 62) (rest := []) F S (tX7_needed e8) mfX7_needed (by decide) (by decide) cl7 w761 ⟨Nat.le_of_ble_eq_true rfl, Nat.le_of_ble_eq_true rfl⟩ rfl hl.1 rfl (Nat.le_of_ble_eq_true rfl) dX11_hire_62 (fun H locs S => ?_)
        cases h
        exact r_iret (pc := 65) F S rfl dX11_hire_65
      replace h := (if_neg c7).symm.trans h
      rcases Classical.em (a3 = 1) with c10 | c10
      · replace h := (if_pos c10).symm.trans h
        refine lv_tableIn (pc := 30) (tgt := 66) hx hb dX11_hire_30 (by rw [c10]; decide) (by rw [c10]; decide) (off := 36) (by rw [c10]; rfl) (by decide) ?_
        refine lv_aload_n (pc := 66) hx hb dX11_hire_66 rfl (lv_at hl 0 rfl) ?_
        refine r_gR (pc := 67) (k := 0) (x := 34) (i := 10) (ci := 11) F S (by decide) (by decide) cl11 inRX11 (by decide) w319 (fun _ => rfl) dX11_hire_67 ?_
        refine lv_iload_n (pc := 70) hx hb dX11_hire_70 rfl (lv_at hl 1 rfl) ?_
        refine lv_iload_n (pc := 71) hx hb dX11_hire_71 rfl (lv_at hl 2 rfl) ?_
        obtain ⟨v12, e11, h⟩ := ob_out h
        refine c_vI (pc := 72) (rest := []) F S (tX7_missing e11) mfX7_missing (by decide) (by decide) cl7 w774 ⟨Nat.le_of_ble_eq_true rfl, Nat.le_of_ble_eq_true rfl⟩ rfl hl.1 rfl (Nat.le_of_ble_eq_true rfl) dX11_hire_72 (fun H locs S => ?_)
        cases h
        exact r_iret (pc := 75) F S rfl dX11_hire_75
      replace h := (if_neg c10).symm.trans h
      rcases Classical.em (a3 = 2) with c13 | c13
      · replace h := (if_pos c13).symm.trans h
        refine lv_tableIn (pc := 30) (tgt := 76) hx hb dX11_hire_30 (by rw [c13]; decide) (by rw [c13]; decide) (off := 46) (by rw [c13]; rfl) (by decide) ?_
        refine lv_aload_n (pc := 76) hx hb dX11_hire_76 rfl (lv_at hl 0 rfl) ?_
        refine r_gR (pc := 77) (k := 0) (x := 34) (i := 10) (ci := 11) F S (by decide) (by decide) cl11 inRX11 (by decide) w319 (fun _ => rfl) dX11_hire_77 ?_
        refine lv_iload_n (pc := 80) hx hb dX11_hire_80 rfl (lv_at hl 1 rfl) ?_
        refine lv_iload_n (pc := 81) hx hb dX11_hire_81 rfl (lv_at hl 2 rfl) ?_
        obtain ⟨v15, e14, h⟩ := ob_out h
        refine c_vI (pc := 82) (rest := []) F S (tX7_cost e14) mfX7_cost (by decide) (by decide) cl7 w785 ⟨Nat.le_of_ble_eq_true rfl, Nat.le_of_ble_eq_true rfl⟩ rfl hl.1 rfl (Nat.le_of_ble_eq_true rfl) dX11_hire_82 (fun H locs S => ?_)
        cases h
        exact r_iret (pc := 85) F S rfl dX11_hire_85
      replace h := (if_neg c13).symm.trans h
      refine lv_tableOut (pc := 30) (tgt := 86) hx hb dX11_hire_30 (tbl_out (fun k h1 h2 => ?_)) (by decide) ?_
      · rcases (show k = 0 ∨ k = 1 ∨ k = 2 by omega) with rfl | rfl | rfl
        · exact lv_neT c7 (by decide)
        · exact lv_neT c10 (by decide)
        · exact lv_neT c13 (by decide)
      refine lv_bipush (pc := 86) (v := (-2)) hx hb dX11_hire_86 (by decide) ?_
      cases h
      exact r_iret (pc := 88) F S rfl dX11_hire_88
    · replace h := (if_pos c6).symm.trans h
      refine lv_bipush (pc := 26) (v := (-2)) hx hb dX11_hire_26 (by decide) ?_
      cases h
      exact r_iret (pc := 28) F S rfl dX11_hire_28
  · replace h := (if_pos c3).symm.trans h
    refine lv_iconst (pc := 14) (v := (-1)) hx hb dX11_hire_14 (by decide) ?_
    cases h
    exact r_iret (pc := 15) F S rfl dX11_hire_15
theorem sX7_wholeCost {M : Mem} {a0 : Nat} {r : (Int32)} (h : fX7_wholeCost M a0 = some r) : shp a0 = 7 := by
  unfold fX7_wholeCost at h
  exact (ck_out h).1
theorem mfX7_wholeCost : MF true yX7_wholeCost RX7 cX7_wholeCost 4 (some .int) 0 := ⟨w801, w2, by rw [if_pos rfl]; exact ⟨w799, w800⟩, ⟨by decide, by decide⟩, by decide +kernel⟩
set_option maxHeartbeats 4000000 in
theorem pX7_wholeCost_L17 {p : Program} {l : Launch} {e : Env} {s : State} {m : MethodId} {args : Array Value} {below : List Frame} {meth : Method} {c : Code} {Q : State → Prop} {G : GD} (F : FX p s m args meth c RX7 cX7_wholeCost 4 (some .int) G) : ∀ (n : Nat) {M N : Mem} {a0 : Nat} {a1 : Int32} {a2 : Int32} {a3 : Int32} {H : Heap} {locs : List Loc} {ls : Array Slot} {o1 : Int32}, shp a0 = 7 → ST G M N s H locs → lv_has ls 4 [(0, .ref (G.2.1 a0)), (1, .int a1), (2, .int a2), (3, .int a3)] → fX7_wholeCost_L17 n M a0 a1 a2 a3 = some o1 → (K1 : ∀ (H : Heap) (locs : List Loc) (ls : Array Slot), ST G M N s H locs → lv_has ls 4 [(0, .ref (G.2.1 a0)), (1, .int o1), (2, .int a2)] → W p l e (Rm 4 93) s m args below meth c H locs 0 0 Q (F0 m 38 ls [])) → W p l e (Rm 4 93) s m args below meth c H locs 0 0 Q (F0 m 17 ls []) := by
  intro n
  induction n with
  | zero => intro M N a0 a1 a2 a3 H locs ls o1 hsh S hl h K1; cases h
  | succ n ih =>
    intro M N a0 a1 a2 a3 H locs ls o1 hsh S hl h K1
    rw [fX7_wholeCost_L17] at h
    have hx := F.1
    have hb := F.2.1
    have hown := F.2.2.2.2.1
    have hts := F.2.2.2.2.2.1
    have hZ := F.2.2.2.2.2.2.2.2.2
    refine lv_iload_n (pc := 17) hx hb dX7_wholeCost_17 rfl (lv_at hl 3 rfl) ?_
    refine lv_bipush (pc := 18) (v := 7) hx hb dX7_wholeCost_18 (by decide) ?_
    refine lv_icmp_ge (pc := 20) (tgt := 38) hx hb dX7_wholeCost_20 (by decide) (fun c6 => ?_) (fun c6 => ?_)
    · replace h := (if_pos c6).symm.trans h
      cases h
      exact K1 H locs ls S (lv_sub hl [0, 1, 2] rfl)
    · replace h := (if_neg c6).symm.trans h
      refine lv_iload_n (pc := 23) hx hb dX7_wholeCost_23 rfl (lv_at hl 1 rfl) ?_
      refine lv_aload_n (pc := 24) hx hb dX7_wholeCost_24 rfl (lv_at hl 0 rfl) ?_
      refine lv_iload_n (pc := 25) hx hb dX7_wholeCost_25 rfl (lv_at hl 2 rfl) ?_
      refine lv_iload_n (pc := 26) hx hb dX7_wholeCost_26 rfl (lv_at hl 3 rfl) ?_
      obtain ⟨v8, e7, h⟩ := ob_out h
      refine c_vI (pc := 27) (rest := [.int a1]) F S (tX7_cost e7) mfX7_cost (sX7_cost e7) (by decide) cl7 w802 ⟨Nat.le_of_ble_eq_true rfl, Nat.le_of_ble_eq_true rfl⟩ rfl hl.1 rfl (Nat.le_of_ble_eq_true rfl) dX7_wholeCost_27 (fun H locs S => ?_)
      refine lv_iadd (pc := 30) hx hb dX7_wholeCost_30 ?_
      obtain ⟨v9, e10, h⟩ := lt1_out h
      refine nm_i e10 ?_
      refine lv_istore_n (pc := 31) (lv' := [(1, .int v9), (0, .ref (G.2.1 a0)), (2, .int a2), (3, .int a3)]) hx hb dX7_wholeCost_31 rfl hl (by decide) rfl (fun ls hl => ?_)
      refine lv_iinc (pc := 32) (lv' := [(3, .int (a3 + 1)), (1, .int v9), (0, .ref (G.2.1 a0)), (2, .int a2)]) hx hb dX7_wholeCost_32 hl (k := 3) rfl (iinc_n (by decide)) (by decide) rfl (fun ls hl => ?_)
      refine lv_goto (pc := 35) (tgt := 17) hx hb dX7_wholeCost_35 (by decide) ?_
      exact ih hsh S (lv_sub hl [2, 1, 3, 0] rfl) h K1
set_option maxHeartbeats 4000000 in
theorem pX7_wholeCost_L4 {p : Program} {l : Launch} {e : Env} {s : State} {m : MethodId} {args : Array Value} {below : List Frame} {meth : Method} {c : Code} {Q : State → Prop} {G : GD} (F : FX p s m args meth c RX7 cX7_wholeCost 4 (some .int) G) : ∀ (n : Nat) {M N : Mem} {a0 : Nat} {a1 : Int32} {a2 : Int32} {H : Heap} {locs : List Loc} {ls : Array Slot} {o1 : Int32}, shp a0 = 7 → ST G M N s H locs → lv_has ls 4 [(0, .ref (G.2.1 a0)), (1, .int a1), (2, .int a2)] → fX7_wholeCost_L4 n M a0 a1 a2 = some o1 → (K1 : ∀ (H : Heap) (locs : List Loc) (ls : Array Slot), ST G M N s H locs → lv_has ls 4 [(1, .int o1)] → W p l e (Rm 4 93) s m args below meth c H locs 0 0 Q (F0 m 44 ls [])) → W p l e (Rm 4 93) s m args below meth c H locs 0 0 Q (F0 m 4 ls []) := by
  intro n
  induction n with
  | zero => intro M N a0 a1 a2 H locs ls o1 hsh S hl h K1; cases h
  | succ n ih =>
    intro M N a0 a1 a2 H locs ls o1 hsh S hl h K1
    rw [fX7_wholeCost_L4] at h
    have hx := F.1
    have hb := F.2.1
    have hown := F.2.2.2.2.1
    have hts := F.2.2.2.2.2.1
    have hZ := F.2.2.2.2.2.2.2.2.2
    refine lv_iload_n (pc := 4) hx hb dX7_wholeCost_4 rfl (lv_at hl 2 rfl) ?_
    refine lv_aload_n (pc := 5) hx hb dX7_wholeCost_5 rfl (lv_at hl 0 rfl) ?_
    obtain ⟨x1, e2, h⟩ := ob_out h
    refine r_gR (pc := 6) (k := 1) F S e2 (by decide) cl7 inRX7 (by decide) w167 (fun _ => rfl) dX7_wholeCost_6 ?_
    obtain ⟨v3, e4, h⟩ := ob_out h
    refine r_gI (pc := 9) (k := 0) F S e4 (by decide) cl9 inRX9 (by decide) w46 (fun _ => rfl) dX7_wholeCost_9 ?_
    refine lv_icmp_ge (pc := 12) (tgt := 44) hx hb dX7_wholeCost_12 (by decide) (fun c5 => ?_) (fun c5 => ?_)
    · replace h := (if_pos c5).symm.trans h
      cases h
      exact K1 H locs ls S (lv_sub hl [1] rfl)
    · replace h := (if_neg c5).symm.trans h
      refine lv_iconst (pc := 15) (v := 0) hx hb dX7_wholeCost_15 (by decide) ?_
      refine lv_istore_n (pc := 16) (lv' := [(3, .int 0), (0, .ref (G.2.1 a0)), (1, .int a1), (2, .int a2)]) hx hb dX7_wholeCost_16 rfl hl (by decide) rfl (fun ls hl => ?_)
      obtain ⟨v6, e7, h⟩ := ob_out h
      refine pX7_wholeCost_L17 F 5000 hsh S (lv_sub hl [1, 2, 3, 0] rfl) e7 (fun H locs ls S hl => ?_)
      refine lv_iinc (pc := 38) (lv' := [(2, .int (a2 + 1)), (0, .ref (G.2.1 a0)), (1, .int v6)]) hx hb dX7_wholeCost_38 hl (k := 2) rfl (iinc_n (by decide)) (by decide) rfl (fun ls hl => ?_)
      refine lv_goto (pc := 41) (tgt := 4) hx hb dX7_wholeCost_41 (by decide) ?_
      exact ih hsh S (lv_sub hl [1, 2, 0] rfl) h K1
set_option maxHeartbeats 4000000 in
theorem tX7_wholeCost {l : Launch} {G : GD} {M N : Mem} {a0 : Nat} {r : Int32} (h : fX7_wholeCost M a0 = some r) : MI l yX7_wholeCost cX7_wholeCost 4 .int 4 93 G [.ref (G.2.1 a0)] M N r M N := by
  unfold fX7_wholeCost at h
  obtain ⟨hsh, h⟩ := ck_out h
  refine MI_of (own := RX7) (by decide) rfl (Nat.le_of_ble_eq_true rfl) ?_
  intro p e s m args below meth c F S ls hl
  have hx := F.1
  have hb := F.2.1
  have hown := F.2.2.2.2.1
  have hts := F.2.2.2.2.2.1
  have hZ := F.2.2.2.2.2.2.2.2.2
  have hl : lv_has ls 4 [(0, .ref (G.2.1 a0))] := hl
  generalize s.heap = H, ([] : List Loc) = locs at S ⊢
  refine lv_iconst (pc := 0) (v := 0) hx hb dX7_wholeCost_0 (by decide) ?_
  refine lv_istore_n (pc := 1) (lv' := [(1, .int 0), (0, .ref (G.2.1 a0))]) hx hb dX7_wholeCost_1 rfl hl (by decide) rfl (fun ls hl => ?_)
  refine lv_iconst (pc := 2) (v := 0) hx hb dX7_wholeCost_2 (by decide) ?_
  refine lv_istore_n (pc := 3) (lv' := [(2, .int 0), (1, .int 0), (0, .ref (G.2.1 a0))]) hx hb dX7_wholeCost_3 rfl hl (by decide) rfl (fun ls hl => ?_)
  obtain ⟨v1, e2, h⟩ := ob_out h
  refine pX7_wholeCost_L4 F 5000 hsh S (lv_sub hl [2, 1, 0] rfl) e2 (fun H locs ls S hl => ?_)
  refine lv_iload_n (pc := 44) hx hb dX7_wholeCost_44 rfl (lv_at hl 0 rfl) ?_
  cases h
  exact r_iret (pc := 45) F S rfl dX7_wholeCost_45
theorem sX7_allMissing {M : Mem} {a0 : Nat} {r : (Int32)} (h : fX7_allMissing M a0 = some r) : shp a0 = 7 := by
  unfold fX7_allMissing at h
  exact (ck_out h).1
theorem mfX7_allMissing : MF true yX7_allMissing RX7 cX7_allMissing 4 (some .int) 0 := ⟨w806, w2, by rw [if_pos rfl]; exact ⟨w804, w805⟩, ⟨by decide, by decide⟩, by decide +kernel⟩
set_option maxHeartbeats 4000000 in
theorem pX7_allMissing_L17 {p : Program} {l : Launch} {e : Env} {s : State} {m : MethodId} {args : Array Value} {below : List Frame} {meth : Method} {c : Code} {Q : State → Prop} {G : GD} (F : FX p s m args meth c RX7 cX7_allMissing 4 (some .int) G) : ∀ (n : Nat) {M N : Mem} {a0 : Nat} {a1 : Int32} {a2 : Int32} {a3 : Int32} {H : Heap} {locs : List Loc} {ls : Array Slot} {o1 : Int32}, shp a0 = 7 → ST G M N s H locs → lv_has ls 4 [(0, .ref (G.2.1 a0)), (1, .int a1), (2, .int a2), (3, .int a3)] → fX7_allMissing_L17 n M a0 a1 a2 a3 = some o1 → (K1 : ∀ (H : Heap) (locs : List Loc) (ls : Array Slot), ST G M N s H locs → lv_has ls 4 [(0, .ref (G.2.1 a0)), (1, .int o1), (2, .int a2)] → W p l e (Rm 4 93) s m args below meth c H locs 0 0 Q (F0 m 38 ls [])) → W p l e (Rm 4 93) s m args below meth c H locs 0 0 Q (F0 m 17 ls []) := by
  intro n
  induction n with
  | zero => intro M N a0 a1 a2 a3 H locs ls o1 hsh S hl h K1; cases h
  | succ n ih =>
    intro M N a0 a1 a2 a3 H locs ls o1 hsh S hl h K1
    rw [fX7_allMissing_L17] at h
    have hx := F.1
    have hb := F.2.1
    have hown := F.2.2.2.2.1
    have hts := F.2.2.2.2.2.1
    have hZ := F.2.2.2.2.2.2.2.2.2
    refine lv_iload_n (pc := 17) hx hb dX7_allMissing_17 rfl (lv_at hl 3 rfl) ?_
    refine lv_bipush (pc := 18) (v := 7) hx hb dX7_allMissing_18 (by decide) ?_
    refine lv_icmp_ge (pc := 20) (tgt := 38) hx hb dX7_allMissing_20 (by decide) (fun c6 => ?_) (fun c6 => ?_)
    · replace h := (if_pos c6).symm.trans h
      cases h
      exact K1 H locs ls S (lv_sub hl [0, 1, 2] rfl)
    · replace h := (if_neg c6).symm.trans h
      refine lv_iload_n (pc := 23) hx hb dX7_allMissing_23 rfl (lv_at hl 1 rfl) ?_
      refine lv_aload_n (pc := 24) hx hb dX7_allMissing_24 rfl (lv_at hl 0 rfl) ?_
      refine lv_iload_n (pc := 25) hx hb dX7_allMissing_25 rfl (lv_at hl 2 rfl) ?_
      refine lv_iload_n (pc := 26) hx hb dX7_allMissing_26 rfl (lv_at hl 3 rfl) ?_
      obtain ⟨v8, e7, h⟩ := ob_out h
      refine c_vI (pc := 27) (rest := [.int a1]) F S (tX7_missing e7) mfX7_missing (sX7_missing e7) (by decide) cl7 w807 ⟨Nat.le_of_ble_eq_true rfl, Nat.le_of_ble_eq_true rfl⟩ rfl hl.1 rfl (Nat.le_of_ble_eq_true rfl) dX7_allMissing_27 (fun H locs S => ?_)
      refine lv_iadd (pc := 30) hx hb dX7_allMissing_30 ?_
      obtain ⟨v9, e10, h⟩ := lt1_out h
      refine nm_i e10 ?_
      refine lv_istore_n (pc := 31) (lv' := [(1, .int v9), (0, .ref (G.2.1 a0)), (2, .int a2), (3, .int a3)]) hx hb dX7_allMissing_31 rfl hl (by decide) rfl (fun ls hl => ?_)
      refine lv_iinc (pc := 32) (lv' := [(3, .int (a3 + 1)), (1, .int v9), (0, .ref (G.2.1 a0)), (2, .int a2)]) hx hb dX7_allMissing_32 hl (k := 3) rfl (iinc_n (by decide)) (by decide) rfl (fun ls hl => ?_)
      refine lv_goto (pc := 35) (tgt := 17) hx hb dX7_allMissing_35 (by decide) ?_
      exact ih hsh S (lv_sub hl [2, 1, 3, 0] rfl) h K1
set_option maxHeartbeats 4000000 in
theorem pX7_allMissing_L4 {p : Program} {l : Launch} {e : Env} {s : State} {m : MethodId} {args : Array Value} {below : List Frame} {meth : Method} {c : Code} {Q : State → Prop} {G : GD} (F : FX p s m args meth c RX7 cX7_allMissing 4 (some .int) G) : ∀ (n : Nat) {M N : Mem} {a0 : Nat} {a1 : Int32} {a2 : Int32} {H : Heap} {locs : List Loc} {ls : Array Slot} {o1 : Int32}, shp a0 = 7 → ST G M N s H locs → lv_has ls 4 [(0, .ref (G.2.1 a0)), (1, .int a1), (2, .int a2)] → fX7_allMissing_L4 n M a0 a1 a2 = some o1 → (K1 : ∀ (H : Heap) (locs : List Loc) (ls : Array Slot), ST G M N s H locs → lv_has ls 4 [(1, .int o1)] → W p l e (Rm 4 93) s m args below meth c H locs 0 0 Q (F0 m 44 ls [])) → W p l e (Rm 4 93) s m args below meth c H locs 0 0 Q (F0 m 4 ls []) := by
  intro n
  induction n with
  | zero => intro M N a0 a1 a2 H locs ls o1 hsh S hl h K1; cases h
  | succ n ih =>
    intro M N a0 a1 a2 H locs ls o1 hsh S hl h K1
    rw [fX7_allMissing_L4] at h
    have hx := F.1
    have hb := F.2.1
    have hown := F.2.2.2.2.1
    have hts := F.2.2.2.2.2.1
    have hZ := F.2.2.2.2.2.2.2.2.2
    refine lv_iload_n (pc := 4) hx hb dX7_allMissing_4 rfl (lv_at hl 2 rfl) ?_
    refine lv_aload_n (pc := 5) hx hb dX7_allMissing_5 rfl (lv_at hl 0 rfl) ?_
    obtain ⟨x1, e2, h⟩ := ob_out h
    refine r_gR (pc := 6) (k := 1) F S e2 (by decide) cl7 inRX7 (by decide) w167 (fun _ => rfl) dX7_allMissing_6 ?_
    obtain ⟨v3, e4, h⟩ := ob_out h
    refine r_gI (pc := 9) (k := 0) F S e4 (by decide) cl9 inRX9 (by decide) w46 (fun _ => rfl) dX7_allMissing_9 ?_
    refine lv_icmp_ge (pc := 12) (tgt := 44) hx hb dX7_allMissing_12 (by decide) (fun c5 => ?_) (fun c5 => ?_)
    · replace h := (if_pos c5).symm.trans h
      cases h
      exact K1 H locs ls S (lv_sub hl [1] rfl)
    · replace h := (if_neg c5).symm.trans h
      refine lv_iconst (pc := 15) (v := 0) hx hb dX7_allMissing_15 (by decide) ?_
      refine lv_istore_n (pc := 16) (lv' := [(3, .int 0), (0, .ref (G.2.1 a0)), (1, .int a1), (2, .int a2)]) hx hb dX7_allMissing_16 rfl hl (by decide) rfl (fun ls hl => ?_)
      obtain ⟨v6, e7, h⟩ := ob_out h
      refine pX7_allMissing_L17 F 5000 hsh S (lv_sub hl [1, 2, 3, 0] rfl) e7 (fun H locs ls S hl => ?_)
      refine lv_iinc (pc := 38) (lv' := [(2, .int (a2 + 1)), (0, .ref (G.2.1 a0)), (1, .int v6)]) hx hb dX7_allMissing_38 hl (k := 2) rfl (iinc_n (by decide)) (by decide) rfl (fun ls hl => ?_)
      refine lv_goto (pc := 41) (tgt := 4) hx hb dX7_allMissing_41 (by decide) ?_
      exact ih hsh S (lv_sub hl [1, 2, 0] rfl) h K1
set_option maxHeartbeats 4000000 in
theorem tX7_allMissing {l : Launch} {G : GD} {M N : Mem} {a0 : Nat} {r : Int32} (h : fX7_allMissing M a0 = some r) : MI l yX7_allMissing cX7_allMissing 4 .int 4 93 G [.ref (G.2.1 a0)] M N r M N := by
  unfold fX7_allMissing at h
  obtain ⟨hsh, h⟩ := ck_out h
  refine MI_of (own := RX7) (by decide) rfl (Nat.le_of_ble_eq_true rfl) ?_
  intro p e s m args below meth c F S ls hl
  have hx := F.1
  have hb := F.2.1
  have hown := F.2.2.2.2.1
  have hts := F.2.2.2.2.2.1
  have hZ := F.2.2.2.2.2.2.2.2.2
  have hl : lv_has ls 4 [(0, .ref (G.2.1 a0))] := hl
  generalize s.heap = H, ([] : List Loc) = locs at S ⊢
  refine lv_iconst (pc := 0) (v := 0) hx hb dX7_allMissing_0 (by decide) ?_
  refine lv_istore_n (pc := 1) (lv' := [(1, .int 0), (0, .ref (G.2.1 a0))]) hx hb dX7_allMissing_1 rfl hl (by decide) rfl (fun ls hl => ?_)
  refine lv_iconst (pc := 2) (v := 0) hx hb dX7_allMissing_2 (by decide) ?_
  refine lv_istore_n (pc := 3) (lv' := [(2, .int 0), (1, .int 0), (0, .ref (G.2.1 a0))]) hx hb dX7_allMissing_3 rfl hl (by decide) rfl (fun ls hl => ?_)
  obtain ⟨v1, e2, h⟩ := ob_out h
  refine pX7_allMissing_L4 F 5000 hsh S (lv_sub hl [2, 1, 0] rfl) e2 (fun H locs ls S hl => ?_)
  refine lv_iload_n (pc := 44) hx hb dX7_allMissing_44 rfl (lv_at hl 0 rfl) ?_
  cases h
  exact r_iret (pc := 45) F S rfl dX7_allMissing_45
theorem sX7_neededOn {M : Mem} {a0 : Nat} {a1 : Int32} {r : (Int32)} (h : fX7_neededOn M a0 a1 = some r) : shp a0 = 7 := by
  unfold fX7_neededOn at h
  exact (ck_out h).1
theorem mfX7_neededOn : MF true yX7_neededOn RX7 cX7_neededOn 7 (some .int) 1 := ⟨w815, w2, by rw [if_pos rfl]; exact ⟨w814, wp17⟩, ⟨by decide, by decide⟩, by decide +kernel⟩
set_option maxHeartbeats 4000000 in
theorem pX7_neededOn_L14 {p : Program} {l : Launch} {e : Env} {s : State} {m : MethodId} {args : Array Value} {below : List Frame} {meth : Method} {c : Code} {Q : State → Prop} {G : GD} (F : FX p s m args meth c RX7 cX7_neededOn 7 (some .int) G) : ∀ (n : Nat) {M N : Mem} {a1 : Int32} {a2 : Int32} {a3 : Nat} {a4 : Int32} {a5 : Int32} {H : Heap} {locs : List Loc} {ls : Array Slot} {o2 : Int32}, ST G M N s H locs → lv_has ls 7 [(1, .int a1), (2, .int a2), (3, .ref (G.2.1 a3)), (4, .int a4), (5, .int a5)] → fX7_neededOn_L14 n M a1 a2 a3 a4 a5 = some o2 → (K1 : ∀ (H : Heap) (locs : List Loc) (ls : Array Slot), ST G M N s H locs → lv_has ls 7 [(2, .int o2)] → W p l e (Rm 2 43) s m args below meth c H locs 0 0 Q (F0 m 50 ls [])) → W p l e (Rm 2 43) s m args below meth c H locs 0 0 Q (F0 m 14 ls []) := by
  intro n
  induction n with
  | zero => intro M N a1 a2 a3 a4 a5 H locs ls o2 S hl h K1; cases h
  | succ n ih =>
    intro M N a1 a2 a3 a4 a5 H locs ls o2 S hl h K1
    rw [fX7_neededOn_L14] at h
    have hx := F.1
    have hb := F.2.1
    have hown := F.2.2.2.2.1
    have hts := F.2.2.2.2.2.1
    have hZ := F.2.2.2.2.2.2.2.2.2
    refine lv_iload (pc := 14) hx hb dX7_neededOn_14 (lv_at hl 4 rfl) ?_
    refine lv_iload (pc := 16) hx hb dX7_neededOn_16 (lv_at hl 3 rfl) ?_
    refine lv_icmp_ge (pc := 18) (tgt := 50) hx hb dX7_neededOn_18 (by decide) (fun c5 => ?_) (fun c5 => ?_)
    · replace h := (if_pos c5).symm.trans h
      cases h
      exact K1 H locs ls S (lv_sub hl [1] rfl)
    · replace h := (if_neg c5).symm.trans h
      refine lv_aload_n (pc := 21) hx hb dX7_neededOn_21 rfl (lv_at hl 2 rfl) ?_
      refine lv_iload (pc := 22) hx hb dX7_neededOn_22 (lv_at hl 4 rfl) ?_
      obtain ⟨x6, e7, h⟩ := ob_out h
      refine r_aR22 (pc := 24) F S e7 dX7_neededOn_24 ?_
      refine lv_astore (pc := 25) (lv' := [(6, .ref (G.2.1 x6)), (1, .int a1), (2, .int a2), (3, .ref (G.2.1 a3)), (4, .int a4), (5, .int a5)]) hx hb dX7_neededOn_25 hl (by decide) rfl (fun ls hl => ?_)
      refine lv_aload (pc := 27) hx hb dX7_neededOn_27 (lv_at hl 0 rfl) ?_
      refine lv_iload_n (pc := 29) hx hb dX7_neededOn_29 rfl (lv_at hl 1 rfl) ?_
      obtain ⟨v9, e8, h⟩ := ob_out h
      refine c_vI (pc := 30) (rest := []) F S (tX6_isOn e8) mfX6_isOn (sX6_isOn e8) (by decide) cl6 w765 ⟨Nat.le_of_ble_eq_true rfl, Nat.le_of_ble_eq_true rfl⟩ rfl hl.1 rfl (Nat.le_of_ble_eq_true rfl) dX7_neededOn_30 (fun H locs S => ?_)
      refine lv_if_eq (pc := 33) (tgt := 44) hx hb dX7_neededOn_33 (by decide) (fun c10 => ?_) (fun c10 => ?_)
      · replace h := (if_pos c10).symm.trans h
        refine lv_iinc (pc := 44) (lv' := [(5, .int (a5 + 1)), (6, .ref (G.2.1 x6)), (1, .int a1), (2, .int a2), (3, .ref (G.2.1 a3)), (4, .int a4)]) hx hb dX7_neededOn_44 hl (k := 5) rfl (iinc_n (by decide)) (by decide) rfl (fun ls hl => ?_)
        refine lv_goto (pc := 47) (tgt := 14) hx hb dX7_neededOn_47 (by decide) ?_
        exact ih S (lv_sub hl [2, 3, 4, 5, 0] rfl) h K1
      · replace h := (if_neg c10).symm.trans h
        refine lv_iload_n (pc := 36) hx hb dX7_neededOn_36 rfl (lv_at hl 2 rfl) ?_
        refine lv_aload (pc := 37) hx hb dX7_neededOn_37 (lv_at hl 0 rfl) ?_
        obtain ⟨v11, e12, h⟩ := ob_out h
        refine r_gI (pc := 39) (k := 2) F S e12 (by decide) cl6 inRX6 (by decide) w110 (fun _ => rfl) dX7_neededOn_39 ?_
        refine lv_iadd (pc := 42) hx hb dX7_neededOn_42 ?_
        obtain ⟨v13, e14, h⟩ := lt1_out h
        refine nm_i e14 ?_
        refine lv_istore_n (pc := 43) (lv' := [(2, .int v13), (6, .ref (G.2.1 x6)), (1, .int a1), (3, .ref (G.2.1 a3)), (4, .int a4), (5, .int a5)]) hx hb dX7_neededOn_43 rfl hl (by decide) rfl (fun ls hl => ?_)
        refine lv_iinc (pc := 44) (lv' := [(5, .int (a5 + 1)), (2, .int v13), (6, .ref (G.2.1 x6)), (1, .int a1), (3, .ref (G.2.1 a3)), (4, .int a4)]) hx hb dX7_neededOn_44 hl (k := 5) rfl (iinc_n (by decide)) (by decide) rfl (fun ls hl => ?_)
        refine lv_goto (pc := 47) (tgt := 14) hx hb dX7_neededOn_47 (by decide) ?_
        exact ih S (lv_sub hl [3, 1, 4, 5, 0] rfl) h K1
set_option maxHeartbeats 4000000 in
theorem tX7_neededOn {l : Launch} {G : GD} {M N : Mem} {a0 : Nat} {a1 : Int32} {r : Int32} (h : fX7_neededOn M a0 a1 = some r) : MI l yX7_neededOn cX7_neededOn 7 .int 2 43 G [.ref (G.2.1 a0), .int a1] M N r M N := by
  unfold fX7_neededOn at h
  obtain ⟨hsh, h⟩ := ck_out h
  refine MI_of (own := RX7) (by decide) rfl (Nat.le_of_ble_eq_true rfl) ?_
  intro p e s m args below meth c F S ls hl
  have hx := F.1
  have hb := F.2.1
  have hown := F.2.2.2.2.1
  have hts := F.2.2.2.2.2.1
  have hZ := F.2.2.2.2.2.2.2.2.2
  have hl : lv_has ls 7 [(0, .ref (G.2.1 a0)), (1, .int a1)] := hl
  generalize s.heap = H, ([] : List Loc) = locs at S ⊢
  refine lv_iconst (pc := 0) (v := 0) hx hb dX7_neededOn_0 (by decide) ?_
  refine lv_istore_n (pc := 1) (lv' := [(2, .int 0), (0, .ref (G.2.1 a0)), (1, .int a1)]) hx hb dX7_neededOn_1 rfl hl (by decide) rfl (fun ls hl => ?_)
  refine lv_aload_n (pc := 2) hx hb dX7_neededOn_2 rfl (lv_at hl 1 rfl) ?_
  obtain ⟨x1, e2, h⟩ := ob_out h
  refine r_gR (pc := 3) (k := 2) F S e2 (by decide) cl7 inRX7 (by decide) w170 (fun _ => rfl) dX7_neededOn_3 ?_
  refine lv_astore_n (pc := 6) (lv' := [(3, .ref (G.2.1 x1)), (2, .int 0), (0, .ref (G.2.1 a0)), (1, .int a1)]) hx hb dX7_neededOn_6 rfl hl (by decide) rfl (fun ls hl => ?_)
  refine lv_aload_n (pc := 7) hx hb dX7_neededOn_7 rfl (lv_at hl 0 rfl) ?_
  obtain ⟨v3, e4, h⟩ := ob_out h
  refine r_aN (pc := 8) F S e4 (by decide) dX7_neededOn_8 ?_
  refine lv_istore (pc := 9) (lv' := [(4, .int v3), (3, .ref (G.2.1 x1)), (2, .int 0), (0, .ref (G.2.1 a0)), (1, .int a1)]) hx hb dX7_neededOn_9 hl (by decide) rfl (fun ls hl => ?_)
  refine lv_iconst (pc := 11) (v := 0) hx hb dX7_neededOn_11 (by decide) ?_
  refine lv_istore (pc := 12) (lv' := [(5, .int 0), (4, .int v3), (3, .ref (G.2.1 x1)), (2, .int 0), (0, .ref (G.2.1 a0)), (1, .int a1)]) hx hb dX7_neededOn_12 hl (by decide) rfl (fun ls hl => ?_)
  obtain ⟨v5, e6, h⟩ := ob_out h
  refine pX7_neededOn_L14 F 5000 S (lv_sub hl [5, 3, 2, 1, 0] rfl) e6 (fun H locs ls S hl => ?_)
  refine lv_iload_n (pc := 50) hx hb dX7_neededOn_50 rfl (lv_at hl 0 rfl) ?_
  cases h
  exact r_iret (pc := 51) F S rfl dX7_neededOn_51
theorem sX7_busiestDay {M : Mem} {a0 : Nat} {r : (Int32)} (h : fX7_busiestDay M a0 = some r) : shp a0 = 7 := by
  unfold fX7_busiestDay at h
  exact (ck_out h).1
theorem mfX7_busiestDay : MF true yX7_busiestDay RX7 cX7_busiestDay 5 (some .int) 0 := ⟨w811, w2, by rw [if_pos rfl]; exact ⟨w809, w810⟩, ⟨by decide, by decide⟩, by decide +kernel⟩
set_option maxHeartbeats 4000000 in
theorem pX7_busiestDay_L6 {p : Program} {l : Launch} {e : Env} {s : State} {m : MethodId} {args : Array Value} {below : List Frame} {meth : Method} {c : Code} {Q : State → Prop} {G : GD} (F : FX p s m args meth c RX7 cX7_busiestDay 5 (some .int) G) : ∀ (n : Nat) {M N : Mem} {a0 : Nat} {a1 : Int32} {a2 : Int32} {a3 : Int32} {H : Heap} {locs : List Loc} {ls : Array Slot} {o1 : Int32}, shp a0 = 7 → ST G M N s H locs → lv_has ls 5 [(0, .ref (G.2.1 a0)), (1, .int a1), (2, .int a2), (3, .int a3)] → fX7_busiestDay_L6 n M a0 a1 a2 a3 = some o1 → (K1 : ∀ (H : Heap) (locs : List Loc) (ls : Array Slot), ST G M N s H locs → lv_has ls 5 [(1, .int o1)] → W p l e (Rm 3 69) s m args below meth c H locs 0 0 Q (F0 m 36 ls [])) → W p l e (Rm 3 69) s m args below meth c H locs 0 0 Q (F0 m 6 ls []) := by
  intro n
  induction n with
  | zero => intro M N a0 a1 a2 a3 H locs ls o1 hsh S hl h K1; cases h
  | succ n ih =>
    intro M N a0 a1 a2 a3 H locs ls o1 hsh S hl h K1
    rw [fX7_busiestDay_L6] at h
    have hx := F.1
    have hb := F.2.1
    have hown := F.2.2.2.2.1
    have hts := F.2.2.2.2.2.1
    have hZ := F.2.2.2.2.2.2.2.2.2
    refine lv_iload_n (pc := 6) hx hb dX7_busiestDay_6 rfl (lv_at hl 3 rfl) ?_
    refine lv_bipush (pc := 7) (v := 7) hx hb dX7_busiestDay_7 (by decide) ?_
    refine lv_icmp_ge (pc := 9) (tgt := 36) hx hb dX7_busiestDay_9 (by decide) (fun c1 => ?_) (fun c1 => ?_)
    · replace h := (if_pos c1).symm.trans h
      cases h
      exact K1 H locs ls S (lv_sub hl [1] rfl)
    · replace h := (if_neg c1).symm.trans h
      refine lv_aload_n (pc := 12) hx hb dX7_busiestDay_12 rfl (lv_at hl 0 rfl) ?_
      refine lv_iload_n (pc := 13) hx hb dX7_busiestDay_13 rfl (lv_at hl 3 rfl) ?_
      obtain ⟨v3, e2, h⟩ := ob_out h
      refine c_vI (pc := 14) (rest := []) F S (tX7_neededOn e2) mfX7_neededOn (sX7_neededOn e2) (by decide) cl7 w812 ⟨Nat.le_of_ble_eq_true rfl, Nat.le_of_ble_eq_true rfl⟩ rfl hl.1 rfl (Nat.le_of_ble_eq_true rfl) dX7_busiestDay_14 (fun H locs S => ?_)
      refine lv_istore (pc := 17) (lv' := [(4, .int v3), (0, .ref (G.2.1 a0)), (1, .int a1), (2, .int a2), (3, .int a3)]) hx hb dX7_busiestDay_17 hl (by decide) rfl (fun ls hl => ?_)
      refine lv_iload (pc := 19) hx hb dX7_busiestDay_19 (lv_at hl 0 rfl) ?_
      refine lv_iload_n (pc := 21) hx hb dX7_busiestDay_21 rfl (lv_at hl 3 rfl) ?_
      refine lv_icmp_le (pc := 22) (tgt := 30) hx hb dX7_busiestDay_22 (by decide) (fun c4 => ?_) (fun c4 => ?_)
      · replace h := (if_pos c4).symm.trans h
        refine lv_iinc (pc := 30) (lv' := [(3, .int (a3 + 1)), (4, .int v3), (0, .ref (G.2.1 a0)), (1, .int a1), (2, .int a2)]) hx hb dX7_busiestDay_30 hl (k := 4) rfl (iinc_n (by decide)) (by decide) rfl (fun ls hl => ?_)
        refine lv_goto (pc := 33) (tgt := 6) hx hb dX7_busiestDay_33 (by decide) ?_
        exact ih hsh S (lv_sub hl [2, 3, 4, 0] rfl) h K1
      · replace h := (if_neg c4).symm.trans h
        refine lv_iload (pc := 25) hx hb dX7_busiestDay_25 (lv_at hl 0 rfl) ?_
        refine lv_istore_n (pc := 27) (lv' := [(2, .int v3), (4, .int v3), (0, .ref (G.2.1 a0)), (1, .int a1), (3, .int a3)]) hx hb dX7_busiestDay_27 rfl hl (by decide) rfl (fun ls hl => ?_)
        refine lv_iload_n (pc := 28) hx hb dX7_busiestDay_28 rfl (lv_at hl 4 rfl) ?_
        refine lv_istore_n (pc := 29) (lv' := [(1, .int a3), (2, .int v3), (4, .int v3), (0, .ref (G.2.1 a0)), (3, .int a3)]) hx hb dX7_busiestDay_29 rfl hl (by decide) rfl (fun ls hl => ?_)
        refine lv_iinc (pc := 30) (lv' := [(3, .int (a3 + 1)), (1, .int a3), (2, .int v3), (4, .int v3), (0, .ref (G.2.1 a0))]) hx hb dX7_busiestDay_30 hl (k := 4) rfl (iinc_n (by decide)) (by decide) rfl (fun ls hl => ?_)
        refine lv_goto (pc := 33) (tgt := 6) hx hb dX7_busiestDay_33 (by decide) ?_
        exact ih hsh S (lv_sub hl [4, 1, 2, 0] rfl) h K1
set_option maxHeartbeats 4000000 in
theorem tX7_busiestDay {l : Launch} {G : GD} {M N : Mem} {a0 : Nat} {r : Int32} (h : fX7_busiestDay M a0 = some r) : MI l yX7_busiestDay cX7_busiestDay 5 .int 3 69 G [.ref (G.2.1 a0)] M N r M N := by
  unfold fX7_busiestDay at h
  obtain ⟨hsh, h⟩ := ck_out h
  refine MI_of (own := RX7) (by decide) rfl (Nat.le_of_ble_eq_true rfl) ?_
  intro p e s m args below meth c F S ls hl
  have hx := F.1
  have hb := F.2.1
  have hown := F.2.2.2.2.1
  have hts := F.2.2.2.2.2.1
  have hZ := F.2.2.2.2.2.2.2.2.2
  have hl : lv_has ls 5 [(0, .ref (G.2.1 a0))] := hl
  generalize s.heap = H, ([] : List Loc) = locs at S ⊢
  refine lv_iconst (pc := 0) (v := 0) hx hb dX7_busiestDay_0 (by decide) ?_
  refine lv_istore_n (pc := 1) (lv' := [(1, .int 0), (0, .ref (G.2.1 a0))]) hx hb dX7_busiestDay_1 rfl hl (by decide) rfl (fun ls hl => ?_)
  refine lv_iconst (pc := 2) (v := 0) hx hb dX7_busiestDay_2 (by decide) ?_
  refine lv_istore_n (pc := 3) (lv' := [(2, .int 0), (1, .int 0), (0, .ref (G.2.1 a0))]) hx hb dX7_busiestDay_3 rfl hl (by decide) rfl (fun ls hl => ?_)
  refine lv_iconst (pc := 4) (v := 0) hx hb dX7_busiestDay_4 (by decide) ?_
  refine lv_istore_n (pc := 5) (lv' := [(3, .int 0), (2, .int 0), (1, .int 0), (0, .ref (G.2.1 a0))]) hx hb dX7_busiestDay_5 rfl hl (by decide) rfl (fun ls hl => ?_)
  obtain ⟨v1, e2, h⟩ := ob_out h
  refine pX7_busiestDay_L6 F 5000 hsh S (lv_sub hl [3, 2, 1, 0] rfl) e2 (fun H locs ls S hl => ?_)
  refine lv_iload_n (pc := 36) hx hb dX7_busiestDay_36 rfl (lv_at hl 0 rfl) ?_
  cases h
  exact r_iret (pc := 37) F S rfl dX7_busiestDay_37
theorem mfX11_count : MF true yX11_count RX11 cX11_count 2 (some .int) 1 := ⟨w797, w1, by rw [if_pos rfl]; exact ⟨w795, w796⟩, ⟨by decide, by decide⟩, by decide +kernel⟩
set_option maxHeartbeats 4000000 in
theorem tX11_count {l : Launch} {G : GD} {M N : Mem} {a1 : Int32} {r : Int32} (h : fX11_count M a1 = some r) : MI l yX11_count cX11_count 2 .int 5 116 G [.ref (G.2.1 10), .int a1] M N r M N := by
  unfold fX11_count at h
  refine MI_of (own := RX11) (by decide) rfl (Nat.le_of_ble_eq_true rfl) ?_
  intro p e s m args below meth c F S ls hl
  have hx := F.1
  have hb := F.2.1
  have hown := F.2.2.2.2.1
  have hts := F.2.2.2.2.2.1
  have hZ := F.2.2.2.2.2.2.2.2.2
  have hl : lv_has ls 2 [(0, .ref (G.2.1 10)), (1, .int a1)] := hl
  generalize s.heap = H, ([] : List Loc) = locs at S ⊢
  refine lv_iload_n (pc := 0) hx hb dX11_count_0 rfl (lv_at hl 1 rfl) ?_
  rcases Classical.em (a1 = 0) with c1 | c1
  · replace h := (if_pos c1).symm.trans h
    refine lv_tableIn (pc := 1) (tgt := 52) hx hb dX11_count_1 (by rw [c1]; decide) (by rw [c1]; decide) (off := 51) (by rw [c1]; rfl) (by decide) ?_
    refine lv_aload_n (pc := 52) hx hb dX11_count_52 rfl (lv_at hl 0 rfl) ?_
    refine r_gR (pc := 53) (k := 0) (x := 34) (i := 10) (ci := 11) F S (by decide) (by decide) cl11 inRX11 (by decide) w319 (fun _ => rfl) dX11_count_53 ?_
    refine r_gR (pc := 56) (k := 1) (x := 36) (i := 34) (ci := 7) F S (by decide) (by decide) cl7 inRX7 (by decide) w168 (fun _ => rfl) dX11_count_56 ?_
    obtain ⟨v2, e3, h⟩ := ob_out h
    refine r_gI (pc := 59) (k := 0) F S e3 (by decide) cl9 inRX9 (by decide) w47 (fun _ => rfl) dX11_count_59 ?_
    cases h
    exact r_iret (pc := 62) F S rfl dX11_count_62
  replace h := (if_neg c1).symm.trans h
  rcases Classical.em (a1 = 1) with c4 | c4
  · replace h := (if_pos c4).symm.trans h
    refine lv_tableIn (pc := 1) (tgt := 63) hx hb dX11_count_1 (by rw [c4]; decide) (by rw [c4]; decide) (off := 62) (by rw [c4]; rfl) (by decide) ?_
    refine lv_aload_n (pc := 63) hx hb dX11_count_63 rfl (lv_at hl 0 rfl) ?_
    refine r_gR (pc := 64) (k := 0) (x := 34) (i := 10) (ci := 11) F S (by decide) (by decide) cl11 inRX11 (by decide) w319 (fun _ => rfl) dX11_count_64 ?_
    obtain ⟨v6, e5, h⟩ := ob_out h
    refine c_vI (pc := 67) (rest := []) F S (tX7_wholeCost e5) mfX7_wholeCost (by decide) (by decide) cl7 w798 ⟨Nat.le_of_ble_eq_true rfl, Nat.le_of_ble_eq_true rfl⟩ rfl hl.1 rfl (Nat.le_of_ble_eq_true rfl) dX11_count_67 (fun H locs S => ?_)
    cases h
    exact r_iret (pc := 70) F S rfl dX11_count_70
  replace h := (if_neg c4).symm.trans h
  rcases Classical.em (a1 = 2) with c7 | c7
  · replace h := (if_pos c7).symm.trans h
    refine lv_tableIn (pc := 1) (tgt := 71) hx hb dX11_count_1 (by rw [c7]; decide) (by rw [c7]; decide) (off := 70) (by rw [c7]; rfl) (by decide) ?_
    refine lv_aload_n (pc := 71) hx hb dX11_count_71 rfl (lv_at hl 0 rfl) ?_
    refine r_gR (pc := 72) (k := 0) (x := 34) (i := 10) (ci := 11) F S (by decide) (by decide) cl11 inRX11 (by decide) w319 (fun _ => rfl) dX11_count_72 ?_
    obtain ⟨v9, e8, h⟩ := ob_out h
    refine c_vI (pc := 75) (rest := []) F S (tX7_allMissing e8) mfX7_allMissing (by decide) (by decide) cl7 w803 ⟨Nat.le_of_ble_eq_true rfl, Nat.le_of_ble_eq_true rfl⟩ rfl hl.1 rfl (Nat.le_of_ble_eq_true rfl) dX11_count_75 (fun H locs S => ?_)
    cases h
    exact r_iret (pc := 78) F S rfl dX11_count_78
  replace h := (if_neg c7).symm.trans h
  rcases Classical.em (a1 = 3) with c10 | c10
  · replace h := (if_pos c10).symm.trans h
    refine lv_tableIn (pc := 1) (tgt := 79) hx hb dX11_count_1 (by rw [c10]; decide) (by rw [c10]; decide) (off := 78) (by rw [c10]; rfl) (by decide) ?_
    refine lv_aload_n (pc := 79) hx hb dX11_count_79 rfl (lv_at hl 0 rfl) ?_
    refine r_gR (pc := 80) (k := 0) (x := 34) (i := 10) (ci := 11) F S (by decide) (by decide) cl11 inRX11 (by decide) w319 (fun _ => rfl) dX11_count_80 ?_
    obtain ⟨v12, e11, h⟩ := ob_out h
    refine c_vI (pc := 83) (rest := []) F S (tX7_busiestDay e11) mfX7_busiestDay (by decide) (by decide) cl7 w808 ⟨Nat.le_of_ble_eq_true rfl, Nat.le_of_ble_eq_true rfl⟩ rfl hl.1 rfl (Nat.le_of_ble_eq_true rfl) dX11_count_83 (fun H locs S => ?_)
    cases h
    exact r_iret (pc := 86) F S rfl dX11_count_86
  replace h := (if_neg c10).symm.trans h
  rcases Classical.em (a1 = 4) with c13 | c13
  · replace h := (if_pos c13).symm.trans h
    refine lv_tableIn (pc := 1) (tgt := 87) hx hb dX11_count_1 (by rw [c13]; decide) (by rw [c13]; decide) (off := 86) (by rw [c13]; rfl) (by decide) ?_
    refine lv_aload_n (pc := 87) hx hb dX11_count_87 rfl (lv_at hl 0 rfl) ?_
    refine r_gR (pc := 88) (k := 0) (x := 34) (i := 10) (ci := 11) F S (by decide) (by decide) cl11 inRX11 (by decide) w319 (fun _ => rfl) dX11_count_88 ?_
    refine r_gR (pc := 91) (k := 0) (x := 35) (i := 34) (ci := 7) F S (by decide) (by decide) cl7 inRX7 (by decide) w165 (fun _ => rfl) dX11_count_91 ?_
    refine lv_iconst (pc := 94) (v := 0) hx hb dX11_count_94 (by decide) ?_
    obtain ⟨v14, e15, h⟩ := ob_out h
    refine r_aL (pc := 95) F S e15 dX11_count_95 ?_
    cases h
    exact r_iret (pc := 96) F S rfl dX11_count_96
  replace h := (if_neg c13).symm.trans h
  rcases Classical.em (a1 = 5) with c16 | c16
  · replace h := (if_pos c16).symm.trans h
    refine lv_tableIn (pc := 1) (tgt := 97) hx hb dX11_count_1 (by rw [c16]; decide) (by rw [c16]; decide) (off := 96) (by rw [c16]; rfl) (by decide) ?_
    refine lv_aload_n (pc := 97) hx hb dX11_count_97 rfl (lv_at hl 0 rfl) ?_
    refine r_gR (pc := 98) (k := 0) (x := 34) (i := 10) (ci := 11) F S (by decide) (by decide) cl11 inRX11 (by decide) w319 (fun _ => rfl) dX11_count_98 ?_
    refine r_gR (pc := 101) (k := 0) (x := 35) (i := 34) (ci := 7) F S (by decide) (by decide) cl7 inRX7 (by decide) w165 (fun _ => rfl) dX11_count_101 ?_
    refine lv_iconst (pc := 104) (v := 1) hx hb dX11_count_104 (by decide) ?_
    obtain ⟨v17, e18, h⟩ := ob_out h
    refine r_aL (pc := 105) F S e18 dX11_count_105 ?_
    cases h
    exact r_iret (pc := 106) F S rfl dX11_count_106
  replace h := (if_neg c16).symm.trans h
  rcases Classical.em (a1 = 6) with c19 | c19
  · replace h := (if_pos c19).symm.trans h
    refine lv_tableIn (pc := 1) (tgt := 107) hx hb dX11_count_1 (by rw [c19]; decide) (by rw [c19]; decide) (off := 106) (by rw [c19]; rfl) (by decide) ?_
    refine lv_aload_n (pc := 107) hx hb dX11_count_107 rfl (lv_at hl 0 rfl) ?_
    refine r_gR (pc := 108) (k := 0) (x := 34) (i := 10) (ci := 11) F S (by decide) (by decide) cl11 inRX11 (by decide) w319 (fun _ => rfl) dX11_count_108 ?_
    refine r_gR (pc := 111) (k := 0) (x := 35) (i := 34) (ci := 7) F S (by decide) (by decide) cl7 inRX7 (by decide) w165 (fun _ => rfl) dX11_count_111 ?_
    refine lv_iconst (pc := 114) (v := 2) hx hb dX11_count_114 (by decide) ?_
    obtain ⟨v20, e21, h⟩ := ob_out h
    refine r_aL (pc := 115) F S e21 dX11_count_115 ?_
    cases h
    exact r_iret (pc := 116) F S rfl dX11_count_116
  replace h := (if_neg c19).symm.trans h
  rcases Classical.em (a1 = 7) with c22 | c22
  · replace h := (if_pos c22).symm.trans h
    refine lv_tableIn (pc := 1) (tgt := 117) hx hb dX11_count_1 (by rw [c22]; decide) (by rw [c22]; decide) (off := 116) (by rw [c22]; rfl) (by decide) ?_
    refine lv_aload_n (pc := 117) hx hb dX11_count_117 rfl (lv_at hl 0 rfl) ?_
    refine r_gR (pc := 118) (k := 5) (x := 15) (i := 10) (ci := 11) F S (by decide) (by decide) cl11 inRX11 (by decide) w324 (fun _ => rfl) dX11_count_118 ?_
    obtain ⟨v23, e24, h⟩ := ob_out h
    refine r_gI (pc := 121) (k := 1) F S e24 (by decide) cl5 inRX5 (by decide) w212 (fun _ => rfl) dX11_count_121 ?_
    cases h
    exact r_iret (pc := 124) F S rfl dX11_count_124
  replace h := (if_neg c22).symm.trans h
  rcases Classical.em (a1 = 8) with c25 | c25
  · replace h := (if_pos c25).symm.trans h
    refine lv_tableIn (pc := 1) (tgt := 125) hx hb dX11_count_1 (by rw [c25]; decide) (by rw [c25]; decide) (off := 124) (by rw [c25]; rfl) (by decide) ?_
    refine lv_aload_n (pc := 125) hx hb dX11_count_125 rfl (lv_at hl 0 rfl) ?_
    refine r_gR (pc := 126) (k := 1) (x := 12) (i := 10) (ci := 11) F S (by decide) (by decide) cl11 inRX11 (by decide) w320 (fun _ => rfl) dX11_count_126 ?_
    obtain ⟨v26, e27, h⟩ := ob_out h
    refine r_gI (pc := 129) (k := 1) F S e27 (by decide) cl2 inRX2 (by decide) w190 (fun _ => rfl) dX11_count_129 ?_
    cases h
    exact r_iret (pc := 132) F S rfl dX11_count_132
  replace h := (if_neg c25).symm.trans h
  refine lv_tableOut (pc := 1) (tgt := 133) hx hb dX11_count_1 (tbl_out (fun k h1 h2 => ?_)) (by decide) ?_
  · rcases (show k = 0 ∨ k = 1 ∨ k = 2 ∨ k = 3 ∨ k = 4 ∨ k = 5 ∨ k = 6 ∨ k = 7 ∨ k = 8 by omega) with rfl | rfl | rfl | rfl | rfl | rfl | rfl | rfl | rfl
    · exact lv_neT c1 (by decide)
    · exact lv_neT c4 (by decide)
    · exact lv_neT c7 (by decide)
    · exact lv_neT c10 (by decide)
    · exact lv_neT c13 (by decide)
    · exact lv_neT c16 (by decide)
    · exact lv_neT c19 (by decide)
    · exact lv_neT c22 (by decide)
    · exact lv_neT c25 (by decide)
  refine lv_bipush (pc := 133) (v := (-2)) hx hb dX11_count_133 (by decide) ?_
  cases h
  exact r_iret (pc := 135) F S rfl dX11_count_135
theorem mfX8_begin : MF true yX8_begin RX8 cX8_begin 4 none 3 := ⟨w828, w12, by rw [if_pos rfl]; exact ⟨w827, wp18⟩, ⟨by decide, by decide⟩, by decide +kernel⟩
set_option maxHeartbeats 4000000 in
theorem tX8_begin {l : Launch} {G : GD} {M N Mo : Mem} {a1 : Nat} {a2 : Int32} {a3 : Int32} (h : fX8_begin M a1 a2 a3 = some Mo) : MV l yX8_begin cX8_begin 4 3 67 G [.ref (G.2.1 33), .ref (G.2.1 a1), .int a2, .int a3] M N Mo N := by
  unfold fX8_begin at h
  refine MV_of (own := RX8) (by decide) rfl (Nat.le_of_ble_eq_true rfl) ?_
  intro p e s m args below meth c F S ls hl
  have hx := F.1
  have hb := F.2.1
  have hown := F.2.2.2.2.1
  have hts := F.2.2.2.2.2.1
  have hZ := F.2.2.2.2.2.2.2.2.2
  have hl : lv_has ls 4 [(0, .ref (G.2.1 33)), (1, .ref (G.2.1 a1)), (2, .int a2), (3, .int a3)] := hl
  generalize s.heap = H, ([] : List Loc) = locs at S ⊢
  refine lv_aload_n (pc := 0) hx hb dX8_begin_0 rfl (lv_at hl 0 rfl) ?_
  refine r_gR (pc := 1) (k := 0) (x := 718) (i := 33) (ci := 8) F S (by decide) (by decide) cl8 inRX8 (by decide) w299 (fun _ => rfl) dX8_begin_1 ?_
  refine lv_aload_n (pc := 4) hx hb dX8_begin_4 rfl (lv_at hl 1 rfl) ?_
  obtain ⟨M2, e1, h⟩ := ob_out h
  refine c_vV (pc := 5) (rest := []) F S (tX6_copyFrom e1) mfX6_copyFrom (by decide) (by decide) cl6 w829 ⟨Nat.le_of_ble_eq_true rfl, Nat.le_of_ble_eq_true rfl⟩ rfl hl.1 rfl (Nat.le_of_ble_eq_true rfl) dX8_begin_5 (fun H locs S => ?_)
  refine lv_aload_n (pc := 8) hx hb dX8_begin_8 rfl (lv_at hl 0 rfl) ?_
  refine r_gR (pc := 9) (k := 0) (x := 718) (i := 33) (ci := 8) F S (by decide) (by decide) cl8 inRX8 (by decide) w299 (fun _ => rfl) dX8_begin_9 ?_
  refine lv_iload_n (pc := 12) hx hb dX8_begin_12 rfl (lv_at hl 2 rfl) ?_
  refine lv_iload_n (pc := 13) hx hb dX8_begin_13 rfl (lv_at hl 3 rfl) ?_
  obtain ⟨M4, e3, h⟩ := ob_out h
  refine c_vV (pc := 14) (rest := []) F S (tX6_startCue e3) mfX6_startCue (by decide) (by decide) cl6 w830 ⟨Nat.le_of_ble_eq_true rfl, Nat.le_of_ble_eq_true rfl⟩ rfl hl.1 rfl (Nat.le_of_ble_eq_true rfl) dX8_begin_14 (fun H locs S => ?_)
  refine lv_aload_n (pc := 17) hx hb dX8_begin_17 rfl (lv_at hl 0 rfl) ?_
  refine lv_iconst (pc := 18) (v := 0) hx hb dX8_begin_18 (by decide) ?_
  obtain ⟨M5, e6, h⟩ := ob_out h
  refine r_pI (pc := 19) (k := 1) (ty0 := tyX8) F S e6 (by decide) cl8 inRX8 tyX8_ok nmX8 (by decide) w300 rfl (by decide +kernel) (fun _ => Nat.le_of_ble_eq_true rfl) (fun _ => pf_8_1) dX8_begin_19 (fun H locs S => ?_)
  refine lv_aload_n (pc := 22) hx hb dX8_begin_22 rfl (lv_at hl 0 rfl) ?_
  refine lv_bipush (pc := 23) (v := (-6)) hx hb dX8_begin_23 (by decide) ?_
  obtain ⟨M7, e8, h⟩ := ob_out h
  refine r_pI (pc := 25) (k := 2) (ty0 := tyX8) F S e8 (by decide) cl8 inRX8 tyX8_ok nmX8 (by decide) w302 rfl (by decide +kernel) (fun _ => Nat.le_of_ble_eq_true rfl) (fun _ => pf_8_2) dX8_begin_25 (fun H locs S => ?_)
  refine lv_aload_n (pc := 28) hx hb dX8_begin_28 rfl (lv_at hl 0 rfl) ?_
  refine lv_iconst (pc := 29) (v := 0) hx hb dX8_begin_29 (by decide) ?_
  obtain ⟨M9, e10, h⟩ := ob_out h
  refine r_pI (pc := 30) (k := 3) (ty0 := tyX8) F S e10 (by decide) cl8 inRX8 tyX8_ok nmX8 (by decide) w304 rfl (by decide +kernel) (fun _ => Nat.le_of_ble_eq_true rfl) (fun _ => pf_8_3) dX8_begin_30 (fun H locs S => ?_)
  refine lv_aload_n (pc := 33) hx hb dX8_begin_33 rfl (lv_at hl 0 rfl) ?_
  refine lv_iconst (pc := 34) (v := 0) hx hb dX8_begin_34 (by decide) ?_
  obtain ⟨M11, e12, h⟩ := ob_out h
  refine r_pI (pc := 35) (k := 4) (ty0 := tyX8) F S e12 (by decide) cl8 inRX8 tyX8_ok nmX8 (by decide) w306 rfl (by decide +kernel) (fun _ => Nat.le_of_ble_eq_true rfl) (fun _ => pf_8_4) dX8_begin_35 (fun H locs S => ?_)
  cases h
  exact r_vret (pc := 38) F S dX8_begin_38
theorem mfX8_playToTheEnd : MF true yX8_playToTheEnd RX8 cX8_playToTheEnd 8 none 4 := ⟨w823, w12, by rw [if_pos rfl]; exact ⟨w821, w822⟩, ⟨by decide, by decide⟩, by decide +kernel⟩
set_option maxHeartbeats 4000000 in
theorem pX8_playToTheEnd_L31 {p : Program} {l : Launch} {e : Env} {s : State} {m : MethodId} {args : Array Value} {below : List Frame} {meth : Method} {c : Code} {Q : State → Prop} {G : GD} (F : FX p s m args meth c RX8 cX8_playToTheEnd 8 none G) : ∀ (n : Nat) {M N : Mem} {a1 : Nat} {a4 : Nat} {a5 : Int32} {a6 : Int32} {H : Heap} {locs : List Loc} {ls : Array Slot} {Mo : Mem}, ST G M N s H locs → lv_has ls 8 [(0, .ref (G.2.1 33)), (1, .ref (G.2.1 a1)), (4, .ref (G.2.1 a4)), (5, .int a5), (6, .int a6)] → fX8_playToTheEnd_L31 n M a1 a4 a5 a6 = some Mo → (K1 : ∀ (H : Heap) (locs : List Loc) (ls : Array Slot), ST G Mo N s H locs → lv_has ls 8 [] → W p l e (Rm 5 115) s m args below meth c H locs 0 0 Q (F0 m 132 ls [])) → W p l e (Rm 5 115) s m args below meth c H locs 0 0 Q (F0 m 31 ls []) := by
  intro n
  induction n with
  | zero => intro M N a1 a4 a5 a6 H locs ls Mo S hl h K1; cases h
  | succ n ih =>
    intro M N a1 a4 a5 a6 H locs ls Mo S hl h K1
    rw [fX8_playToTheEnd_L31] at h
    have hx := F.1
    have hb := F.2.1
    have hown := F.2.2.2.2.1
    have hts := F.2.2.2.2.2.1
    have hZ := F.2.2.2.2.2.2.2.2.2
    refine lv_iload (pc := 31) hx hb dX8_playToTheEnd_31 (lv_at hl 4 rfl) ?_
    refine lv_iload (pc := 33) hx hb dX8_playToTheEnd_33 (lv_at hl 3 rfl) ?_
    refine lv_aload_n (pc := 35) hx hb dX8_playToTheEnd_35 rfl (lv_at hl 1 rfl) ?_
    obtain ⟨x8, e9, h⟩ := ob_out h
    refine r_gR (pc := 36) (k := 0) F S e9 (by decide) cl7 inRX7 (by decide) w164 (fun _ => rfl) dX8_playToTheEnd_36 ?_
    refine lv_iconst (pc := 39) (v := 2) hx hb dX8_playToTheEnd_39 (by decide) ?_
    obtain ⟨v10, e11, h⟩ := ob_out h
    refine r_aL (pc := 40) F S e11 dX8_playToTheEnd_40 ?_
    refine lv_iadd (pc := 41) hx hb dX8_playToTheEnd_41 ?_
    refine lv_icmp_gt (pc := 42) (tgt := 132) hx hb dX8_playToTheEnd_42 (by decide) (fun c12 => ?_) (fun c12 => ?_)
    · replace h := (if_pos c12).symm.trans h
      cases h
      exact K1 H locs ls S (lv_sub hl [] rfl)
    · replace h := (if_neg c12).symm.trans h
      refine lv_aload_n (pc := 45) hx hb dX8_playToTheEnd_45 rfl (lv_at hl 0 rfl) ?_
      refine r_gR (pc := 46) (k := 0) (x := 718) (i := 33) (ci := 8) F S (by decide) (by decide) cl8 inRX8 (by decide) w299 (fun _ => rfl) dX8_playToTheEnd_46 ?_
      refine lv_aload_n (pc := 49) hx hb dX8_playToTheEnd_49 rfl (lv_at hl 1 rfl) ?_
      refine lv_aload (pc := 50) hx hb dX8_playToTheEnd_50 (lv_at hl 2 rfl) ?_
      obtain ⟨v14, M15, e13, h⟩ := ob2_out h
      refine c_vI (pc := 52) (rest := []) F S (tX6_passTick e13) mfX6_passTick (by decide) (by decide) cl6 w831 ⟨Nat.le_of_ble_eq_true rfl, Nat.le_of_ble_eq_true rfl⟩ rfl hl.1 rfl (Nat.le_of_ble_eq_true rfl) dX8_playToTheEnd_52 (fun H locs S => ?_)
      refine lv_istore (pc := 55) (lv' := [(7, .int v14), (0, .ref (G.2.1 33)), (1, .ref (G.2.1 a1)), (4, .ref (G.2.1 a4)), (5, .int a5), (6, .int a6)]) hx hb dX8_playToTheEnd_55 hl (by decide) rfl (fun ls hl => ?_)
      refine lv_iload (pc := 57) hx hb dX8_playToTheEnd_57 (lv_at hl 0 rfl) ?_
      obtain ⟨M16, d17, h⟩ := ob_out h
      have J18 : ∀ (H : Heap) (locs : List Loc) (ls : Array Slot), ST G M16 N s H locs → lv_has ls 8 [(0, .ref (G.2.1 33)), (1, .ref (G.2.1 a1)), (4, .ref (G.2.1 a4)), (5, .int a5), (6, .int a6), (7, .int v14)] → W p l e (Rm 5 115) s m args below meth c H locs 0 0 Q (F0 m 77 ls []) := by
        intro H locs ls S hl
        refine lv_aload_n (pc := 77) hx hb dX8_playToTheEnd_77 rfl (lv_at hl 0 rfl) ?_
        refine lv_dup (pc := 78) hx hb dX8_playToTheEnd_78 rfl ?_
        obtain ⟨v19, e20, h⟩ := ob_out h
        refine r_gI (pc := 79) (k := 1) F S e20 (by decide) cl8 inRX8 (by decide) w300 (fun _ => rfl) dX8_playToTheEnd_79 ?_
        refine lv_iload (pc := 82) hx hb dX8_playToTheEnd_82 (lv_at hl 5 rfl) ?_
        refine lv_iadd (pc := 84) hx hb dX8_playToTheEnd_84 ?_
        obtain ⟨M21, e22, h⟩ := ob_out h
        refine r_pI (pc := 85) (k := 1) (ty0 := tyX8) F S e22 (by decide) cl8 inRX8 tyX8_ok nmX8 (by decide) w300 rfl (by decide +kernel) (fun _ => Nat.le_of_ble_eq_true rfl) (fun _ => pf_8_1) dX8_playToTheEnd_85 (fun H locs S => ?_)
        refine lv_aload_n (pc := 88) hx hb dX8_playToTheEnd_88 rfl (lv_at hl 0 rfl) ?_
        refine lv_aload_n (pc := 89) hx hb dX8_playToTheEnd_89 rfl (lv_at hl 0 rfl) ?_
        obtain ⟨v23, e24, h⟩ := ob_out h
        refine r_gI (pc := 90) (k := 3) F S e24 (by decide) cl8 inRX8 (by decide) w304 (fun _ => rfl) dX8_playToTheEnd_90 ?_
        refine lv_aload (pc := 93) hx hb dX8_playToTheEnd_93 (lv_at hl 2 rfl) ?_
        obtain ⟨x25, e26, h⟩ := ob_out h
        refine r_gR (pc := 95) (k := 0) F S e26 (by decide) cl3 inRX3 (by decide) w262 (fun _ => rfl) dX8_playToTheEnd_95 ?_
        obtain ⟨v28, e27, h⟩ := ob_out h
        refine c_nI (pc := 98) (rest := [.int v23, .ref (G.2.1 33)]) F S (tX11_greatest e27) mfX11_greatest wn26 ⟨Nat.le_of_ble_eq_true rfl, Nat.le_of_ble_eq_true rfl⟩ rfl hl.1 rfl (Nat.le_of_ble_eq_true rfl) dX8_playToTheEnd_98 (fun H locs S => ?_)
        refine c_max (pc := 101) F w833 w458 w14 w459 (Nat.le_of_ble_eq_true rfl) hl.1 (Nat.le_of_ble_eq_true rfl) dX8_playToTheEnd_101 ?_
        obtain ⟨M29, e30, h⟩ := ob_out h
        refine r_pI (pc := 104) (k := 3) (ty0 := tyX8) F S e30 (by decide) cl8 inRX8 tyX8_ok nmX8 (by decide) w304 rfl (by decide +kernel) (fun _ => Nat.le_of_ble_eq_true rfl) (fun _ => pf_8_3) dX8_playToTheEnd_104 (fun H locs S => ?_)
        refine lv_aload_n (pc := 107) hx hb dX8_playToTheEnd_107 rfl (lv_at hl 0 rfl) ?_
        refine lv_aload_n (pc := 108) hx hb dX8_playToTheEnd_108 rfl (lv_at hl 0 rfl) ?_
        obtain ⟨v31, e32, h⟩ := ob_out h
        refine r_gI (pc := 109) (k := 4) F S e32 (by decide) cl8 inRX8 (by decide) w306 (fun _ => rfl) dX8_playToTheEnd_109 ?_
        refine lv_aload (pc := 112) hx hb dX8_playToTheEnd_112 (lv_at hl 2 rfl) ?_
        obtain ⟨x33, e34, h⟩ := ob_out h
        refine r_gR (pc := 114) (k := 1) F S e34 (by decide) cl3 inRX3 (by decide) w267 (fun _ => rfl) dX8_playToTheEnd_114 ?_
        obtain ⟨v36, e35, h⟩ := ob_out h
        refine c_nI (pc := 117) (rest := [.int v31, .ref (G.2.1 33)]) F S (tX11_greatest e35) mfX11_greatest wn26 ⟨Nat.le_of_ble_eq_true rfl, Nat.le_of_ble_eq_true rfl⟩ rfl hl.1 rfl (Nat.le_of_ble_eq_true rfl) dX8_playToTheEnd_117 (fun H locs S => ?_)
        refine c_max (pc := 120) F w833 w458 w14 w459 (Nat.le_of_ble_eq_true rfl) hl.1 (Nat.le_of_ble_eq_true rfl) dX8_playToTheEnd_120 ?_
        obtain ⟨M37, e38, h⟩ := ob_out h
        refine r_pI (pc := 123) (k := 4) (ty0 := tyX8) F S e38 (by decide) cl8 inRX8 tyX8_ok nmX8 (by decide) w306 rfl (by decide +kernel) (fun _ => Nat.le_of_ble_eq_true rfl) (fun _ => pf_8_4) dX8_playToTheEnd_123 (fun H locs S => ?_)
        refine lv_iinc (pc := 126) (lv' := [(6, .int (a6 + 1)), (0, .ref (G.2.1 33)), (1, .ref (G.2.1 a1)), (4, .ref (G.2.1 a4)), (5, .int a5), (7, .int v14)]) hx hb dX8_playToTheEnd_126 hl (k := 4) rfl (iinc_n (by decide)) (by decide) rfl (fun ls hl => ?_)
        refine lv_goto (pc := 129) (tgt := 31) hx hb dX8_playToTheEnd_129 (by decide) ?_
        exact ih S (lv_sub hl [1, 2, 3, 4, 0] rfl) h K1
      refine lv_if_le (pc := 59) (tgt := 77) hx hb dX8_playToTheEnd_59 (by decide) (fun c39 => ?_) (fun c39 => ?_)
      · replace d17 := (if_pos c39).symm.trans d17
        cases d17
        exact J18 H locs ls S (lv_sub hl [1, 2, 3, 4, 5, 0] rfl)
      · replace d17 := (if_neg c39).symm.trans d17
        refine lv_aload_n (pc := 62) hx hb dX8_playToTheEnd_62 rfl (lv_at hl 1 rfl) ?_
        obtain ⟨v40, e41, d17⟩ := ob_out d17
        refine r_gI (pc := 63) (k := 2) F S e41 (by decide) cl8 inRX8 (by decide) w302 (fun _ => rfl) dX8_playToTheEnd_63 ?_
        refine lv_bipush (pc := 66) (v := (-6)) hx hb dX8_playToTheEnd_66 (by decide) ?_
        refine lv_icmp_ne (pc := 68) (tgt := 77) hx hb dX8_playToTheEnd_68 (by decide) (fun c42 => ?_) (fun c42 => ?_)
        · replace d17 := (if_neg c42).symm.trans d17
          cases d17
          exact J18 H locs ls S (lv_sub hl [1, 2, 3, 4, 5, 0] rfl)
        · replace d17 := (if_pos c42).symm.trans d17
          refine lv_aload_n (pc := 71) hx hb dX8_playToTheEnd_71 rfl (lv_at hl 1 rfl) ?_
          refine lv_iload (pc := 72) hx hb dX8_playToTheEnd_72 (lv_at hl 5 rfl) ?_
          obtain ⟨M43, e44, d17⟩ := ob_out d17
          refine r_pI (pc := 74) (k := 2) (ty0 := tyX8) F S e44 (by decide) cl8 inRX8 tyX8_ok nmX8 (by decide) w302 rfl (by decide +kernel) (fun _ => Nat.le_of_ble_eq_true rfl) (fun _ => pf_8_2) dX8_playToTheEnd_74 (fun H locs S => ?_)
          cases d17
          exact J18 H locs ls S (lv_sub hl [1, 2, 3, 4, 5, 0] rfl)
set_option maxHeartbeats 4000000 in
theorem tX8_playToTheEnd {l : Launch} {G : GD} {M N Mo : Mem} {a1 : Nat} {a2 : Nat} {a3 : Int32} {a4 : Nat} (h : fX8_playToTheEnd M a1 a2 a3 a4 = some Mo) : MV l yX8_playToTheEnd cX8_playToTheEnd 8 5 115 G [.ref (G.2.1 33), .ref (G.2.1 a1), .ref (G.2.1 a2), .int a3, .ref (G.2.1 a4)] M N Mo N := by
  unfold fX8_playToTheEnd at h
  refine MV_of (own := RX8) (by decide) rfl (Nat.le_of_ble_eq_true rfl) ?_
  intro p e s m args below meth c F S ls hl
  have hx := F.1
  have hb := F.2.1
  have hown := F.2.2.2.2.1
  have hts := F.2.2.2.2.2.1
  have hZ := F.2.2.2.2.2.2.2.2.2
  have hl : lv_has ls 8 [(0, .ref (G.2.1 33)), (1, .ref (G.2.1 a1)), (2, .ref (G.2.1 a2)), (3, .int a3), (4, .ref (G.2.1 a4))] := hl
  generalize s.heap = H, ([] : List Loc) = locs at S ⊢
  refine lv_aload_n (pc := 0) hx hb dX8_playToTheEnd_0 rfl (lv_at hl 2 rfl) ?_
  refine lv_iload_n (pc := 1) hx hb dX8_playToTheEnd_1 rfl (lv_at hl 3 rfl) ?_
  obtain ⟨v2, e1, h⟩ := ob_out h
  refine c_vI (pc := 2) (rest := []) F S (tX6_isRecorded e1) mfX6_isRecorded (sX6_isRecorded e1) (by decide) cl6 w824 ⟨Nat.le_of_ble_eq_true rfl, Nat.le_of_ble_eq_true rfl⟩ rfl hl.1 rfl (Nat.le_of_ble_eq_true rfl) dX8_playToTheEnd_2 (fun H locs S => ?_)
  obtain ⟨v3, d4, h⟩ := ob_out h
  have J5 : ∀ (H : Heap) (locs : List Loc) (ls : Array Slot), ST G M N s H locs → lv_has ls 8 [(0, .ref (G.2.1 33)), (1, .ref (G.2.1 a1)), (2, .ref (G.2.1 a2)), (3, .int a3), (4, .ref (G.2.1 a4))] → W p l e (Rm 5 115) s m args below meth c H locs 0 0 (MQ below (va_Qv (fun _ : Unit => True) (fun _ t => Wd G Mo N t) (AG G.2.1)) args s 0 0 (AG G.2.1)) (F0 m 18 ls [.int v3]) := by
    intro H locs ls S hl
    refine lv_istore (pc := 18) (lv' := [(5, .int v3), (0, .ref (G.2.1 33)), (1, .ref (G.2.1 a1)), (2, .ref (G.2.1 a2)), (3, .int a3), (4, .ref (G.2.1 a4))]) hx hb dX8_playToTheEnd_18 hl (by decide) rfl (fun ls hl => ?_)
    refine lv_aload_n (pc := 20) hx hb dX8_playToTheEnd_20 rfl (lv_at hl 1 rfl) ?_
    refine lv_aload_n (pc := 21) hx hb dX8_playToTheEnd_21 rfl (lv_at hl 3 rfl) ?_
    refine lv_iload_n (pc := 22) hx hb dX8_playToTheEnd_22 rfl (lv_at hl 4 rfl) ?_
    refine lv_iload (pc := 23) hx hb dX8_playToTheEnd_23 (lv_at hl 0 rfl) ?_
    obtain ⟨M7, e6, h⟩ := ob_out h
    refine c_vV (pc := 25) (rest := []) F S (tX8_begin e6) mfX8_begin (by decide) (by decide) cl8 w825 ⟨Nat.le_of_ble_eq_true rfl, Nat.le_of_ble_eq_true rfl⟩ rfl hl.1 rfl (Nat.le_of_ble_eq_true rfl) dX8_playToTheEnd_25 (fun H locs S => ?_)
    refine lv_iconst (pc := 28) (v := 1) hx hb dX8_playToTheEnd_28 (by decide) ?_
    refine lv_istore (pc := 29) (lv' := [(6, .int 1), (5, .int v3), (0, .ref (G.2.1 33)), (1, .ref (G.2.1 a1)), (2, .ref (G.2.1 a2)), (3, .int a3), (4, .ref (G.2.1 a4))]) hx hb dX8_playToTheEnd_29 hl (by decide) rfl (fun ls hl => ?_)
    obtain ⟨M8, e9, h⟩ := ob_out h
    refine pX8_playToTheEnd_L31 F 5000 S (lv_sub hl [2, 3, 6, 1, 0] rfl) e9 (fun H locs ls S hl => ?_)
    cases h
    exact r_vret (pc := 132) F S dX8_playToTheEnd_132
  refine lv_if_eq (pc := 5) (tgt := 17) hx hb dX8_playToTheEnd_5 (by decide) (fun c10 => ?_) (fun c10 => ?_)
  · replace d4 := (if_pos c10).symm.trans d4
    refine lv_iconst (pc := 17) (v := 0) hx hb dX8_playToTheEnd_17 (by decide) ?_
    cases d4
    exact J5 H locs ls S (lv_sub hl [0, 1, 2, 3, 4] rfl)
  · replace d4 := (if_neg c10).symm.trans d4
    refine lv_aload_n (pc := 8) hx hb dX8_playToTheEnd_8 rfl (lv_at hl 2 rfl) ?_
    obtain ⟨x11, e12, d4⟩ := ob_out d4
    refine r_gR (pc := 9) (k := 8) F S e12 (by decide) cl6 inRX6 (by decide) w124 (fun _ => rfl) dX8_playToTheEnd_9 ?_
    refine lv_iload_n (pc := 12) hx hb dX8_playToTheEnd_12 rfl (lv_at hl 3 rfl) ?_
    obtain ⟨v13, e14, d4⟩ := ob_out d4
    refine r_aL (pc := 13) F S e14 dX8_playToTheEnd_13 ?_
    refine lv_goto (pc := 14) (tgt := 18) hx hb dX8_playToTheEnd_14 (by decide) ?_
    cases d4
    exact J5 H locs ls S (lv_sub hl [0, 1, 2, 3, 4] rfl)
