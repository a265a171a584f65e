/-! the walks: each method does what its function says -/
theorem mfX12_tryOut : MF true yX12_tryOut RX12 cX12_tryOut 8 none 3 := ⟨w1226, w13, by rw [if_pos rfl]; exact ⟨w1225, wp52⟩, ⟨by decide, by decide⟩, by decide +kernel⟩
set_option maxHeartbeats 4000000 in
theorem pX12_tryOut_L94 {p : Program} {l : Launch} {e : Env} {s : State} {m : MethodId} {args : Array Value} {below : List Frame} {meth : Method} {c : Code} {Q : State → Prop} {G : GD} (F : FX p s m args meth c RX12 cX12_tryOut 8 none G) : ∀ (n : Nat) {M N : Mem} {a1 : Int32} {a3 : Int32} {a4 : Int32} {a6 : Int32} {H : Heap} {locs : List Loc} {ls : Array Slot} {Mo : Mem}, ST G M N s H locs → lv_has ls 8 [(0, .ref (G.2.1 0)), (1, .int a1), (3, .int a3), (4, .int a4), (6, .int a6)] → fX12_tryOut_L94 n N a1 a3 a4 a6 = some Mo → (K1 : ∀ (H : Heap) (locs : List Loc) (ls : Array Slot), ST G M Mo s H locs → lv_has ls 8 [(0, .ref (G.2.1 0)), (1, .int a1), (3, .int a3), (4, .int a4)] → W p l e (Rm 7 167) s m args below meth c H locs 0 0 Q (F0 m 174 ls [])) → W p l e (Rm 7 167) s m args below meth c H locs 0 0 Q (F0 m 94 ls []) := by
  intro n
  induction n with
  | zero => intro M N a1 a3 a4 a6 H locs ls Mo S hl h K1; cases h
  | succ n ih =>
    intro M N a1 a3 a4 a6 H locs ls Mo S hl h K1
    rw [fX12_tryOut_L94] at h
    have hx := F.1
    have hb := F.2.1
    have hown := F.2.2.2.2.1
    have hts := F.2.2.2.2.2.1
    have hZ := F.2.2.2.2.2.2.2.2.2
    refine lv_iload (pc := 94) hx hb dX12_tryOut_94 (lv_at hl 4 rfl) ?_
    refine lv_bipush (pc := 96) (v := 15) hx hb dX12_tryOut_96 (by decide) ?_
    refine lv_icmp_ge (pc := 98) (tgt := 174) hx hb dX12_tryOut_98 (by decide) (fun c28 => ?_) (fun c28 => ?_)
    · replace h := (if_pos c28).symm.trans h
      cases h
      exact K1 H locs ls S (lv_sub hl [0, 1, 2, 3] rfl)
    · replace h := (if_neg c28).symm.trans h
      refine lv_aload_n (pc := 101) hx hb dX12_tryOut_101 rfl (lv_at hl 0 rfl) ?_
      refine lv_iload_n (pc := 102) hx hb dX12_tryOut_102 rfl (lv_at hl 1 rfl) ?_
      refine lv_iload (pc := 103) hx hb dX12_tryOut_103 (lv_at hl 4 rfl) ?_
      obtain ⟨v30, e29, h⟩ := ob_out h
      refine c_vI (pc := 105) (rest := []) F S (tX12_load e29) mfX12_load (by decide) (by decide) cl12 w1090 ⟨Nat.le_of_ble_eq_true rfl, Nat.le_of_ble_eq_true rfl⟩ rfl hl.1 rfl (Nat.le_of_ble_eq_true rfl) dX12_tryOut_105 (fun H locs S => ?_)
      refine lv_istore (pc := 108) (lv' := [(7, .int v30), (0, .ref (G.2.1 0)), (1, .int a1), (3, .int a3), (4, .int a4), (6, .int a6)]) hx hb dX12_tryOut_108 hl (by decide) rfl (fun ls hl => ?_)
      refine lv_aload_n (pc := 110) hx hb dX12_tryOut_110 rfl (lv_at hl 1 rfl) ?_
      refine lv_iload (pc := 111) hx hb dX12_tryOut_111 (lv_at hl 5 rfl) ?_
      refine lv_bipush (pc := 113) (v := 12) hx hb dX12_tryOut_113 (by decide) ?_
      obtain ⟨v31, d32, h⟩ := ob_out h
      have J33 : ∀ (H : Heap) (locs : List Loc) (ls : Array Slot), ST G M N s H locs → lv_has ls 8 [(0, .ref (G.2.1 0)), (1, .int a1), (3, .int a3), (4, .int a4), (6, .int a6), (7, .int v30)] → W p l e (Rm 7 167) s m args below meth c H locs 0 0 Q (F0 m 136 ls [.int v31, .ref (G.2.1 0)]) := by
        intro H locs ls S hl
        obtain ⟨M34, e35, h⟩ := ob_out h
        refine r_pN (pc := 136) (k := 19) (ty0 := tyX12) F S e35 (by decide) cl12 inRX12 tyX12_ok nmX12 (by decide) w922 rfl (by decide +kernel) (fun _ => Nat.le_of_ble_eq_true rfl) (fun _ => pf_12_19) dX12_tryOut_136 (fun H locs S => ?_)
        refine lv_aload_n (pc := 139) hx hb dX12_tryOut_139 rfl (lv_at hl 0 rfl) ?_
        refine lv_iload (pc := 140) hx hb dX12_tryOut_140 (lv_at hl 4 rfl) ?_
        refine lv_bipush (pc := 142) (v := 12) hx hb dX12_tryOut_142 (by decide) ?_
        refine lv_icmp_lt (pc := 144) (tgt := 161) hx hb dX12_tryOut_144 (by decide) (fun c36 => ?_) (fun c36 => ?_)
        · replace h := (if_pos c36).symm.trans h
          refine lv_aload_n (pc := 161) hx hb dX12_tryOut_161 rfl (lv_at hl 0 rfl) ?_
          obtain ⟨v37, e38, h⟩ := ob_out h
          refine r_gN (pc := 162) (k := 20) F S e38 (by decide) cl12 inRX12 (by decide) w923 (fun _ => rfl) dX12_tryOut_162 ?_
          obtain ⟨M39, e40, h⟩ := ob_out h
          refine r_pN (pc := 165) (k := 20) (ty0 := tyX12) F S e40 (by decide) cl12 inRX12 tyX12_ok nmX12 (by decide) w923 rfl (by decide +kernel) (fun _ => Nat.le_of_ble_eq_true rfl) (fun _ => pf_12_20) dX12_tryOut_165 (fun H locs S => ?_)
          refine lv_iinc (pc := 168) (lv' := [(6, .int (a6 + 1)), (0, .ref (G.2.1 0)), (1, .int a1), (3, .int a3), (4, .int a4), (7, .int v30)]) hx hb dX12_tryOut_168 hl (k := 4) rfl (iinc_n (by decide)) (by decide) rfl (fun ls hl => ?_)
          refine lv_goto (pc := 171) (tgt := 94) hx hb dX12_tryOut_171 (by decide) ?_
          exact ih S (lv_sub hl [1, 2, 3, 4, 0] rfl) h K1
        · replace h := (if_neg c36).symm.trans h
          refine lv_iload (pc := 147) hx hb dX12_tryOut_147 (lv_at hl 5 rfl) ?_
          refine lv_aload_n (pc := 149) hx hb dX12_tryOut_149 rfl (lv_at hl 0 rfl) ?_
          obtain ⟨v41, e42, h⟩ := ob_out h
          refine r_gN (pc := 150) (k := 20) F S e42 (by decide) cl12 inRX12 (by decide) w923 (fun _ => rfl) dX12_tryOut_150 ?_
          refine lv_icmp_le (pc := 153) (tgt := 161) hx hb dX12_tryOut_153 (by decide) (fun c43 => ?_) (fun c43 => ?_)
          · replace h := (if_pos c43).symm.trans h
            refine lv_aload_n (pc := 161) hx hb dX12_tryOut_161 rfl (lv_at hl 0 rfl) ?_
            obtain ⟨v44, e45, h⟩ := ob_out h
            refine r_gN (pc := 162) (k := 20) F S e45 (by decide) cl12 inRX12 (by decide) w923 (fun _ => rfl) dX12_tryOut_162 ?_
            obtain ⟨M46, e47, h⟩ := ob_out h
            refine r_pN (pc := 165) (k := 20) (ty0 := tyX12) F S e47 (by decide) cl12 inRX12 tyX12_ok nmX12 (by decide) w923 rfl (by decide +kernel) (fun _ => Nat.le_of_ble_eq_true rfl) (fun _ => pf_12_20) dX12_tryOut_165 (fun H locs S => ?_)
            refine lv_iinc (pc := 168) (lv' := [(6, .int (a6 + 1)), (0, .ref (G.2.1 0)), (1, .int a1), (3, .int a3), (4, .int a4), (7, .int v30)]) hx hb dX12_tryOut_168 hl (k := 4) rfl (iinc_n (by decide)) (by decide) rfl (fun ls hl => ?_)
            refine lv_goto (pc := 171) (tgt := 94) hx hb dX12_tryOut_171 (by decide) ?_
            exact ih S (lv_sub hl [1, 2, 3, 4, 0] rfl) h K1
          · replace h := (if_neg c43).symm.trans h
            refine lv_iload (pc := 156) hx hb dX12_tryOut_156 (lv_at hl 5 rfl) ?_
            refine lv_goto (pc := 158) (tgt := 165) hx hb dX12_tryOut_158 (by decide) ?_
            obtain ⟨M48, e49, h⟩ := ob_out h
            refine r_pN (pc := 165) (k := 20) (ty0 := tyX12) F S e49 (by decide) cl12 inRX12 tyX12_ok nmX12 (by decide) w923 rfl (by decide +kernel) (fun _ => Nat.le_of_ble_eq_true rfl) (fun _ => pf_12_20) dX12_tryOut_165 (fun H locs S => ?_)
            refine lv_iinc (pc := 168) (lv' := [(6, .int (a6 + 1)), (0, .ref (G.2.1 0)), (1, .int a1), (3, .int a3), (4, .int a4), (7, .int v30)]) hx hb dX12_tryOut_168 hl (k := 4) rfl (iinc_n (by decide)) (by decide) rfl (fun ls hl => ?_)
            refine lv_goto (pc := 171) (tgt := 94) hx hb dX12_tryOut_171 (by decide) ?_
            exact ih S (lv_sub hl [1, 2, 3, 4, 0] rfl) h K1
      refine lv_icmp_ge (pc := 115) (tgt := 132) hx hb dX12_tryOut_115 (by decide) (fun c50 => ?_) (fun c50 => ?_)
      · replace d32 := (if_pos c50).symm.trans d32
        refine lv_aload_n (pc := 132) hx hb dX12_tryOut_132 rfl (lv_at hl 1 rfl) ?_
        obtain ⟨v51, e52, d32⟩ := ob_out d32
        refine r_gN (pc := 133) (k := 19) F S e52 (by decide) cl12 inRX12 (by decide) w922 (fun _ => rfl) dX12_tryOut_133 ?_
        cases d32
        exact J33 H locs ls S (lv_sub hl [1, 2, 3, 4, 5, 0] rfl)
      · replace d32 := (if_neg c50).symm.trans d32
        refine lv_iload (pc := 118) hx hb dX12_tryOut_118 (lv_at hl 0 rfl) ?_
        refine lv_aload_n (pc := 120) hx hb dX12_tryOut_120 rfl (lv_at hl 1 rfl) ?_
        obtain ⟨v53, e54, d32⟩ := ob_out d32
        refine r_gN (pc := 121) (k := 19) F S e54 (by decide) cl12 inRX12 (by decide) w922 (fun _ => rfl) dX12_tryOut_121 ?_
        refine lv_icmp_le (pc := 124) (tgt := 132) hx hb dX12_tryOut_124 (by decide) (fun c55 => ?_) (fun c55 => ?_)
        · replace d32 := (if_pos c55).symm.trans d32
          refine lv_aload_n (pc := 132) hx hb dX12_tryOut_132 rfl (lv_at hl 1 rfl) ?_
          obtain ⟨v56, e57, d32⟩ := ob_out d32
          refine r_gN (pc := 133) (k := 19) F S e57 (by decide) cl12 inRX12 (by decide) w922 (fun _ => rfl) dX12_tryOut_133 ?_
          cases d32
          exact J33 H locs ls S (lv_sub hl [1, 2, 3, 4, 5, 0] rfl)
        · replace d32 := (if_neg c55).symm.trans d32
          refine lv_iload (pc := 127) hx hb dX12_tryOut_127 (lv_at hl 0 rfl) ?_
          refine lv_goto (pc := 129) (tgt := 136) hx hb dX12_tryOut_129 (by decide) ?_
          cases d32
          exact J33 H locs ls S (lv_sub hl [1, 2, 3, 4, 5, 0] rfl)
set_option maxHeartbeats 4000000 in
theorem pX12_tryOut_L35 {p : Program} {l : Launch} {e : Env} {s : State} {m : MethodId} {args : Array Value} {below : List Frame} {meth : Method} {c : Code} {Q : State → Prop} {G : GD} (F : FX p s m args meth c RX12 cX12_tryOut 8 none G) : ∀ (n : Nat) {M N : Mem} {a1 : Int32} {a3 : Int32} {a4 : Int32} {H : Heap} {locs : List Loc} {ls : Array Slot} {Mo : Mem}, ST G M N s H locs → lv_has ls 8 [(0, .ref (G.2.1 0)), (1, .int a1), (3, .int a3), (4, .int a4)] → fX12_tryOut_L35 n N a1 a3 a4 = some Mo → (K1 : ∀ (H : Heap) (locs : List Loc) (ls : Array Slot), ST G M Mo s H locs → lv_has ls 8 [(0, .ref (G.2.1 0))] → W p l e (Rm 7 167) s m args below meth c H locs 0 0 Q (F0 m 180 ls [])) → W p l e (Rm 7 167) s m args below meth c H locs 0 0 Q (F0 m 35 ls []) := by
  intro n
  induction n with
  | zero => intro M N a1 a3 a4 H locs ls Mo S hl h K1; cases h
  | succ n ih =>
    intro M N a1 a3 a4 H locs ls Mo S hl h K1
    rw [fX12_tryOut_L35] at h
    have hx := F.1
    have hb := F.2.1
    have hown := F.2.2.2.2.1
    have hts := F.2.2.2.2.2.1
    have hZ := F.2.2.2.2.2.2.2.2.2
    refine lv_iload (pc := 35) hx hb dX12_tryOut_35 (lv_at hl 3 rfl) ?_
    refine lv_iload_n (pc := 37) hx hb dX12_tryOut_37 rfl (lv_at hl 2 rfl) ?_
    refine lv_aload_n (pc := 38) hx hb dX12_tryOut_38 rfl (lv_at hl 0 rfl) ?_
    refine r_gR (pc := 39) (k := 0) (x := 1) (i := 0) (ci := 12) F S (by decide) (by decide) cl12 inRX12 (by decide) w903 (fun _ => rfl) dX12_tryOut_39 ?_
    refine lv_iconst (pc := 42) (v := 2) hx hb dX12_tryOut_42 (by decide) ?_
    obtain ⟨v13, e14, h⟩ := ob_out h
    refine r_nL (pc := 43) F S e14 dX12_tryOut_43 ?_
    refine lv_iadd (pc := 44) hx hb dX12_tryOut_44 ?_
    refine lv_icmp_gt (pc := 45) (tgt := 180) hx hb dX12_tryOut_45 (by decide) (fun c15 => ?_) (fun c15 => ?_)
    · replace h := (if_pos c15).symm.trans h
      cases h
      exact K1 H locs ls S (lv_sub hl [0] rfl)
    · replace h := (if_neg c15).symm.trans h
      refine lv_aload_n (pc := 48) hx hb dX12_tryOut_48 rfl (lv_at hl 0 rfl) ?_
      refine lv_iload_n (pc := 49) hx hb dX12_tryOut_49 rfl (lv_at hl 1 rfl) ?_
      obtain ⟨v17, M18, e16, h⟩ := ob2_out h
      refine c_vI (pc := 50) (rest := []) F S (tX12_turn e16) mfX12_turn (by decide) (by decide) cl12 w1082 ⟨Nat.le_of_ble_eq_true rfl, Nat.le_of_ble_eq_true rfl⟩ rfl hl.1 rfl (Nat.le_of_ble_eq_true rfl) dX12_tryOut_50 (fun H locs S => ?_)
      refine lv_istore (pc := 53) (lv' := [(5, .int v17), (0, .ref (G.2.1 0)), (1, .int a1), (3, .int a3), (4, .int a4)]) hx hb dX12_tryOut_53 hl (by decide) rfl (fun ls hl => ?_)
      refine lv_aload_n (pc := 55) hx hb dX12_tryOut_55 rfl (lv_at hl 1 rfl) ?_
      refine lv_iload (pc := 56) hx hb dX12_tryOut_56 (lv_at hl 0 rfl) ?_
      obtain ⟨v19, d20, h⟩ := ob_out h
      have J21 : ∀ (H : Heap) (locs : List Loc) (ls : Array Slot), ST G M M18 s H locs → lv_has ls 8 [(0, .ref (G.2.1 0)), (1, .int a1), (3, .int a3), (4, .int a4), (5, .int v17)] → W p l e (Rm 7 167) s m args below meth c H locs 0 0 Q (F0 m 77 ls [.int v19, .ref (G.2.1 0)]) := by
        intro H locs ls S hl
        obtain ⟨M22, e23, h⟩ := ob_out h
        refine r_pN (pc := 77) (k := 18) (ty0 := tyX12) F S e23 (by decide) cl12 inRX12 tyX12_ok nmX12 (by decide) w921 rfl (by decide +kernel) (fun _ => Nat.le_of_ble_eq_true rfl) (fun _ => pf_12_18) dX12_tryOut_77 (fun H locs S => ?_)
        refine lv_aload_n (pc := 80) hx hb dX12_tryOut_80 rfl (lv_at hl 0 rfl) ?_
        refine lv_dup (pc := 81) hx hb dX12_tryOut_81 rfl ?_
        obtain ⟨v24, e25, h⟩ := ob_out h
        refine r_gN (pc := 82) (k := 17) F S e25 (by decide) cl12 inRX12 (by decide) w920 (fun _ => rfl) dX12_tryOut_82 ?_
        refine lv_iload (pc := 85) hx hb dX12_tryOut_85 (lv_at hl 4 rfl) ?_
        refine lv_iadd (pc := 87) hx hb dX12_tryOut_87 ?_
        obtain ⟨M26, e27, h⟩ := ob_out h
        refine r_pN (pc := 88) (k := 17) (ty0 := tyX12) F S e27 (by decide) cl12 inRX12 tyX12_ok nmX12 (by decide) w920 rfl (by decide +kernel) (fun _ => Nat.le_of_ble_eq_true rfl) (fun _ => pf_12_17) dX12_tryOut_88 (fun H locs S => ?_)
        refine lv_iconst (pc := 91) (v := 0) hx hb dX12_tryOut_91 (by decide) ?_
        refine lv_istore (pc := 92) (lv' := [(6, .int 0), (0, .ref (G.2.1 0)), (1, .int a1), (3, .int a3), (4, .int a4), (5, .int v17)]) hx hb dX12_tryOut_92 hl (by decide) rfl (fun ls hl => ?_)
        obtain ⟨M28, e29, h⟩ := ob_out h
        refine pX12_tryOut_L94 F 5000 S (lv_sub hl [1, 2, 3, 4, 0] rfl) e29 (fun H locs ls S hl => ?_)
        refine lv_iinc (pc := 174) (lv' := [(4, .int (a4 + 1)), (0, .ref (G.2.1 0)), (1, .int a1), (3, .int a3)]) hx hb dX12_tryOut_174 hl (k := 3) rfl (iinc_n (by decide)) (by decide) rfl (fun ls hl => ?_)
        refine lv_goto (pc := 177) (tgt := 35) hx hb dX12_tryOut_177 (by decide) ?_
        exact ih S (lv_sub hl [1, 2, 3, 0] rfl) h K1
      refine lv_if_le (pc := 58) (tgt := 73) hx hb dX12_tryOut_58 (by decide) (fun c30 => ?_) (fun c30 => ?_)
      · replace d20 := (if_pos c30).symm.trans d20
        refine lv_aload_n (pc := 73) hx hb dX12_tryOut_73 rfl (lv_at hl 1 rfl) ?_
        obtain ⟨v31, e32, d20⟩ := ob_out d20
        refine r_gN (pc := 74) (k := 18) F S e32 (by decide) cl12 inRX12 (by decide) w921 (fun _ => rfl) dX12_tryOut_74 ?_
        cases d20
        exact J21 H locs ls S (lv_sub hl [1, 2, 3, 4, 0] rfl)
      · replace d20 := (if_neg c30).symm.trans d20
        refine lv_aload_n (pc := 61) hx hb dX12_tryOut_61 rfl (lv_at hl 1 rfl) ?_
        obtain ⟨v33, e34, d20⟩ := ob_out d20
        refine r_gN (pc := 62) (k := 17) F S e34 (by decide) cl12 inRX12 (by decide) w920 (fun _ => rfl) dX12_tryOut_62 ?_
        refine lv_if_ne (pc := 65) (tgt := 73) hx hb dX12_tryOut_65 (by decide) (fun c35 => ?_) (fun c35 => ?_)
        · replace d20 := (if_neg c35).symm.trans d20
          refine lv_aload_n (pc := 73) hx hb dX12_tryOut_73 rfl (lv_at hl 1 rfl) ?_
          obtain ⟨v36, e37, d20⟩ := ob_out d20
          refine r_gN (pc := 74) (k := 18) F S e37 (by decide) cl12 inRX12 (by decide) w921 (fun _ => rfl) dX12_tryOut_74 ?_
          cases d20
          exact J21 H locs ls S (lv_sub hl [1, 2, 3, 4, 0] rfl)
        · replace d20 := (if_pos c35).symm.trans d20
          refine lv_iload (pc := 68) hx hb dX12_tryOut_68 (lv_at hl 4 rfl) ?_
          refine lv_goto (pc := 70) (tgt := 77) hx hb dX12_tryOut_70 (by decide) ?_
          cases d20
          exact J21 H locs ls S (lv_sub hl [1, 2, 3, 4, 0] rfl)
set_option maxHeartbeats 4000000 in
theorem tX12_tryOut {l : Launch} {G : GD} {M N Mo : Mem} {a1 : Int32} {a2 : Int32} {a3 : Int32} (h : fX12_tryOut N a1 a2 a3 = some Mo) : MV l yX12_tryOut cX12_tryOut 8 7 167 G [.ref (G.2.1 0), .int a1, .int a2, .int a3] M N M Mo := by
  unfold fX12_tryOut at h
  refine MV_of (own := RX12) (by decide) rfl (Nat.le_of_ble_eq_true rfl) ?_
  intro p e s m args below meth c F S ls hl
  have hx := F.1
  have hb := F.2.1
  have hown := F.2.2.2.2.1
  have hts := F.2.2.2.2.2.1
  have hZ := F.2.2.2.2.2.2.2.2.2
  have hl : lv_has ls 8 [(0, .ref (G.2.1 0)), (1, .int a1), (2, .int a2), (3, .int a3)] := hl
  generalize s.heap = H, ([] : List Loc) = locs at S ⊢
  refine lv_aload_n (pc := 0) hx hb dX12_tryOut_0 rfl (lv_at hl 0 rfl) ?_
  obtain ⟨M2, e1, h⟩ := ob_out h
  refine c_vV (pc := 1) (rest := []) F S (tX12_putAside e1) mfX12_putAside (by decide) (by decide) cl12 w1227 ⟨Nat.le_of_ble_eq_true rfl, Nat.le_of_ble_eq_true rfl⟩ rfl hl.1 rfl (Nat.le_of_ble_eq_true rfl) dX12_tryOut_1 (fun H locs S => ?_)
  refine lv_aload_n (pc := 4) hx hb dX12_tryOut_4 rfl (lv_at hl 0 rfl) ?_
  refine lv_iconst (pc := 5) (v := 0) hx hb dX12_tryOut_5 (by decide) ?_
  obtain ⟨M3, e4, h⟩ := ob_out h
  refine r_pN (pc := 6) (k := 17) (ty0 := tyX12) F S e4 (by decide) cl12 inRX12 tyX12_ok nmX12 (by decide) w920 rfl (by decide +kernel) (fun _ => Nat.le_of_ble_eq_true rfl) (fun _ => pf_12_17) dX12_tryOut_6 (fun H locs S => ?_)
  refine lv_aload_n (pc := 9) hx hb dX12_tryOut_9 rfl (lv_at hl 0 rfl) ?_
  refine lv_bipush (pc := 10) (v := (-6)) hx hb dX12_tryOut_10 (by decide) ?_
  obtain ⟨M5, e6, h⟩ := ob_out h
  refine r_pN (pc := 12) (k := 18) (ty0 := tyX12) F S e6 (by decide) cl12 inRX12 tyX12_ok nmX12 (by decide) w921 rfl (by decide +kernel) (fun _ => Nat.le_of_ble_eq_true rfl) (fun _ => pf_12_18) dX12_tryOut_12 (fun H locs S => ?_)
  refine lv_aload_n (pc := 15) hx hb dX12_tryOut_15 rfl (lv_at hl 0 rfl) ?_
  refine lv_iconst (pc := 16) (v := 0) hx hb dX12_tryOut_16 (by decide) ?_
  obtain ⟨M7, e8, h⟩ := ob_out h
  refine r_pN (pc := 17) (k := 19) (ty0 := tyX12) F S e8 (by decide) cl12 inRX12 tyX12_ok nmX12 (by decide) w922 rfl (by decide +kernel) (fun _ => Nat.le_of_ble_eq_true rfl) (fun _ => pf_12_19) dX12_tryOut_17 (fun H locs S => ?_)
  refine lv_aload_n (pc := 20) hx hb dX12_tryOut_20 rfl (lv_at hl 0 rfl) ?_
  refine lv_iconst (pc := 21) (v := 0) hx hb dX12_tryOut_21 (by decide) ?_
  obtain ⟨M9, e10, h⟩ := ob_out h
  refine r_pN (pc := 22) (k := 20) (ty0 := tyX12) F S e10 (by decide) cl12 inRX12 tyX12_ok nmX12 (by decide) w923 rfl (by decide +kernel) (fun _ => Nat.le_of_ble_eq_true rfl) (fun _ => pf_12_20) dX12_tryOut_22 (fun H locs S => ?_)
  refine lv_aload_n (pc := 25) hx hb dX12_tryOut_25 rfl (lv_at hl 0 rfl) ?_
  refine lv_iload_n (pc := 26) hx hb dX12_tryOut_26 rfl (lv_at hl 1 rfl) ?_
  refine lv_iload_n (pc := 27) hx hb dX12_tryOut_27 rfl (lv_at hl 2 rfl) ?_
  refine lv_iload_n (pc := 28) hx hb dX12_tryOut_28 rfl (lv_at hl 3 rfl) ?_
  obtain ⟨M12, e11, h⟩ := ob_out h
  refine c_vV (pc := 29) (rest := []) F S (tX12_start e11) mfX12_start (by decide) (by decide) cl12 w1066 ⟨Nat.le_of_ble_eq_true rfl, Nat.le_of_ble_eq_true rfl⟩ rfl hl.1 rfl (Nat.le_of_ble_eq_true rfl) dX12_tryOut_29 (fun H locs S => ?_)
  refine lv_iconst (pc := 32) (v := 1) hx hb dX12_tryOut_32 (by decide) ?_
  refine lv_istore (pc := 33) (lv' := [(4, .int 1), (0, .ref (G.2.1 0)), (1, .int a1), (2, .int a2), (3, .int a3)]) hx hb dX12_tryOut_33 hl (by decide) rfl (fun ls hl => ?_)
  obtain ⟨M13, e14, h⟩ := ob_out h
  refine pX12_tryOut_L35 F 5000 S (lv_sub hl [1, 2, 4, 0] rfl) e14 (fun H locs ls S hl => ?_)
  refine lv_aload_n (pc := 180) hx hb dX12_tryOut_180 rfl (lv_at hl 0 rfl) ?_
  obtain ⟨M16, e15, h⟩ := ob_out h
  refine c_vV (pc := 181) (rest := []) F S (tX12_putBack e15) mfX12_putBack (by decide) (by decide) cl12 w1231 ⟨Nat.le_of_ble_eq_true rfl, Nat.le_of_ble_eq_true rfl⟩ rfl hl.1 rfl (Nat.le_of_ble_eq_true rfl) dX12_tryOut_181 (fun H locs S => ?_)
  cases h
  exact r_vret (pc := 184) F S dX12_tryOut_184
theorem mfX12_ifGo : MF true yX12_ifGo RX12 cX12_ifGo 4 (some .int) 3 := ⟨w1222, w13, by rw [if_pos rfl]; exact ⟨w1220, w1221⟩, ⟨by decide, by decide⟩, by decide +kernel⟩
set_option maxHeartbeats 4000000 in
theorem tX12_ifGo {l : Launch} {G : GD} {M N Mo : Mem} {a1 : Int32} {a2 : Int32} {a3 : Int32} {r : Int32} (h : fX12_ifGo N a1 a2 a3 = some (r, Mo)) : MI l yX12_ifGo cX12_ifGo 4 .int 8 194 G [.ref (G.2.1 0), .int a1, .int a2, .int a3] M N r M Mo := by
  unfold fX12_ifGo at h
  refine MI_of (own := RX12) (by decide) rfl (Nat.le_of_ble_eq_true rfl) ?_
  intro p e s m args below meth c F S ls hl
  have hx := F.1
  have hb := F.2.1
  have hown := F.2.2.2.2.1
  have hts := F.2.2.2.2.2.1
  have hZ := F.2.2.2.2.2.2.2.2.2
  have hl : lv_has ls 4 [(0, .ref (G.2.1 0)), (1, .int a1), (2, .int a2), (3, .int a3)] := hl
  generalize s.heap = H, ([] : List Loc) = locs at S ⊢
  refine lv_iload_n (pc := 0) hx hb dX12_ifGo_0 rfl (lv_at hl 1 rfl) ?_
  refine lv_iload_n (pc := 1) hx hb dX12_ifGo_1 rfl (lv_at hl 2 rfl) ?_
  obtain ⟨v2, e1, h⟩ := ob_out h
  refine c_sI (pc := 2) (rest := []) F S (tX12_isCue e1) mfX12_isCue w1051 ⟨Nat.le_of_ble_eq_true rfl, Nat.le_of_ble_eq_true rfl⟩ rfl hl.1 rfl (Nat.le_of_ble_eq_true rfl) dX12_ifGo_2 (fun H locs S => ?_)
  refine lv_if_ne (pc := 5) (tgt := 10) hx hb dX12_ifGo_5 (by decide) (fun c3 => ?_) (fun c3 => ?_)
  · replace h := (if_neg c3).symm.trans h
    refine lv_iload_n (pc := 10) hx hb dX12_ifGo_10 rfl (lv_at hl 3 rfl) ?_
    refine lv_iconst (pc := 11) (v := 0) hx hb dX12_ifGo_11 (by decide) ?_
    refine lv_iconst (pc := 12) (v := 3) hx hb dX12_ifGo_12 (by decide) ?_
    obtain ⟨v5, e4, h⟩ := ob_out h
    refine c_sI (pc := 13) (rest := []) F S (tX12_in e4) mfX12_in w972 ⟨Nat.le_of_ble_eq_true rfl, Nat.le_of_ble_eq_true rfl⟩ rfl hl.1 rfl (Nat.le_of_ble_eq_true rfl) dX12_ifGo_13 (fun H locs S => ?_)
    refine lv_if_ne (pc := 16) (tgt := 22) hx hb dX12_ifGo_16 (by decide) (fun c6 => ?_) (fun c6 => ?_)
    · replace h := (if_neg c6).symm.trans h
      refine lv_aload_n (pc := 22) hx hb dX12_ifGo_22 rfl (lv_at hl 0 rfl) ?_
      refine r_gR (pc := 23) (k := 0) (x := 1) (i := 0) (ci := 12) F S (by decide) (by decide) cl12 inRX12 (by decide) w903 (fun _ => rfl) dX12_ifGo_23 ?_
      refine lv_iload_n (pc := 26) hx hb dX12_ifGo_26 rfl (lv_at hl 1 rfl) ?_
      refine lv_iload_n (pc := 27) hx hb dX12_ifGo_27 rfl (lv_at hl 2 rfl) ?_
      obtain ⟨v8, e7, h⟩ := ob_out h
      refine c_sI (pc := 28) (rest := [.ref (G.2.1 1)]) F S (tX12_ofCue e7) mfX12_ofCue w1000 ⟨Nat.le_of_ble_eq_true rfl, Nat.le_of_ble_eq_true rfl⟩ rfl hl.1 rfl (Nat.le_of_ble_eq_true rfl) dX12_ifGo_28 (fun H locs S => ?_)
      obtain ⟨v9, e10, h⟩ := ob_out h
      refine r_nL (pc := 31) F S e10 dX12_ifGo_31 ?_
      refine lv_if_ne (pc := 32) (tgt := 38) hx hb dX12_ifGo_32 (by decide) (fun c11 => ?_) (fun c11 => ?_)
      · replace h := (if_neg c11).symm.trans h
        refine lv_aload_n (pc := 38) hx hb dX12_ifGo_38 rfl (lv_at hl 0 rfl) ?_
        refine lv_iload_n (pc := 39) hx hb dX12_ifGo_39 rfl (lv_at hl 1 rfl) ?_
        refine lv_iload_n (pc := 40) hx hb dX12_ifGo_40 rfl (lv_at hl 2 rfl) ?_
        refine lv_aload_n (pc := 41) hx hb dX12_ifGo_41 rfl (lv_at hl 0 rfl) ?_
        refine r_gR (pc := 42) (k := 0) (x := 1) (i := 0) (ci := 12) F S (by decide) (by decide) cl12 inRX12 (by decide) w903 (fun _ => rfl) dX12_ifGo_42 ?_
        refine lv_iload_n (pc := 45) hx hb dX12_ifGo_45 rfl (lv_at hl 1 rfl) ?_
        refine lv_iload_n (pc := 46) hx hb dX12_ifGo_46 rfl (lv_at hl 2 rfl) ?_
        obtain ⟨v13, e12, h⟩ := ob_out h
        refine c_sI (pc := 47) (rest := [.ref (G.2.1 1), .int a2, .int a1, .ref (G.2.1 0)]) F S (tX12_ofCue e12) mfX12_ofCue w1000 ⟨Nat.le_of_ble_eq_true rfl, Nat.le_of_ble_eq_true rfl⟩ rfl hl.1 rfl (Nat.le_of_ble_eq_true rfl) dX12_ifGo_47 (fun H locs S => ?_)
        obtain ⟨v14, e15, h⟩ := ob_out h
        refine r_nL (pc := 50) F S e15 dX12_ifGo_50 ?_
        obtain ⟨M17, e16, h⟩ := ob_out h
        refine c_vV (pc := 51) (rest := []) F S (tX12_tryOut e16) mfX12_tryOut (by decide) (by decide) cl12 w1223 ⟨Nat.le_of_ble_eq_true rfl, Nat.le_of_ble_eq_true rfl⟩ rfl hl.1 rfl (Nat.le_of_ble_eq_true rfl) dX12_ifGo_51 (fun H locs S => ?_)
        refine lv_iload_n (pc := 54) hx hb dX12_ifGo_54 rfl (lv_at hl 3 rfl) ?_
        refine lv_if_ne (pc := 55) (tgt := 65) hx hb dX12_ifGo_55 (by decide) (fun c18 => ?_) (fun c18 => ?_)
        · replace h := (if_neg c18).symm.trans h
          refine lv_iload_n (pc := 65) hx hb dX12_ifGo_65 rfl (lv_at hl 3 rfl) ?_
          refine lv_iconst (pc := 66) (v := 1) hx hb dX12_ifGo_66 (by decide) ?_
          refine lv_icmp_ne (pc := 67) (tgt := 77) hx hb dX12_ifGo_67 (by decide) (fun c19 => ?_) (fun c19 => ?_)
          · replace h := (if_neg c19).symm.trans h
            refine lv_iload_n (pc := 77) hx hb dX12_ifGo_77 rfl (lv_at hl 3 rfl) ?_
            refine lv_iconst (pc := 78) (v := 2) hx hb dX12_ifGo_78 (by decide) ?_
            refine lv_icmp_ne (pc := 79) (tgt := 89) hx hb dX12_ifGo_79 (by decide) (fun c20 => ?_) (fun c20 => ?_)
            · replace h := (if_neg c20).symm.trans h
              refine lv_aload_n (pc := 89) hx hb dX12_ifGo_89 rfl (lv_at hl 0 rfl) ?_
              obtain ⟨v21, e22, h⟩ := ob_out h
              refine r_gN (pc := 90) (k := 20) F S e22 (by decide) cl12 inRX12 (by decide) w923 (fun _ => rfl) dX12_ifGo_90 ?_
              cases h
              exact r_iret (pc := 93) F S rfl dX12_ifGo_93
            · replace h := (if_pos c20).symm.trans h
              refine lv_aload_n (pc := 82) hx hb dX12_ifGo_82 rfl (lv_at hl 0 rfl) ?_
              obtain ⟨v23, e24, h⟩ := ob_out h
              refine r_gN (pc := 83) (k := 19) F S e24 (by decide) cl12 inRX12 (by decide) w922 (fun _ => rfl) dX12_ifGo_83 ?_
              refine lv_goto (pc := 86) (tgt := 93) hx hb dX12_ifGo_86 (by decide) ?_
              cases h
              exact r_iret (pc := 93) F S rfl dX12_ifGo_93
          · replace h := (if_pos c19).symm.trans h
            refine lv_aload_n (pc := 70) hx hb dX12_ifGo_70 rfl (lv_at hl 0 rfl) ?_
            obtain ⟨v25, e26, h⟩ := ob_out h
            refine r_gN (pc := 71) (k := 18) F S e26 (by decide) cl12 inRX12 (by decide) w921 (fun _ => rfl) dX12_ifGo_71 ?_
            refine lv_goto (pc := 74) (tgt := 93) hx hb dX12_ifGo_74 (by decide) ?_
            cases h
            exact r_iret (pc := 93) F S rfl dX12_ifGo_93
        · replace h := (if_pos c18).symm.trans h
          refine lv_aload_n (pc := 58) hx hb dX12_ifGo_58 rfl (lv_at hl 0 rfl) ?_
          obtain ⟨v27, e28, h⟩ := ob_out h
          refine r_gN (pc := 59) (k := 17) F S e28 (by decide) cl12 inRX12 (by decide) w920 (fun _ => rfl) dX12_ifGo_59 ?_
          refine lv_goto (pc := 62) (tgt := 93) hx hb dX12_ifGo_62 (by decide) ?_
          cases h
          exact r_iret (pc := 93) F S rfl dX12_ifGo_93
      · replace h := (if_pos c11).symm.trans h
        refine lv_bipush (pc := 35) (v := (-5)) hx hb dX12_ifGo_35 (by decide) ?_
        cases h
        exact r_iret (pc := 37) F S rfl dX12_ifGo_37
    · replace h := (if_pos c6).symm.trans h
      refine lv_bipush (pc := 19) (v := (-2)) hx hb dX12_ifGo_19 (by decide) ?_
      cases h
      exact r_iret (pc := 21) F S rfl dX12_ifGo_21
  · replace h := (if_pos c3).symm.trans h
    refine lv_iconst (pc := 8) (v := (-1)) hx hb dX12_ifGo_8 (by decide) ?_
    cases h
    exact r_iret (pc := 9) F S rfl dX12_ifGo_9
theorem mfX12_safeTicks : MF true yX12_safeTicks RX12 cX12_safeTicks 5 (some .int) 2 := ⟨w1238, w13, by rw [if_pos rfl]; exact ⟨w1236, w1237⟩, ⟨by decide, by decide⟩, by decide +kernel⟩
set_option maxHeartbeats 4000000 in
theorem pX12_safeTicks_L16 {p : Program} {l : Launch} {e : Env} {s : State} {m : MethodId} {args : Array Value} {below : List Frame} {meth : Method} {c : Code} {Q : State → Prop} {G : GD} (F : FX p s m args meth c RX12 cX12_safeTicks 5 (some .int) G) : ∀ (n : Nat) {M N : Mem} {a1 : Int32} {a2 : Int32} {a4 : Int32} {H : Heap} {locs : List Loc} {ls : Array Slot} {z : (Mem) ⊕ (Int32 × Mem)}, ST G M N s H locs → lv_has ls 5 [(0, .ref (G.2.1 0)), (1, .int a1), (2, .int a2), (4, .int a4)] → fX12_safeTicks_L16 n N a1 a2 a4 = some z → (K1 : ∀ (Mo : Mem), z = .inl Mo → ∀ (H : Heap) (locs : List Loc) (ls : Array Slot), ST G M Mo s H locs → lv_has ls 5 [] → W p l e (Rm 8 194) s m args below meth c H locs 0 0 Q (F0 m 47 ls [])) → (K2 : ∀ (r : Int32) (Mr : Mem), z = .inr (r, Mr) → ∀ (H : Heap) (locs : List Loc) (ls : Array Slot) (pcr : Nat), ST G M Mr s H locs → decode cX12_safeTicks pcr = .ok (.ireturn, 1) → W p l e (Rm 8 194) s m args below meth c H locs 0 0 Q (F0 m pcr ls [.int r])) → W p l e (Rm 8 194) s m args below meth c H locs 0 0 Q (F0 m 16 ls []) := by
  intro n
  induction n with
  | zero => intro M N a1 a2 a4 H locs ls z S hl h K1 K2; cases h
  | succ n ih =>
    intro M N a1 a2 a4 H locs ls z S hl h K1 K2
    rw [fX12_safeTicks_L16] at h
    have hx := F.1
    have hb := F.2.1
    have hown := F.2.2.2.2.1
    have hts := F.2.2.2.2.2.1
    have hZ := F.2.2.2.2.2.2.2.2.2
    refine lv_iload (pc := 16) hx hb dX12_safeTicks_16 (lv_at hl 3 rfl) ?_
    refine lv_bipush (pc := 18) (v := 50) hx hb dX12_safeTicks_18 (by decide) ?_
    refine lv_icmp_gt (pc := 20) (tgt := 47) hx hb dX12_safeTicks_20 (by decide) (fun c4 => ?_) (fun c4 => ?_)
    · replace h := (if_pos c4).symm.trans h
      cases h
      exact K1 _ rfl H locs ls S (lv_sub hl [] rfl)
    · replace h := (if_neg c4).symm.trans h
      refine lv_aload_n (pc := 23) hx hb dX12_safeTicks_23 rfl (lv_at hl 0 rfl) ?_
      refine lv_iload_n (pc := 24) hx hb dX12_safeTicks_24 rfl (lv_at hl 1 rfl) ?_
      refine lv_iload_n (pc := 25) hx hb dX12_safeTicks_25 rfl (lv_at hl 2 rfl) ?_
      refine lv_iload (pc := 26) hx hb dX12_safeTicks_26 (lv_at hl 3 rfl) ?_
      obtain ⟨M6, e5, h⟩ := ob_out h
      refine c_vV (pc := 28) (rest := []) F S (tX12_tryOut e5) mfX12_tryOut (by decide) (by decide) cl12 w1223 ⟨Nat.le_of_ble_eq_true rfl, Nat.le_of_ble_eq_true rfl⟩ rfl hl.1 rfl (Nat.le_of_ble_eq_true rfl) dX12_safeTicks_28 (fun H locs S => ?_)
      refine lv_aload_n (pc := 31) hx hb dX12_safeTicks_31 rfl (lv_at hl 0 rfl) ?_
      obtain ⟨v7, e8, h⟩ := ob_out h
      refine r_gN (pc := 32) (k := 17) F S e8 (by decide) cl12 inRX12 (by decide) w920 (fun _ => rfl) dX12_safeTicks_32 ?_
      refine lv_if_ne (pc := 35) (tgt := 41) hx hb dX12_safeTicks_35 (by decide) (fun c9 => ?_) (fun c9 => ?_)
      · replace h := (if_neg c9).symm.trans h
        refine lv_iinc (pc := 41) (lv' := [(4, .int (a4 + 1)), (0, .ref (G.2.1 0)), (1, .int a1), (2, .int a2)]) hx hb dX12_safeTicks_41 hl (k := 3) rfl (iinc_n (by decide)) (by decide) rfl (fun ls hl => ?_)
        refine lv_goto (pc := 44) (tgt := 16) hx hb dX12_safeTicks_44 (by decide) ?_
        exact ih S (lv_sub hl [1, 2, 3, 0] rfl) h K1 K2
      · replace h := (if_pos c9).symm.trans h
        refine lv_iload (pc := 38) hx hb dX12_safeTicks_38 (lv_at hl 3 rfl) ?_
        cases h
        exact K2 _ _ rfl H locs ls 40 S dX12_safeTicks_40
set_option maxHeartbeats 4000000 in
theorem tX12_safeTicks {l : Launch} {G : GD} {M N Mo : Mem} {a1 : Int32} {a2 : Int32} {r : Int32} (h : fX12_safeTicks N a1 a2 = some (r, Mo)) : MI l yX12_safeTicks cX12_safeTicks 5 .int 8 194 G [.ref (G.2.1 0), .int a1, .int a2] M N r M Mo := by
  unfold fX12_safeTicks at h
  refine MI_of (own := RX12) (by decide) rfl (Nat.le_of_ble_eq_true rfl) ?_
  intro p e s m args below meth c F S ls hl
  have hx := F.1
  have hb := F.2.1
  have hown := F.2.2.2.2.1
  have hts := F.2.2.2.2.2.1
  have hZ := F.2.2.2.2.2.2.2.2.2
  have hl : lv_has ls 5 [(0, .ref (G.2.1 0)), (1, .int a1), (2, .int a2)] := hl
  generalize s.heap = H, ([] : List Loc) = locs at S ⊢
  refine lv_aload_n (pc := 0) hx hb dX12_safeTicks_0 rfl (lv_at hl 0 rfl) ?_
  refine lv_iload_n (pc := 1) hx hb dX12_safeTicks_1 rfl (lv_at hl 1 rfl) ?_
  refine lv_iload_n (pc := 2) hx hb dX12_safeTicks_2 rfl (lv_at hl 2 rfl) ?_
  obtain ⟨v2, e1, h⟩ := ob_out h
  refine c_vI (pc := 3) (rest := []) F S (tX12_goFault e1) mfX12_goFault (by decide) (by decide) cl12 w1062 ⟨Nat.le_of_ble_eq_true rfl, Nat.le_of_ble_eq_true rfl⟩ rfl hl.1 rfl (Nat.le_of_ble_eq_true rfl) dX12_safeTicks_3 (fun H locs S => ?_)
  refine lv_istore_n (pc := 6) (lv' := [(3, .int v2), (0, .ref (G.2.1 0)), (1, .int a1), (2, .int a2)]) hx hb dX12_safeTicks_6 rfl hl (by decide) rfl (fun ls hl => ?_)
  refine lv_iload_n (pc := 7) hx hb dX12_safeTicks_7 rfl (lv_at hl 0 rfl) ?_
  refine lv_if_ge (pc := 8) (tgt := 13) hx hb dX12_safeTicks_8 (by decide) (fun c3 => ?_) (fun c3 => ?_)
  · replace h := (if_pos c3).symm.trans h
    refine lv_iconst (pc := 13) (v := 1) hx hb dX12_safeTicks_13 (by decide) ?_
    refine lv_istore (pc := 14) (lv' := [(4, .int 1), (3, .int v2), (0, .ref (G.2.1 0)), (1, .int a1), (2, .int a2)]) hx hb dX12_safeTicks_14 hl (by decide) rfl (fun ls hl => ?_)
    obtain ⟨z6, e5, h⟩ := ob_out h
    refine pX12_safeTicks_L16 F 5000 S (lv_sub hl [2, 3, 4, 0] rfl) e5 (fun M4 e7 H locs ls S hl => ?_) (fun v8 M9 e7 H locs ls pcr S hdr => ?_)
    rotate_left
    · subst e7
      replace h := caseS_r h
      cases h
      exact r_iret F S rfl hdr
    subst e7
    replace h := caseS_l h
    refine lv_bipush (pc := 47) (v := (-6)) hx hb dX12_safeTicks_47 (by decide) ?_
    cases h
    exact r_iret (pc := 49) F S rfl dX12_safeTicks_49
  · replace h := (if_neg c3).symm.trans h
    refine lv_iload_n (pc := 11) hx hb dX12_safeTicks_11 rfl (lv_at hl 0 rfl) ?_
    cases h
    exact r_iret (pc := 12) F S rfl dX12_safeTicks_12
theorem mfX12_bestFeed : MF true yX12_bestFeed RX12 cX12_bestFeed 10 (some .int) 2 := ⟨w1242, w13, by rw [if_pos rfl]; exact ⟨w1240, w1241⟩, ⟨by decide, by decide⟩, by decide +kernel⟩
set_option maxHeartbeats 4000000 in
theorem pX12_bestFeed_L67 {p : Program} {l : Launch} {e : Env} {s : State} {m : MethodId} {args : Array Value} {below : List Frame} {meth : Method} {c : Code} {Q : State → Prop} {G : GD} (F : FX p s m args meth c RX12 cX12_bestFeed 10 (some .int) G) : ∀ (n : Nat) {M N : Mem} {a1 : Int32} {a2 : Int32} {a3 : Int32} {a4 : Int32} {a5 : Int32} {a6 : Int32} {a7 : Int32} {a8 : Int32} {H : Heap} {locs : List Loc} {ls : Array Slot} {o7 : Int32}, ST G M N s H locs → lv_has ls 10 [(0, .ref (G.2.1 0)), (1, .int a1), (2, .int a2), (3, .int a3), (4, .int a4), (5, .int a5), (6, .int a6), (7, .int a7), (8, .int a8)] → fX12_bestFeed_L67 n N a1 a2 a3 a4 a5 a6 a7 a8 = some o7 → (K1 : ∀ (H : Heap) (locs : List Loc) (ls : Array Slot), ST G M N s H locs → lv_has ls 10 [(0, .ref (G.2.1 0)), (1, .int a1), (2, .int a2), (3, .int a3), (4, .int a4), (5, .int a5), (6, .int a6), (7, .int o7)] → W p l e (Rm 5 118) s m args below meth c H locs 0 0 Q (F0 m 107 ls [])) → W p l e (Rm 5 118) s m args below meth c H locs 0 0 Q (F0 m 67 ls []) := by
  intro n
  induction n with
  | zero => intro M N a1 a2 a3 a4 a5 a6 a7 a8 H locs ls o7 S hl h K1; cases h
  | succ n ih =>
    intro M N a1 a2 a3 a4 a5 a6 a7 a8 H locs ls o7 S hl h K1
    rw [fX12_bestFeed_L67] at h
    have hx := F.1
    have hb := F.2.1
    have hown := F.2.2.2.2.1
    have hts := F.2.2.2.2.2.1
    have hZ := F.2.2.2.2.2.2.2.2.2
    refine lv_iload (pc := 67) hx hb dX12_bestFeed_67 (lv_at hl 8 rfl) ?_
    refine lv_iconst (pc := 69) (v := 3) hx hb dX12_bestFeed_69 (by decide) ?_
    refine lv_icmp_ge (pc := 70) (tgt := 107) hx hb dX12_bestFeed_70 (by decide) (fun c16 => ?_) (fun c16 => ?_)
    · replace h := (if_pos c16).symm.trans h
      cases h
      exact K1 H locs ls S (lv_sub hl [0, 1, 2, 3, 4, 5, 6, 7] rfl)
    · replace h := (if_neg c16).symm.trans h
      refine lv_aload_n (pc := 73) hx hb dX12_bestFeed_73 rfl (lv_at hl 0 rfl) ?_
      refine lv_iload_n (pc := 74) hx hb dX12_bestFeed_74 rfl (lv_at hl 1 rfl) ?_
      refine lv_bipush (pc := 75) (v := 12) hx hb dX12_bestFeed_75 (by decide) ?_
      refine lv_iload (pc := 77) hx hb dX12_bestFeed_77 (lv_at hl 8 rfl) ?_
      refine lv_iadd (pc := 79) hx hb dX12_bestFeed_79 ?_
      obtain ⟨v18, e17, h⟩ := ob_out h
      refine c_vI (pc := 80) (rest := []) F S (tX12_worst e17) mfX12_worst (by decide) (by decide) cl12 w1023 ⟨Nat.le_of_ble_eq_true rfl, Nat.le_of_ble_eq_true rfl⟩ rfl hl.1 rfl (Nat.le_of_ble_eq_true rfl) dX12_bestFeed_80 (fun H locs S => ?_)
      refine lv_istore (pc := 83) (lv' := [(9, .int v18), (0, .ref (G.2.1 0)), (1, .int a1), (2, .int a2), (3, .int a3), (4, .int a4), (5, .int a5), (6, .int a6), (7, .int a7), (8, .int a8)]) hx hb dX12_bestFeed_83 hl (by decide) rfl (fun ls hl => ?_)
      refine lv_iload (pc := 85) hx hb dX12_bestFeed_85 (lv_at hl 0 rfl) ?_
      refine lv_iload (pc := 87) hx hb dX12_bestFeed_87 (lv_at hl 8 rfl) ?_
      refine lv_icmp_le (pc := 89) (tgt := 97) hx hb dX12_bestFeed_89 (by decide) (fun c19 => ?_) (fun c19 => ?_)
      · replace h := (if_pos c19).symm.trans h
        refine lv_iload (pc := 97) hx hb dX12_bestFeed_97 (lv_at hl 8 rfl) ?_
        refine lv_istore (pc := 99) (lv' := [(7, .int a7), (9, .int v18), (0, .ref (G.2.1 0)), (1, .int a1), (2, .int a2), (3, .int a3), (4, .int a4), (5, .int a5), (6, .int a6), (8, .int a8)]) hx hb dX12_bestFeed_99 hl (by decide) rfl (fun ls hl => ?_)
        refine lv_iinc (pc := 101) (lv' := [(8, .int (a8 + 1)), (7, .int a7), (9, .int v18), (0, .ref (G.2.1 0)), (1, .int a1), (2, .int a2), (3, .int a3), (4, .int a4), (5, .int a5), (6, .int a6)]) hx hb dX12_bestFeed_101 hl (k := 9) rfl (iinc_n (by decide)) (by decide) rfl (fun ls hl => ?_)
        refine lv_goto (pc := 104) (tgt := 67) hx hb dX12_bestFeed_104 (by decide) ?_
        exact ih S (lv_sub hl [3, 4, 5, 6, 7, 8, 9, 1, 0] rfl) h K1
      · replace h := (if_neg c19).symm.trans h
        refine lv_iload (pc := 92) hx hb dX12_bestFeed_92 (lv_at hl 0 rfl) ?_
        refine lv_goto (pc := 94) (tgt := 99) hx hb dX12_bestFeed_94 (by decide) ?_
        refine lv_istore (pc := 99) (lv' := [(7, .int v18), (9, .int v18), (0, .ref (G.2.1 0)), (1, .int a1), (2, .int a2), (3, .int a3), (4, .int a4), (5, .int a5), (6, .int a6), (8, .int a8)]) hx hb dX12_bestFeed_99 hl (by decide) rfl (fun ls hl => ?_)
        refine lv_iinc (pc := 101) (lv' := [(8, .int (a8 + 1)), (7, .int v18), (9, .int v18), (0, .ref (G.2.1 0)), (1, .int a1), (2, .int a2), (3, .int a3), (4, .int a4), (5, .int a5), (6, .int a6)]) hx hb dX12_bestFeed_101 hl (k := 9) rfl (iinc_n (by decide)) (by decide) rfl (fun ls hl => ?_)
        refine lv_goto (pc := 104) (tgt := 67) hx hb dX12_bestFeed_104 (by decide) ?_
        exact ih S (lv_sub hl [3, 4, 5, 6, 7, 8, 9, 1, 0] rfl) h K1
set_option maxHeartbeats 4000000 in
theorem pX12_bestFeed_L40 {p : Program} {l : Launch} {e : Env} {s : State} {m : MethodId} {args : Array Value} {below : List Frame} {meth : Method} {c : Code} {Q : State → Prop} {G : GD} (F : FX p s m args meth c RX12 cX12_bestFeed 10 (some .int) G) : ∀ (n : Nat) {M N : Mem} {a1 : Int32} {a2 : Int32} {a3 : Int32} {a4 : Int32} {a5 : Int32} {a6 : Int32} {H : Heap} {locs : List Loc} {ls : Array Slot} {o4 : Int32} {Mo : Mem}, ST G M N s H locs → lv_has ls 10 [(0, .ref (G.2.1 0)), (1, .int a1), (2, .int a2), (3, .int a3), (4, .int a4), (5, .int a5), (6, .int a6)] → fX12_bestFeed_L40 n N a1 a2 a3 a4 a5 a6 = some (o4, Mo) → (K1 : ∀ (H : Heap) (locs : List Loc) (ls : Array Slot), ST G M Mo s H locs → lv_has ls 10 [(0, .ref (G.2.1 0)), (1, .int a1), (2, .int a2), (3, .int a3), (4, .int o4)] → W p l e (Rm 5 118) s m args below meth c H locs 0 0 Q (F0 m 162 ls [])) → W p l e (Rm 5 118) s m args below meth c H locs 0 0 Q (F0 m 40 ls []) := by
  intro n
  induction n with
  | zero => intro M N a1 a2 a3 a4 a5 a6 H locs ls o4 Mo S hl h K1; cases h
  | succ n ih =>
    intro M N a1 a2 a3 a4 a5 a6 H locs ls o4 Mo S hl h K1
    rw [fX12_bestFeed_L40] at h
    have hx := F.1
    have hb := F.2.1
    have hown := F.2.2.2.2.1
    have hts := F.2.2.2.2.2.1
    have hZ := F.2.2.2.2.2.2.2.2.2
    refine lv_iload (pc := 40) hx hb dX12_bestFeed_40 (lv_at hl 6 rfl) ?_
    refine lv_iconst (pc := 42) (v := 3) hx hb dX12_bestFeed_42 (by decide) ?_
    refine lv_icmp_ge (pc := 43) (tgt := 162) hx hb dX12_bestFeed_43 (by decide) (fun c11 => ?_) (fun c11 => ?_)
    · replace h := (if_pos c11).symm.trans h
      cases h
      exact K1 H locs ls S (lv_sub hl [0, 1, 2, 3, 4] rfl)
    · replace h := (if_neg c11).symm.trans h
      refine lv_aload_n (pc := 46) hx hb dX12_bestFeed_46 rfl (lv_at hl 0 rfl) ?_
      refine r_gR (pc := 47) (k := 0) (x := 1) (i := 0) (ci := 12) F S (by decide) (by decide) cl12 inRX12 (by decide) w903 (fun _ => rfl) dX12_bestFeed_47 ?_
      refine lv_iload_n (pc := 50) hx hb dX12_bestFeed_50 rfl (lv_at hl 1 rfl) ?_
      refine lv_bipush (pc := 51) (v := 75) hx hb dX12_bestFeed_51 (by decide) ?_
      refine lv_iload_n (pc := 53) hx hb dX12_bestFeed_53 rfl (lv_at hl 2 rfl) ?_
      refine lv_iadd (pc := 54) hx hb dX12_bestFeed_54 ?_
      obtain ⟨v13, e12, h⟩ := ob_out h
      refine c_sI (pc := 55) (rest := [.ref (G.2.1 1)]) F S (tX12_at1 e12) mfX12_at1 w900 ⟨Nat.le_of_ble_eq_true rfl, Nat.le_of_ble_eq_true rfl⟩ rfl hl.1 rfl (Nat.le_of_ble_eq_true rfl) dX12_bestFeed_55 (fun H locs S => ?_)
      refine lv_iload (pc := 58) hx hb dX12_bestFeed_58 (lv_at hl 6 rfl) ?_
      obtain ⟨M14, e15, h⟩ := ob_out h
      refine r_nS (pc := 60) F S e15 dX12_bestFeed_60 (fun H locs S => ?_)
      refine lv_iconst (pc := 61) (v := 0) hx hb dX12_bestFeed_61 (by decide) ?_
      refine lv_istore (pc := 62) (lv' := [(7, .int 0), (0, .ref (G.2.1 0)), (1, .int a1), (2, .int a2), (3, .int a3), (4, .int a4), (5, .int a5), (6, .int a6)]) hx hb dX12_bestFeed_62 hl (by decide) rfl (fun ls hl => ?_)
      refine lv_iconst (pc := 64) (v := 0) hx hb dX12_bestFeed_64 (by decide) ?_
      refine lv_istore (pc := 65) (lv' := [(8, .int 0), (7, .int 0), (0, .ref (G.2.1 0)), (1, .int a1), (2, .int a2), (3, .int a3), (4, .int a4), (5, .int a5), (6, .int a6)]) hx hb dX12_bestFeed_65 hl (by decide) rfl (fun ls hl => ?_)
      obtain ⟨v16, e17, h⟩ := ob_out h
      refine pX12_bestFeed_L67 F 5000 S (lv_sub hl [2, 3, 4, 5, 6, 7, 8, 1, 0] rfl) e17 (fun H locs ls S hl => ?_)
      refine lv_iload (pc := 107) hx hb dX12_bestFeed_107 (lv_at hl 4 rfl) ?_
      refine lv_bipush (pc := 109) (v := (-6)) hx hb dX12_bestFeed_109 (by decide) ?_
      obtain ⟨v18, d19, h⟩ := ob_out h
      have J20 : ∀ (H : Heap) (locs : List Loc) (ls : Array Slot), ST G M M14 s H locs → lv_has ls 10 [(0, .ref (G.2.1 0)), (1, .int a1), (2, .int a2), (3, .int a3), (4, .int a4), (5, .int a5), (6, .int a6), (7, .int v16)] → W p l e (Rm 5 118) s m args below meth c H locs 0 0 Q (F0 m 126 ls [.int v18]) := by
        intro H locs ls S hl
        refine lv_istore (pc := 126) (lv' := [(8, .int v18), (0, .ref (G.2.1 0)), (1, .int a1), (2, .int a2), (3, .int a3), (4, .int a4), (5, .int a5), (6, .int a6), (7, .int v16)]) hx hb dX12_bestFeed_126 hl (by decide) rfl (fun ls hl => ?_)
        refine lv_iload (pc := 128) hx hb dX12_bestFeed_128 (lv_at hl 0 rfl) ?_
        obtain ⟨v21, d22, h⟩ := ob_out h
        have J23 : ∀ (H : Heap) (locs : List Loc) (ls : Array Slot), ST G M M14 s H locs → lv_has ls 10 [(0, .ref (G.2.1 0)), (1, .int a1), (2, .int a2), (3, .int a3), (5, .int a5), (6, .int a6), (7, .int v16), (8, .int v18)] → W p l e (Rm 5 118) s m args below meth c H locs 0 0 Q (F0 m 140 ls [.int v21]) := by
          intro H locs ls S hl
          refine lv_istore (pc := 140) (lv' := [(4, .int v21), (0, .ref (G.2.1 0)), (1, .int a1), (2, .int a2), (3, .int a3), (5, .int a5), (6, .int a6), (7, .int v16), (8, .int v18)]) hx hb dX12_bestFeed_140 hl (by decide) rfl (fun ls hl => ?_)
          refine lv_iload (pc := 142) hx hb dX12_bestFeed_142 (lv_at hl 8 rfl) ?_
          refine lv_if_eq (pc := 144) (tgt := 152) hx hb dX12_bestFeed_144 (by decide) (fun c24 => ?_) (fun c24 => ?_)
          · replace h := (if_pos c24).symm.trans h
            refine lv_iload (pc := 152) hx hb dX12_bestFeed_152 (lv_at hl 5 rfl) ?_
            refine lv_istore (pc := 154) (lv' := [(5, .int a5), (4, .int v21), (0, .ref (G.2.1 0)), (1, .int a1), (2, .int a2), (3, .int a3), (6, .int a6), (7, .int v16), (8, .int v18)]) hx hb dX12_bestFeed_154 hl (by decide) rfl (fun ls hl => ?_)
            refine lv_iinc (pc := 156) (lv' := [(6, .int (a6 + 1)), (5, .int a5), (4, .int v21), (0, .ref (G.2.1 0)), (1, .int a1), (2, .int a2), (3, .int a3), (7, .int v16), (8, .int v18)]) hx hb dX12_bestFeed_156 hl (k := 6) rfl (iinc_n (by decide)) (by decide) rfl (fun ls hl => ?_)
            refine lv_goto (pc := 159) (tgt := 40) hx hb dX12_bestFeed_159 (by decide) ?_
            exact ih S (lv_sub hl [3, 4, 5, 6, 2, 1, 0] rfl) h K1
          · replace h := (if_neg c24).symm.trans h
            refine lv_iload (pc := 147) hx hb dX12_bestFeed_147 (lv_at hl 7 rfl) ?_
            refine lv_goto (pc := 149) (tgt := 154) hx hb dX12_bestFeed_149 (by decide) ?_
            refine lv_istore (pc := 154) (lv' := [(5, .int v16), (4, .int v21), (0, .ref (G.2.1 0)), (1, .int a1), (2, .int a2), (3, .int a3), (6, .int a6), (7, .int v16), (8, .int v18)]) hx hb dX12_bestFeed_154 hl (by decide) rfl (fun ls hl => ?_)
            refine lv_iinc (pc := 156) (lv' := [(6, .int (a6 + 1)), (5, .int v16), (4, .int v21), (0, .ref (G.2.1 0)), (1, .int a1), (2, .int a2), (3, .int a3), (7, .int v16), (8, .int v18)]) hx hb dX12_bestFeed_156 hl (k := 6) rfl (iinc_n (by decide)) (by decide) rfl (fun ls hl => ?_)
            refine lv_goto (pc := 159) (tgt := 40) hx hb dX12_bestFeed_159 (by decide) ?_
            exact ih S (lv_sub hl [3, 4, 5, 6, 2, 1, 0] rfl) h K1
        refine lv_if_eq (pc := 130) (tgt := 138) hx hb dX12_bestFeed_130 (by decide) (fun c25 => ?_) (fun c25 => ?_)
        · replace d22 := (if_pos c25).symm.trans d22
          refine lv_iload (pc := 138) hx hb dX12_bestFeed_138 (lv_at hl 5 rfl) ?_
          cases d22
          exact J23 H locs ls S (lv_sub hl [1, 2, 3, 4, 6, 7, 8, 0] rfl)
        · replace d22 := (if_neg c25).symm.trans d22
          refine lv_iload (pc := 133) hx hb dX12_bestFeed_133 (lv_at hl 7 rfl) ?_
          refine lv_goto (pc := 135) (tgt := 140) hx hb dX12_bestFeed_135 (by decide) ?_
          cases d22
          exact J23 H locs ls S (lv_sub hl [1, 2, 3, 4, 6, 7, 8, 0] rfl)
      refine lv_icmp_eq (pc := 111) (tgt := 121) hx hb dX12_bestFeed_111 (by decide) (fun c26 => ?_) (fun c26 => ?_)
      · replace d19 := (if_pos c26).symm.trans d19
        refine lv_iconst (pc := 121) (v := 1) hx hb dX12_bestFeed_121 (by decide) ?_
        refine lv_goto (pc := 122) (tgt := 126) hx hb dX12_bestFeed_122 (by decide) ?_
        cases d19
        exact J20 H locs ls S (lv_sub hl [0, 1, 2, 3, 4, 5, 6, 7] rfl)
      · replace d19 := (if_neg c26).symm.trans d19
        refine lv_iload (pc := 114) hx hb dX12_bestFeed_114 (lv_at hl 7 rfl) ?_
        refine lv_iload (pc := 116) hx hb dX12_bestFeed_116 (lv_at hl 5 rfl) ?_
        refine lv_icmp_ge (pc := 118) (tgt := 125) hx hb dX12_bestFeed_118 (by decide) (fun c27 => ?_) (fun c27 => ?_)
        · replace d19 := (if_pos c27).symm.trans d19
          refine lv_iconst (pc := 125) (v := 0) hx hb dX12_bestFeed_125 (by decide) ?_
          cases d19
          exact J20 H locs ls S (lv_sub hl [0, 1, 2, 3, 4, 5, 6, 7] rfl)
        · replace d19 := (if_neg c27).symm.trans d19
          refine lv_iconst (pc := 121) (v := 1) hx hb dX12_bestFeed_121 (by decide) ?_
          refine lv_goto (pc := 122) (tgt := 126) hx hb dX12_bestFeed_122 (by decide) ?_
          cases d19
          exact J20 H locs ls S (lv_sub hl [0, 1, 2, 3, 4, 5, 6, 7] rfl)
set_option maxHeartbeats 4000000 in
theorem tX12_bestFeed {l : Launch} {G : GD} {M N Mo : Mem} {a1 : Int32} {a2 : Int32} {r : Int32} (h : fX12_bestFeed N a1 a2 = some (r, Mo)) : MI l yX12_bestFeed cX12_bestFeed 10 .int 5 118 G [.ref (G.2.1 0), .int a1, .int a2] M N r M Mo := by
  unfold fX12_bestFeed at h
  refine MI_of (own := RX12) (by decide) rfl (Nat.le_of_ble_eq_true rfl) ?_
  intro p e s m args below meth c F S ls hl
  have hx := F.1
  have hb := F.2.1
  have hown := F.2.2.2.2.1
  have hts := F.2.2.2.2.2.1
  have hZ := F.2.2.2.2.2.2.2.2.2
  have hl : lv_has ls 10 [(0, .ref (G.2.1 0)), (1, .int a1), (2, .int a2)] := hl
  generalize s.heap = H, ([] : List Loc) = locs at S ⊢
  refine lv_iload_n (pc := 0) hx hb dX12_bestFeed_0 rfl (lv_at hl 1 rfl) ?_
  obtain ⟨v2, e1, h⟩ := ob_out h
  refine c_sI (pc := 1) (rest := []) F S (tX12_isPremiere e1) mfX12_isPremiere w987 ⟨Nat.le_of_ble_eq_true rfl, Nat.le_of_ble_eq_true rfl⟩ rfl hl.1 rfl (Nat.le_of_ble_eq_true rfl) dX12_bestFeed_1 (fun H locs S => ?_)
  refine lv_if_eq (pc := 4) (tgt := 14) hx hb dX12_bestFeed_4 (by decide) (fun c3 => ?_) (fun c3 => ?_)
  · replace h := (if_pos c3).symm.trans h
    refine lv_iconst (pc := 14) (v := (-1)) hx hb dX12_bestFeed_14 (by decide) ?_
    cases h
    exact r_iret (pc := 15) F S rfl dX12_bestFeed_15
  · replace h := (if_neg c3).symm.trans h
    refine lv_iload_n (pc := 7) hx hb dX12_bestFeed_7 rfl (lv_at hl 2 rfl) ?_
    obtain ⟨v5, e4, h⟩ := ob_out h
    refine c_sI (pc := 8) (rest := []) F S (tX12_isDimmer e4) mfX12_isDimmer w994 ⟨Nat.le_of_ble_eq_true rfl, Nat.le_of_ble_eq_true rfl⟩ rfl hl.1 rfl (Nat.le_of_ble_eq_true rfl) dX12_bestFeed_8 (fun H locs S => ?_)
    refine lv_if_ne (pc := 11) (tgt := 16) hx hb dX12_bestFeed_11 (by decide) (fun c6 => ?_) (fun c6 => ?_)
    · replace h := (if_neg c6).symm.trans h
      refine lv_aload_n (pc := 16) hx hb dX12_bestFeed_16 rfl (lv_at hl 0 rfl) ?_
      refine r_gR (pc := 17) (k := 0) (x := 1) (i := 0) (ci := 12) F S (by decide) (by decide) cl12 inRX12 (by decide) w903 (fun _ => rfl) dX12_bestFeed_17 ?_
      refine lv_iload_n (pc := 20) hx hb dX12_bestFeed_20 rfl (lv_at hl 1 rfl) ?_
      refine lv_bipush (pc := 21) (v := 75) hx hb dX12_bestFeed_21 (by decide) ?_
      refine lv_iload_n (pc := 23) hx hb dX12_bestFeed_23 rfl (lv_at hl 2 rfl) ?_
      refine lv_iadd (pc := 24) hx hb dX12_bestFeed_24 ?_
      obtain ⟨v8, e7, h⟩ := ob_out h
      refine c_sI (pc := 25) (rest := [.ref (G.2.1 1)]) F S (tX12_at1 e7) mfX12_at1 w900 ⟨Nat.le_of_ble_eq_true rfl, Nat.le_of_ble_eq_true rfl⟩ rfl hl.1 rfl (Nat.le_of_ble_eq_true rfl) dX12_bestFeed_25 (fun H locs S => ?_)
      obtain ⟨v9, e10, h⟩ := ob_out h
      refine r_nL (pc := 28) F S e10 dX12_bestFeed_28 ?_
      refine lv_istore_n (pc := 29) (lv' := [(3, .int v9), (0, .ref (G.2.1 0)), (1, .int a1), (2, .int a2)]) hx hb dX12_bestFeed_29 rfl hl (by decide) rfl (fun ls hl => ?_)
      refine lv_bipush (pc := 30) (v := (-6)) hx hb dX12_bestFeed_30 (by decide) ?_
      refine lv_istore (pc := 32) (lv' := [(4, .int (-6)), (3, .int v9), (0, .ref (G.2.1 0)), (1, .int a1), (2, .int a2)]) hx hb dX12_bestFeed_32 hl (by decide) rfl (fun ls hl => ?_)
      refine lv_iconst (pc := 34) (v := 0) hx hb dX12_bestFeed_34 (by decide) ?_
      refine lv_istore (pc := 35) (lv' := [(5, .int 0), (4, .int (-6)), (3, .int v9), (0, .ref (G.2.1 0)), (1, .int a1), (2, .int a2)]) hx hb dX12_bestFeed_35 hl (by decide) rfl (fun ls hl => ?_)
      refine lv_iconst (pc := 37) (v := 0) hx hb dX12_bestFeed_37 (by decide) ?_
      refine lv_istore (pc := 38) (lv' := [(6, .int 0), (5, .int 0), (4, .int (-6)), (3, .int v9), (0, .ref (G.2.1 0)), (1, .int a1), (2, .int a2)]) hx hb dX12_bestFeed_38 hl (by decide) rfl (fun ls hl => ?_)
      obtain ⟨v12, M11, e13, h⟩ := ob2_out h
      refine pX12_bestFeed_L40 F 5000 S (lv_sub hl [4, 5, 6, 3, 2, 1, 0] rfl) e13 (fun H locs ls S hl => ?_)
      refine lv_aload_n (pc := 162) hx hb dX12_bestFeed_162 rfl (lv_at hl 0 rfl) ?_
      refine r_gR (pc := 163) (k := 0) (x := 1) (i := 0) (ci := 12) F S (by decide) (by decide) cl12 inRX12 (by decide) w903 (fun _ => rfl) dX12_bestFeed_163 ?_
      refine lv_iload_n (pc := 166) hx hb dX12_bestFeed_166 rfl (lv_at hl 1 rfl) ?_
      refine lv_bipush (pc := 167) (v := 75) hx hb dX12_bestFeed_167 (by decide) ?_
      refine lv_iload_n (pc := 169) hx hb dX12_bestFeed_169 rfl (lv_at hl 2 rfl) ?_
      refine lv_iadd (pc := 170) hx hb dX12_bestFeed_170 ?_
      obtain ⟨v15, e14, h⟩ := ob_out h
      refine c_sI (pc := 171) (rest := [.ref (G.2.1 1)]) F S (tX12_at1 e14) mfX12_at1 w900 ⟨Nat.le_of_ble_eq_true rfl, Nat.le_of_ble_eq_true rfl⟩ rfl hl.1 rfl (Nat.le_of_ble_eq_true rfl) dX12_bestFeed_171 (fun H locs S => ?_)
      refine lv_iload_n (pc := 174) hx hb dX12_bestFeed_174 rfl (lv_at hl 3 rfl) ?_
      obtain ⟨M16, e17, h⟩ := ob_out h
      refine r_nS (pc := 175) F S e17 dX12_bestFeed_175 (fun H locs S => ?_)
      refine lv_iload (pc := 176) hx hb dX12_bestFeed_176 (lv_at hl 4 rfl) ?_
      cases h
      exact r_iret (pc := 178) F S rfl dX12_bestFeed_178
    · replace h := (if_pos c6).symm.trans h
      refine lv_iconst (pc := 14) (v := (-1)) hx hb dX12_bestFeed_14 (by decide) ?_
      cases h
      exact r_iret (pc := 15) F S rfl dX12_bestFeed_15
theorem mfX12_ifDays : MF true yX12_ifDays RX12 cX12_ifDays 7 (some .int) 3 := ⟨w1246, w13, by rw [if_pos rfl]; exact ⟨w1244, w1245⟩, ⟨by decide, by decide⟩, by decide +kernel⟩
set_option maxHeartbeats 4000000 in
theorem tX12_ifDays {l : Launch} {G : GD} {M N Mo : Mem} {a1 : Int32} {a2 : Int32} {a3 : Int32} {r : Int32} (h : fX12_ifDays N a1 a2 a3 = some (r, Mo)) : MI l yX12_ifDays cX12_ifDays 7 .int 5 117 G [.ref (G.2.1 0), .int a1, .int a2, .int a3] M N r M Mo := by
  unfold fX12_ifDays at h
  refine MI_of (own := RX12) (by decide) rfl (Nat.le_of_ble_eq_true rfl) ?_
  intro p e s m args below meth c F S ls hl
  have hx := F.1
  have hb := F.2.1
  have hown := F.2.2.2.2.1
  have hts := F.2.2.2.2.2.1
  have hZ := F.2.2.2.2.2.2.2.2.2
  have hl : lv_has ls 7 [(0, .ref (G.2.1 0)), (1, .int a1), (2, .int a2), (3, .int a3)] := hl
  generalize s.heap = H, ([] : List Loc) = locs at S ⊢
  refine lv_iload_n (pc := 0) hx hb dX12_ifDays_0 rfl (lv_at hl 1 rfl) ?_
  obtain ⟨v2, e1, h⟩ := ob_out h
  refine c_sI (pc := 1) (rest := []) F S (tX12_isPremiere e1) mfX12_isPremiere w987 ⟨Nat.le_of_ble_eq_true rfl, Nat.le_of_ble_eq_true rfl⟩ rfl hl.1 rfl (Nat.le_of_ble_eq_true rfl) dX12_ifDays_1 (fun H locs S => ?_)
  refine lv_if_ne (pc := 4) (tgt := 9) hx hb dX12_ifDays_4 (by decide) (fun c3 => ?_) (fun c3 => ?_)
  · replace h := (if_neg c3).symm.trans h
    refine lv_iload_n (pc := 9) hx hb dX12_ifDays_9 rfl (lv_at hl 2 rfl) ?_
    refine lv_iconst (pc := 10) (v := 0) hx hb dX12_ifDays_10 (by decide) ?_
    refine lv_bipush (pc := 11) (v := 6) hx hb dX12_ifDays_11 (by decide) ?_
    obtain ⟨v5, e4, h⟩ := ob_out h
    refine c_sI (pc := 13) (rest := []) F S (tX12_in e4) mfX12_in w972 ⟨Nat.le_of_ble_eq_true rfl, Nat.le_of_ble_eq_true rfl⟩ rfl hl.1 rfl (Nat.le_of_ble_eq_true rfl) dX12_ifDays_13 (fun H locs S => ?_)
    refine lv_if_eq (pc := 16) (tgt := 29) hx hb dX12_ifDays_16 (by decide) (fun c6 => ?_) (fun c6 => ?_)
    · replace h := (if_pos c6).symm.trans h
      refine lv_bipush (pc := 29) (v := (-2)) hx hb dX12_ifDays_29 (by decide) ?_
      cases h
      exact r_iret (pc := 31) F S rfl dX12_ifDays_31
    · replace h := (if_neg c6).symm.trans h
      refine lv_iload_n (pc := 19) hx hb dX12_ifDays_19 rfl (lv_at hl 3 rfl) ?_
      refine lv_iload_n (pc := 20) hx hb dX12_ifDays_20 rfl (lv_at hl 2 rfl) ?_
      refine lv_bipush (pc := 21) (v := 6) hx hb dX12_ifDays_21 (by decide) ?_
      obtain ⟨v8, e7, h⟩ := ob_out h
      refine c_sI (pc := 23) (rest := []) F S (tX12_in e7) mfX12_in w972 ⟨Nat.le_of_ble_eq_true rfl, Nat.le_of_ble_eq_true rfl⟩ rfl hl.1 rfl (Nat.le_of_ble_eq_true rfl) dX12_ifDays_23 (fun H locs S => ?_)
      refine lv_if_ne (pc := 26) (tgt := 32) hx hb dX12_ifDays_26 (by decide) (fun c9 => ?_) (fun c9 => ?_)
      · replace h := (if_neg c9).symm.trans h
        refine lv_aload_n (pc := 32) hx hb dX12_ifDays_32 rfl (lv_at hl 0 rfl) ?_
        refine r_gR (pc := 33) (k := 0) (x := 1) (i := 0) (ci := 12) F S (by decide) (by decide) cl12 inRX12 (by decide) w903 (fun _ => rfl) dX12_ifDays_33 ?_
        refine lv_iload_n (pc := 36) hx hb dX12_ifDays_36 rfl (lv_at hl 1 rfl) ?_
        refine lv_iconst (pc := 37) (v := 0) hx hb dX12_ifDays_37 (by decide) ?_
        obtain ⟨v11, e10, h⟩ := ob_out h
        refine c_sI (pc := 38) (rest := [.ref (G.2.1 1)]) F S (tX12_at1 e10) mfX12_at1 w900 ⟨Nat.le_of_ble_eq_true rfl, Nat.le_of_ble_eq_true rfl⟩ rfl hl.1 rfl (Nat.le_of_ble_eq_true rfl) dX12_ifDays_38 (fun H locs S => ?_)
        obtain ⟨v12, e13, h⟩ := ob_out h
        refine r_nL (pc := 41) F S e13 dX12_ifDays_41 ?_
        refine lv_istore (pc := 42) (lv' := [(4, .int v12), (0, .ref (G.2.1 0)), (1, .int a1), (2, .int a2), (3, .int a3)]) hx hb dX12_ifDays_42 hl (by decide) rfl (fun ls hl => ?_)
        refine lv_aload_n (pc := 44) hx hb dX12_ifDays_44 rfl (lv_at hl 1 rfl) ?_
        refine r_gR (pc := 45) (k := 0) (x := 1) (i := 0) (ci := 12) F S (by decide) (by decide) cl12 inRX12 (by decide) w903 (fun _ => rfl) dX12_ifDays_45 ?_
        refine lv_iload_n (pc := 48) hx hb dX12_ifDays_48 rfl (lv_at hl 2 rfl) ?_
        refine lv_iconst (pc := 49) (v := 1) hx hb dX12_ifDays_49 (by decide) ?_
        obtain ⟨v15, e14, h⟩ := ob_out h
        refine c_sI (pc := 50) (rest := [.ref (G.2.1 1)]) F S (tX12_at1 e14) mfX12_at1 w900 ⟨Nat.le_of_ble_eq_true rfl, Nat.le_of_ble_eq_true rfl⟩ rfl hl.1 rfl (Nat.le_of_ble_eq_true rfl) dX12_ifDays_50 (fun H locs S => ?_)
        obtain ⟨v16, e17, h⟩ := ob_out h
        refine r_nL (pc := 53) F S e17 dX12_ifDays_53 ?_
        refine lv_istore (pc := 54) (lv' := [(5, .int v16), (4, .int v12), (0, .ref (G.2.1 0)), (1, .int a1), (2, .int a2), (3, .int a3)]) hx hb dX12_ifDays_54 hl (by decide) rfl (fun ls hl => ?_)
        refine lv_aload_n (pc := 56) hx hb dX12_ifDays_56 rfl (lv_at hl 2 rfl) ?_
        refine r_gR (pc := 57) (k := 0) (x := 1) (i := 0) (ci := 12) F S (by decide) (by decide) cl12 inRX12 (by decide) w903 (fun _ => rfl) dX12_ifDays_57 ?_
        refine lv_iload_n (pc := 60) hx hb dX12_ifDays_60 rfl (lv_at hl 3 rfl) ?_
        refine lv_iconst (pc := 61) (v := 0) hx hb dX12_ifDays_61 (by decide) ?_
        obtain ⟨v19, e18, h⟩ := ob_out h
        refine c_sI (pc := 62) (rest := [.ref (G.2.1 1)]) F S (tX12_at1 e18) mfX12_at1 w900 ⟨Nat.le_of_ble_eq_true rfl, Nat.le_of_ble_eq_true rfl⟩ rfl hl.1 rfl (Nat.le_of_ble_eq_true rfl) dX12_ifDays_62 (fun H locs S => ?_)
        refine lv_iload_n (pc := 65) hx hb dX12_ifDays_65 rfl (lv_at hl 4 rfl) ?_
        obtain ⟨M20, e21, h⟩ := ob_out h
        refine r_nS (pc := 66) F S e21 dX12_ifDays_66 (fun H locs S => ?_)
        refine lv_aload_n (pc := 67) hx hb dX12_ifDays_67 rfl (lv_at hl 2 rfl) ?_
        refine r_gR (pc := 68) (k := 0) (x := 1) (i := 0) (ci := 12) F S (by decide) (by decide) cl12 inRX12 (by decide) w903 (fun _ => rfl) dX12_ifDays_68 ?_
        refine lv_iload_n (pc := 71) hx hb dX12_ifDays_71 rfl (lv_at hl 3 rfl) ?_
        refine lv_iconst (pc := 72) (v := 1) hx hb dX12_ifDays_72 (by decide) ?_
        obtain ⟨v23, e22, h⟩ := ob_out h
        refine c_sI (pc := 73) (rest := [.ref (G.2.1 1)]) F S (tX12_at1 e22) mfX12_at1 w900 ⟨Nat.le_of_ble_eq_true rfl, Nat.le_of_ble_eq_true rfl⟩ rfl hl.1 rfl (Nat.le_of_ble_eq_true rfl) dX12_ifDays_73 (fun H locs S => ?_)
        refine lv_iload_n (pc := 76) hx hb dX12_ifDays_76 rfl (lv_at hl 5 rfl) ?_
        obtain ⟨M24, e25, h⟩ := ob_out h
        refine r_nS (pc := 77) F S e25 dX12_ifDays_77 (fun H locs S => ?_)
        refine lv_aload_n (pc := 78) hx hb dX12_ifDays_78 rfl (lv_at hl 2 rfl) ?_
        refine lv_iconst (pc := 79) (v := 1) hx hb dX12_ifDays_79 (by decide) ?_
        obtain ⟨v27, e26, h⟩ := ob_out h
        refine c_vI (pc := 80) (rest := []) F S (tX12_sum e26) mfX12_sum (by decide) (by decide) cl12 w1211 ⟨Nat.le_of_ble_eq_true rfl, Nat.le_of_ble_eq_true rfl⟩ rfl hl.1 rfl (Nat.le_of_ble_eq_true rfl) dX12_ifDays_80 (fun H locs S => ?_)
        refine lv_istore (pc := 83) (lv' := [(6, .int v27), (5, .int v16), (4, .int v12), (0, .ref (G.2.1 0)), (1, .int a1), (2, .int a2), (3, .int a3)]) hx hb dX12_ifDays_83 hl (by decide) rfl (fun ls hl => ?_)
        refine lv_aload_n (pc := 85) hx hb dX12_ifDays_85 rfl (lv_at hl 3 rfl) ?_
        refine r_gR (pc := 86) (k := 0) (x := 1) (i := 0) (ci := 12) F S (by decide) (by decide) cl12 inRX12 (by decide) w903 (fun _ => rfl) dX12_ifDays_86 ?_
        refine lv_iload_n (pc := 89) hx hb dX12_ifDays_89 rfl (lv_at hl 4 rfl) ?_
        refine lv_iconst (pc := 90) (v := 0) hx hb dX12_ifDays_90 (by decide) ?_
        obtain ⟨v29, e28, h⟩ := ob_out h
        refine c_sI (pc := 91) (rest := [.ref (G.2.1 1)]) F S (tX12_at1 e28) mfX12_at1 w900 ⟨Nat.le_of_ble_eq_true rfl, Nat.le_of_ble_eq_true rfl⟩ rfl hl.1 rfl (Nat.le_of_ble_eq_true rfl) dX12_ifDays_91 (fun H locs S => ?_)
        refine lv_iload (pc := 94) hx hb dX12_ifDays_94 (lv_at hl 2 rfl) ?_
        obtain ⟨M30, e31, h⟩ := ob_out h
        refine r_nS (pc := 96) F S e31 dX12_ifDays_96 (fun H locs S => ?_)
        refine lv_aload_n (pc := 97) hx hb dX12_ifDays_97 rfl (lv_at hl 3 rfl) ?_
        refine r_gR (pc := 98) (k := 0) (x := 1) (i := 0) (ci := 12) F S (by decide) (by decide) cl12 inRX12 (by decide) w903 (fun _ => rfl) dX12_ifDays_98 ?_
        refine lv_iload_n (pc := 101) hx hb dX12_ifDays_101 rfl (lv_at hl 4 rfl) ?_
        refine lv_iconst (pc := 102) (v := 1) hx hb dX12_ifDays_102 (by decide) ?_
        obtain ⟨v33, e32, h⟩ := ob_out h
        refine c_sI (pc := 103) (rest := [.ref (G.2.1 1)]) F S (tX12_at1 e32) mfX12_at1 w900 ⟨Nat.le_of_ble_eq_true rfl, Nat.le_of_ble_eq_true rfl⟩ rfl hl.1 rfl (Nat.le_of_ble_eq_true rfl) dX12_ifDays_103 (fun H locs S => ?_)
        refine lv_iload (pc := 106) hx hb dX12_ifDays_106 (lv_at hl 1 rfl) ?_
        obtain ⟨M34, e35, h⟩ := ob_out h
        refine r_nS (pc := 108) F S e35 dX12_ifDays_108 (fun H locs S => ?_)
        refine lv_iload (pc := 109) hx hb dX12_ifDays_109 (lv_at hl 0 rfl) ?_
        cases h
        exact r_iret (pc := 111) F S rfl dX12_ifDays_111
      · replace h := (if_pos c9).symm.trans h
        refine lv_bipush (pc := 29) (v := (-2)) hx hb dX12_ifDays_29 (by decide) ?_
        cases h
        exact r_iret (pc := 31) F S rfl dX12_ifDays_31
  · replace h := (if_pos c3).symm.trans h
    refine lv_iconst (pc := 7) (v := (-1)) hx hb dX12_ifDays_7 (by decide) ?_
    cases h
    exact r_iret (pc := 8) F S rfl dX12_ifDays_8
theorem mfX12_lamps : MF true yX12_lamps RX12 cX12_lamps 1 (some .int) 0 := ⟨w1258, w13, by rw [if_pos rfl]; exact ⟨w1257, wp55⟩, ⟨by decide, by decide⟩, by decide +kernel⟩
set_option maxHeartbeats 4000000 in
theorem tX12_lamps {l : Launch} {G : GD} {M N : Mem} {r : Int32} (h : fX12_lamps N = some r) : MI l yX12_lamps cX12_lamps 1 .int 1 21 G [.ref (G.2.1 0)] M N r M N := by
  unfold fX12_lamps at h
  refine MI_of (own := RX12) (by decide) rfl (Nat.le_of_ble_eq_true rfl) ?_
  intro p e s m args below meth c F S ls hl
  have hx := F.1
  have hb := F.2.1
  have hown := F.2.2.2.2.1
  have hts := F.2.2.2.2.2.1
  have hZ := F.2.2.2.2.2.2.2.2.2
  have hl : lv_has ls 1 [(0, .ref (G.2.1 0))] := hl
  generalize s.heap = H, ([] : List Loc) = locs at S ⊢
  refine lv_aload_n (pc := 0) hx hb dX12_lamps_0 rfl (lv_at hl 0 rfl) ?_
  refine r_gR (pc := 1) (k := 0) (x := 1) (i := 0) (ci := 12) F S (by decide) (by decide) cl12 inRX12 (by decide) w903 (fun _ => rfl) dX12_lamps_1 ?_
  refine lv_iconst (pc := 4) (v := 0) hx hb dX12_lamps_4 (by decide) ?_
  refine lv_iconst (pc := 5) (v := 2) hx hb dX12_lamps_5 (by decide) ?_
  obtain ⟨v2, e1, h⟩ := ob_out h
  refine c_sI (pc := 6) (rest := [.ref (G.2.1 1)]) F S (tX12_at1 e1) mfX12_at1 w900 ⟨Nat.le_of_ble_eq_true rfl, Nat.le_of_ble_eq_true rfl⟩ rfl hl.1 rfl (Nat.le_of_ble_eq_true rfl) dX12_lamps_6 (fun H locs S => ?_)
  obtain ⟨v3, e4, h⟩ := ob_out h
  refine r_nL (pc := 9) F S e4 dX12_lamps_9 ?_
  refine lv_aload_n (pc := 10) hx hb dX12_lamps_10 rfl (lv_at hl 0 rfl) ?_
  refine r_gR (pc := 11) (k := 0) (x := 1) (i := 0) (ci := 12) F S (by decide) (by decide) cl12 inRX12 (by decide) w903 (fun _ => rfl) dX12_lamps_11 ?_
  refine lv_iconst (pc := 14) (v := 1) hx hb dX12_lamps_14 (by decide) ?_
  refine lv_iconst (pc := 15) (v := 2) hx hb dX12_lamps_15 (by decide) ?_
  obtain ⟨v6, e5, h⟩ := ob_out h
  refine c_sI (pc := 16) (rest := [.ref (G.2.1 1), .int v3]) F S (tX12_at1 e5) mfX12_at1 w900 ⟨Nat.le_of_ble_eq_true rfl, Nat.le_of_ble_eq_true rfl⟩ rfl hl.1 rfl (Nat.le_of_ble_eq_true rfl) dX12_lamps_16 (fun H locs S => ?_)
  obtain ⟨v7, e8, h⟩ := ob_out h
  refine r_nL (pc := 19) F S e8 dX12_lamps_19 ?_
  refine lv_iadd (pc := 20) hx hb dX12_lamps_20 ?_
  refine lv_aload_n (pc := 21) hx hb dX12_lamps_21 rfl (lv_at hl 0 rfl) ?_
  refine r_gR (pc := 22) (k := 0) (x := 1) (i := 0) (ci := 12) F S (by decide) (by decide) cl12 inRX12 (by decide) w903 (fun _ => rfl) dX12_lamps_22 ?_
  refine lv_iconst (pc := 25) (v := 2) hx hb dX12_lamps_25 (by decide) ?_
  refine lv_iconst (pc := 26) (v := 2) hx hb dX12_lamps_26 (by decide) ?_
  obtain ⟨v10, e9, h⟩ := ob_out h
  refine c_sI (pc := 27) (rest := [.ref (G.2.1 1), .int (v3 + v7)]) F S (tX12_at1 e9) mfX12_at1 w900 ⟨Nat.le_of_ble_eq_true rfl, Nat.le_of_ble_eq_true rfl⟩ rfl hl.1 rfl (Nat.le_of_ble_eq_true rfl) dX12_lamps_27 (fun H locs S => ?_)
  obtain ⟨v11, e12, h⟩ := ob_out h
  refine r_nL (pc := 30) F S e12 dX12_lamps_30 ?_
  refine lv_iadd (pc := 31) hx hb dX12_lamps_31 ?_
  cases h
  exact r_iret (pc := 32) F S rfl dX12_lamps_32
theorem mfX12_undo : MF true yX12_undo RX12 cX12_undo 2 (some .int) 0 := ⟨w1250, w13, by rw [if_pos rfl]; exact ⟨w1248, w1249⟩, ⟨by decide, by decide⟩, by decide +kernel⟩
set_option maxHeartbeats 4000000 in
theorem pX12_undo_L22 {p : Program} {l : Launch} {e : Env} {s : State} {m : MethodId} {args : Array Value} {below : List Frame} {meth : Method} {c : Code} {Q : State → Prop} {G : GD} (F : FX p s m args meth c RX12 cX12_undo 2 (some .int) G) : ∀ (n : Nat) {M N : Mem} {a1 : Int32} {H : Heap} {locs : List Loc} {ls : Array Slot} {Mo : Mem}, ST G M N s H locs → lv_has ls 2 [(0, .ref (G.2.1 0)), (1, .int a1)] → fX12_undo_L22 n N a1 = some Mo → (K1 : ∀ (H : Heap) (locs : List Loc) (ls : Array Slot), ST G M Mo s H locs → lv_has ls 2 [(0, .ref (G.2.1 0))] → W p l e (Rm 0 0) s m args below meth c H locs 0 0 Q (F0 m 56 ls [])) → W p l e (Rm 0 0) s m args below meth c H locs 0 0 Q (F0 m 22 ls []) := by
  intro n
  induction n with
  | zero => intro M N a1 H locs ls Mo S hl h K1; cases h
  | succ n ih =>
    intro M N a1 H locs ls Mo S hl h K1
    rw [fX12_undo_L22] at h
    have hx := F.1
    have hb := F.2.1
    have hown := F.2.2.2.2.1
    have hts := F.2.2.2.2.2.1
    have hZ := F.2.2.2.2.2.2.2.2.2
    refine lv_iload_n (pc := 22) hx hb dX12_undo_22 rfl (lv_at hl 1 rfl) ?_
    refine lv_sipush (pc := 23) (v := 691) hx hb dX12_undo_23 (by decide) ?_
    refine lv_icmp_ge (pc := 26) (tgt := 56) hx hb dX12_undo_26 (by decide) (fun c8 => ?_) (fun c8 => ?_)
    · replace h := (if_pos c8).symm.trans h
      cases h
      exact K1 H locs ls S (lv_sub hl [0] rfl)
    · replace h := (if_neg c8).symm.trans h
      refine lv_aload_n (pc := 29) hx hb dX12_undo_29 rfl (lv_at hl 0 rfl) ?_
      refine r_gR (pc := 30) (k := 0) (x := 1) (i := 0) (ci := 12) F S (by decide) (by decide) cl12 inRX12 (by decide) w903 (fun _ => rfl) dX12_undo_30 ?_
      refine lv_iload_n (pc := 33) hx hb dX12_undo_33 rfl (lv_at hl 1 rfl) ?_
      refine lv_aload_n (pc := 34) hx hb dX12_undo_34 rfl (lv_at hl 0 rfl) ?_
      refine r_gR (pc := 35) (k := 2) (x := 3) (i := 0) (ci := 12) F S (by decide) (by decide) cl12 inRX12 (by decide) w905 (fun _ => rfl) dX12_undo_35 ?_
      refine lv_sipush (pc := 38) (v := 691) hx hb dX12_undo_38 (by decide) ?_
      refine lv_aload_n (pc := 41) hx hb dX12_undo_41 rfl (lv_at hl 0 rfl) ?_
      obtain ⟨v9, e10, h⟩ := ob_out h
      refine r_gN (pc := 42) (k := 3) F S e10 (by decide) cl12 inRX12 (by decide) w906 (fun _ => rfl) dX12_undo_42 ?_
      refine lv_imul (pc := 45) hx hb dX12_undo_45 ?_
      refine lv_iload_n (pc := 46) hx hb dX12_undo_46 rfl (lv_at hl 1 rfl) ?_
      refine lv_iadd (pc := 47) hx hb dX12_undo_47 ?_
      obtain ⟨v11, e12, h⟩ := ob_out h
      refine r_nL (pc := 48) F S e12 dX12_undo_48 ?_
      obtain ⟨M13, e14, h⟩ := ob_out h
      refine r_nS (pc := 49) F S e14 dX12_undo_49 (fun H locs S => ?_)
      refine lv_iinc (pc := 50) (lv' := [(1, .int (a1 + 1)), (0, .ref (G.2.1 0))]) hx hb dX12_undo_50 hl (k := 1) rfl (iinc_n (by decide)) (by decide) rfl (fun ls hl => ?_)
      refine lv_goto (pc := 53) (tgt := 22) hx hb dX12_undo_53 (by decide) ?_
      exact ih S (lv_sub hl [1, 0] rfl) h K1
set_option maxHeartbeats 4000000 in
theorem tX12_undo {l : Launch} {G : GD} {M N Mo : Mem} {r : Int32} (h : fX12_undo N = some (r, Mo)) : MI l yX12_undo cX12_undo 2 .int 0 0 G [.ref (G.2.1 0)] M N r M Mo := by
  unfold fX12_undo at h
  refine MI_of (own := RX12) (by decide) rfl (Nat.le_of_ble_eq_true rfl) ?_
  intro p e s m args below meth c F S ls hl
  have hx := F.1
  have hb := F.2.1
  have hown := F.2.2.2.2.1
  have hts := F.2.2.2.2.2.1
  have hZ := F.2.2.2.2.2.2.2.2.2
  have hl : lv_has ls 2 [(0, .ref (G.2.1 0))] := hl
  generalize s.heap = H, ([] : List Loc) = locs at S ⊢
  refine lv_aload_n (pc := 0) hx hb dX12_undo_0 rfl (lv_at hl 0 rfl) ?_
  obtain ⟨v1, e2, h⟩ := ob_out h
  refine r_gN (pc := 1) (k := 3) F S e2 (by decide) cl12 inRX12 (by decide) w906 (fun _ => rfl) dX12_undo_1 ?_
  refine lv_if_ne (pc := 4) (tgt := 10) hx hb dX12_undo_4 (by decide) (fun c3 => ?_) (fun c3 => ?_)
  · replace h := (if_neg c3).symm.trans h
    refine lv_aload_n (pc := 10) hx hb dX12_undo_10 rfl (lv_at hl 0 rfl) ?_
    refine lv_dup (pc := 11) hx hb dX12_undo_11 rfl ?_
    obtain ⟨v4, e5, h⟩ := ob_out h
    refine r_gN (pc := 12) (k := 3) F S e5 (by decide) cl12 inRX12 (by decide) w906 (fun _ => rfl) dX12_undo_12 ?_
    refine lv_iconst (pc := 15) (v := 1) hx hb dX12_undo_15 (by decide) ?_
    refine lv_isub (pc := 16) hx hb dX12_undo_16 ?_
    obtain ⟨M6, e7, h⟩ := ob_out h
    refine r_pN (pc := 17) (k := 3) (ty0 := tyX12) F S e7 (by decide) cl12 inRX12 tyX12_ok nmX12 (by decide) w906 rfl (by decide +kernel) (fun _ => Nat.le_of_ble_eq_true rfl) (fun _ => pf_12_3) dX12_undo_17 (fun H locs S => ?_)
    refine lv_iconst (pc := 20) (v := 0) hx hb dX12_undo_20 (by decide) ?_
    refine lv_istore_n (pc := 21) (lv' := [(1, .int 0), (0, .ref (G.2.1 0))]) hx hb dX12_undo_21 rfl hl (by decide) rfl (fun ls hl => ?_)
    obtain ⟨M8, e9, h⟩ := ob_out h
    refine pX12_undo_L22 F 5000 S (lv_sub hl [1, 0] rfl) e9 (fun H locs ls S hl => ?_)
    refine lv_aload_n (pc := 56) hx hb dX12_undo_56 rfl (lv_at hl 0 rfl) ?_
    obtain ⟨v10, e11, h⟩ := ob_out h
    refine r_gN (pc := 57) (k := 3) F S e11 (by decide) cl12 inRX12 (by decide) w906 (fun _ => rfl) dX12_undo_57 ?_
    cases h
    exact r_iret (pc := 60) F S rfl dX12_undo_60
  · replace h := (if_pos c3).symm.trans h
    refine lv_bipush (pc := 7) (v := (-5)) hx hb dX12_undo_7 (by decide) ?_
    cases h
    exact r_iret (pc := 9) F S rfl dX12_undo_9
theorem mfX12_save : MF true yX12_save RX12 cX12_save 3 (some .int) 1 := ⟨w1254, w13, by rw [if_pos rfl]; exact ⟨w1252, w1253⟩, ⟨by decide, by decide⟩, by decide +kernel⟩
set_option maxHeartbeats 4000000 in
theorem pX12_save_L14 {p : Program} {l : Launch} {e : Env} {s : State} {m : MethodId} {args : Array Value} {below : List Frame} {meth : Method} {c : Code} {Q : State → Prop} {G : GD} (F : FX p s m args meth c RX12 cX12_save 3 (some .int) G) : ∀ (n : Nat) {M N : Mem} {a1 : Int32} {a2 : Int32} {H : Heap} {locs : List Loc} {ls : Array Slot} {Mo : Mem}, ST G M N s H locs → lv_has ls 3 [(0, .ref (G.2.1 0)), (1, .int a1), (2, .int a2)] → fX12_save_L14 n N a1 a2 = some Mo → (K1 : ∀ (H : Heap) (locs : List Loc) (ls : Array Slot), ST G M Mo s H locs → lv_has ls 3 [(0, .ref (G.2.1 0)), (1, .int a1)] → W p l e (Rm 2 41) s m args below meth c H locs 0 0 Q (F0 m 45 ls [])) → W p l e (Rm 2 41) s m args below meth c H locs 0 0 Q (F0 m 14 ls []) := by
  intro n
  induction n with
  | zero => intro M N a1 a2 H locs ls Mo S hl h K1; cases h
  | succ n ih =>
    intro M N a1 a2 H locs ls Mo S hl h K1
    rw [fX12_save_L14] at h
    have hx := F.1
    have hb := F.2.1
    have hown := F.2.2.2.2.1
    have hts := F.2.2.2.2.2.1
    have hZ := F.2.2.2.2.2.2.2.2.2
    refine lv_iload_n (pc := 14) hx hb dX12_save_14 rfl (lv_at hl 2 rfl) ?_
    refine lv_sipush (pc := 15) (v := 691) hx hb dX12_save_15 (by decide) ?_
    refine lv_icmp_ge (pc := 18) (tgt := 45) hx hb dX12_save_18 (by decide) (fun c4 => ?_) (fun c4 => ?_)
    · replace h := (if_pos c4).symm.trans h
      cases h
      exact K1 H locs ls S (lv_sub hl [0, 1] rfl)
    · replace h := (if_neg c4).symm.trans h
      refine lv_aload_n (pc := 21) hx hb dX12_save_21 rfl (lv_at hl 0 rfl) ?_
      refine r_gR (pc := 22) (k := 4) (x := 4) (i := 0) (ci := 12) F S (by decide) (by decide) cl12 inRX12 (by decide) w907 (fun _ => rfl) dX12_save_22 ?_
      refine lv_sipush (pc := 25) (v := 691) hx hb dX12_save_25 (by decide) ?_
      refine lv_iload_n (pc := 28) hx hb dX12_save_28 rfl (lv_at hl 1 rfl) ?_
      refine lv_imul (pc := 29) hx hb dX12_save_29 ?_
      refine lv_iload_n (pc := 30) hx hb dX12_save_30 rfl (lv_at hl 2 rfl) ?_
      refine lv_iadd (pc := 31) hx hb dX12_save_31 ?_
      refine lv_aload_n (pc := 32) hx hb dX12_save_32 rfl (lv_at hl 0 rfl) ?_
      refine r_gR (pc := 33) (k := 0) (x := 1) (i := 0) (ci := 12) F S (by decide) (by decide) cl12 inRX12 (by decide) w903 (fun _ => rfl) dX12_save_33 ?_
      refine lv_iload_n (pc := 36) hx hb dX12_save_36 rfl (lv_at hl 2 rfl) ?_
      obtain ⟨v5, e6, h⟩ := ob_out h
      refine r_nL (pc := 37) F S e6 dX12_save_37 ?_
      obtain ⟨M7, e8, h⟩ := ob_out h
      refine r_nS (pc := 38) F S e8 dX12_save_38 (fun H locs S => ?_)
      refine lv_iinc (pc := 39) (lv' := [(2, .int (a2 + 1)), (0, .ref (G.2.1 0)), (1, .int a1)]) hx hb dX12_save_39 hl (k := 2) rfl (iinc_n (by decide)) (by decide) rfl (fun ls hl => ?_)
      refine lv_goto (pc := 42) (tgt := 14) hx hb dX12_save_42 (by decide) ?_
      exact ih S (lv_sub hl [1, 2, 0] rfl) h K1
set_option maxHeartbeats 4000000 in
theorem tX12_save {l : Launch} {G : GD} {M N Mo : Mem} {a1 : Int32} {r : Int32} (h : fX12_save N a1 = some (r, Mo)) : MI l yX12_save cX12_save 3 .int 2 41 G [.ref (G.2.1 0), .int a1] M N r M Mo := by
  unfold fX12_save at h
  refine MI_of (own := RX12) (by decide) rfl (Nat.le_of_ble_eq_true rfl) ?_
  intro p e s m args below meth c F S ls hl
  have hx := F.1
  have hb := F.2.1
  have hown := F.2.2.2.2.1
  have hts := F.2.2.2.2.2.1
  have hZ := F.2.2.2.2.2.2.2.2.2
  have hl : lv_has ls 3 [(0, .ref (G.2.1 0)), (1, .int a1)] := hl
  generalize s.heap = H, ([] : List Loc) = locs at S ⊢
  refine lv_iload_n (pc := 0) hx hb dX12_save_0 rfl (lv_at hl 1 rfl) ?_
  refine lv_iconst (pc := 1) (v := 0) hx hb dX12_save_1 (by decide) ?_
  refine lv_iconst (pc := 2) (v := 1) hx hb dX12_save_2 (by decide) ?_
  obtain ⟨v2, e1, h⟩ := ob_out h
  refine c_sI (pc := 3) (rest := []) F S (tX12_in e1) mfX12_in w972 ⟨Nat.le_of_ble_eq_true rfl, Nat.le_of_ble_eq_true rfl⟩ rfl hl.1 rfl (Nat.le_of_ble_eq_true rfl) dX12_save_3 (fun H locs S => ?_)
  refine lv_if_ne (pc := 6) (tgt := 12) hx hb dX12_save_6 (by decide) (fun c3 => ?_) (fun c3 => ?_)
  · replace h := (if_neg c3).symm.trans h
    refine lv_iconst (pc := 12) (v := 0) hx hb dX12_save_12 (by decide) ?_
    refine lv_istore_n (pc := 13) (lv' := [(2, .int 0), (0, .ref (G.2.1 0)), (1, .int a1)]) hx hb dX12_save_13 rfl hl (by decide) rfl (fun ls hl => ?_)
    obtain ⟨M4, e5, h⟩ := ob_out h
    refine pX12_save_L14 F 5000 S (lv_sub hl [1, 2, 0] rfl) e5 (fun H locs ls S hl => ?_)
    refine lv_aload_n (pc := 45) hx hb dX12_save_45 rfl (lv_at hl 0 rfl) ?_
    refine r_gR (pc := 46) (k := 5) (x := 5) (i := 0) (ci := 12) F S (by decide) (by decide) cl12 inRX12 (by decide) w908 (fun _ => rfl) dX12_save_46 ?_
    refine lv_iload_n (pc := 49) hx hb dX12_save_49 rfl (lv_at hl 1 rfl) ?_
    refine lv_iconst (pc := 50) (v := 1) hx hb dX12_save_50 (by decide) ?_
    obtain ⟨M6, e7, h⟩ := ob_out h
    refine r_zS (pc := 51) F S e7 dX12_save_51 (fun H locs S => ?_)
    refine lv_aload_n (pc := 52) hx hb dX12_save_52 rfl (lv_at hl 0 rfl) ?_
    obtain ⟨v9, e8, h⟩ := ob_out h
    refine c_vI (pc := 53) (rest := []) F S (tX12_lamps e8) mfX12_lamps (by decide) (by decide) cl12 w1255 ⟨Nat.le_of_ble_eq_true rfl, Nat.le_of_ble_eq_true rfl⟩ rfl hl.1 rfl (Nat.le_of_ble_eq_true rfl) dX12_save_53 (fun H locs S => ?_)
    cases h
    exact r_iret (pc := 56) F S rfl dX12_save_56
  · replace h := (if_pos c3).symm.trans h
    refine lv_bipush (pc := 9) (v := (-2)) hx hb dX12_save_9 (by decide) ?_
    cases h
    exact r_iret (pc := 11) F S rfl dX12_save_11
theorem mfX12_restore : MF true yX12_restore RX12 cX12_restore 3 (some .int) 1 := ⟨w1262, w13, by rw [if_pos rfl]; exact ⟨w1260, w1261⟩, ⟨by decide, by decide⟩, by decide +kernel⟩
set_option maxHeartbeats 4000000 in
theorem pX12_restore_L30 {p : Program} {l : Launch} {e : Env} {s : State} {m : MethodId} {args : Array Value} {below : List Frame} {meth : Method} {c : Code} {Q : State → Prop} {G : GD} (F : FX p s m args meth c RX12 cX12_restore 3 (some .int) G) : ∀ (n : Nat) {M N : Mem} {a1 : Int32} {a2 : Int32} {H : Heap} {locs : List Loc} {ls : Array Slot} {Mo : Mem}, ST G M N s H locs → lv_has ls 3 [(0, .ref (G.2.1 0)), (1, .int a1), (2, .int a2)] → fX12_restore_L30 n N a1 a2 = some Mo → (K1 : ∀ (H : Heap) (locs : List Loc) (ls : Array Slot), ST G M Mo s H locs → lv_has ls 3 [(0, .ref (G.2.1 0))] → W p l e (Rm 2 41) s m args below meth c H locs 0 0 Q (F0 m 61 ls [])) → W p l e (Rm 2 41) s m args below meth c H locs 0 0 Q (F0 m 30 ls []) := by
  intro n
  induction n with
  | zero => intro M N a1 a2 H locs ls Mo S hl h K1; cases h
  | succ n ih =>
    intro M N a1 a2 H locs ls Mo S hl h K1
    rw [fX12_restore_L30] at h
    have hx := F.1
    have hb := F.2.1
    have hown := F.2.2.2.2.1
    have hts := F.2.2.2.2.2.1
    have hZ := F.2.2.2.2.2.2.2.2.2
    refine lv_iload_n (pc := 30) hx hb dX12_restore_30 rfl (lv_at hl 2 rfl) ?_
    refine lv_sipush (pc := 31) (v := 691) hx hb dX12_restore_31 (by decide) ?_
    refine lv_icmp_ge (pc := 34) (tgt := 61) hx hb dX12_restore_34 (by decide) (fun c9 => ?_) (fun c9 => ?_)
    · replace h := (if_pos c9).symm.trans h
      cases h
      exact K1 H locs ls S (lv_sub hl [0] rfl)
    · replace h := (if_neg c9).symm.trans h
      refine lv_aload_n (pc := 37) hx hb dX12_restore_37 rfl (lv_at hl 0 rfl) ?_
      refine r_gR (pc := 38) (k := 0) (x := 1) (i := 0) (ci := 12) F S (by decide) (by decide) cl12 inRX12 (by decide) w903 (fun _ => rfl) dX12_restore_38 ?_
      refine lv_iload_n (pc := 41) hx hb dX12_restore_41 rfl (lv_at hl 2 rfl) ?_
      refine lv_aload_n (pc := 42) hx hb dX12_restore_42 rfl (lv_at hl 0 rfl) ?_
      refine r_gR (pc := 43) (k := 4) (x := 4) (i := 0) (ci := 12) F S (by decide) (by decide) cl12 inRX12 (by decide) w907 (fun _ => rfl) dX12_restore_43 ?_
      refine lv_sipush (pc := 46) (v := 691) hx hb dX12_restore_46 (by decide) ?_
      refine lv_iload_n (pc := 49) hx hb dX12_restore_49 rfl (lv_at hl 1 rfl) ?_
      refine lv_imul (pc := 50) hx hb dX12_restore_50 ?_
      refine lv_iload_n (pc := 51) hx hb dX12_restore_51 rfl (lv_at hl 2 rfl) ?_
      refine lv_iadd (pc := 52) hx hb dX12_restore_52 ?_
      obtain ⟨v10, e11, h⟩ := ob_out h
      refine r_nL (pc := 53) F S e11 dX12_restore_53 ?_
      obtain ⟨M12, e13, h⟩ := ob_out h
      refine r_nS (pc := 54) F S e13 dX12_restore_54 (fun H locs S => ?_)
      refine lv_iinc (pc := 55) (lv' := [(2, .int (a2 + 1)), (0, .ref (G.2.1 0)), (1, .int a1)]) hx hb dX12_restore_55 hl (k := 2) rfl (iinc_n (by decide)) (by decide) rfl (fun ls hl => ?_)
      refine lv_goto (pc := 58) (tgt := 30) hx hb dX12_restore_58 (by decide) ?_
      exact ih S (lv_sub hl [1, 2, 0] rfl) h K1
set_option maxHeartbeats 4000000 in
theorem tX12_restore {l : Launch} {G : GD} {M N Mo : Mem} {a1 : Int32} {r : Int32} (h : fX12_restore N a1 = some (r, Mo)) : MI l yX12_restore cX12_restore 3 .int 2 41 G [.ref (G.2.1 0), .int a1] M N r M Mo := by
  unfold fX12_restore at h
  refine MI_of (own := RX12) (by decide) rfl (Nat.le_of_ble_eq_true rfl) ?_
  intro p e s m args below meth c F S ls hl
  have hx := F.1
  have hb := F.2.1
  have hown := F.2.2.2.2.1
  have hts := F.2.2.2.2.2.1
  have hZ := F.2.2.2.2.2.2.2.2.2
  have hl : lv_has ls 3 [(0, .ref (G.2.1 0)), (1, .int a1)] := hl
  generalize s.heap = H, ([] : List Loc) = locs at S ⊢
  refine lv_iload_n (pc := 0) hx hb dX12_restore_0 rfl (lv_at hl 1 rfl) ?_
  refine lv_iconst (pc := 1) (v := 0) hx hb dX12_restore_1 (by decide) ?_
  refine lv_iconst (pc := 2) (v := 1) hx hb dX12_restore_2 (by decide) ?_
  obtain ⟨v2, e1, h⟩ := ob_out h
  refine c_sI (pc := 3) (rest := []) F S (tX12_in e1) mfX12_in w972 ⟨Nat.le_of_ble_eq_true rfl, Nat.le_of_ble_eq_true rfl⟩ rfl hl.1 rfl (Nat.le_of_ble_eq_true rfl) dX12_restore_3 (fun H locs S => ?_)
  refine lv_if_ne (pc := 6) (tgt := 12) hx hb dX12_restore_6 (by decide) (fun c3 => ?_) (fun c3 => ?_)
  · replace h := (if_neg c3).symm.trans h
    refine lv_aload_n (pc := 12) hx hb dX12_restore_12 rfl (lv_at hl 0 rfl) ?_
    refine r_gR (pc := 13) (k := 5) (x := 5) (i := 0) (ci := 12) F S (by decide) (by decide) cl12 inRX12 (by decide) w908 (fun _ => rfl) dX12_restore_13 ?_
    refine lv_iload_n (pc := 16) hx hb dX12_restore_16 rfl (lv_at hl 1 rfl) ?_
    obtain ⟨v4, e5, h⟩ := ob_out h
    refine r_zL (pc := 17) F S e5 dX12_restore_17 ?_
    refine lv_if_ne (pc := 18) (tgt := 24) hx hb dX12_restore_18 (by decide) (fun c6 => ?_) (fun c6 => ?_)
    · replace h := (if_neg c6).symm.trans h
      refine lv_aload_n (pc := 24) hx hb dX12_restore_24 rfl (lv_at hl 0 rfl) ?_
      obtain ⟨M8, e7, h⟩ := ob_out h
      refine c_vV (pc := 25) (rest := []) F S (tX12_know e7) mfX12_know (by decide) (by decide) cl12 w975 ⟨Nat.le_of_ble_eq_true rfl, Nat.le_of_ble_eq_true rfl⟩ rfl hl.1 rfl (Nat.le_of_ble_eq_true rfl) dX12_restore_25 (fun H locs S => ?_)
      refine lv_iconst (pc := 28) (v := 0) hx hb dX12_restore_28 (by decide) ?_
      refine lv_istore_n (pc := 29) (lv' := [(2, .int 0), (0, .ref (G.2.1 0)), (1, .int a1)]) hx hb dX12_restore_29 rfl hl (by decide) rfl (fun ls hl => ?_)
      obtain ⟨M9, e10, h⟩ := ob_out h
      refine pX12_restore_L30 F 5000 S (lv_sub hl [1, 2, 0] rfl) e10 (fun H locs ls S hl => ?_)
      refine lv_aload_n (pc := 61) hx hb dX12_restore_61 rfl (lv_at hl 0 rfl) ?_
      obtain ⟨v12, e11, h⟩ := ob_out h
      refine c_vI (pc := 62) (rest := []) F S (tX12_lamps e11) mfX12_lamps (by decide) (by decide) cl12 w1255 ⟨Nat.le_of_ble_eq_true rfl, Nat.le_of_ble_eq_true rfl⟩ rfl hl.1 rfl (Nat.le_of_ble_eq_true rfl) dX12_restore_62 (fun H locs S => ?_)
      cases h
      exact r_iret (pc := 65) F S rfl dX12_restore_65
    · replace h := (if_pos c6).symm.trans h
      refine lv_bipush (pc := 21) (v := (-5)) hx hb dX12_restore_21 (by decide) ?_
      cases h
      exact r_iret (pc := 23) F S rfl dX12_restore_23
  · replace h := (if_pos c3).symm.trans h
    refine lv_bipush (pc := 9) (v := (-2)) hx hb dX12_restore_9 (by decide) ?_
    cases h
    exact r_iret (pc := 11) F S rfl dX12_restore_11
