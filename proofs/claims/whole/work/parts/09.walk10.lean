/-! the walks: each method does what its function says -/
theorem mfX12_order : MF true yX12_order RX12 cX12_order 3 none 0 := ⟨w1118, w13, by rw [if_pos rfl]; exact ⟨w1117, wp35⟩, ⟨by decide, by decide⟩, by decide +kernel⟩
set_option maxHeartbeats 4000000 in
theorem tX12_order {l : Launch} {G : GD} {M N Mo : Mem} (h : fX12_order N = some Mo) : MV l yX12_order cX12_order 3 4 93 G [.ref (G.2.1 0)] M N M Mo := by
  unfold fX12_order at h
  refine MV_of (own := RX12) (by decide) rfl (Nat.le_of_ble_eq_true rfl) ?_
  intro p e s m args below meth c F S ls hl
  have hx := F.1
  have hb := F.2.1
  have hown := F.2.2.2.2.1
  have hts := F.2.2.2.2.2.1
  have hZ := F.2.2.2.2.2.2.2.2.2
  have hl : lv_has ls 3 [(0, .ref (G.2.1 0))] := hl
  generalize s.heap = H, ([] : List Loc) = locs at S ⊢
  refine lv_aload_n (pc := 0) hx hb dX12_order_0 rfl (lv_at hl 0 rfl) ?_
  obtain ⟨v1, e2, h⟩ := ob_out h
  refine r_gN (pc := 1) (k := 10) F S e2 (by decide) cl12 inRX12 (by decide) w913 (fun _ => rfl) dX12_order_1 ?_
  refine lv_aload_n (pc := 4) hx hb dX12_order_4 rfl (lv_at hl 0 rfl) ?_
  obtain ⟨v3, e4, h⟩ := ob_out h
  refine r_gN (pc := 5) (k := 7) F S e4 (by decide) cl12 inRX12 (by decide) w910 (fun _ => rfl) dX12_order_5 ?_
  obtain ⟨v5, d6, h⟩ := ob_out h
  have J7 : ∀ (H : Heap) (locs : List Loc) (ls : Array Slot), ST G M N s H locs → lv_has ls 3 [(0, .ref (G.2.1 0))] → W p l e (Rm 4 93) s m args below meth c H locs 0 0 (MQ below (va_Qv (fun _ : Unit => True) (fun _ t => Wd G M Mo t) (AG G.2.1)) args s 0 0 (AG G.2.1)) (F0 m 24 ls [.int v5]) := by
    intro H locs ls S hl
    refine lv_istore_n (pc := 24) (lv' := [(1, .int v5), (0, .ref (G.2.1 0))]) hx hb dX12_order_24 rfl hl (by decide) rfl (fun ls hl => ?_)
    refine lv_iload_n (pc := 25) hx hb dX12_order_25 rfl (lv_at hl 0 rfl) ?_
    refine lv_bipush (pc := 26) (v := 48) hx hb dX12_order_26 (by decide) ?_
    refine lv_bipush (pc := 28) (v := 57) hx hb dX12_order_28 (by decide) ?_
    obtain ⟨v9, e8, h⟩ := ob_out h
    refine c_sI (pc := 30) (rest := []) F S (tX12_in e8) mfX12_in w972 ⟨Nat.le_of_ble_eq_true rfl, Nat.le_of_ble_eq_true rfl⟩ rfl hl.1 rfl (Nat.le_of_ble_eq_true rfl) dX12_order_30 (fun H locs S => ?_)
    refine lv_if_eq (pc := 33) (tgt := 47) hx hb dX12_order_33 (by decide) (fun c10 => ?_) (fun c10 => ?_)
    · replace h := (if_pos c10).symm.trans h
      refine lv_aload_n (pc := 47) hx hb dX12_order_47 rfl (lv_at hl 1 rfl) ?_
      refine lv_iload_n (pc := 48) hx hb dX12_order_48 rfl (lv_at hl 0 rfl) ?_
      obtain ⟨M11, e12, h⟩ := ob_out h
      refine r_pN (pc := 49) (k := 14) (ty0 := tyX12) F S e12 (by decide) cl12 inRX12 tyX12_ok nmX12 (by decide) w917 rfl (by decide +kernel) (fun _ => Nat.le_of_ble_eq_true rfl) (fun _ => pf_12_14) dX12_order_49 (fun H locs S => ?_)
      refine lv_aload_n (pc := 52) hx hb dX12_order_52 rfl (lv_at hl 1 rfl) ?_
      refine lv_aload_n (pc := 53) hx hb dX12_order_53 rfl (lv_at hl 1 rfl) ?_
      obtain ⟨v13, e14, h⟩ := ob_out h
      refine r_gN (pc := 54) (k := 11) F S e14 (by decide) cl12 inRX12 (by decide) w914 (fun _ => rfl) dX12_order_54 ?_
      obtain ⟨v15, d16, h⟩ := ob_out h
      have J17 : ∀ (H : Heap) (locs : List Loc) (ls : Array Slot), ST G M M11 s H locs → lv_has ls 3 [(0, .ref (G.2.1 0)), (1, .int v5)] → W p l e (Rm 4 93) s m args below meth c H locs 0 0 (MQ below (va_Qv (fun _ : Unit => True) (fun _ t => Wd G M Mo t) (AG G.2.1)) args s 0 0 (AG G.2.1)) (F0 m 83 ls [.int v15, .ref (G.2.1 0)]) := by
        intro H locs ls S hl
        obtain ⟨M18, e19, h⟩ := ob_out h
        refine r_pZ (pc := 83) (k := 11) (ty0 := tyX12) F S e19 (by decide) cl12 inRX12 tyX12_ok nmX12 (by decide) w914 rfl (by decide +kernel) (fun _ => Nat.le_of_ble_eq_true rfl) (fun _ => pf_12_11) dX12_order_83 (fun H locs S => ?_)
        refine lv_aload_n (pc := 86) hx hb dX12_order_86 rfl (lv_at hl 0 rfl) ?_
        refine lv_dup (pc := 87) hx hb dX12_order_87 rfl ?_
        obtain ⟨v20, e21, h⟩ := ob_out h
        refine r_gN (pc := 88) (k := 10) F S e21 (by decide) cl12 inRX12 (by decide) w913 (fun _ => rfl) dX12_order_88 ?_
        refine lv_aload_n (pc := 91) hx hb dX12_order_91 rfl (lv_at hl 0 rfl) ?_
        obtain ⟨v22, e23, h⟩ := ob_out h
        refine r_gN (pc := 92) (k := 11) F S e23 (by decide) cl12 inRX12 (by decide) w914 (fun _ => rfl) dX12_order_92 ?_
        obtain ⟨v24, d25, h⟩ := ob_out h
        have J26 : ∀ (H : Heap) (locs : List Loc) (ls : Array Slot), ST G M M18 s H locs → lv_has ls 3 [(0, .ref (G.2.1 0)), (1, .int v5)] → W p l e (Rm 4 93) s m args below meth c H locs 0 0 (MQ below (va_Qv (fun _ : Unit => True) (fun _ t => Wd G M Mo t) (AG G.2.1)) args s 0 0 (AG G.2.1)) (F0 m 103 ls [.int v24, .int v20, .ref (G.2.1 0)]) := by
          intro H locs ls S hl
          refine lv_iadd (pc := 103) hx hb dX12_order_103 ?_
          obtain ⟨M27, e28, h⟩ := ob_out h
          refine r_pN (pc := 104) (k := 10) (ty0 := tyX12) F S e28 (by decide) cl12 inRX12 tyX12_ok nmX12 (by decide) w913 rfl (by decide +kernel) (fun _ => Nat.le_of_ble_eq_true rfl) (fun _ => pf_12_10) dX12_order_104 (fun H locs S => ?_)
          refine lv_aload_n (pc := 107) hx hb dX12_order_107 rfl (lv_at hl 0 rfl) ?_
          refine lv_iload_n (pc := 108) hx hb dX12_order_108 rfl (lv_at hl 1 rfl) ?_
          refine lv_bipush (pc := 109) (v := 114) hx hb dX12_order_109 (by decide) ?_
          obtain ⟨v29, M30, d31, h⟩ := ob2_out h
          have J32 : ∀ (H : Heap) (locs : List Loc) (ls : Array Slot), ST G M M30 s H locs → lv_has ls 3 [(0, .ref (G.2.1 0)), (1, .int v5)] → W p l e (Rm 4 93) s m args below meth c H locs 0 0 (MQ below (va_Qv (fun _ : Unit => True) (fun _ t => Wd G M Mo t) (AG G.2.1)) args s 0 0 (AG G.2.1)) (F0 m 135 ls [.int v29, .ref (G.2.1 0)]) := by
            intro H locs ls S hl
            obtain ⟨M33, e34, h⟩ := ob_out h
            refine r_pN (pc := 135) (k := 15) (ty0 := tyX12) F S e34 (by decide) cl12 inRX12 tyX12_ok nmX12 (by decide) w918 rfl (by decide +kernel) (fun _ => Nat.le_of_ble_eq_true rfl) (fun _ => pf_12_15) dX12_order_135 (fun H locs S => ?_)
            refine lv_iload_n (pc := 138) hx hb dX12_order_138 rfl (lv_at hl 1 rfl) ?_
            refine lv_bipush (pc := 139) (v := 114) hx hb dX12_order_139 (by decide) ?_
            obtain ⟨v35, M36, d37, h⟩ := ob2_out h
            have J38 : ∀ (H : Heap) (locs : List Loc) (ls : Array Slot), ST G M M36 s H locs → lv_has ls 3 [(0, .ref (G.2.1 0)), (1, .int v5)] → W p l e (Rm 4 93) s m args below meth c H locs 0 0 (MQ below (va_Qv (fun _ : Unit => True) (fun _ t => Wd G M Mo t) (AG G.2.1)) args s 0 0 (AG G.2.1)) (F0 m 156 ls [.int v35]) := by
              intro H locs ls S hl
              refine lv_istore_n (pc := 156) (lv' := [(2, .int v35), (0, .ref (G.2.1 0)), (1, .int v5)]) hx hb dX12_order_156 rfl hl (by decide) rfl (fun ls hl => ?_)
              refine lv_aload_n (pc := 157) hx hb dX12_order_157 rfl (lv_at hl 1 rfl) ?_
              refine lv_iload_n (pc := 158) hx hb dX12_order_158 rfl (lv_at hl 2 rfl) ?_
              refine lv_bipush (pc := 159) (v := 114) hx hb dX12_order_159 (by decide) ?_
              refine lv_icmp_ne (pc := 161) (tgt := 174) hx hb dX12_order_161 (by decide) (fun c39 => ?_) (fun c39 => ?_)
              · replace h := (if_neg c39).symm.trans h
                refine lv_iconst (pc := 174) (v := 0) hx hb dX12_order_174 (by decide) ?_
                obtain ⟨M40, e41, h⟩ := ob_out h
                refine r_pN (pc := 175) (k := 16) (ty0 := tyX12) F S e41 (by decide) cl12 inRX12 tyX12_ok nmX12 (by decide) w919 rfl (by decide +kernel) (fun _ => Nat.le_of_ble_eq_true rfl) (fun _ => pf_12_16) dX12_order_175 (fun H locs S => ?_)
                cases h
                exact r_vret (pc := 178) F S dX12_order_178
              · replace h := (if_pos c39).symm.trans h
                refine lv_aload_n (pc := 164) hx hb dX12_order_164 rfl (lv_at hl 1 rfl) ?_
                refine lv_iconst (pc := 165) (v := 1) hx hb dX12_order_165 (by decide) ?_
                refine lv_bipush (pc := 166) (v := 50) hx hb dX12_order_166 (by decide) ?_
                obtain ⟨v43, M44, e42, h⟩ := ob2_out h
                refine c_vI (pc := 168) (rest := [.ref (G.2.1 0)]) F S (tX12_number e42) mfX12_number (by decide) (by decide) cl12 w1123 ⟨Nat.le_of_ble_eq_true rfl, Nat.le_of_ble_eq_true rfl⟩ rfl hl.1 rfl (Nat.le_of_ble_eq_true rfl) dX12_order_168 (fun H locs S => ?_)
                refine lv_goto (pc := 171) (tgt := 175) hx hb dX12_order_171 (by decide) ?_
                obtain ⟨M45, e46, h⟩ := ob_out h
                refine r_pN (pc := 175) (k := 16) (ty0 := tyX12) F S e46 (by decide) cl12 inRX12 tyX12_ok nmX12 (by decide) w919 rfl (by decide +kernel) (fun _ => Nat.le_of_ble_eq_true rfl) (fun _ => pf_12_16) dX12_order_175 (fun H locs S => ?_)
                cases h
                exact r_vret (pc := 178) F S dX12_order_178
            refine lv_icmp_ne (pc := 141) (tgt := 155) hx hb dX12_order_141 (by decide) (fun c47 => ?_) (fun c47 => ?_)
            · replace d37 := (if_neg c47).symm.trans d37
              refine lv_iconst (pc := 155) (v := 0) hx hb dX12_order_155 (by decide) ?_
              cases d37
              exact J38 H locs ls S (lv_sub hl [0, 1] rfl)
            · replace d37 := (if_pos c47).symm.trans d37
              refine lv_aload_n (pc := 144) hx hb dX12_order_144 rfl (lv_at hl 0 rfl) ?_
              refine lv_bipush (pc := 145) (v := 47) hx hb dX12_order_145 (by decide) ?_
              refine lv_bipush (pc := 147) (v := 47) hx hb dX12_order_147 (by decide) ?_
              obtain ⟨v49, M50, e48, d37⟩ := ob2_out d37
              refine c_vI (pc := 149) (rest := []) F S (tX12_sign e48) mfX12_sign (by decide) (by decide) cl12 w1127 ⟨Nat.le_of_ble_eq_true rfl, Nat.le_of_ble_eq_true rfl⟩ rfl hl.1 rfl (Nat.le_of_ble_eq_true rfl) dX12_order_149 (fun H locs S => ?_)
              refine lv_goto (pc := 152) (tgt := 156) hx hb dX12_order_152 (by decide) ?_
              cases d37
              exact J38 H locs ls S (lv_sub hl [0, 1] rfl)
          refine lv_icmp_eq (pc := 111) (tgt := 120) hx hb dX12_order_111 (by decide) (fun c51 => ?_) (fun c51 => ?_)
          · replace d31 := (if_pos c51).symm.trans d31
            refine lv_aload_n (pc := 120) hx hb dX12_order_120 rfl (lv_at hl 0 rfl) ?_
            refine lv_bipush (pc := 121) (v := 48) hx hb dX12_order_121 (by decide) ?_
            refine lv_bipush (pc := 123) (v := 55) hx hb dX12_order_123 (by decide) ?_
            obtain ⟨v53, M54, e52, d31⟩ := ob2_out d31
            refine c_vI (pc := 125) (rest := [.ref (G.2.1 0)]) F S (tX12_sign e52) mfX12_sign (by decide) (by decide) cl12 w1127 ⟨Nat.le_of_ble_eq_true rfl, Nat.le_of_ble_eq_true rfl⟩ rfl hl.1 rfl (Nat.le_of_ble_eq_true rfl) dX12_order_125 (fun H locs S => ?_)
            refine lv_bipush (pc := 128) (v := 48) hx hb dX12_order_128 (by decide) ?_
            refine lv_isub (pc := 130) hx hb dX12_order_130 ?_
            refine lv_goto (pc := 131) (tgt := 135) hx hb dX12_order_131 (by decide) ?_
            cases d31
            exact J32 H locs ls S (lv_sub hl [0, 1] rfl)
          · replace d31 := (if_neg c51).symm.trans d31
            refine lv_iload_n (pc := 114) hx hb dX12_order_114 rfl (lv_at hl 1 rfl) ?_
            refine lv_bipush (pc := 115) (v := 103) hx hb dX12_order_115 (by decide) ?_
            refine lv_icmp_ne (pc := 117) (tgt := 134) hx hb dX12_order_117 (by decide) (fun c55 => ?_) (fun c55 => ?_)
            · replace d31 := (if_neg c55).symm.trans d31
              refine lv_iconst (pc := 134) (v := 0) hx hb dX12_order_134 (by decide) ?_
              cases d31
              exact J32 H locs ls S (lv_sub hl [0, 1] rfl)
            · replace d31 := (if_pos c55).symm.trans d31
              refine lv_aload_n (pc := 120) hx hb dX12_order_120 rfl (lv_at hl 0 rfl) ?_
              refine lv_bipush (pc := 121) (v := 48) hx hb dX12_order_121 (by decide) ?_
              refine lv_bipush (pc := 123) (v := 55) hx hb dX12_order_123 (by decide) ?_
              obtain ⟨v57, M58, e56, d31⟩ := ob2_out d31
              refine c_vI (pc := 125) (rest := [.ref (G.2.1 0)]) F S (tX12_sign e56) mfX12_sign (by decide) (by decide) cl12 w1127 ⟨Nat.le_of_ble_eq_true rfl, Nat.le_of_ble_eq_true rfl⟩ rfl hl.1 rfl (Nat.le_of_ble_eq_true rfl) dX12_order_125 (fun H locs S => ?_)
              refine lv_bipush (pc := 128) (v := 48) hx hb dX12_order_128 (by decide) ?_
              refine lv_isub (pc := 130) hx hb dX12_order_130 ?_
              refine lv_goto (pc := 131) (tgt := 135) hx hb dX12_order_131 (by decide) ?_
              cases d31
              exact J32 H locs ls S (lv_sub hl [0, 1] rfl)
        refine lv_if_eq (pc := 95) (tgt := 102) hx hb dX12_order_95 (by decide) (fun c59 => ?_) (fun c59 => ?_)
        · replace d25 := (if_pos c59).symm.trans d25
          refine lv_iconst (pc := 102) (v := 1) hx hb dX12_order_102 (by decide) ?_
          cases d25
          exact J26 H locs ls S (lv_sub hl [0, 1] rfl)
        · replace d25 := (if_neg c59).symm.trans d25
          refine lv_iconst (pc := 98) (v := 0) hx hb dX12_order_98 (by decide) ?_
          refine lv_goto (pc := 99) (tgt := 103) hx hb dX12_order_99 (by decide) ?_
          cases d25
          exact J26 H locs ls S (lv_sub hl [0, 1] rfl)
      refine lv_if_ne (pc := 57) (tgt := 78) hx hb dX12_order_57 (by decide) (fun c60 => ?_) (fun c60 => ?_)
      · replace d16 := (if_neg c60).symm.trans d16
        refine lv_iconst (pc := 78) (v := 1) hx hb dX12_order_78 (by decide) ?_
        refine lv_goto (pc := 79) (tgt := 83) hx hb dX12_order_79 (by decide) ?_
        cases d16
        exact J17 H locs ls S (lv_sub hl [1, 0] rfl)
      · replace d16 := (if_pos c60).symm.trans d16
        refine lv_iload_n (pc := 60) hx hb dX12_order_60 rfl (lv_at hl 0 rfl) ?_
        refine lv_bipush (pc := 61) (v := 114) hx hb dX12_order_61 (by decide) ?_
        refine lv_icmp_eq (pc := 63) (tgt := 82) hx hb dX12_order_63 (by decide) (fun c61 => ?_) (fun c61 => ?_)
        · replace d16 := (if_pos c61).symm.trans d16
          refine lv_iconst (pc := 82) (v := 0) hx hb dX12_order_82 (by decide) ?_
          cases d16
          exact J17 H locs ls S (lv_sub hl [1, 0] rfl)
        · replace d16 := (if_neg c61).symm.trans d16
          refine lv_iload_n (pc := 66) hx hb dX12_order_66 rfl (lv_at hl 0 rfl) ?_
          refine lv_bipush (pc := 67) (v := 103) hx hb dX12_order_67 (by decide) ?_
          refine lv_icmp_eq (pc := 69) (tgt := 82) hx hb dX12_order_69 (by decide) (fun c62 => ?_) (fun c62 => ?_)
          · replace d16 := (if_pos c62).symm.trans d16
            refine lv_iconst (pc := 82) (v := 0) hx hb dX12_order_82 (by decide) ?_
            cases d16
            exact J17 H locs ls S (lv_sub hl [1, 0] rfl)
          · replace d16 := (if_neg c62).symm.trans d16
            refine lv_iload_n (pc := 72) hx hb dX12_order_72 rfl (lv_at hl 0 rfl) ?_
            refine lv_bipush (pc := 73) (v := 120) hx hb dX12_order_73 (by decide) ?_
            refine lv_icmp_eq (pc := 75) (tgt := 82) hx hb dX12_order_75 (by decide) (fun c63 => ?_) (fun c63 => ?_)
            · replace d16 := (if_pos c63).symm.trans d16
              refine lv_iconst (pc := 82) (v := 0) hx hb dX12_order_82 (by decide) ?_
              cases d16
              exact J17 H locs ls S (lv_sub hl [1, 0] rfl)
            · replace d16 := (if_neg c63).symm.trans d16
              refine lv_iconst (pc := 78) (v := 1) hx hb dX12_order_78 (by decide) ?_
              refine lv_goto (pc := 79) (tgt := 83) hx hb dX12_order_79 (by decide) ?_
              cases d16
              exact J17 H locs ls S (lv_sub hl [1, 0] rfl)
    · replace h := (if_neg c10).symm.trans h
      refine lv_aload_n (pc := 36) hx hb dX12_order_36 rfl (lv_at hl 1 rfl) ?_
      refine lv_bipush (pc := 37) (v := 64) hx hb dX12_order_37 (by decide) ?_
      obtain ⟨M64, e65, h⟩ := ob_out h
      refine r_pN (pc := 39) (k := 14) (ty0 := tyX12) F S e65 (by decide) cl12 inRX12 tyX12_ok nmX12 (by decide) w917 rfl (by decide +kernel) (fun _ => Nat.le_of_ble_eq_true rfl) (fun _ => pf_12_14) dX12_order_39 (fun H locs S => ?_)
      refine lv_aload_n (pc := 42) hx hb dX12_order_42 rfl (lv_at hl 1 rfl) ?_
      obtain ⟨M67, e66, h⟩ := ob_out h
      refine c_vV (pc := 43) (rest := []) F S (tX12_readLamps e66) mfX12_readLamps (by decide) (by decide) cl12 w1119 ⟨Nat.le_of_ble_eq_true rfl, Nat.le_of_ble_eq_true rfl⟩ rfl hl.1 rfl (Nat.le_of_ble_eq_true rfl) dX12_order_43 (fun H locs S => ?_)
      cases h
      exact r_vret (pc := 46) F S dX12_order_46
  refine lv_icmp_ge (pc := 8) (tgt := 23) hx hb dX12_order_8 (by decide) (fun c68 => ?_) (fun c68 => ?_)
  · replace d6 := (if_pos c68).symm.trans d6
    refine lv_iconst (pc := 23) (v := 0) hx hb dX12_order_23 (by decide) ?_
    cases d6
    exact J7 H locs ls S (lv_sub hl [0] rfl)
  · replace d6 := (if_neg c68).symm.trans d6
    refine lv_aload_n (pc := 11) hx hb dX12_order_11 rfl (lv_at hl 0 rfl) ?_
    refine r_gR (pc := 12) (k := 6) (x := 6) (i := 0) (ci := 12) F S (by decide) (by decide) cl12 inRX12 (by decide) w909 (fun _ => rfl) dX12_order_12 ?_
    refine lv_aload_n (pc := 15) hx hb dX12_order_15 rfl (lv_at hl 0 rfl) ?_
    obtain ⟨v69, e70, d6⟩ := ob_out d6
    refine r_gN (pc := 16) (k := 10) F S e70 (by decide) cl12 inRX12 (by decide) w913 (fun _ => rfl) dX12_order_16 ?_
    obtain ⟨v71, e72, d6⟩ := ob_out d6
    refine r_nL (pc := 19) F S e72 dX12_order_19 ?_
    refine lv_goto (pc := 20) (tgt := 24) hx hb dX12_order_20 (by decide) ?_
    cases d6
    exact J7 H locs ls S (lv_sub hl [0] rfl)
theorem mfX12_wants : MF true yX12_wants RX12 cX12_wants 6 (some .boolean) 1 := ⟨w1142, w13, by rw [if_pos rfl]; exact ⟨w1141, wp41⟩, ⟨by decide, by decide⟩, by decide +kernel⟩
set_option maxHeartbeats 4000000 in
theorem pX12_wants_L50 {p : Program} {l : Launch} {e : Env} {s : State} {m : MethodId} {args : Array Value} {below : List Frame} {meth : Method} {c : Code} {Q : State → Prop} {G : GD} (F : FX p s m args meth c RX12 cX12_wants 6 (some .boolean) G) : ∀ (n : Nat) {M N : Mem} {a1 : Int32} {a2 : Int32} {a3 : Int32} {a4 : Int32} {a5 : Int32} {H : Heap} {locs : List Loc} {ls : Array Slot} {z : (Mem) ⊕ (Int32 × Mem)}, ST G M N s H locs → lv_has ls 6 [(0, .ref (G.2.1 0)), (1, .int a1), (2, .int a2), (3, .int a3), (4, .int a4), (5, .int a5)] → fX12_wants_L50 n N a1 a2 a3 a4 a5 = some z → (K1 : ∀ (Mo : Mem), z = .inl Mo → ∀ (H : Heap) (locs : List Loc) (ls : Array Slot), ST G M Mo s H locs → lv_has ls 6 [(0, .ref (G.2.1 0)), (1, .int a1), (2, .int a2)] → W p l e (Rm 3 64) s m args below meth c H locs 0 0 Q (F0 m 97 ls [])) → (K2 : ∀ (r : Int32) (Mr : Mem), z = .inr (r, Mr) → ∀ (H : Heap) (locs : List Loc) (ls : Array Slot) (pcr : Nat), ST G M Mr s H locs → decode cX12_wants pcr = .ok (.ireturn, 1) → W p l e (Rm 3 64) s m args below meth c H locs 0 0 Q (F0 m pcr ls [.int r])) → W p l e (Rm 3 64) s m args below meth c H locs 0 0 Q (F0 m 50 ls []) := by
  intro n
  induction n with
  | zero => intro M N a1 a2 a3 a4 a5 H locs ls z S hl h K1 K2; cases h
  | succ n ih =>
    intro M N a1 a2 a3 a4 a5 H locs ls z S hl h K1 K2
    rw [fX12_wants_L50] at h
    have hx := F.1
    have hb := F.2.1
    have hown := F.2.2.2.2.1
    have hts := F.2.2.2.2.2.1
    have hZ := F.2.2.2.2.2.2.2.2.2
    refine lv_iload (pc := 50) hx hb dX12_wants_50 (lv_at hl 5 rfl) ?_
    refine lv_iload_n (pc := 52) hx hb dX12_wants_52 rfl (lv_at hl 3 rfl) ?_
    refine lv_iload (pc := 53) hx hb dX12_wants_53 (lv_at hl 4 rfl) ?_
    refine lv_iadd (pc := 55) hx hb dX12_wants_55 ?_
    refine lv_icmp_eq (pc := 56) (tgt := 97) hx hb dX12_wants_56 (by decide) (fun c13 => ?_) (fun c13 => ?_)
    · replace h := (if_pos c13).symm.trans h
      cases h
      exact K1 _ rfl H locs ls S (lv_sub hl [0, 1, 2] rfl)
    · replace h := (if_neg c13).symm.trans h
      refine lv_aload_n (pc := 59) hx hb dX12_wants_59 rfl (lv_at hl 0 rfl) ?_
      refine lv_iload_n (pc := 60) hx hb dX12_wants_60 rfl (lv_at hl 1 rfl) ?_
      refine lv_iload (pc := 61) hx hb dX12_wants_61 (lv_at hl 5 rfl) ?_
      obtain ⟨v15, e14, h⟩ := ob_out h
      refine c_vI (pc := 63) (rest := []) F S (tX12_isLamp e14) mfX12_isLamp (by decide) (by decide) cl12 w1007 ⟨Nat.le_of_ble_eq_true rfl, Nat.le_of_ble_eq_true rfl⟩ rfl hl.1 rfl (Nat.le_of_ble_eq_true rfl) dX12_wants_63 (fun H locs S => ?_)
      refine lv_if_ne (pc := 66) (tgt := 71) hx hb dX12_wants_66 (by decide) (fun c16 => ?_) (fun c16 => ?_)
      · replace h := (if_neg c16).symm.trans h
        refine lv_aload_n (pc := 71) hx hb dX12_wants_71 rfl (lv_at hl 0 rfl) ?_
        refine r_gR (pc := 72) (k := 0) (x := 1) (i := 0) (ci := 12) F S (by decide) (by decide) cl12 inRX12 (by decide) w903 (fun _ => rfl) dX12_wants_72 ?_
        refine lv_iload_n (pc := 75) hx hb dX12_wants_75 rfl (lv_at hl 1 rfl) ?_
        refine lv_iload (pc := 76) hx hb dX12_wants_76 (lv_at hl 5 rfl) ?_
        refine lv_iconst (pc := 78) (v := 2) hx hb dX12_wants_78 (by decide) ?_
        obtain ⟨v18, e17, h⟩ := ob_out h
        refine c_sI (pc := 79) (rest := [.ref (G.2.1 1)]) F S (tX12_ofLamp e17) mfX12_ofLamp w997 ⟨Nat.le_of_ble_eq_true rfl, Nat.le_of_ble_eq_true rfl⟩ rfl hl.1 rfl (Nat.le_of_ble_eq_true rfl) dX12_wants_79 (fun H locs S => ?_)
        refine lv_aload_n (pc := 82) hx hb dX12_wants_82 rfl (lv_at hl 0 rfl) ?_
        obtain ⟨v19, e20, h⟩ := ob_out h
        refine r_gN (pc := 83) (k := 15) F S e20 (by decide) cl12 inRX12 (by decide) w918 (fun _ => rfl) dX12_wants_83 ?_
        obtain ⟨M21, e22, h⟩ := ob_out h
        refine r_nS (pc := 86) F S e22 dX12_wants_86 (fun H locs S => ?_)
        refine lv_iload (pc := 87) hx hb dX12_wants_87 (lv_at hl 5 rfl) ?_
        refine lv_iload (pc := 89) hx hb dX12_wants_89 (lv_at hl 4 rfl) ?_
        refine lv_iadd (pc := 91) hx hb dX12_wants_91 ?_
        obtain ⟨v23, e24, h⟩ := lt1_out h
        refine nm_i e24 ?_
        refine lv_istore (pc := 92) (lv' := [(5, .int v23), (0, .ref (G.2.1 0)), (1, .int a1), (2, .int a2), (3, .int a3), (4, .int a4)]) hx hb dX12_wants_92 hl (by decide) rfl (fun ls hl => ?_)
        refine lv_goto (pc := 94) (tgt := 50) hx hb dX12_wants_94 (by decide) ?_
        exact ih S (lv_sub hl [1, 2, 3, 4, 5, 0] rfl) h K1 K2
      · replace h := (if_pos c16).symm.trans h
        refine lv_iconst (pc := 69) (v := 0) hx hb dX12_wants_69 (by decide) ?_
        cases h
        exact K2 _ _ rfl H locs ls 70 S dX12_wants_70
set_option maxHeartbeats 4000000 in
theorem pX12_wants_L2 {p : Program} {l : Launch} {e : Env} {s : State} {m : MethodId} {args : Array Value} {below : List Frame} {meth : Method} {c : Code} {Q : State → Prop} {G : GD} (F : FX p s m args meth c RX12 cX12_wants 6 (some .boolean) G) : ∀ (n : Nat) {M N : Mem} {a1 : Int32} {a2 : Int32} {H : Heap} {locs : List Loc} {ls : Array Slot} {z : (Mem) ⊕ (Int32 × Mem)}, ST G M N s H locs → lv_has ls 6 [(0, .ref (G.2.1 0)), (1, .int a1), (2, .int a2)] → fX12_wants_L2 n N a1 a2 = some z → (K1 : ∀ (Mo : Mem), z = .inl Mo → ∀ (H : Heap) (locs : List Loc) (ls : Array Slot), ST G M Mo s H locs → lv_has ls 6 [] → W p l e (Rm 3 64) s m args below meth c H locs 0 0 Q (F0 m 103 ls [])) → (K2 : ∀ (r : Int32) (Mr : Mem), z = .inr (r, Mr) → ∀ (H : Heap) (locs : List Loc) (ls : Array Slot) (pcr : Nat), ST G M Mr s H locs → decode cX12_wants pcr = .ok (.ireturn, 1) → W p l e (Rm 3 64) s m args below meth c H locs 0 0 Q (F0 m pcr ls [.int r])) → W p l e (Rm 3 64) s m args below meth c H locs 0 0 Q (F0 m 2 ls []) := by
  intro n
  induction n with
  | zero => intro M N a1 a2 H locs ls z S hl h K1 K2; cases h
  | succ n ih =>
    intro M N a1 a2 H locs ls z S hl h K1 K2
    rw [fX12_wants_L2] at h
    have hx := F.1
    have hb := F.2.1
    have hown := F.2.2.2.2.1
    have hts := F.2.2.2.2.2.1
    have hZ := F.2.2.2.2.2.2.2.2.2
    refine lv_iload_n (pc := 2) hx hb dX12_wants_2 rfl (lv_at hl 2 rfl) ?_
    refine lv_aload_n (pc := 3) hx hb dX12_wants_3 rfl (lv_at hl 0 rfl) ?_
    obtain ⟨v1, e2, h⟩ := ob_out h
    refine r_gN (pc := 4) (k := 13) F S e2 (by decide) cl12 inRX12 (by decide) w916 (fun _ => rfl) dX12_wants_4 ?_
    refine lv_icmp_ge (pc := 7) (tgt := 103) hx hb dX12_wants_7 (by decide) (fun c3 => ?_) (fun c3 => ?_)
    · replace h := (if_pos c3).symm.trans h
      cases h
      exact K1 _ rfl H locs ls S (lv_sub hl [] rfl)
    · replace h := (if_neg c3).symm.trans h
      refine lv_aload_n (pc := 10) hx hb dX12_wants_10 rfl (lv_at hl 0 rfl) ?_
      refine r_gR (pc := 11) (k := 12) (x := 9) (i := 0) (ci := 12) F S (by decide) (by decide) cl12 inRX12 (by decide) w915 (fun _ => rfl) dX12_wants_11 ?_
      refine lv_iconst (pc := 14) (v := 2) hx hb dX12_wants_14 (by decide) ?_
      refine lv_iload_n (pc := 15) hx hb dX12_wants_15 rfl (lv_at hl 2 rfl) ?_
      refine lv_imul (pc := 16) hx hb dX12_wants_16 ?_
      refine lv_iconst (pc := 17) (v := 1) hx hb dX12_wants_17 (by decide) ?_
      refine lv_iadd (pc := 18) hx hb dX12_wants_18 ?_
      obtain ⟨v4, e5, h⟩ := ob_out h
      refine r_nL (pc := 19) F S e5 dX12_wants_19 ?_
      refine lv_istore_n (pc := 20) (lv' := [(3, .int v4), (0, .ref (G.2.1 0)), (1, .int a1), (2, .int a2)]) hx hb dX12_wants_20 rfl hl (by decide) rfl (fun ls hl => ?_)
      refine lv_iload_n (pc := 21) hx hb dX12_wants_21 rfl (lv_at hl 0 rfl) ?_
      refine lv_aload_n (pc := 22) hx hb dX12_wants_22 rfl (lv_at hl 1 rfl) ?_
      refine r_gR (pc := 23) (k := 12) (x := 9) (i := 0) (ci := 12) F S (by decide) (by decide) cl12 inRX12 (by decide) w915 (fun _ => rfl) dX12_wants_23 ?_
      refine lv_iconst (pc := 26) (v := 2) hx hb dX12_wants_26 (by decide) ?_
      refine lv_iload_n (pc := 27) hx hb dX12_wants_27 rfl (lv_at hl 3 rfl) ?_
      refine lv_imul (pc := 28) hx hb dX12_wants_28 ?_
      obtain ⟨v6, e7, h⟩ := ob_out h
      refine r_nL (pc := 29) F S e7 dX12_wants_29 ?_
      obtain ⟨v8, d9, h⟩ := ob_out h
      have J10 : ∀ (H : Heap) (locs : List Loc) (ls : Array Slot), ST G M N s H locs → lv_has ls 6 [(0, .ref (G.2.1 0)), (1, .int a1), (2, .int a2), (3, .int v4)] → W p l e (Rm 3 64) s m args below meth c H locs 0 0 Q (F0 m 38 ls [.int v8]) := by
        intro H locs ls S hl
        refine lv_istore (pc := 38) (lv' := [(4, .int v8), (0, .ref (G.2.1 0)), (1, .int a1), (2, .int a2), (3, .int v4)]) hx hb dX12_wants_38 hl (by decide) rfl (fun ls hl => ?_)
        refine lv_aload_n (pc := 40) hx hb dX12_wants_40 rfl (lv_at hl 1 rfl) ?_
        refine r_gR (pc := 41) (k := 12) (x := 9) (i := 0) (ci := 12) F S (by decide) (by decide) cl12 inRX12 (by decide) w915 (fun _ => rfl) dX12_wants_41 ?_
        refine lv_iconst (pc := 44) (v := 2) hx hb dX12_wants_44 (by decide) ?_
        refine lv_iload_n (pc := 45) hx hb dX12_wants_45 rfl (lv_at hl 3 rfl) ?_
        refine lv_imul (pc := 46) hx hb dX12_wants_46 ?_
        obtain ⟨v11, e12, h⟩ := ob_out h
        refine r_nL (pc := 47) F S e12 dX12_wants_47 ?_
        refine lv_istore (pc := 48) (lv' := [(5, .int v11), (4, .int v8), (0, .ref (G.2.1 0)), (1, .int a1), (2, .int a2), (3, .int v4)]) hx hb dX12_wants_48 hl (by decide) rfl (fun ls hl => ?_)
        obtain ⟨z15, e14, h⟩ := ob_out h
        refine pX12_wants_L50 F 5000 S (lv_sub hl [2, 3, 4, 5, 1, 0] rfl) e14 (fun M13 e16 H locs ls S hl => ?_) (fun v17 M18 e16 H locs ls pcr S hdr => ?_)
        rotate_left
        · subst e16
          replace h := caseS_r h
          cases h
          exact K2 _ _ rfl H locs ls pcr S hdr
        subst e16
        replace h := caseS_l h
        refine lv_iinc (pc := 97) (lv' := [(2, .int (a2 + 1)), (0, .ref (G.2.1 0)), (1, .int a1)]) hx hb dX12_wants_97 hl (k := 2) rfl (iinc_n (by decide)) (by decide) rfl (fun ls hl => ?_)
        refine lv_goto (pc := 100) (tgt := 2) hx hb dX12_wants_100 (by decide) ?_
        exact ih S (lv_sub hl [1, 2, 0] rfl) h K1 K2
      refine lv_icmp_ge (pc := 30) (tgt := 37) hx hb dX12_wants_30 (by decide) (fun c19 => ?_) (fun c19 => ?_)
      · replace d9 := (if_pos c19).symm.trans d9
        refine lv_iconst (pc := 37) (v := 1) hx hb dX12_wants_37 (by decide) ?_
        cases d9
        exact J10 H locs ls S (lv_sub hl [1, 2, 3, 0] rfl)
      · replace d9 := (if_neg c19).symm.trans d9
        refine lv_iconst (pc := 33) (v := (-1)) hx hb dX12_wants_33 (by decide) ?_
        refine lv_goto (pc := 34) (tgt := 38) hx hb dX12_wants_34 (by decide) ?_
        cases d9
        exact J10 H locs ls S (lv_sub hl [1, 2, 3, 0] rfl)
set_option maxHeartbeats 4000000 in
theorem tX12_wants {l : Launch} {G : GD} {M N Mo : Mem} {a1 : Int32} {r : Int32} (h : fX12_wants N a1 = some (r, Mo)) : MI l yX12_wants cX12_wants 6 .boolean 3 64 G [.ref (G.2.1 0), .int a1] M N r M Mo := by
  unfold fX12_wants at h
  refine MI_of (own := RX12) (by decide) rfl (Nat.le_of_ble_eq_true rfl) ?_
  intro p e s m args below meth c F S ls hl
  have hx := F.1
  have hb := F.2.1
  have hown := F.2.2.2.2.1
  have hts := F.2.2.2.2.2.1
  have hZ := F.2.2.2.2.2.2.2.2.2
  have hl : lv_has ls 6 [(0, .ref (G.2.1 0)), (1, .int a1)] := hl
  generalize s.heap = H, ([] : List Loc) = locs at S ⊢
  refine lv_iconst (pc := 0) (v := 0) hx hb dX12_wants_0 (by decide) ?_
  refine lv_istore_n (pc := 1) (lv' := [(2, .int 0), (0, .ref (G.2.1 0)), (1, .int a1)]) hx hb dX12_wants_1 rfl hl (by decide) rfl (fun ls hl => ?_)
  obtain ⟨z3, e2, h⟩ := ob_out h
  refine pX12_wants_L2 F 5000 S (lv_sub hl [1, 2, 0] rfl) e2 (fun M1 e4 H locs ls S hl => ?_) (fun v5 M6 e4 H locs ls pcr S hdr => ?_)
  rotate_left
  · subst e4
    replace h := caseS_r h
    obtain ⟨b7, e8, h⟩ := ob_out h
    cases h
    refine nm_i (bz_out e8).1 ?_
    exact r_iret F S (bool_narrow (by rw [← (bz_out e8).1]; exact (bz_out e8).2)).1 hdr
  subst e4
  replace h := caseS_l h
  refine lv_iconst (pc := 103) (v := 1) hx hb dX12_wants_103 (by decide) ?_
  cases h
  exact r_iret (pc := 104) F S rfl dX12_wants_104
theorem mfX12_does : MF true yX12_does RX12 cX12_does 4 (some .boolean) 1 := ⟨w1138, w13, by rw [if_pos rfl]; exact ⟨w1137, wp40⟩, ⟨by decide, by decide⟩, by decide +kernel⟩
set_option maxHeartbeats 4000000 in
theorem tX12_does {l : Launch} {G : GD} {M N Mo : Mem} {a1 : Int32} {r : Int32} (h : fX12_does N a1 = some (r, Mo)) : MI l yX12_does cX12_does 4 .boolean 4 89 G [.ref (G.2.1 0), .int a1] M N r M Mo := by
  unfold fX12_does at h
  refine MI_of (own := RX12) (by decide) rfl (Nat.le_of_ble_eq_true rfl) ?_
  intro p e s m args below meth c F S ls hl
  have hx := F.1
  have hb := F.2.1
  have hown := F.2.2.2.2.1
  have hts := F.2.2.2.2.2.1
  have hZ := F.2.2.2.2.2.2.2.2.2
  have hl : lv_has ls 4 [(0, .ref (G.2.1 0)), (1, .int a1)] := hl
  generalize s.heap = H, ([] : List Loc) = locs at S ⊢
  refine lv_aload_n (pc := 0) hx hb dX12_does_0 rfl (lv_at hl 0 rfl) ?_
  obtain ⟨v1, e2, h⟩ := ob_out h
  refine r_gN (pc := 1) (k := 14) F S e2 (by decide) cl12 inRX12 (by decide) w917 (fun _ => rfl) dX12_does_1 ?_
  rcases Classical.em (v1 = 64) with c3 | c3
  · replace h := (if_pos c3).symm.trans h
    refine lv_lookup (pc := 4) (tgt := 40) hx hb dX12_does_4 (by decide) (off := 36) (by rw [c3]; decide) (by decide) ?_
    refine lv_aload_n (pc := 40) hx hb dX12_does_40 rfl (lv_at hl 0 rfl) ?_
    refine lv_iload_n (pc := 41) hx hb dX12_does_41 rfl (lv_at hl 1 rfl) ?_
    obtain ⟨v5, M6, e4, h⟩ := ob2_out h
    refine c_vI (pc := 42) (rest := []) F S (tX12_wants e4) mfX12_wants (by decide) (by decide) cl12 w1139 ⟨Nat.le_of_ble_eq_true rfl, Nat.le_of_ble_eq_true rfl⟩ rfl hl.1 rfl (Nat.le_of_ble_eq_true rfl) dX12_does_42 (fun H locs S => ?_)
    obtain ⟨b7, e8, h⟩ := ob_out h
    cases h
    refine nm_i (bz_out e8).1 ?_
    exact r_iret (pc := 45) F S (bool_narrow (by rw [← (bz_out e8).1]; exact (bz_out e8).2)).1 dX12_does_45
  replace h := (if_neg c3).symm.trans h
  rcases Classical.em (v1 = 103) with c9 | c9
  · replace h := (if_pos c9).symm.trans h
    refine lv_lookup (pc := 4) (tgt := 62) hx hb dX12_does_4 (by decide) (off := 58) (by rw [c9]; decide) (by decide) ?_
    refine lv_aload_n (pc := 62) hx hb dX12_does_62 rfl (lv_at hl 0 rfl) ?_
    refine r_gR (pc := 63) (k := 0) (x := 1) (i := 0) (ci := 12) F S (by decide) (by decide) cl12 inRX12 (by decide) w903 (fun _ => rfl) dX12_does_63 ?_
    refine lv_iload_n (pc := 66) hx hb dX12_does_66 rfl (lv_at hl 1 rfl) ?_
    refine lv_aload_n (pc := 67) hx hb dX12_does_67 rfl (lv_at hl 0 rfl) ?_
    obtain ⟨v10, e11, h⟩ := ob_out h
    refine r_gN (pc := 68) (k := 15) F S e11 (by decide) cl12 inRX12 (by decide) w918 (fun _ => rfl) dX12_does_68 ?_
    obtain ⟨v13, e12, h⟩ := ob_out h
    refine c_sI (pc := 71) (rest := [.ref (G.2.1 1)]) F S (tX12_ofCue e12) mfX12_ofCue w1000 ⟨Nat.le_of_ble_eq_true rfl, Nat.le_of_ble_eq_true rfl⟩ rfl hl.1 rfl (Nat.le_of_ble_eq_true rfl) dX12_does_71 (fun H locs S => ?_)
    obtain ⟨v14, e15, h⟩ := ob_out h
    refine r_nL (pc := 74) F S e15 dX12_does_74 ?_
    refine lv_if_le (pc := 75) (tgt := 102) hx hb dX12_does_75 (by decide) (fun c16 => ?_) (fun c16 => ?_)
    · replace h := (if_pos c16).symm.trans h
      refine lv_iconst (pc := 102) (v := 0) hx hb dX12_does_102 (by decide) ?_
      cases h
      exact r_iret (pc := 103) F S rfl dX12_does_103
    · replace h := (if_neg c16).symm.trans h
      refine lv_aload_n (pc := 78) hx hb dX12_does_78 rfl (lv_at hl 0 rfl) ?_
      refine lv_iload_n (pc := 79) hx hb dX12_does_79 rfl (lv_at hl 1 rfl) ?_
      refine lv_aload_n (pc := 80) hx hb dX12_does_80 rfl (lv_at hl 0 rfl) ?_
      obtain ⟨v17, e18, h⟩ := ob_out h
      refine r_gN (pc := 81) (k := 15) F S e18 (by decide) cl12 inRX12 (by decide) w918 (fun _ => rfl) dX12_does_81 ?_
      refine lv_aload_n (pc := 84) hx hb dX12_does_84 rfl (lv_at hl 0 rfl) ?_
      refine r_gR (pc := 85) (k := 0) (x := 1) (i := 0) (ci := 12) F S (by decide) (by decide) cl12 inRX12 (by decide) w903 (fun _ => rfl) dX12_does_85 ?_
      refine lv_iload_n (pc := 88) hx hb dX12_does_88 rfl (lv_at hl 1 rfl) ?_
      refine lv_aload_n (pc := 89) hx hb dX12_does_89 rfl (lv_at hl 0 rfl) ?_
      obtain ⟨v19, e20, h⟩ := ob_out h
      refine r_gN (pc := 90) (k := 15) F S e20 (by decide) cl12 inRX12 (by decide) w918 (fun _ => rfl) dX12_does_90 ?_
      obtain ⟨v22, e21, h⟩ := ob_out h
      refine c_sI (pc := 93) (rest := [.ref (G.2.1 1), .int v17, .int a1, .ref (G.2.1 0)]) F S (tX12_ofCue e21) mfX12_ofCue w1000 ⟨Nat.le_of_ble_eq_true rfl, Nat.le_of_ble_eq_true rfl⟩ rfl hl.1 rfl (Nat.le_of_ble_eq_true rfl) dX12_does_93 (fun H locs S => ?_)
      obtain ⟨v23, e24, h⟩ := ob_out h
      refine r_nL (pc := 96) F S e24 dX12_does_96 ?_
      obtain ⟨M26, e25, h⟩ := ob_out h
      refine c_vV (pc := 97) (rest := []) F S (tX12_start e25) mfX12_start (by decide) (by decide) cl12 w1066 ⟨Nat.le_of_ble_eq_true rfl, Nat.le_of_ble_eq_true rfl⟩ rfl hl.1 rfl (Nat.le_of_ble_eq_true rfl) dX12_does_97 (fun H locs S => ?_)
      refine lv_iconst (pc := 100) (v := 1) hx hb dX12_does_100 (by decide) ?_
      cases h
      exact r_iret (pc := 101) F S rfl dX12_does_101
  replace h := (if_neg c9).symm.trans h
  rcases Classical.em (v1 = 114) with c27 | c27
  · replace h := (if_pos c27).symm.trans h
    refine lv_lookup (pc := 4) (tgt := 46) hx hb dX12_does_4 (by decide) (off := 42) (by rw [c27]; decide) (by decide) ?_
    refine lv_aload_n (pc := 46) hx hb dX12_does_46 rfl (lv_at hl 0 rfl) ?_
    refine lv_iload_n (pc := 47) hx hb dX12_does_47 rfl (lv_at hl 1 rfl) ?_
    refine lv_aload_n (pc := 48) hx hb dX12_does_48 rfl (lv_at hl 0 rfl) ?_
    obtain ⟨v28, e29, h⟩ := ob_out h
    refine r_gN (pc := 49) (k := 15) F S e29 (by decide) cl12 inRX12 (by decide) w918 (fun _ => rfl) dX12_does_49 ?_
    refine lv_aload_n (pc := 52) hx hb dX12_does_52 rfl (lv_at hl 0 rfl) ?_
    obtain ⟨v30, e31, h⟩ := ob_out h
    refine r_gN (pc := 53) (k := 16) F S e31 (by decide) cl12 inRX12 (by decide) w919 (fun _ => rfl) dX12_does_53 ?_
    obtain ⟨v33, M34, e32, h⟩ := ob2_out h
    refine c_vI (pc := 56) (rest := []) F S (tX12_records e32) mfX12_records (by decide) (by decide) cl12 w1054 ⟨Nat.le_of_ble_eq_true rfl, Nat.le_of_ble_eq_true rfl⟩ rfl hl.1 rfl (Nat.le_of_ble_eq_true rfl) dX12_does_56 (fun H locs S => ?_)
    refine lv_istore_n (pc := 59) (lv' := [(2, .int v33), (0, .ref (G.2.1 0)), (1, .int a1)]) hx hb dX12_does_59 rfl hl (by decide) rfl (fun ls hl => ?_)
    refine lv_iconst (pc := 60) (v := 1) hx hb dX12_does_60 (by decide) ?_
    cases h
    exact r_iret (pc := 61) F S rfl dX12_does_61
  replace h := (if_neg c27).symm.trans h
  refine lv_lookup (pc := 4) (tgt := 104) hx hb dX12_does_4 (by decide) (off := 100) (by rw [lv_osw c3 (by decide)]; rw [lv_osw c9 (by decide)]; rw [lv_osw c27 (by decide)]; rfl) (by decide) ?_
  refine lv_aload_n (pc := 104) hx hb dX12_does_104 rfl (lv_at hl 0 rfl) ?_
  refine lv_iload_n (pc := 105) hx hb dX12_does_105 rfl (lv_at hl 1 rfl) ?_
  obtain ⟨v36, M37, e35, h⟩ := ob2_out h
  refine c_vI (pc := 106) (rest := []) F S (tX12_resets e35) mfX12_resets (by decide) (by decide) cl12 w1074 ⟨Nat.le_of_ble_eq_true rfl, Nat.le_of_ble_eq_true rfl⟩ rfl hl.1 rfl (Nat.le_of_ble_eq_true rfl) dX12_does_106 (fun H locs S => ?_)
  refine lv_istore_n (pc := 109) (lv' := [(3, .int v36), (0, .ref (G.2.1 0)), (1, .int a1)]) hx hb dX12_does_109 rfl hl (by decide) rfl (fun ls hl => ?_)
  refine lv_iconst (pc := 110) (v := 1) hx hb dX12_does_110 (by decide) ?_
  cases h
  exact r_iret (pc := 111) F S rfl dX12_does_111
theorem mfX12_goThrough : MF true yX12_goThrough RX12 cX12_goThrough 7 (some .int) 2 := ⟨w1114, w13, by rw [if_pos rfl]; exact ⟨w1113, wp34⟩, ⟨by decide, by decide⟩, by decide +kernel⟩
set_option maxHeartbeats 4000000 in
theorem pX12_goThrough_L15 {p : Program} {l : Launch} {e : Env} {s : State} {m : MethodId} {args : Array Value} {below : List Frame} {meth : Method} {c : Code} {Q : State → Prop} {G : GD} (F : FX p s m args meth c RX12 cX12_goThrough 7 (some .int) G) : ∀ (n : Nat) {M N : Mem} {a1 : Int32} {a2 : Int32} {a3 : Int32} {a4 : Int32} {H : Heap} {locs : List Loc} {ls : Array Slot} {o3 : Int32} {Mo : Mem}, ST G M N s H locs → lv_has ls 7 [(0, .ref (G.2.1 0)), (1, .int a1), (2, .int a2), (3, .int a3), (4, .int a4)] → fX12_goThrough_L15 n N a1 a2 a3 a4 = some (o3, Mo) → (K1 : ∀ (H : Heap) (locs : List Loc) (ls : Array Slot), ST G M Mo s H locs → lv_has ls 7 [(3, .int o3)] → W p l e (Rm 5 115) s m args below meth c H locs 0 0 Q (F0 m 122 ls [])) → W p l e (Rm 5 115) s m args below meth c H locs 0 0 Q (F0 m 15 ls []) := by
  intro n
  induction n with
  | zero => intro M N a1 a2 a3 a4 H locs ls o3 Mo S hl h K1; cases h
  | succ n ih =>
    intro M N a1 a2 a3 a4 H locs ls o3 Mo S hl h K1
    rw [fX12_goThrough_L15] at h
    have hx := F.1
    have hb := F.2.1
    have hown := F.2.2.2.2.1
    have hts := F.2.2.2.2.2.1
    have hZ := F.2.2.2.2.2.2.2.2.2
    refine lv_iload (pc := 15) hx hb dX12_goThrough_15 (lv_at hl 4 rfl) ?_
    refine lv_if_eq (pc := 17) (tgt := 122) hx hb dX12_goThrough_17 (by decide) (fun c5 => ?_) (fun c5 => ?_)
    · replace h := (if_pos c5).symm.trans h
      cases h
      exact K1 H locs ls S (lv_sub hl [3] rfl)
    · replace h := (if_neg c5).symm.trans h
      refine lv_aload_n (pc := 20) hx hb dX12_goThrough_20 rfl (lv_at hl 0 rfl) ?_
      obtain ⟨M7, e6, h⟩ := ob_out h
      refine c_vV (pc := 21) (rest := []) F S (tX12_order e6) mfX12_order (by decide) (by decide) cl12 w1115 ⟨Nat.le_of_ble_eq_true rfl, Nat.le_of_ble_eq_true rfl⟩ rfl hl.1 rfl (Nat.le_of_ble_eq_true rfl) dX12_goThrough_21 (fun H locs S => ?_)
      refine lv_iload_n (pc := 24) hx hb dX12_goThrough_24 rfl (lv_at hl 1 rfl) ?_
      obtain ⟨v8, M9, d10, h⟩ := ob2_out h
      have J11 : ∀ (H : Heap) (locs : List Loc) (ls : Array Slot), ST G M M9 s H locs → lv_has ls 7 [(0, .ref (G.2.1 0)), (1, .int a1), (2, .int a2), (3, .int a3)] → W p l e (Rm 5 115) s m args below meth c H locs 0 0 Q (F0 m 41 ls [.int v8]) := by
        intro H locs ls S hl
        refine lv_istore (pc := 41) (lv' := [(5, .int v8), (0, .ref (G.2.1 0)), (1, .int a1), (2, .int a2), (3, .int a3)]) hx hb dX12_goThrough_41 hl (by decide) rfl (fun ls hl => ?_)
        refine lv_iload_n (pc := 43) hx hb dX12_goThrough_43 rfl (lv_at hl 4 rfl) ?_
        refine lv_iload (pc := 44) hx hb dX12_goThrough_44 (lv_at hl 0 rfl) ?_
        obtain ⟨v12, d13, h⟩ := ob_out h
        have J14 : ∀ (H : Heap) (locs : List Loc) (ls : Array Slot), ST G M M9 s H locs → lv_has ls 7 [(0, .ref (G.2.1 0)), (1, .int a1), (2, .int a2), (5, .int v8)] → W p l e (Rm 5 115) s m args below meth c H locs 0 0 Q (F0 m 54 ls [.int v12, .int a3]) := by
          intro H locs ls S hl
          refine lv_iadd (pc := 54) hx hb dX12_goThrough_54 ?_
          obtain ⟨v15, e16, h⟩ := lt1_out h
          refine nm_i e16 ?_
          refine lv_istore_n (pc := 55) (lv' := [(3, .int v15), (0, .ref (G.2.1 0)), (1, .int a1), (2, .int a2), (5, .int v8)]) hx hb dX12_goThrough_55 rfl hl (by decide) rfl (fun ls hl => ?_)
          refine lv_aload_n (pc := 56) hx hb dX12_goThrough_56 rfl (lv_at hl 1 rfl) ?_
          obtain ⟨v17, e18, h⟩ := ob_out h
          refine r_gN (pc := 57) (k := 11) F S e18 (by decide) cl12 inRX12 (by decide) w914 (fun _ => rfl) dX12_goThrough_57 ?_
          obtain ⟨v19, d20, h⟩ := ob_out h
          have J21 : ∀ (H : Heap) (locs : List Loc) (ls : Array Slot), ST G M M9 s H locs → lv_has ls 7 [(0, .ref (G.2.1 0)), (1, .int a1), (2, .int a2), (3, .int v15)] → W p l e (Rm 5 115) s m args below meth c H locs 0 0 Q (F0 m 88 ls [.int v19]) := by
            intro H locs ls S hl
            refine lv_istore (pc := 88) (lv' := [(4, .int v19), (0, .ref (G.2.1 0)), (1, .int a1), (2, .int a2), (3, .int v15)]) hx hb dX12_goThrough_88 hl (by decide) rfl (fun ls hl => ?_)
            refine lv_iload (pc := 90) hx hb dX12_goThrough_90 (lv_at hl 0 rfl) ?_
            refine lv_if_eq (pc := 92) (tgt := 119) hx hb dX12_goThrough_92 (by decide) (fun c22 => ?_) (fun c22 => ?_)
            · replace h := (if_pos c22).symm.trans h
              refine lv_goto (pc := 119) (tgt := 15) hx hb dX12_goThrough_119 (by decide) ?_
              exact ih S (lv_sub hl [1, 2, 3, 4, 0] rfl) h K1
            · replace h := (if_neg c22).symm.trans h
              refine lv_aload_n (pc := 95) hx hb dX12_goThrough_95 rfl (lv_at hl 1 rfl) ?_
              refine lv_bipush (pc := 96) (v := 59) hx hb dX12_goThrough_96 (by decide) ?_
              refine lv_bipush (pc := 98) (v := 59) hx hb dX12_goThrough_98 (by decide) ?_
              obtain ⟨v24, M25, e23, h⟩ := ob2_out h
              refine c_vI (pc := 100) (rest := []) F S (tX12_sign e23) mfX12_sign (by decide) (by decide) cl12 w1127 ⟨Nat.le_of_ble_eq_true rfl, Nat.le_of_ble_eq_true rfl⟩ rfl hl.1 rfl (Nat.le_of_ble_eq_true rfl) dX12_goThrough_100 (fun H locs S => ?_)
              refine lv_istore (pc := 103) (lv' := [(6, .int v24), (4, .int v19), (0, .ref (G.2.1 0)), (1, .int a1), (2, .int a2), (3, .int v15)]) hx hb dX12_goThrough_103 hl (by decide) rfl (fun ls hl => ?_)
              refine lv_aload_n (pc := 105) hx hb dX12_goThrough_105 rfl (lv_at hl 2 rfl) ?_
              obtain ⟨v26, e27, h⟩ := ob_out h
              refine r_gN (pc := 106) (k := 11) F S e27 (by decide) cl12 inRX12 (by decide) w914 (fun _ => rfl) dX12_goThrough_106 ?_
              refine lv_if_ne (pc := 109) (tgt := 116) hx hb dX12_goThrough_109 (by decide) (fun c28 => ?_) (fun c28 => ?_)
              · replace h := (if_neg c28).symm.trans h
                refine lv_iconst (pc := 116) (v := 0) hx hb dX12_goThrough_116 (by decide) ?_
                refine lv_istore (pc := 117) (lv' := [(4, .int 0), (6, .int v24), (0, .ref (G.2.1 0)), (1, .int a1), (2, .int a2), (3, .int v15)]) hx hb dX12_goThrough_117 hl (by decide) rfl (fun ls hl => ?_)
                refine lv_goto (pc := 119) (tgt := 15) hx hb dX12_goThrough_119 (by decide) ?_
                exact ih S (lv_sub hl [2, 3, 4, 5, 0] rfl) h K1
              · replace h := (if_pos c28).symm.trans h
                refine lv_iconst (pc := 112) (v := 1) hx hb dX12_goThrough_112 (by decide) ?_
                refine lv_goto (pc := 113) (tgt := 117) hx hb dX12_goThrough_113 (by decide) ?_
                refine lv_istore (pc := 117) (lv' := [(4, .int 1), (6, .int v24), (0, .ref (G.2.1 0)), (1, .int a1), (2, .int a2), (3, .int v15)]) hx hb dX12_goThrough_117 hl (by decide) rfl (fun ls hl => ?_)
                refine lv_goto (pc := 119) (tgt := 15) hx hb dX12_goThrough_119 (by decide) ?_
                exact ih S (lv_sub hl [2, 3, 4, 5, 0] rfl) h K1
          refine lv_if_ne (pc := 60) (tgt := 87) hx hb dX12_goThrough_60 (by decide) (fun c29 => ?_) (fun c29 => ?_)
          · replace d20 := (if_neg c29).symm.trans d20
            refine lv_iconst (pc := 87) (v := 0) hx hb dX12_goThrough_87 (by decide) ?_
            cases d20
            exact J21 H locs ls S (lv_sub hl [1, 2, 3, 0] rfl)
          · replace d20 := (if_pos c29).symm.trans d20
            refine lv_iload (pc := 63) hx hb dX12_goThrough_63 (lv_at hl 4 rfl) ?_
            refine lv_if_ne (pc := 65) (tgt := 72) hx hb dX12_goThrough_65 (by decide) (fun c30 => ?_) (fun c30 => ?_)
            · replace d20 := (if_neg c30).symm.trans d20
              refine lv_aload_n (pc := 72) hx hb dX12_goThrough_72 rfl (lv_at hl 1 rfl) ?_
              obtain ⟨v31, e32, d20⟩ := ob_out d20
              refine r_gN (pc := 73) (k := 10) F S e32 (by decide) cl12 inRX12 (by decide) w913 (fun _ => rfl) dX12_goThrough_73 ?_
              refine lv_aload_n (pc := 76) hx hb dX12_goThrough_76 rfl (lv_at hl 1 rfl) ?_
              obtain ⟨v33, e34, d20⟩ := ob_out d20
              refine r_gN (pc := 77) (k := 7) F S e34 (by decide) cl12 inRX12 (by decide) w910 (fun _ => rfl) dX12_goThrough_77 ?_
              refine lv_icmp_ge (pc := 80) (tgt := 87) hx hb dX12_goThrough_80 (by decide) (fun c35 => ?_) (fun c35 => ?_)
              · replace d20 := (if_pos c35).symm.trans d20
                refine lv_iconst (pc := 87) (v := 0) hx hb dX12_goThrough_87 (by decide) ?_
                cases d20
                exact J21 H locs ls S (lv_sub hl [1, 2, 3, 0] rfl)
              · replace d20 := (if_neg c35).symm.trans d20
                refine lv_iconst (pc := 83) (v := 1) hx hb dX12_goThrough_83 (by decide) ?_
                refine lv_goto (pc := 84) (tgt := 88) hx hb dX12_goThrough_84 (by decide) ?_
                cases d20
                exact J21 H locs ls S (lv_sub hl [1, 2, 3, 0] rfl)
            · replace d20 := (if_pos c30).symm.trans d20
              refine lv_iload_n (pc := 68) hx hb dX12_goThrough_68 rfl (lv_at hl 2 rfl) ?_
              refine lv_if_ne (pc := 69) (tgt := 87) hx hb dX12_goThrough_69 (by decide) (fun c36 => ?_) (fun c36 => ?_)
              · replace d20 := (if_neg c36).symm.trans d20
                refine lv_iconst (pc := 87) (v := 0) hx hb dX12_goThrough_87 (by decide) ?_
                cases d20
                exact J21 H locs ls S (lv_sub hl [1, 2, 3, 0] rfl)
              · replace d20 := (if_pos c36).symm.trans d20
                refine lv_aload_n (pc := 72) hx hb dX12_goThrough_72 rfl (lv_at hl 1 rfl) ?_
                obtain ⟨v37, e38, d20⟩ := ob_out d20
                refine r_gN (pc := 73) (k := 10) F S e38 (by decide) cl12 inRX12 (by decide) w913 (fun _ => rfl) dX12_goThrough_73 ?_
                refine lv_aload_n (pc := 76) hx hb dX12_goThrough_76 rfl (lv_at hl 1 rfl) ?_
                obtain ⟨v39, e40, d20⟩ := ob_out d20
                refine r_gN (pc := 77) (k := 7) F S e40 (by decide) cl12 inRX12 (by decide) w910 (fun _ => rfl) dX12_goThrough_77 ?_
                refine lv_icmp_ge (pc := 80) (tgt := 87) hx hb dX12_goThrough_80 (by decide) (fun c41 => ?_) (fun c41 => ?_)
                · replace d20 := (if_pos c41).symm.trans d20
                  refine lv_iconst (pc := 87) (v := 0) hx hb dX12_goThrough_87 (by decide) ?_
                  cases d20
                  exact J21 H locs ls S (lv_sub hl [1, 2, 3, 0] rfl)
                · replace d20 := (if_neg c41).symm.trans d20
                  refine lv_iconst (pc := 83) (v := 1) hx hb dX12_goThrough_83 (by decide) ?_
                  refine lv_goto (pc := 84) (tgt := 88) hx hb dX12_goThrough_84 (by decide) ?_
                  cases d20
                  exact J21 H locs ls S (lv_sub hl [1, 2, 3, 0] rfl)
        refine lv_if_eq (pc := 46) (tgt := 53) hx hb dX12_goThrough_46 (by decide) (fun c42 => ?_) (fun c42 => ?_)
        · replace d13 := (if_pos c42).symm.trans d13
          refine lv_iconst (pc := 53) (v := 0) hx hb dX12_goThrough_53 (by decide) ?_
          cases d13
          exact J14 H locs ls S (lv_sub hl [1, 2, 3, 0] rfl)
        · replace d13 := (if_neg c42).symm.trans d13
          refine lv_iconst (pc := 49) (v := 1) hx hb dX12_goThrough_49 (by decide) ?_
          refine lv_goto (pc := 50) (tgt := 54) hx hb dX12_goThrough_50 (by decide) ?_
          cases d13
          exact J14 H locs ls S (lv_sub hl [1, 2, 3, 0] rfl)
      refine lv_if_eq (pc := 25) (tgt := 40) hx hb dX12_goThrough_25 (by decide) (fun c43 => ?_) (fun c43 => ?_)
      · replace d10 := (if_pos c43).symm.trans d10
        refine lv_iconst (pc := 40) (v := 0) hx hb dX12_goThrough_40 (by decide) ?_
        cases d10
        exact J11 H locs ls S (lv_sub hl [0, 1, 2, 3] rfl)
      · replace d10 := (if_neg c43).symm.trans d10
        refine lv_aload_n (pc := 28) hx hb dX12_goThrough_28 rfl (lv_at hl 0 rfl) ?_
        refine lv_iload_n (pc := 29) hx hb dX12_goThrough_29 rfl (lv_at hl 2 rfl) ?_
        obtain ⟨v45, M46, e44, d10⟩ := ob2_out d10
        refine c_vI (pc := 30) (rest := []) F S (tX12_does e44) mfX12_does (by decide) (by decide) cl12 w1135 ⟨Nat.le_of_ble_eq_true rfl, Nat.le_of_ble_eq_true rfl⟩ rfl hl.1 rfl (Nat.le_of_ble_eq_true rfl) dX12_goThrough_30 (fun H locs S => ?_)
        refine lv_if_eq (pc := 33) (tgt := 40) hx hb dX12_goThrough_33 (by decide) (fun c47 => ?_) (fun c47 => ?_)
        · replace d10 := (if_pos c47).symm.trans d10
          refine lv_iconst (pc := 40) (v := 0) hx hb dX12_goThrough_40 (by decide) ?_
          cases d10
          exact J11 H locs ls S (lv_sub hl [0, 1, 2, 3] rfl)
        · replace d10 := (if_neg c47).symm.trans d10
          refine lv_iconst (pc := 36) (v := 1) hx hb dX12_goThrough_36 (by decide) ?_
          refine lv_goto (pc := 37) (tgt := 41) hx hb dX12_goThrough_37 (by decide) ?_
          cases d10
          exact J11 H locs ls S (lv_sub hl [0, 1, 2, 3] rfl)
set_option maxHeartbeats 4000000 in
theorem tX12_goThrough {l : Launch} {G : GD} {M N Mo : Mem} {a1 : Int32} {a2 : Int32} {r : Int32} (h : fX12_goThrough N a1 a2 = some (r, Mo)) : MI l yX12_goThrough cX12_goThrough 7 .int 5 115 G [.ref (G.2.1 0), .int a1, .int a2] M N r M Mo := by
  unfold fX12_goThrough at h
  refine MI_of (own := RX12) (by decide) rfl (Nat.le_of_ble_eq_true rfl) ?_
  intro p e s m args below meth c F S ls hl
  have hx := F.1
  have hb := F.2.1
  have hown := F.2.2.2.2.1
  have hts := F.2.2.2.2.2.1
  have hZ := F.2.2.2.2.2.2.2.2.2
  have hl : lv_has ls 7 [(0, .ref (G.2.1 0)), (1, .int a1), (2, .int a2)] := hl
  generalize s.heap = H, ([] : List Loc) = locs at S ⊢
  refine lv_aload_n (pc := 0) hx hb dX12_goThrough_0 rfl (lv_at hl 0 rfl) ?_
  refine lv_iconst (pc := 1) (v := 0) hx hb dX12_goThrough_1 (by decide) ?_
  obtain ⟨M1, e2, h⟩ := ob_out h
  refine r_pN (pc := 2) (k := 10) (ty0 := tyX12) F S e2 (by decide) cl12 inRX12 tyX12_ok nmX12 (by decide) w913 rfl (by decide +kernel) (fun _ => Nat.le_of_ble_eq_true rfl) (fun _ => pf_12_10) dX12_goThrough_2 (fun H locs S => ?_)
  refine lv_aload_n (pc := 5) hx hb dX12_goThrough_5 rfl (lv_at hl 0 rfl) ?_
  refine lv_iconst (pc := 6) (v := 0) hx hb dX12_goThrough_6 (by decide) ?_
  obtain ⟨M3, e4, h⟩ := ob_out h
  refine r_pZ (pc := 7) (k := 11) (ty0 := tyX12) F S e4 (by decide) cl12 inRX12 tyX12_ok nmX12 (by decide) w914 rfl (by decide +kernel) (fun _ => Nat.le_of_ble_eq_true rfl) (fun _ => pf_12_11) dX12_goThrough_7 (fun H locs S => ?_)
  refine lv_iconst (pc := 10) (v := 0) hx hb dX12_goThrough_10 (by decide) ?_
  refine lv_istore_n (pc := 11) (lv' := [(3, .int 0), (0, .ref (G.2.1 0)), (1, .int a1), (2, .int a2)]) hx hb dX12_goThrough_11 rfl hl (by decide) rfl (fun ls hl => ?_)
  refine lv_iconst (pc := 12) (v := 1) hx hb dX12_goThrough_12 (by decide) ?_
  refine lv_istore (pc := 13) (lv' := [(4, .int 1), (3, .int 0), (0, .ref (G.2.1 0)), (1, .int a1), (2, .int a2)]) hx hb dX12_goThrough_13 hl (by decide) rfl (fun ls hl => ?_)
  obtain ⟨v6, M5, e7, h⟩ := ob2_out h
  refine pX12_goThrough_L15 F 5000 S (lv_sub hl [2, 3, 4, 1, 0] rfl) e7 (fun H locs ls S hl => ?_)
  refine lv_iload_n (pc := 122) hx hb dX12_goThrough_122 rfl (lv_at hl 0 rfl) ?_
  cases h
  exact r_iret (pc := 123) F S rfl dX12_goThrough_123
theorem mfX12_fault : MF true yX12_fault RX12 cX12_fault 2 (some .int) 0 := ⟨w1110, w13, by rw [if_pos rfl]; exact ⟨w1108, w1109⟩, ⟨by decide, by decide⟩, by decide +kernel⟩
set_option maxHeartbeats 4000000 in
theorem tX12_fault {l : Launch} {G : GD} {M N Mo : Mem} {r : Int32} (h : fX12_fault N = some (r, Mo)) : MI l yX12_fault cX12_fault 2 .int 6 141 G [.ref (G.2.1 0)] M N r M Mo := by
  unfold fX12_fault at h
  refine MI_of (own := RX12) (by decide) rfl (Nat.le_of_ble_eq_true rfl) ?_
  intro p e s m args below meth c F S ls hl
  have hx := F.1
  have hb := F.2.1
  have hown := F.2.2.2.2.1
  have hts := F.2.2.2.2.2.1
  have hZ := F.2.2.2.2.2.2.2.2.2
  have hl : lv_has ls 2 [(0, .ref (G.2.1 0))] := hl
  generalize s.heap = H, ([] : List Loc) = locs at S ⊢
  refine lv_aload_n (pc := 0) hx hb dX12_fault_0 rfl (lv_at hl 0 rfl) ?_
  refine lv_iconst (pc := 1) (v := 0) hx hb dX12_fault_1 (by decide) ?_
  refine lv_iconst (pc := 2) (v := 0) hx hb dX12_fault_2 (by decide) ?_
  obtain ⟨v2, M3, e1, h⟩ := ob2_out h
  refine c_vI (pc := 3) (rest := []) F S (tX12_goThrough e1) mfX12_goThrough (by decide) (by decide) cl12 w1111 ⟨Nat.le_of_ble_eq_true rfl, Nat.le_of_ble_eq_true rfl⟩ rfl hl.1 rfl (Nat.le_of_ble_eq_true rfl) dX12_fault_3 (fun H locs S => ?_)
  refine lv_istore_n (pc := 6) (lv' := [(1, .int v2), (0, .ref (G.2.1 0))]) hx hb dX12_fault_6 rfl hl (by decide) rfl (fun ls hl => ?_)
  refine lv_aload_n (pc := 7) hx hb dX12_fault_7 rfl (lv_at hl 1 rfl) ?_
  obtain ⟨v4, e5, h⟩ := ob_out h
  refine r_gN (pc := 8) (k := 11) F S e5 (by decide) cl12 inRX12 (by decide) w914 (fun _ => rfl) dX12_fault_8 ?_
  refine lv_if_eq (pc := 11) (tgt := 21) hx hb dX12_fault_11 (by decide) (fun c6 => ?_) (fun c6 => ?_)
  · replace h := (if_pos c6).symm.trans h
    refine lv_bipush (pc := 21) (v := (-6)) hx hb dX12_fault_21 (by decide) ?_
    cases h
    exact r_iret (pc := 23) F S rfl dX12_fault_23
  · replace h := (if_neg c6).symm.trans h
    refine lv_aload_n (pc := 14) hx hb dX12_fault_14 rfl (lv_at hl 1 rfl) ?_
    obtain ⟨v7, e8, h⟩ := ob_out h
    refine r_gN (pc := 15) (k := 10) F S e8 (by decide) cl12 inRX12 (by decide) w913 (fun _ => rfl) dX12_fault_15 ?_
    refine lv_goto (pc := 18) (tgt := 23) hx hb dX12_fault_18 (by decide) ?_
    cases h
    exact r_iret (pc := 23) F S rfl dX12_fault_23
theorem mfX12_carryOut : MF true yX12_carryOut RX12 cX12_carryOut 4 (some .int) 1 := ⟨w1146, w13, by rw [if_pos rfl]; exact ⟨w1144, w1145⟩, ⟨by decide, by decide⟩, by decide +kernel⟩
set_option maxHeartbeats 4000000 in
theorem tX12_carryOut {l : Launch} {G : GD} {M N Mo : Mem} {a1 : Int32} {r : Int32} (h : fX12_carryOut N a1 = some (r, Mo)) : MI l yX12_carryOut cX12_carryOut 4 .int 6 141 G [.ref (G.2.1 0), .int a1] M N r M Mo := by
  unfold fX12_carryOut at h
  refine MI_of (own := RX12) (by decide) rfl (Nat.le_of_ble_eq_true rfl) ?_
  intro p e s m args below meth c F S ls hl
  have hx := F.1
  have hb := F.2.1
  have hown := F.2.2.2.2.1
  have hts := F.2.2.2.2.2.1
  have hZ := F.2.2.2.2.2.2.2.2.2
  have hl : lv_has ls 4 [(0, .ref (G.2.1 0)), (1, .int a1)] := hl
  generalize s.heap = H, ([] : List Loc) = locs at S ⊢
  refine lv_iload_n (pc := 0) hx hb dX12_carryOut_0 rfl (lv_at hl 1 rfl) ?_
  obtain ⟨v2, e1, h⟩ := ob_out h
  refine c_sI (pc := 1) (rest := []) F S (tX12_isPremiere e1) mfX12_isPremiere w987 ⟨Nat.le_of_ble_eq_true rfl, Nat.le_of_ble_eq_true rfl⟩ rfl hl.1 rfl (Nat.le_of_ble_eq_true rfl) dX12_carryOut_1 (fun H locs S => ?_)
  refine lv_if_ne (pc := 4) (tgt := 9) hx hb dX12_carryOut_4 (by decide) (fun c3 => ?_) (fun c3 => ?_)
  · replace h := (if_neg c3).symm.trans h
    refine lv_aload_n (pc := 9) hx hb dX12_carryOut_9 rfl (lv_at hl 0 rfl) ?_
    refine lv_iconst (pc := 10) (v := 0) hx hb dX12_carryOut_10 (by decide) ?_
    refine lv_iconst (pc := 11) (v := 0) hx hb dX12_carryOut_11 (by decide) ?_
    obtain ⟨v5, M6, e4, h⟩ := ob2_out h
    refine c_vI (pc := 12) (rest := []) F S (tX12_goThrough e4) mfX12_goThrough (by decide) (by decide) cl12 w1111 ⟨Nat.le_of_ble_eq_true rfl, Nat.le_of_ble_eq_true rfl⟩ rfl hl.1 rfl (Nat.le_of_ble_eq_true rfl) dX12_carryOut_12 (fun H locs S => ?_)
    refine lv_istore_n (pc := 15) (lv' := [(2, .int v5), (0, .ref (G.2.1 0)), (1, .int a1)]) hx hb dX12_carryOut_15 rfl hl (by decide) rfl (fun ls hl => ?_)
    refine lv_aload_n (pc := 16) hx hb dX12_carryOut_16 rfl (lv_at hl 1 rfl) ?_
    obtain ⟨v7, e8, h⟩ := ob_out h
    refine r_gN (pc := 17) (k := 11) F S e8 (by decide) cl12 inRX12 (by decide) w914 (fun _ => rfl) dX12_carryOut_17 ?_
    refine lv_if_eq (pc := 20) (tgt := 26) hx hb dX12_carryOut_20 (by decide) (fun c9 => ?_) (fun c9 => ?_)
    · replace h := (if_pos c9).symm.trans h
      refine lv_aload_n (pc := 26) hx hb dX12_carryOut_26 rfl (lv_at hl 1 rfl) ?_
      obtain ⟨M11, e10, h⟩ := ob_out h
      refine c_vV (pc := 27) (rest := []) F S (tX12_know e10) mfX12_know (by decide) (by decide) cl12 w975 ⟨Nat.le_of_ble_eq_true rfl, Nat.le_of_ble_eq_true rfl⟩ rfl hl.1 rfl (Nat.le_of_ble_eq_true rfl) dX12_carryOut_27 (fun H locs S => ?_)
      refine lv_aload_n (pc := 30) hx hb dX12_carryOut_30 rfl (lv_at hl 1 rfl) ?_
      refine lv_iconst (pc := 31) (v := 1) hx hb dX12_carryOut_31 (by decide) ?_
      refine lv_iload_n (pc := 32) hx hb dX12_carryOut_32 rfl (lv_at hl 2 rfl) ?_
      obtain ⟨v13, M14, e12, h⟩ := ob2_out h
      refine c_vI (pc := 33) (rest := []) F S (tX12_goThrough e12) mfX12_goThrough (by decide) (by decide) cl12 w1111 ⟨Nat.le_of_ble_eq_true rfl, Nat.le_of_ble_eq_true rfl⟩ rfl hl.1 rfl (Nat.le_of_ble_eq_true rfl) dX12_carryOut_33 (fun H locs S => ?_)
      refine lv_istore_n (pc := 36) (lv' := [(3, .int v13), (2, .int v5), (0, .ref (G.2.1 0)), (1, .int a1)]) hx hb dX12_carryOut_36 rfl hl (by decide) rfl (fun ls hl => ?_)
      refine lv_aload_n (pc := 37) hx hb dX12_carryOut_37 rfl (lv_at hl 2 rfl) ?_
      refine lv_iconst (pc := 38) (v := 0) hx hb dX12_carryOut_38 (by decide) ?_
      obtain ⟨M15, e16, h⟩ := ob_out h
      refine r_pN (pc := 39) (k := 7) (ty0 := tyX12) F S e16 (by decide) cl12 inRX12 tyX12_ok nmX12 (by decide) w910 rfl (by decide +kernel) (fun _ => Nat.le_of_ble_eq_true rfl) (fun _ => pf_12_7) dX12_carryOut_39 (fun H locs S => ?_)
      refine lv_iload_n (pc := 42) hx hb dX12_carryOut_42 rfl (lv_at hl 0 rfl) ?_
      cases h
      exact r_iret (pc := 43) F S rfl dX12_carryOut_43
    · replace h := (if_neg c9).symm.trans h
      refine lv_bipush (pc := 23) (v := (-3)) hx hb dX12_carryOut_23 (by decide) ?_
      cases h
      exact r_iret (pc := 25) F S rfl dX12_carryOut_25
  · replace h := (if_pos c3).symm.trans h
    refine lv_iconst (pc := 7) (v := (-1)) hx hb dX12_carryOut_7 (by decide) ?_
    cases h
    exact r_iret (pc := 8) F S rfl dX12_carryOut_8
theorem mfX12_lamp : MF true yX12_lamp RX12 cX12_lamp 4 (some .int) 3 := ⟨w1150, w13, by rw [if_pos rfl]; exact ⟨w1148, w1149⟩, ⟨by decide, by decide⟩, by decide +kernel⟩
set_option maxHeartbeats 4000000 in
theorem tX12_lamp {l : Launch} {G : GD} {M N : Mem} {a1 : Int32} {a2 : Int32} {a3 : Int32} {r : Int32} (h : fX12_lamp N a1 a2 a3 = some r) : MI l yX12_lamp cX12_lamp 4 .int 4 89 G [.ref (G.2.1 0), .int a1, .int a2, .int a3] M N r M N := by
  unfold fX12_lamp at h
  refine MI_of (own := RX12) (by decide) rfl (Nat.le_of_ble_eq_true rfl) ?_
  intro p e s m args below meth c F S ls hl
  have hx := F.1
  have hb := F.2.1
  have hown := F.2.2.2.2.1
  have hts := F.2.2.2.2.2.1
  have hZ := F.2.2.2.2.2.2.2.2.2
  have hl : lv_has ls 4 [(0, .ref (G.2.1 0)), (1, .int a1), (2, .int a2), (3, .int a3)] := hl
  generalize s.heap = H, ([] : List Loc) = locs at S ⊢
  refine lv_aload_n (pc := 0) hx hb dX12_lamp_0 rfl (lv_at hl 0 rfl) ?_
  refine lv_iload_n (pc := 1) hx hb dX12_lamp_1 rfl (lv_at hl 1 rfl) ?_
  refine lv_iload_n (pc := 2) hx hb dX12_lamp_2 rfl (lv_at hl 2 rfl) ?_
  obtain ⟨v2, e1, h⟩ := ob_out h
  refine c_vI (pc := 3) (rest := []) F S (tX12_isLamp e1) mfX12_isLamp (by decide) (by decide) cl12 w1007 ⟨Nat.le_of_ble_eq_true rfl, Nat.le_of_ble_eq_true rfl⟩ rfl hl.1 rfl (Nat.le_of_ble_eq_true rfl) dX12_lamp_3 (fun H locs S => ?_)
  refine lv_if_ne (pc := 6) (tgt := 11) hx hb dX12_lamp_6 (by decide) (fun c3 => ?_) (fun c3 => ?_)
  · replace h := (if_neg c3).symm.trans h
    refine lv_iload_n (pc := 11) hx hb dX12_lamp_11 rfl (lv_at hl 3 rfl) ?_
    refine lv_iconst (pc := 12) (v := 4) hx hb dX12_lamp_12 (by decide) ?_
    refine lv_icmp_ne (pc := 13) (tgt := 25) hx hb dX12_lamp_13 (by decide) (fun c4 => ?_) (fun c4 => ?_)
    · replace h := (if_neg c4).symm.trans h
      refine lv_iload_n (pc := 25) hx hb dX12_lamp_25 rfl (lv_at hl 3 rfl) ?_
      refine lv_iconst (pc := 26) (v := 0) hx hb dX12_lamp_26 (by decide) ?_
      refine lv_iconst (pc := 27) (v := 3) hx hb dX12_lamp_27 (by decide) ?_
      obtain ⟨v6, e5, h⟩ := ob_out h
      refine c_sI (pc := 28) (rest := []) F S (tX12_in e5) mfX12_in w972 ⟨Nat.le_of_ble_eq_true rfl, Nat.le_of_ble_eq_true rfl⟩ rfl hl.1 rfl (Nat.le_of_ble_eq_true rfl) dX12_lamp_28 (fun H locs S => ?_)
      refine lv_if_eq (pc := 31) (tgt := 48) hx hb dX12_lamp_31 (by decide) (fun c7 => ?_) (fun c7 => ?_)
      · replace h := (if_pos c7).symm.trans h
        refine lv_bipush (pc := 48) (v := (-2)) hx hb dX12_lamp_48 (by decide) ?_
        cases h
        exact r_iret (pc := 50) F S rfl dX12_lamp_50
      · replace h := (if_neg c7).symm.trans h
        refine lv_aload_n (pc := 34) hx hb dX12_lamp_34 rfl (lv_at hl 0 rfl) ?_
        refine r_gR (pc := 35) (k := 0) (x := 1) (i := 0) (ci := 12) F S (by decide) (by decide) cl12 inRX12 (by decide) w903 (fun _ => rfl) dX12_lamp_35 ?_
        refine lv_iload_n (pc := 38) hx hb dX12_lamp_38 rfl (lv_at hl 1 rfl) ?_
        refine lv_iload_n (pc := 39) hx hb dX12_lamp_39 rfl (lv_at hl 2 rfl) ?_
        refine lv_iload_n (pc := 40) hx hb dX12_lamp_40 rfl (lv_at hl 3 rfl) ?_
        obtain ⟨v9, e8, h⟩ := ob_out h
        refine c_sI (pc := 41) (rest := [.ref (G.2.1 1)]) F S (tX12_ofLamp e8) mfX12_ofLamp w997 ⟨Nat.le_of_ble_eq_true rfl, Nat.le_of_ble_eq_true rfl⟩ rfl hl.1 rfl (Nat.le_of_ble_eq_true rfl) dX12_lamp_41 (fun H locs S => ?_)
        obtain ⟨v10, e11, h⟩ := ob_out h
        refine r_nL (pc := 44) F S e11 dX12_lamp_44 ?_
        refine lv_goto (pc := 45) (tgt := 50) hx hb dX12_lamp_45 (by decide) ?_
        cases h
        exact r_iret (pc := 50) F S rfl dX12_lamp_50
    · replace h := (if_pos c4).symm.trans h
      refine lv_aload_n (pc := 16) hx hb dX12_lamp_16 rfl (lv_at hl 0 rfl) ?_
      refine lv_iload_n (pc := 17) hx hb dX12_lamp_17 rfl (lv_at hl 1 rfl) ?_
      refine lv_iload_n (pc := 18) hx hb dX12_lamp_18 rfl (lv_at hl 2 rfl) ?_
      obtain ⟨v13, e12, h⟩ := ob_out h
      refine c_vI (pc := 19) (rest := []) F S (tX12_loadOfLamp e12) mfX12_loadOfLamp (by decide) (by decide) cl12 w1094 ⟨Nat.le_of_ble_eq_true rfl, Nat.le_of_ble_eq_true rfl⟩ rfl hl.1 rfl (Nat.le_of_ble_eq_true rfl) dX12_lamp_19 (fun H locs S => ?_)
      refine lv_goto (pc := 22) (tgt := 50) hx hb dX12_lamp_22 (by decide) ?_
      cases h
      exact r_iret (pc := 50) F S rfl dX12_lamp_50
  · replace h := (if_pos c3).symm.trans h
    refine lv_iconst (pc := 9) (v := (-1)) hx hb dX12_lamp_9 (by decide) ?_
    cases h
    exact r_iret (pc := 10) F S rfl dX12_lamp_10
theorem mfX12_lampsOn : MF true yX12_lampsOn RX12 cX12_lampsOn 5 (some .int) 2 := ⟨w1158, w13, by rw [if_pos rfl]; exact ⟨w1157, wp42⟩, ⟨by decide, by decide⟩, by decide +kernel⟩
set_option maxHeartbeats 4000000 in
theorem pX12_lampsOn_L5 {p : Program} {l : Launch} {e : Env} {s : State} {m : MethodId} {args : Array Value} {below : List Frame} {meth : Method} {c : Code} {Q : State → Prop} {G : GD} (F : FX p s m args meth c RX12 cX12_lampsOn 5 (some .int) G) : ∀ (n : Nat) {M N : Mem} {a1 : Int32} {a2 : Int32} {a3 : Int32} {a4 : Int32} {H : Heap} {locs : List Loc} {ls : Array Slot} {o3 : Int32}, ST G M N s H locs → lv_has ls 5 [(0, .ref (G.2.1 0)), (1, .int a1), (2, .int a2), (3, .int a3), (4, .int a4)] → fX12_lampsOn_L5 n N a1 a2 a3 a4 = some o3 → (K1 : ∀ (H : Heap) (locs : List Loc) (ls : Array Slot), ST G M N s H locs → lv_has ls 5 [(3, .int o3)] → W p l e (Rm 2 43) s m args below meth c H locs 0 0 Q (F0 m 50 ls [])) → W p l e (Rm 2 43) s m args below meth c H locs 0 0 Q (F0 m 5 ls []) := by
  intro n
  induction n with
  | zero => intro M N a1 a2 a3 a4 H locs ls o3 S hl h K1; cases h
  | succ n ih =>
    intro M N a1 a2 a3 a4 H locs ls o3 S hl h K1
    rw [fX12_lampsOn_L5] at h
    have hx := F.1
    have hb := F.2.1
    have hown := F.2.2.2.2.1
    have hts := F.2.2.2.2.2.1
    have hZ := F.2.2.2.2.2.2.2.2.2
    refine lv_iload (pc := 5) hx hb dX12_lampsOn_5 (lv_at hl 4 rfl) ?_
    refine lv_aload_n (pc := 7) hx hb dX12_lampsOn_7 rfl (lv_at hl 0 rfl) ?_
    refine r_gR (pc := 8) (k := 0) (x := 1) (i := 0) (ci := 12) F S (by decide) (by decide) cl12 inRX12 (by decide) w903 (fun _ => rfl) dX12_lampsOn_8 ?_
    refine lv_iload_n (pc := 11) hx hb dX12_lampsOn_11 rfl (lv_at hl 1 rfl) ?_
    refine lv_iconst (pc := 12) (v := 2) hx hb dX12_lampsOn_12 (by decide) ?_
    obtain ⟨v2, e1, h⟩ := ob_out h
    refine c_sI (pc := 13) (rest := [.ref (G.2.1 1), .int a4]) F S (tX12_at1 e1) mfX12_at1 w900 ⟨Nat.le_of_ble_eq_true rfl, Nat.le_of_ble_eq_true rfl⟩ rfl hl.1 rfl (Nat.le_of_ble_eq_true rfl) dX12_lampsOn_13 (fun H locs S => ?_)
    obtain ⟨v3, e4, h⟩ := ob_out h
    refine r_nL (pc := 16) F S e4 dX12_lampsOn_16 ?_
    refine lv_icmp_ge (pc := 17) (tgt := 50) hx hb dX12_lampsOn_17 (by decide) (fun c5 => ?_) (fun c5 => ?_)
    · replace h := (if_pos c5).symm.trans h
      cases h
      exact K1 H locs ls S (lv_sub hl [3] rfl)
    · replace h := (if_neg c5).symm.trans h
      refine lv_iload_n (pc := 20) hx hb dX12_lampsOn_20 rfl (lv_at hl 3 rfl) ?_
      refine lv_aload_n (pc := 21) hx hb dX12_lampsOn_21 rfl (lv_at hl 0 rfl) ?_
      refine r_gR (pc := 22) (k := 0) (x := 1) (i := 0) (ci := 12) F S (by decide) (by decide) cl12 inRX12 (by decide) w903 (fun _ => rfl) dX12_lampsOn_22 ?_
      refine lv_iload_n (pc := 25) hx hb dX12_lampsOn_25 rfl (lv_at hl 1 rfl) ?_
      refine lv_iload (pc := 26) hx hb dX12_lampsOn_26 (lv_at hl 4 rfl) ?_
      refine lv_iconst (pc := 28) (v := 1) hx hb dX12_lampsOn_28 (by decide) ?_
      obtain ⟨v7, e6, h⟩ := ob_out h
      refine c_sI (pc := 29) (rest := [.ref (G.2.1 1), .int a3]) F S (tX12_ofLamp e6) mfX12_ofLamp w997 ⟨Nat.le_of_ble_eq_true rfl, Nat.le_of_ble_eq_true rfl⟩ rfl hl.1 rfl (Nat.le_of_ble_eq_true rfl) dX12_lampsOn_29 (fun H locs S => ?_)
      obtain ⟨v8, e9, h⟩ := ob_out h
      refine r_nL (pc := 32) F S e9 dX12_lampsOn_32 ?_
      refine lv_iload_n (pc := 33) hx hb dX12_lampsOn_33 rfl (lv_at hl 2 rfl) ?_
      refine lv_icmp_ne (pc := 34) (tgt := 41) hx hb dX12_lampsOn_34 (by decide) (fun c10 => ?_) (fun c10 => ?_)
      · replace h := (if_neg c10).symm.trans h
        refine lv_iconst (pc := 41) (v := 0) hx hb dX12_lampsOn_41 (by decide) ?_
        refine lv_iadd (pc := 42) hx hb dX12_lampsOn_42 ?_
        obtain ⟨v11, e12, h⟩ := lt1_out h
        refine nm_i e12 ?_
        refine lv_istore_n (pc := 43) (lv' := [(3, .int v11), (0, .ref (G.2.1 0)), (1, .int a1), (2, .int a2), (4, .int a4)]) hx hb dX12_lampsOn_43 rfl hl (by decide) rfl (fun ls hl => ?_)
        refine lv_iinc (pc := 44) (lv' := [(4, .int (a4 + 1)), (3, .int v11), (0, .ref (G.2.1 0)), (1, .int a1), (2, .int a2)]) hx hb dX12_lampsOn_44 hl (k := 4) rfl (iinc_n (by decide)) (by decide) rfl (fun ls hl => ?_)
        refine lv_goto (pc := 47) (tgt := 5) hx hb dX12_lampsOn_47 (by decide) ?_
        exact ih S (lv_sub hl [2, 3, 4, 1, 0] rfl) h K1
      · replace h := (if_pos c10).symm.trans h
        refine lv_iconst (pc := 37) (v := 1) hx hb dX12_lampsOn_37 (by decide) ?_
        refine lv_goto (pc := 38) (tgt := 42) hx hb dX12_lampsOn_38 (by decide) ?_
        refine lv_iadd (pc := 42) hx hb dX12_lampsOn_42 ?_
        obtain ⟨v13, e14, h⟩ := lt1_out h
        refine nm_i e14 ?_
        refine lv_istore_n (pc := 43) (lv' := [(3, .int v13), (0, .ref (G.2.1 0)), (1, .int a1), (2, .int a2), (4, .int a4)]) hx hb dX12_lampsOn_43 rfl hl (by decide) rfl (fun ls hl => ?_)
        refine lv_iinc (pc := 44) (lv' := [(4, .int (a4 + 1)), (3, .int v13), (0, .ref (G.2.1 0)), (1, .int a1), (2, .int a2)]) hx hb dX12_lampsOn_44 hl (k := 4) rfl (iinc_n (by decide)) (by decide) rfl (fun ls hl => ?_)
        refine lv_goto (pc := 47) (tgt := 5) hx hb dX12_lampsOn_47 (by decide) ?_
        exact ih S (lv_sub hl [2, 3, 4, 1, 0] rfl) h K1
set_option maxHeartbeats 4000000 in
theorem tX12_lampsOn {l : Launch} {G : GD} {M N : Mem} {a1 : Int32} {a2 : Int32} {r : Int32} (h : fX12_lampsOn N a1 a2 = some r) : MI l yX12_lampsOn cX12_lampsOn 5 .int 2 43 G [.ref (G.2.1 0), .int a1, .int a2] M N r M N := by
  unfold fX12_lampsOn at h
  refine MI_of (own := RX12) (by decide) rfl (Nat.le_of_ble_eq_true rfl) ?_
  intro p e s m args below meth c F S ls hl
  have hx := F.1
  have hb := F.2.1
  have hown := F.2.2.2.2.1
  have hts := F.2.2.2.2.2.1
  have hZ := F.2.2.2.2.2.2.2.2.2
  have hl : lv_has ls 5 [(0, .ref (G.2.1 0)), (1, .int a1), (2, .int a2)] := hl
  generalize s.heap = H, ([] : List Loc) = locs at S ⊢
  refine lv_iconst (pc := 0) (v := 0) hx hb dX12_lampsOn_0 (by decide) ?_
  refine lv_istore_n (pc := 1) (lv' := [(3, .int 0), (0, .ref (G.2.1 0)), (1, .int a1), (2, .int a2)]) hx hb dX12_lampsOn_1 rfl hl (by decide) rfl (fun ls hl => ?_)
  refine lv_iconst (pc := 2) (v := 0) hx hb dX12_lampsOn_2 (by decide) ?_
  refine lv_istore (pc := 3) (lv' := [(4, .int 0), (3, .int 0), (0, .ref (G.2.1 0)), (1, .int a1), (2, .int a2)]) hx hb dX12_lampsOn_3 hl (by decide) rfl (fun ls hl => ?_)
  obtain ⟨v1, e2, h⟩ := ob_out h
  refine pX12_lampsOn_L5 F 5000 S (lv_sub hl [2, 3, 4, 1, 0] rfl) e2 (fun H locs ls S hl => ?_)
  refine lv_iload_n (pc := 50) hx hb dX12_lampsOn_50 rfl (lv_at hl 0 rfl) ?_
  cases h
  exact r_iret (pc := 51) F S rfl dX12_lampsOn_51
theorem mfX12_dimmer : MF true yX12_dimmer RX12 cX12_dimmer 4 (some .int) 3 := ⟨w1154, w13, by rw [if_pos rfl]; exact ⟨w1152, w1153⟩, ⟨by decide, by decide⟩, by decide +kernel⟩
set_option maxHeartbeats 4000000 in
theorem tX12_dimmer {l : Launch} {G : GD} {M N : Mem} {a1 : Int32} {a2 : Int32} {a3 : Int32} {r : Int32} (h : fX12_dimmer N a1 a2 a3 = some r) : MI l yX12_dimmer cX12_dimmer 4 .int 5 118 G [.ref (G.2.1 0), .int a1, .int a2, .int a3] M N r M N := by
  unfold fX12_dimmer at h
  refine MI_of (own := RX12) (by decide) rfl (Nat.le_of_ble_eq_true rfl) ?_
  intro p e s m args below meth c F S ls hl
  have hx := F.1
  have hb := F.2.1
  have hown := F.2.2.2.2.1
  have hts := F.2.2.2.2.2.1
  have hZ := F.2.2.2.2.2.2.2.2.2
  have hl : lv_has ls 4 [(0, .ref (G.2.1 0)), (1, .int a1), (2, .int a2), (3, .int a3)] := hl
  generalize s.heap = H, ([] : List Loc) = locs at S ⊢
  refine lv_iload_n (pc := 0) hx hb dX12_dimmer_0 rfl (lv_at hl 1 rfl) ?_
  obtain ⟨v2, e1, h⟩ := ob_out h
  refine c_sI (pc := 1) (rest := []) F S (tX12_isPremiere e1) mfX12_isPremiere w987 ⟨Nat.le_of_ble_eq_true rfl, Nat.le_of_ble_eq_true rfl⟩ rfl hl.1 rfl (Nat.le_of_ble_eq_true rfl) dX12_dimmer_1 (fun H locs S => ?_)
  refine lv_if_eq (pc := 4) (tgt := 14) hx hb dX12_dimmer_4 (by decide) (fun c3 => ?_) (fun c3 => ?_)
  · replace h := (if_pos c3).symm.trans h
    refine lv_iconst (pc := 14) (v := (-1)) hx hb dX12_dimmer_14 (by decide) ?_
    cases h
    exact r_iret (pc := 15) F S rfl dX12_dimmer_15
  · replace h := (if_neg c3).symm.trans h
    refine lv_iload_n (pc := 7) hx hb dX12_dimmer_7 rfl (lv_at hl 2 rfl) ?_
    obtain ⟨v5, e4, h⟩ := ob_out h
    refine c_sI (pc := 8) (rest := []) F S (tX12_isDimmer e4) mfX12_isDimmer w994 ⟨Nat.le_of_ble_eq_true rfl, Nat.le_of_ble_eq_true rfl⟩ rfl hl.1 rfl (Nat.le_of_ble_eq_true rfl) dX12_dimmer_8 (fun H locs S => ?_)
    refine lv_if_ne (pc := 11) (tgt := 16) hx hb dX12_dimmer_11 (by decide) (fun c6 => ?_) (fun c6 => ?_)
    · replace h := (if_neg c6).symm.trans h
      refine lv_iload_n (pc := 16) hx hb dX12_dimmer_16 rfl (lv_at hl 3 rfl) ?_
      rcases Classical.em (a3 = 0) with c7 | c7
      · replace h := (if_pos c7).symm.trans h
        refine lv_tableIn (pc := 17) (tgt := 56) hx hb dX12_dimmer_17 (by rw [c7]; decide) (by rw [c7]; decide) (off := 39) (by rw [c7]; rfl) (by decide) ?_
        refine lv_aload_n (pc := 56) hx hb dX12_dimmer_56 rfl (lv_at hl 0 rfl) ?_
        refine r_gR (pc := 57) (k := 0) (x := 1) (i := 0) (ci := 12) F S (by decide) (by decide) cl12 inRX12 (by decide) w903 (fun _ => rfl) dX12_dimmer_57 ?_
        refine lv_iload_n (pc := 60) hx hb dX12_dimmer_60 rfl (lv_at hl 1 rfl) ?_
        refine lv_bipush (pc := 61) (v := 75) hx hb dX12_dimmer_61 (by decide) ?_
        refine lv_iload_n (pc := 63) hx hb dX12_dimmer_63 rfl (lv_at hl 2 rfl) ?_
        refine lv_iadd (pc := 64) hx hb dX12_dimmer_64 ?_
        obtain ⟨v9, e8, h⟩ := ob_out h
        refine c_sI (pc := 65) (rest := [.ref (G.2.1 1)]) F S (tX12_at1 e8) mfX12_at1 w900 ⟨Nat.le_of_ble_eq_true rfl, Nat.le_of_ble_eq_true rfl⟩ rfl hl.1 rfl (Nat.le_of_ble_eq_true rfl) dX12_dimmer_65 (fun H locs S => ?_)
        obtain ⟨v10, e11, h⟩ := ob_out h
        refine r_nL (pc := 68) F S e11 dX12_dimmer_68 ?_
        cases h
        exact r_iret (pc := 69) F S rfl dX12_dimmer_69
      replace h := (if_neg c7).symm.trans h
      rcases Classical.em (a3 = 1) with c12 | c12
      · replace h := (if_pos c12).symm.trans h
        refine lv_tableIn (pc := 17) (tgt := 70) hx hb dX12_dimmer_17 (by rw [c12]; decide) (by rw [c12]; decide) (off := 53) (by rw [c12]; rfl) (by decide) ?_
        refine lv_aload_n (pc := 70) hx hb dX12_dimmer_70 rfl (lv_at hl 0 rfl) ?_
        refine lv_iload_n (pc := 71) hx hb dX12_dimmer_71 rfl (lv_at hl 1 rfl) ?_
        refine lv_iload_n (pc := 72) hx hb dX12_dimmer_72 rfl (lv_at hl 2 rfl) ?_
        obtain ⟨v14, e13, h⟩ := ob_out h
        refine c_vI (pc := 73) (rest := []) F S (tX12_load e13) mfX12_load (by decide) (by decide) cl12 w1090 ⟨Nat.le_of_ble_eq_true rfl, Nat.le_of_ble_eq_true rfl⟩ rfl hl.1 rfl (Nat.le_of_ble_eq_true rfl) dX12_dimmer_73 (fun H locs S => ?_)
        cases h
        exact r_iret (pc := 76) F S rfl dX12_dimmer_76
      replace h := (if_neg c12).symm.trans h
      rcases Classical.em (a3 = 2) with c15 | c15
      · replace h := (if_pos c15).symm.trans h
        refine lv_tableIn (pc := 17) (tgt := 77) hx hb dX12_dimmer_17 (by rw [c15]; decide) (by rw [c15]; decide) (off := 60) (by rw [c15]; rfl) (by decide) ?_
        refine lv_aload_n (pc := 77) hx hb dX12_dimmer_77 rfl (lv_at hl 0 rfl) ?_
        refine r_gR (pc := 78) (k := 0) (x := 1) (i := 0) (ci := 12) F S (by decide) (by decide) cl12 inRX12 (by decide) w903 (fun _ => rfl) dX12_dimmer_78 ?_
        refine lv_iload_n (pc := 81) hx hb dX12_dimmer_81 rfl (lv_at hl 1 rfl) ?_
        refine lv_bipush (pc := 82) (v := 87) hx hb dX12_dimmer_82 (by decide) ?_
        refine lv_iload_n (pc := 84) hx hb dX12_dimmer_84 rfl (lv_at hl 2 rfl) ?_
        refine lv_iadd (pc := 85) hx hb dX12_dimmer_85 ?_
        obtain ⟨v17, e16, h⟩ := ob_out h
        refine c_sI (pc := 86) (rest := [.ref (G.2.1 1)]) F S (tX12_at1 e16) mfX12_at1 w900 ⟨Nat.le_of_ble_eq_true rfl, Nat.le_of_ble_eq_true rfl⟩ rfl hl.1 rfl (Nat.le_of_ble_eq_true rfl) dX12_dimmer_86 (fun H locs S => ?_)
        obtain ⟨v18, e19, h⟩ := ob_out h
        refine r_nL (pc := 89) F S e19 dX12_dimmer_89 ?_
        cases h
        exact r_iret (pc := 90) F S rfl dX12_dimmer_90
      replace h := (if_neg c15).symm.trans h
      rcases Classical.em (a3 = 3) with c20 | c20
      · replace h := (if_pos c20).symm.trans h
        refine lv_tableIn (pc := 17) (tgt := 91) hx hb dX12_dimmer_17 (by rw [c20]; decide) (by rw [c20]; decide) (off := 74) (by rw [c20]; rfl) (by decide) ?_
        refine lv_aload_n (pc := 91) hx hb dX12_dimmer_91 rfl (lv_at hl 0 rfl) ?_
        refine r_gR (pc := 92) (k := 0) (x := 1) (i := 0) (ci := 12) F S (by decide) (by decide) cl12 inRX12 (by decide) w903 (fun _ => rfl) dX12_dimmer_92 ?_
        refine lv_iload_n (pc := 95) hx hb dX12_dimmer_95 rfl (lv_at hl 1 rfl) ?_
        refine lv_bipush (pc := 96) (v := 102) hx hb dX12_dimmer_96 (by decide) ?_
        refine lv_iload_n (pc := 98) hx hb dX12_dimmer_98 rfl (lv_at hl 2 rfl) ?_
        refine lv_iadd (pc := 99) hx hb dX12_dimmer_99 ?_
        obtain ⟨v22, e21, h⟩ := ob_out h
        refine c_sI (pc := 100) (rest := [.ref (G.2.1 1)]) F S (tX12_at1 e21) mfX12_at1 w900 ⟨Nat.le_of_ble_eq_true rfl, Nat.le_of_ble_eq_true rfl⟩ rfl hl.1 rfl (Nat.le_of_ble_eq_true rfl) dX12_dimmer_100 (fun H locs S => ?_)
        obtain ⟨v23, e24, h⟩ := ob_out h
        refine r_nL (pc := 103) F S e24 dX12_dimmer_103 ?_
        cases h
        exact r_iret (pc := 104) F S rfl dX12_dimmer_104
      replace h := (if_neg c20).symm.trans h
      rcases Classical.em (a3 = 4) with c25 | c25
      · replace h := (if_pos c25).symm.trans h
        refine lv_tableIn (pc := 17) (tgt := 105) hx hb dX12_dimmer_17 (by rw [c25]; decide) (by rw [c25]; decide) (off := 88) (by rw [c25]; rfl) (by decide) ?_
        refine lv_aload_n (pc := 105) hx hb dX12_dimmer_105 rfl (lv_at hl 0 rfl) ?_
        refine lv_iload_n (pc := 106) hx hb dX12_dimmer_106 rfl (lv_at hl 1 rfl) ?_
        refine lv_iload_n (pc := 107) hx hb dX12_dimmer_107 rfl (lv_at hl 2 rfl) ?_
        obtain ⟨v27, e26, h⟩ := ob_out h
        refine c_vI (pc := 108) (rest := []) F S (tX12_lampsOn e26) mfX12_lampsOn (by decide) (by decide) cl12 w1155 ⟨Nat.le_of_ble_eq_true rfl, Nat.le_of_ble_eq_true rfl⟩ rfl hl.1 rfl (Nat.le_of_ble_eq_true rfl) dX12_dimmer_108 (fun H locs S => ?_)
        cases h
        exact r_iret (pc := 111) F S rfl dX12_dimmer_111
      replace h := (if_neg c25).symm.trans h
      rcases Classical.em (a3 = 5) with c28 | c28
      · replace h := (if_pos c28).symm.trans h
        refine lv_tableIn (pc := 17) (tgt := 112) hx hb dX12_dimmer_17 (by rw [c28]; decide) (by rw [c28]; decide) (off := 95) (by rw [c28]; rfl) (by decide) ?_
        refine lv_aload_n (pc := 112) hx hb dX12_dimmer_112 rfl (lv_at hl 0 rfl) ?_
        refine lv_iload_n (pc := 113) hx hb dX12_dimmer_113 rfl (lv_at hl 1 rfl) ?_
        refine lv_iload_n (pc := 114) hx hb dX12_dimmer_114 rfl (lv_at hl 2 rfl) ?_
        obtain ⟨v30, e29, h⟩ := ob_out h
        refine c_vI (pc := 115) (rest := []) F S (tX12_worst e29) mfX12_worst (by decide) (by decide) cl12 w1023 ⟨Nat.le_of_ble_eq_true rfl, Nat.le_of_ble_eq_true rfl⟩ rfl hl.1 rfl (Nat.le_of_ble_eq_true rfl) dX12_dimmer_115 (fun H locs S => ?_)
        cases h
        exact r_iret (pc := 118) F S rfl dX12_dimmer_118
      replace h := (if_neg c28).symm.trans h
      refine lv_tableOut (pc := 17) (tgt := 119) hx hb dX12_dimmer_17 (tbl_out (fun k h1 h2 => ?_)) (by decide) ?_
      · rcases (show k = 0 ∨ k = 1 ∨ k = 2 ∨ k = 3 ∨ k = 4 ∨ k = 5 by omega) with rfl | rfl | rfl | rfl | rfl | rfl
        · exact lv_neT c7 (by decide)
        · exact lv_neT c12 (by decide)
        · exact lv_neT c15 (by decide)
        · exact lv_neT c20 (by decide)
        · exact lv_neT c25 (by decide)
        · exact lv_neT c28 (by decide)
      refine lv_bipush (pc := 119) (v := (-2)) hx hb dX12_dimmer_119 (by decide) ?_
      cases h
      exact r_iret (pc := 121) F S rfl dX12_dimmer_121
    · replace h := (if_pos c6).symm.trans h
      refine lv_iconst (pc := 14) (v := (-1)) hx hb dX12_dimmer_14 (by decide) ?_
      cases h
      exact r_iret (pc := 15) F S rfl dX12_dimmer_15
theorem mfX12_dimmersOf : MF true yX12_dimmersOf RX12 cX12_dimmersOf 5 (some .int) 2 := ⟨w1166, w13, by rw [if_pos rfl]; exact ⟨w1165, wp43⟩, ⟨by decide, by decide⟩, by decide +kernel⟩
set_option maxHeartbeats 4000000 in
theorem pX12_dimmersOf_L5 {p : Program} {l : Launch} {e : Env} {s : State} {m : MethodId} {args : Array Value} {below : List Frame} {meth : Method} {c : Code} {Q : State → Prop} {G : GD} (F : FX p s m args meth c RX12 cX12_dimmersOf 5 (some .int) G) : ∀ (n : Nat) {M N : Mem} {a1 : Int32} {a2 : Int32} {a3 : Int32} {a4 : Int32} {H : Heap} {locs : List Loc} {ls : Array Slot} {o3 : Int32}, ST G M N s H locs → lv_has ls 5 [(0, .ref (G.2.1 0)), (1, .int a1), (2, .int a2), (3, .int a3), (4, .int a4)] → fX12_dimmersOf_L5 n N a1 a2 a3 a4 = some o3 → (K1 : ∀ (H : Heap) (locs : List Loc) (ls : Array Slot), ST G M N s H locs → lv_has ls 5 [(3, .int o3)] → W p l e (Rm 1 21) s m args below meth c H locs 0 0 Q (F0 m 47 ls [])) → W p l e (Rm 1 21) s m args below meth c H locs 0 0 Q (F0 m 5 ls []) := by
  intro n
  induction n with
  | zero => intro M N a1 a2 a3 a4 H locs ls o3 S hl h K1; cases h
  | succ n ih =>
    intro M N a1 a2 a3 a4 H locs ls o3 S hl h K1
    rw [fX12_dimmersOf_L5] at h
    have hx := F.1
    have hb := F.2.1
    have hown := F.2.2.2.2.1
    have hts := F.2.2.2.2.2.1
    have hZ := F.2.2.2.2.2.2.2.2.2
    refine lv_iload (pc := 5) hx hb dX12_dimmersOf_5 (lv_at hl 4 rfl) ?_
    refine lv_bipush (pc := 7) (v := 12) hx hb dX12_dimmersOf_7 (by decide) ?_
    refine lv_icmp_ge (pc := 9) (tgt := 47) hx hb dX12_dimmersOf_9 (by decide) (fun c1 => ?_) (fun c1 => ?_)
    · replace h := (if_pos c1).symm.trans h
      cases h
      exact K1 H locs ls S (lv_sub hl [3] rfl)
    · replace h := (if_neg c1).symm.trans h
      refine lv_iload_n (pc := 12) hx hb dX12_dimmersOf_12 rfl (lv_at hl 3 rfl) ?_
      refine lv_aload_n (pc := 13) hx hb dX12_dimmersOf_13 rfl (lv_at hl 0 rfl) ?_
      refine r_gR (pc := 14) (k := 0) (x := 1) (i := 0) (ci := 12) F S (by decide) (by decide) cl12 inRX12 (by decide) w903 (fun _ => rfl) dX12_dimmersOf_14 ?_
      refine lv_iload_n (pc := 17) hx hb dX12_dimmersOf_17 rfl (lv_at hl 1 rfl) ?_
      refine lv_bipush (pc := 18) (v := 75) hx hb dX12_dimmersOf_18 (by decide) ?_
      refine lv_iload (pc := 20) hx hb dX12_dimmersOf_20 (lv_at hl 4 rfl) ?_
      refine lv_iadd (pc := 22) hx hb dX12_dimmersOf_22 ?_
      obtain ⟨v3, e2, h⟩ := ob_out h
      refine c_sI (pc := 23) (rest := [.ref (G.2.1 1), .int a3]) F S (tX12_at1 e2) mfX12_at1 w900 ⟨Nat.le_of_ble_eq_true rfl, Nat.le_of_ble_eq_true rfl⟩ rfl hl.1 rfl (Nat.le_of_ble_eq_true rfl) dX12_dimmersOf_23 (fun H locs S => ?_)
      obtain ⟨v4, e5, h⟩ := ob_out h
      refine r_nL (pc := 26) F S e5 dX12_dimmersOf_26 ?_
      refine lv_iload_n (pc := 27) hx hb dX12_dimmersOf_27 rfl (lv_at hl 2 rfl) ?_
      refine lv_icmp_ne (pc := 28) (tgt := 38) hx hb dX12_dimmersOf_28 (by decide) (fun c6 => ?_) (fun c6 => ?_)
      · replace h := (if_neg c6).symm.trans h
        refine lv_iconst (pc := 38) (v := 0) hx hb dX12_dimmersOf_38 (by decide) ?_
        refine lv_ior (pc := 39) hx hb dX12_dimmersOf_39 ?_
        obtain ⟨v7, e8, h⟩ := lt1_out h
        refine nm_i e8 ?_
        refine lv_istore_n (pc := 40) (lv' := [(3, .int v7), (0, .ref (G.2.1 0)), (1, .int a1), (2, .int a2), (4, .int a4)]) hx hb dX12_dimmersOf_40 rfl hl (by decide) rfl (fun ls hl => ?_)
        refine lv_iinc (pc := 41) (lv' := [(4, .int (a4 + 1)), (3, .int v7), (0, .ref (G.2.1 0)), (1, .int a1), (2, .int a2)]) hx hb dX12_dimmersOf_41 hl (k := 4) rfl (iinc_n (by decide)) (by decide) rfl (fun ls hl => ?_)
        refine lv_goto (pc := 44) (tgt := 5) hx hb dX12_dimmersOf_44 (by decide) ?_
        exact ih S (lv_sub hl [2, 3, 4, 1, 0] rfl) h K1
      · replace h := (if_pos c6).symm.trans h
        refine lv_iconst (pc := 31) (v := 1) hx hb dX12_dimmersOf_31 (by decide) ?_
        refine lv_iload (pc := 32) hx hb dX12_dimmersOf_32 (lv_at hl 4 rfl) ?_
        refine lv_ishl (pc := 34) hx hb dX12_dimmersOf_34 ?_
        refine lv_goto (pc := 35) (tgt := 39) hx hb dX12_dimmersOf_35 (by decide) ?_
        refine lv_ior (pc := 39) hx hb dX12_dimmersOf_39 ?_
        obtain ⟨v9, e10, h⟩ := lt1_out h
        refine nm_i e10 ?_
        refine lv_istore_n (pc := 40) (lv' := [(3, .int v9), (0, .ref (G.2.1 0)), (1, .int a1), (2, .int a2), (4, .int a4)]) hx hb dX12_dimmersOf_40 rfl hl (by decide) rfl (fun ls hl => ?_)
        refine lv_iinc (pc := 41) (lv' := [(4, .int (a4 + 1)), (3, .int v9), (0, .ref (G.2.1 0)), (1, .int a1), (2, .int a2)]) hx hb dX12_dimmersOf_41 hl (k := 4) rfl (iinc_n (by decide)) (by decide) rfl (fun ls hl => ?_)
        refine lv_goto (pc := 44) (tgt := 5) hx hb dX12_dimmersOf_44 (by decide) ?_
        exact ih S (lv_sub hl [2, 3, 4, 1, 0] rfl) h K1
set_option maxHeartbeats 4000000 in
theorem tX12_dimmersOf {l : Launch} {G : GD} {M N : Mem} {a1 : Int32} {a2 : Int32} {r : Int32} (h : fX12_dimmersOf N a1 a2 = some r) : MI l yX12_dimmersOf cX12_dimmersOf 5 .int 1 21 G [.ref (G.2.1 0), .int a1, .int a2] M N r M N := by
  unfold fX12_dimmersOf at h
  refine MI_of (own := RX12) (by decide) rfl (Nat.le_of_ble_eq_true rfl) ?_
  intro p e s m args below meth c F S ls hl
  have hx := F.1
  have hb := F.2.1
  have hown := F.2.2.2.2.1
  have hts := F.2.2.2.2.2.1
  have hZ := F.2.2.2.2.2.2.2.2.2
  have hl : lv_has ls 5 [(0, .ref (G.2.1 0)), (1, .int a1), (2, .int a2)] := hl
  generalize s.heap = H, ([] : List Loc) = locs at S ⊢
  refine lv_iconst (pc := 0) (v := 0) hx hb dX12_dimmersOf_0 (by decide) ?_
  refine lv_istore_n (pc := 1) (lv' := [(3, .int 0), (0, .ref (G.2.1 0)), (1, .int a1), (2, .int a2)]) hx hb dX12_dimmersOf_1 rfl hl (by decide) rfl (fun ls hl => ?_)
  refine lv_iconst (pc := 2) (v := 0) hx hb dX12_dimmersOf_2 (by decide) ?_
  refine lv_istore (pc := 3) (lv' := [(4, .int 0), (3, .int 0), (0, .ref (G.2.1 0)), (1, .int a1), (2, .int a2)]) hx hb dX12_dimmersOf_3 hl (by decide) rfl (fun ls hl => ?_)
  obtain ⟨v1, e2, h⟩ := ob_out h
  refine pX12_dimmersOf_L5 F 5000 S (lv_sub hl [2, 3, 4, 1, 0] rfl) e2 (fun H locs ls S hl => ?_)
  refine lv_iload_n (pc := 47) hx hb dX12_dimmersOf_47 rfl (lv_at hl 0 rfl) ?_
  cases h
  exact r_iret (pc := 48) F S rfl dX12_dimmersOf_48
theorem mfX12_phase : MF true yX12_phase RX12 cX12_phase 4 (some .int) 3 := ⟨w1162, w13, by rw [if_pos rfl]; exact ⟨w1160, w1161⟩, ⟨by decide, by decide⟩, by decide +kernel⟩
set_option maxHeartbeats 4000000 in
theorem tX12_phase {l : Launch} {G : GD} {M N : Mem} {a1 : Int32} {a2 : Int32} {a3 : Int32} {r : Int32} (h : fX12_phase N a1 a2 a3 = some r) : MI l yX12_phase cX12_phase 4 .int 5 118 G [.ref (G.2.1 0), .int a1, .int a2, .int a3] M N r M N := by
  unfold fX12_phase at h
  refine MI_of (own := RX12) (by decide) rfl (Nat.le_of_ble_eq_true rfl) ?_
  intro p e s m args below meth c F S ls hl
  have hx := F.1
  have hb := F.2.1
  have hown := F.2.2.2.2.1
  have hts := F.2.2.2.2.2.1
  have hZ := F.2.2.2.2.2.2.2.2.2
  have hl : lv_has ls 4 [(0, .ref (G.2.1 0)), (1, .int a1), (2, .int a2), (3, .int a3)] := hl
  generalize s.heap = H, ([] : List Loc) = locs at S ⊢
  refine lv_iload_n (pc := 0) hx hb dX12_phase_0 rfl (lv_at hl 1 rfl) ?_
  obtain ⟨v2, e1, h⟩ := ob_out h
  refine c_sI (pc := 1) (rest := []) F S (tX12_isPremiere e1) mfX12_isPremiere w987 ⟨Nat.le_of_ble_eq_true rfl, Nat.le_of_ble_eq_true rfl⟩ rfl hl.1 rfl (Nat.le_of_ble_eq_true rfl) dX12_phase_1 (fun H locs S => ?_)
  refine lv_if_eq (pc := 4) (tgt := 16) hx hb dX12_phase_4 (by decide) (fun c3 => ?_) (fun c3 => ?_)
  · replace h := (if_pos c3).symm.trans h
    refine lv_iconst (pc := 16) (v := (-1)) hx hb dX12_phase_16 (by decide) ?_
    cases h
    exact r_iret (pc := 17) F S rfl dX12_phase_17
  · replace h := (if_neg c3).symm.trans h
    refine lv_iload_n (pc := 7) hx hb dX12_phase_7 rfl (lv_at hl 2 rfl) ?_
    refine lv_iconst (pc := 8) (v := 0) hx hb dX12_phase_8 (by decide) ?_
    refine lv_iconst (pc := 9) (v := 2) hx hb dX12_phase_9 (by decide) ?_
    obtain ⟨v5, e4, h⟩ := ob_out h
    refine c_sI (pc := 10) (rest := []) F S (tX12_in e4) mfX12_in w972 ⟨Nat.le_of_ble_eq_true rfl, Nat.le_of_ble_eq_true rfl⟩ rfl hl.1 rfl (Nat.le_of_ble_eq_true rfl) dX12_phase_10 (fun H locs S => ?_)
    refine lv_if_ne (pc := 13) (tgt := 18) hx hb dX12_phase_13 (by decide) (fun c6 => ?_) (fun c6 => ?_)
    · replace h := (if_neg c6).symm.trans h
      refine lv_iload_n (pc := 18) hx hb dX12_phase_18 rfl (lv_at hl 3 rfl) ?_
      rcases Classical.em (a3 = 0) with c7 | c7
      · replace h := (if_pos c7).symm.trans h
        refine lv_tableIn (pc := 19) (tgt := 52) hx hb dX12_phase_19 (by rw [c7]; decide) (by rw [c7]; decide) (off := 33) (by rw [c7]; rfl) (by decide) ?_
        refine lv_aload_n (pc := 52) hx hb dX12_phase_52 rfl (lv_at hl 0 rfl) ?_
        refine lv_iload_n (pc := 53) hx hb dX12_phase_53 rfl (lv_at hl 1 rfl) ?_
        refine lv_bipush (pc := 54) (v := 12) hx hb dX12_phase_54 (by decide) ?_
        refine lv_iload_n (pc := 56) hx hb dX12_phase_56 rfl (lv_at hl 2 rfl) ?_
        refine lv_iadd (pc := 57) hx hb dX12_phase_57 ?_
        obtain ⟨v9, e8, h⟩ := ob_out h
        refine c_vI (pc := 58) (rest := []) F S (tX12_load e8) mfX12_load (by decide) (by decide) cl12 w1090 ⟨Nat.le_of_ble_eq_true rfl, Nat.le_of_ble_eq_true rfl⟩ rfl hl.1 rfl (Nat.le_of_ble_eq_true rfl) dX12_phase_58 (fun H locs S => ?_)
        cases h
        exact r_iret (pc := 61) F S rfl dX12_phase_61
      replace h := (if_neg c7).symm.trans h
      rcases Classical.em (a3 = 1) with c10 | c10
      · replace h := (if_pos c10).symm.trans h
        refine lv_tableIn (pc := 19) (tgt := 62) hx hb dX12_phase_19 (by rw [c10]; decide) (by rw [c10]; decide) (off := 43) (by rw [c10]; rfl) (by decide) ?_
        refine lv_aload_n (pc := 62) hx hb dX12_phase_62 rfl (lv_at hl 0 rfl) ?_
        refine r_gR (pc := 63) (k := 0) (x := 1) (i := 0) (ci := 12) F S (by decide) (by decide) cl12 inRX12 (by decide) w903 (fun _ => rfl) dX12_phase_63 ?_
        refine lv_iload_n (pc := 66) hx hb dX12_phase_66 rfl (lv_at hl 1 rfl) ?_
        refine lv_bipush (pc := 67) (v := 99) hx hb dX12_phase_67 (by decide) ?_
        refine lv_iload_n (pc := 69) hx hb dX12_phase_69 rfl (lv_at hl 2 rfl) ?_
        refine lv_iadd (pc := 70) hx hb dX12_phase_70 ?_
        obtain ⟨v12, e11, h⟩ := ob_out h
        refine c_sI (pc := 71) (rest := [.ref (G.2.1 1)]) F S (tX12_at1 e11) mfX12_at1 w900 ⟨Nat.le_of_ble_eq_true rfl, Nat.le_of_ble_eq_true rfl⟩ rfl hl.1 rfl (Nat.le_of_ble_eq_true rfl) dX12_phase_71 (fun H locs S => ?_)
        obtain ⟨v13, e14, h⟩ := ob_out h
        refine r_nL (pc := 74) F S e14 dX12_phase_74 ?_
        cases h
        exact r_iret (pc := 75) F S rfl dX12_phase_75
      replace h := (if_neg c10).symm.trans h
      rcases Classical.em (a3 = 2) with c15 | c15
      · replace h := (if_pos c15).symm.trans h
        refine lv_tableIn (pc := 19) (tgt := 76) hx hb dX12_phase_19 (by rw [c15]; decide) (by rw [c15]; decide) (off := 57) (by rw [c15]; rfl) (by decide) ?_
        refine lv_aload_n (pc := 76) hx hb dX12_phase_76 rfl (lv_at hl 0 rfl) ?_
        refine r_gR (pc := 77) (k := 0) (x := 1) (i := 0) (ci := 12) F S (by decide) (by decide) cl12 inRX12 (by decide) w903 (fun _ => rfl) dX12_phase_77 ?_
        refine lv_iload_n (pc := 80) hx hb dX12_phase_80 rfl (lv_at hl 1 rfl) ?_
        refine lv_bipush (pc := 81) (v := 114) hx hb dX12_phase_81 (by decide) ?_
        refine lv_iload_n (pc := 83) hx hb dX12_phase_83 rfl (lv_at hl 2 rfl) ?_
        refine lv_iadd (pc := 84) hx hb dX12_phase_84 ?_
        obtain ⟨v17, e16, h⟩ := ob_out h
        refine c_sI (pc := 85) (rest := [.ref (G.2.1 1)]) F S (tX12_at1 e16) mfX12_at1 w900 ⟨Nat.le_of_ble_eq_true rfl, Nat.le_of_ble_eq_true rfl⟩ rfl hl.1 rfl (Nat.le_of_ble_eq_true rfl) dX12_phase_85 (fun H locs S => ?_)
        obtain ⟨v18, e19, h⟩ := ob_out h
        refine r_nL (pc := 88) F S e19 dX12_phase_88 ?_
        cases h
        exact r_iret (pc := 89) F S rfl dX12_phase_89
      replace h := (if_neg c15).symm.trans h
      rcases Classical.em (a3 = 3) with c20 | c20
      · replace h := (if_pos c20).symm.trans h
        refine lv_tableIn (pc := 19) (tgt := 90) hx hb dX12_phase_19 (by rw [c20]; decide) (by rw [c20]; decide) (off := 71) (by rw [c20]; rfl) (by decide) ?_
        refine lv_aload_n (pc := 90) hx hb dX12_phase_90 rfl (lv_at hl 0 rfl) ?_
        refine lv_iload_n (pc := 91) hx hb dX12_phase_91 rfl (lv_at hl 1 rfl) ?_
        refine lv_iload_n (pc := 92) hx hb dX12_phase_92 rfl (lv_at hl 2 rfl) ?_
        obtain ⟨v22, e21, h⟩ := ob_out h
        refine c_vI (pc := 93) (rest := []) F S (tX12_dimmersOf e21) mfX12_dimmersOf (by decide) (by decide) cl12 w1163 ⟨Nat.le_of_ble_eq_true rfl, Nat.le_of_ble_eq_true rfl⟩ rfl hl.1 rfl (Nat.le_of_ble_eq_true rfl) dX12_phase_93 (fun H locs S => ?_)
        cases h
        exact r_iret (pc := 96) F S rfl dX12_phase_96
      replace h := (if_neg c20).symm.trans h
      rcases Classical.em (a3 = 4) with c23 | c23
      · replace h := (if_pos c23).symm.trans h
        refine lv_tableIn (pc := 19) (tgt := 97) hx hb dX12_phase_19 (by rw [c23]; decide) (by rw [c23]; decide) (off := 78) (by rw [c23]; rfl) (by decide) ?_
        refine lv_aload_n (pc := 97) hx hb dX12_phase_97 rfl (lv_at hl 0 rfl) ?_
        refine lv_iload_n (pc := 98) hx hb dX12_phase_98 rfl (lv_at hl 1 rfl) ?_
        refine lv_bipush (pc := 99) (v := 12) hx hb dX12_phase_99 (by decide) ?_
        refine lv_iload_n (pc := 101) hx hb dX12_phase_101 rfl (lv_at hl 2 rfl) ?_
        refine lv_iadd (pc := 102) hx hb dX12_phase_102 ?_
        obtain ⟨v25, e24, h⟩ := ob_out h
        refine c_vI (pc := 103) (rest := []) F S (tX12_worst e24) mfX12_worst (by decide) (by decide) cl12 w1023 ⟨Nat.le_of_ble_eq_true rfl, Nat.le_of_ble_eq_true rfl⟩ rfl hl.1 rfl (Nat.le_of_ble_eq_true rfl) dX12_phase_103 (fun H locs S => ?_)
        cases h
        exact r_iret (pc := 106) F S rfl dX12_phase_106
      replace h := (if_neg c23).symm.trans h
      refine lv_tableOut (pc := 19) (tgt := 107) hx hb dX12_phase_19 (tbl_out (fun k h1 h2 => ?_)) (by decide) ?_
      · rcases (show k = 0 ∨ k = 1 ∨ k = 2 ∨ k = 3 ∨ k = 4 by omega) with rfl | rfl | rfl | rfl | rfl
        · exact lv_neT c7 (by decide)
        · exact lv_neT c10 (by decide)
        · exact lv_neT c15 (by decide)
        · exact lv_neT c20 (by decide)
        · exact lv_neT c23 (by decide)
      refine lv_bipush (pc := 107) (v := (-2)) hx hb dX12_phase_107 (by decide) ?_
      cases h
      exact r_iret (pc := 109) F S rfl dX12_phase_109
    · replace h := (if_pos c6).symm.trans h
      refine lv_iconst (pc := 16) (v := (-1)) hx hb dX12_phase_16 (by decide) ?_
      cases h
      exact r_iret (pc := 17) F S rfl dX12_phase_17
theorem mfX12_cue : MF true yX12_cue RX12 cX12_cue 5 (some .int) 3 := ⟨w1170, w13, by rw [if_pos rfl]; exact ⟨w1168, w1169⟩, ⟨by decide, by decide⟩, by decide +kernel⟩
set_option maxHeartbeats 4000000 in
theorem tX12_cue {l : Launch} {G : GD} {M N : Mem} {a1 : Int32} {a2 : Int32} {a3 : Int32} {r : Int32} (h : fX12_cue N a1 a2 a3 = some r) : MI l yX12_cue cX12_cue 5 .int 4 93 G [.ref (G.2.1 0), .int a1, .int a2, .int a3] M N r M N := by
  unfold fX12_cue at h
  refine MI_of (own := RX12) (by decide) rfl (Nat.le_of_ble_eq_true rfl) ?_
  intro p e s m args below meth c F S ls hl
  have hx := F.1
  have hb := F.2.1
  have hown := F.2.2.2.2.1
  have hts := F.2.2.2.2.2.1
  have hZ := F.2.2.2.2.2.2.2.2.2
  have hl : lv_has ls 5 [(0, .ref (G.2.1 0)), (1, .int a1), (2, .int a2), (3, .int a3)] := hl
  generalize s.heap = H, ([] : List Loc) = locs at S ⊢
  refine lv_iload_n (pc := 0) hx hb dX12_cue_0 rfl (lv_at hl 1 rfl) ?_
  refine lv_iload_n (pc := 1) hx hb dX12_cue_1 rfl (lv_at hl 2 rfl) ?_
  obtain ⟨v2, e1, h⟩ := ob_out h
  refine c_sI (pc := 2) (rest := []) F S (tX12_isCue e1) mfX12_isCue w1051 ⟨Nat.le_of_ble_eq_true rfl, Nat.le_of_ble_eq_true rfl⟩ rfl hl.1 rfl (Nat.le_of_ble_eq_true rfl) dX12_cue_2 (fun H locs S => ?_)
  refine lv_if_ne (pc := 5) (tgt := 10) hx hb dX12_cue_5 (by decide) (fun c3 => ?_) (fun c3 => ?_)
  · replace h := (if_neg c3).symm.trans h
    refine lv_aload_n (pc := 10) hx hb dX12_cue_10 rfl (lv_at hl 0 rfl) ?_
    refine r_gR (pc := 11) (k := 0) (x := 1) (i := 0) (ci := 12) F S (by decide) (by decide) cl12 inRX12 (by decide) w903 (fun _ => rfl) dX12_cue_11 ?_
    refine lv_iload_n (pc := 14) hx hb dX12_cue_14 rfl (lv_at hl 1 rfl) ?_
    refine lv_iload_n (pc := 15) hx hb dX12_cue_15 rfl (lv_at hl 2 rfl) ?_
    obtain ⟨v5, e4, h⟩ := ob_out h
    refine c_sI (pc := 16) (rest := [.ref (G.2.1 1)]) F S (tX12_ofCue e4) mfX12_ofCue w1000 ⟨Nat.le_of_ble_eq_true rfl, Nat.le_of_ble_eq_true rfl⟩ rfl hl.1 rfl (Nat.le_of_ble_eq_true rfl) dX12_cue_16 (fun H locs S => ?_)
    obtain ⟨v6, e7, h⟩ := ob_out h
    refine r_nL (pc := 19) F S e7 dX12_cue_19 ?_
    refine lv_istore (pc := 20) (lv' := [(4, .int v6), (0, .ref (G.2.1 0)), (1, .int a1), (2, .int a2), (3, .int a3)]) hx hb dX12_cue_20 hl (by decide) rfl (fun ls hl => ?_)
    refine lv_iload_n (pc := 22) hx hb dX12_cue_22 rfl (lv_at hl 4 rfl) ?_
    refine lv_if_ne (pc := 23) (tgt := 39) hx hb dX12_cue_23 (by decide) (fun c8 => ?_) (fun c8 => ?_)
    · replace h := (if_neg c8).symm.trans h
      refine lv_iload_n (pc := 39) hx hb dX12_cue_39 rfl (lv_at hl 4 rfl) ?_
      refine lv_iconst (pc := 40) (v := 1) hx hb dX12_cue_40 (by decide) ?_
      refine lv_icmp_ne (pc := 41) (tgt := 49) hx hb dX12_cue_41 (by decide) (fun c9 => ?_) (fun c9 => ?_)
      · replace h := (if_neg c9).symm.trans h
        refine lv_iload_n (pc := 49) hx hb dX12_cue_49 rfl (lv_at hl 4 rfl) ?_
        refine lv_iconst (pc := 50) (v := 2) hx hb dX12_cue_50 (by decide) ?_
        refine lv_icmp_ne (pc := 51) (tgt := 65) hx hb dX12_cue_51 (by decide) (fun c10 => ?_) (fun c10 => ?_)
        · replace h := (if_neg c10).symm.trans h
          refine lv_bipush (pc := 65) (v := (-2)) hx hb dX12_cue_65 (by decide) ?_
          cases h
          exact r_iret (pc := 67) F S rfl dX12_cue_67
        · replace h := (if_pos c10).symm.trans h
          refine lv_aload_n (pc := 54) hx hb dX12_cue_54 rfl (lv_at hl 1 rfl) ?_
          refine lv_iload_n (pc := 55) hx hb dX12_cue_55 rfl (lv_at hl 2 rfl) ?_
          refine lv_bipush (pc := 56) (v := 15) hx hb dX12_cue_56 (by decide) ?_
          refine lv_iload_n (pc := 58) hx hb dX12_cue_58 rfl (lv_at hl 3 rfl) ?_
          obtain ⟨v12, e11, h⟩ := ob_out h
          refine c_vI (pc := 59) (rest := []) F S (tX12_loadBy e11) mfX12_loadBy (by decide) (by decide) cl12 w1027 ⟨Nat.le_of_ble_eq_true rfl, Nat.le_of_ble_eq_true rfl⟩ rfl hl.1 rfl (Nat.le_of_ble_eq_true rfl) dX12_cue_59 (fun H locs S => ?_)
          refine lv_goto (pc := 62) (tgt := 67) hx hb dX12_cue_62 (by decide) ?_
          cases h
          exact r_iret (pc := 67) F S rfl dX12_cue_67
      · replace h := (if_pos c9).symm.trans h
        refine lv_iload (pc := 44) hx hb dX12_cue_44 (lv_at hl 0 rfl) ?_
        refine lv_goto (pc := 46) (tgt := 67) hx hb dX12_cue_46 (by decide) ?_
        cases h
        exact r_iret (pc := 67) F S rfl dX12_cue_67
    · replace h := (if_pos c8).symm.trans h
      refine lv_iload (pc := 26) hx hb dX12_cue_26 (lv_at hl 0 rfl) ?_
      refine lv_if_le (pc := 28) (tgt := 35) hx hb dX12_cue_28 (by decide) (fun c13 => ?_) (fun c13 => ?_)
      · replace h := (if_pos c13).symm.trans h
        refine lv_iconst (pc := 35) (v := 0) hx hb dX12_cue_35 (by decide) ?_
        refine lv_goto (pc := 36) (tgt := 67) hx hb dX12_cue_36 (by decide) ?_
        cases h
        exact r_iret (pc := 67) F S rfl dX12_cue_67
      · replace h := (if_neg c13).symm.trans h
        refine lv_iconst (pc := 31) (v := 1) hx hb dX12_cue_31 (by decide) ?_
        refine lv_goto (pc := 32) (tgt := 67) hx hb dX12_cue_32 (by decide) ?_
        cases h
        exact r_iret (pc := 67) F S rfl dX12_cue_67
  · replace h := (if_pos c3).symm.trans h
    refine lv_iconst (pc := 8) (v := (-1)) hx hb dX12_cue_8 (by decide) ?_
    cases h
    exact r_iret (pc := 9) F S rfl dX12_cue_9
