/-! the walks: each method does what its function says -/
theorem mfX12_know : MF true yX12_know RX12 cX12_know 2 none 0 := ⟨w978, w13, by rw [if_pos rfl]; exact ⟨w977, wp19⟩, ⟨by decide, by decide⟩, by decide +kernel⟩
set_option maxHeartbeats 4000000 in
theorem pX12_know_L11 {p : Program} {l : Launch} {e : Env} {s : State} {m : MethodId} {args : Array Value} {below : List Frame} {meth : Method} {c : Code} {Q : State → Prop} {G : GD} (F : FX p s m args meth c RX12 cX12_know 2 none G) : ∀ (n : Nat) {M N : Mem} {a1 : Int32} {H : Heap} {locs : List Loc} {ls : Array Slot} {Mo : Mem}, ST G M N s H locs → lv_has ls 2 [(0, .ref (G.2.1 0)), (1, .int a1)] → fX12_know_L11 n N a1 = some Mo → (K1 : ∀ (H : Heap) (locs : List Loc) (ls : Array Slot), ST G M Mo s H locs → lv_has ls 2 [(0, .ref (G.2.1 0))] → W p l e (Rm 0 0) s m args below meth c H locs 0 0 Q (F0 m 40 ls [])) → W p l e (Rm 0 0) s m args below meth c H locs 0 0 Q (F0 m 11 ls []) := by
  intro n
  induction n with
  | zero => intro M N a1 H locs ls Mo S hl h K1; cases h
  | succ n ih =>
    intro M N a1 H locs ls Mo S hl h K1
    rw [fX12_know_L11] at h
    have hx := F.1
    have hb := F.2.1
    have hown := F.2.2.2.2.1
    have hts := F.2.2.2.2.2.1
    have hZ := F.2.2.2.2.2.2.2.2.2
    refine lv_iload_n (pc := 11) hx hb dX12_know_11 rfl (lv_at hl 1 rfl) ?_
    refine lv_sipush (pc := 12) (v := 3455) hx hb dX12_know_12 (by decide) ?_
    refine lv_icmp_ge (pc := 15) (tgt := 40) hx hb dX12_know_15 (by decide) (fun c4 => ?_) (fun c4 => ?_)
    · replace h := (if_pos c4).symm.trans h
      cases h
      exact K1 H locs ls S (lv_sub hl [0] rfl)
    · replace h := (if_neg c4).symm.trans h
      refine lv_aload_n (pc := 18) hx hb dX12_know_18 rfl (lv_at hl 0 rfl) ?_
      refine r_gR (pc := 19) (k := 2) (x := 3) (i := 0) (ci := 12) F S (by decide) (by decide) cl12 inRX12 (by decide) w905 (fun _ => rfl) dX12_know_19 ?_
      refine lv_iload_n (pc := 22) hx hb dX12_know_22 rfl (lv_at hl 1 rfl) ?_
      refine lv_aload_n (pc := 23) hx hb dX12_know_23 rfl (lv_at hl 0 rfl) ?_
      refine r_gR (pc := 24) (k := 2) (x := 3) (i := 0) (ci := 12) F S (by decide) (by decide) cl12 inRX12 (by decide) w905 (fun _ => rfl) dX12_know_24 ?_
      refine lv_sipush (pc := 27) (v := 691) hx hb dX12_know_27 (by decide) ?_
      refine lv_iload_n (pc := 30) hx hb dX12_know_30 rfl (lv_at hl 1 rfl) ?_
      refine lv_iadd (pc := 31) hx hb dX12_know_31 ?_
      obtain ⟨v5, e6, h⟩ := ob_out h
      refine r_nL (pc := 32) F S e6 dX12_know_32 ?_
      obtain ⟨M7, e8, h⟩ := ob_out h
      refine r_nS (pc := 33) F S e8 dX12_know_33 (fun H locs S => ?_)
      refine lv_iinc (pc := 34) (lv' := [(1, .int (a1 + 1)), (0, .ref (G.2.1 0))]) hx hb dX12_know_34 hl (k := 1) rfl (iinc_n (by decide)) (by decide) rfl (fun ls hl => ?_)
      refine lv_goto (pc := 37) (tgt := 11) hx hb dX12_know_37 (by decide) ?_
      exact ih S (lv_sub hl [1, 0] rfl) h K1
set_option maxHeartbeats 4000000 in
theorem pX12_know_L52 {p : Program} {l : Launch} {e : Env} {s : State} {m : MethodId} {args : Array Value} {below : List Frame} {meth : Method} {c : Code} {Q : State → Prop} {G : GD} (F : FX p s m args meth c RX12 cX12_know 2 none G) : ∀ (n : Nat) {M N : Mem} {a1 : Int32} {H : Heap} {locs : List Loc} {ls : Array Slot} {Mo : Mem}, ST G M N s H locs → lv_has ls 2 [(0, .ref (G.2.1 0)), (1, .int a1)] → fX12_know_L52 n N a1 = some Mo → (K1 : ∀ (H : Heap) (locs : List Loc) (ls : Array Slot), ST G M Mo s H locs → lv_has ls 2 [(0, .ref (G.2.1 0))] → W p l e (Rm 0 0) s m args below meth c H locs 0 0 Q (F0 m 86 ls [])) → W p l e (Rm 0 0) s m args below meth c H locs 0 0 Q (F0 m 52 ls []) := by
  intro n
  induction n with
  | zero => intro M N a1 H locs ls Mo S hl h K1; cases h
  | succ n ih =>
    intro M N a1 H locs ls Mo S hl h K1
    rw [fX12_know_L52] at h
    have hx := F.1
    have hb := F.2.1
    have hown := F.2.2.2.2.1
    have hts := F.2.2.2.2.2.1
    have hZ := F.2.2.2.2.2.2.2.2.2
    refine lv_iload_n (pc := 52) hx hb dX12_know_52 rfl (lv_at hl 1 rfl) ?_
    refine lv_sipush (pc := 53) (v := 691) hx hb dX12_know_53 (by decide) ?_
    refine lv_icmp_ge (pc := 56) (tgt := 86) hx hb dX12_know_56 (by decide) (fun c6 => ?_) (fun c6 => ?_)
    · replace h := (if_pos c6).symm.trans h
      cases h
      exact K1 H locs ls S (lv_sub hl [0] rfl)
    · replace h := (if_neg c6).symm.trans h
      refine lv_aload_n (pc := 59) hx hb dX12_know_59 rfl (lv_at hl 0 rfl) ?_
      refine r_gR (pc := 60) (k := 2) (x := 3) (i := 0) (ci := 12) F S (by decide) (by decide) cl12 inRX12 (by decide) w905 (fun _ => rfl) dX12_know_60 ?_
      refine lv_sipush (pc := 63) (v := 691) hx hb dX12_know_63 (by decide) ?_
      refine lv_aload_n (pc := 66) hx hb dX12_know_66 rfl (lv_at hl 0 rfl) ?_
      obtain ⟨v7, e8, h⟩ := ob_out h
      refine r_gN (pc := 67) (k := 3) F S e8 (by decide) cl12 inRX12 (by decide) w906 (fun _ => rfl) dX12_know_67 ?_
      refine lv_imul (pc := 70) hx hb dX12_know_70 ?_
      refine lv_iload_n (pc := 71) hx hb dX12_know_71 rfl (lv_at hl 1 rfl) ?_
      refine lv_iadd (pc := 72) hx hb dX12_know_72 ?_
      refine lv_aload_n (pc := 73) hx hb dX12_know_73 rfl (lv_at hl 0 rfl) ?_
      refine r_gR (pc := 74) (k := 0) (x := 1) (i := 0) (ci := 12) F S (by decide) (by decide) cl12 inRX12 (by decide) w903 (fun _ => rfl) dX12_know_74 ?_
      refine lv_iload_n (pc := 77) hx hb dX12_know_77 rfl (lv_at hl 1 rfl) ?_
      obtain ⟨v9, e10, h⟩ := ob_out h
      refine r_nL (pc := 78) F S e10 dX12_know_78 ?_
      obtain ⟨M11, e12, h⟩ := ob_out h
      refine r_nS (pc := 79) F S e12 dX12_know_79 (fun H locs S => ?_)
      refine lv_iinc (pc := 80) (lv' := [(1, .int (a1 + 1)), (0, .ref (G.2.1 0))]) hx hb dX12_know_80 hl (k := 1) rfl (iinc_n (by decide)) (by decide) rfl (fun ls hl => ?_)
      refine lv_goto (pc := 83) (tgt := 52) hx hb dX12_know_83 (by decide) ?_
      exact ih S (lv_sub hl [1, 0] rfl) h K1
set_option maxHeartbeats 4000000 in
theorem tX12_know {l : Launch} {G : GD} {M N Mo : Mem} (h : fX12_know N = some Mo) : MV l yX12_know cX12_know 2 0 0 G [.ref (G.2.1 0)] M N M Mo := by
  unfold fX12_know at h
  refine MV_of (own := RX12) (by decide) rfl (Nat.le_of_ble_eq_true rfl) ?_
  intro p e s m args below meth c F S ls hl
  have hx := F.1
  have hb := F.2.1
  have hown := F.2.2.2.2.1
  have hts := F.2.2.2.2.2.1
  have hZ := F.2.2.2.2.2.2.2.2.2
  have hl : lv_has ls 2 [(0, .ref (G.2.1 0))] := hl
  generalize s.heap = H, ([] : List Loc) = locs at S ⊢
  refine lv_aload_n (pc := 0) hx hb dX12_know_0 rfl (lv_at hl 0 rfl) ?_
  obtain ⟨v1, e2, h⟩ := ob_out h
  refine r_gN (pc := 1) (k := 3) F S e2 (by decide) cl12 inRX12 (by decide) w906 (fun _ => rfl) dX12_know_1 ?_
  refine lv_bipush (pc := 4) (v := 6) hx hb dX12_know_4 (by decide) ?_
  obtain ⟨M3, d4, h⟩ := ob_out h
  have J5 : ∀ (H : Heap) (locs : List Loc) (ls : Array Slot), ST G M M3 s H locs → lv_has ls 2 [(0, .ref (G.2.1 0))] → W p l e (Rm 0 0) s m args below meth c H locs 0 0 (MQ below (va_Qv (fun _ : Unit => True) (fun _ t => Wd G M Mo t) (AG G.2.1)) args s 0 0 (AG G.2.1)) (F0 m 50 ls []) := by
    intro H locs ls S hl
    refine lv_iconst (pc := 50) (v := 0) hx hb dX12_know_50 (by decide) ?_
    refine lv_istore_n (pc := 51) (lv' := [(1, .int 0), (0, .ref (G.2.1 0))]) hx hb dX12_know_51 rfl hl (by decide) rfl (fun ls hl => ?_)
    obtain ⟨M6, e7, h⟩ := ob_out h
    refine pX12_know_L52 F 5000 S (lv_sub hl [1, 0] rfl) e7 (fun H locs ls S hl => ?_)
    refine lv_aload_n (pc := 86) hx hb dX12_know_86 rfl (lv_at hl 0 rfl) ?_
    refine lv_dup (pc := 87) hx hb dX12_know_87 rfl ?_
    obtain ⟨v8, e9, h⟩ := ob_out h
    refine r_gN (pc := 88) (k := 3) F S e9 (by decide) cl12 inRX12 (by decide) w906 (fun _ => rfl) dX12_know_88 ?_
    refine lv_iconst (pc := 91) (v := 1) hx hb dX12_know_91 (by decide) ?_
    refine lv_iadd (pc := 92) hx hb dX12_know_92 ?_
    obtain ⟨M10, e11, h⟩ := ob_out h
    refine r_pN (pc := 93) (k := 3) (ty0 := tyX12) F S e11 (by decide) cl12 inRX12 tyX12_ok nmX12 (by decide) w906 rfl (by decide +kernel) (fun _ => Nat.le_of_ble_eq_true rfl) (fun _ => pf_12_3) dX12_know_93 (fun H locs S => ?_)
    cases h
    exact r_vret (pc := 96) F S dX12_know_96
  refine lv_icmp_ne (pc := 6) (tgt := 50) hx hb dX12_know_6 (by decide) (fun c12 => ?_) (fun c12 => ?_)
  · replace d4 := (if_neg c12).symm.trans d4
    cases d4
    exact J5 H locs ls S (lv_sub hl [0] rfl)
  · replace d4 := (if_pos c12).symm.trans d4
    refine lv_iconst (pc := 9) (v := 0) hx hb dX12_know_9 (by decide) ?_
    refine lv_istore_n (pc := 10) (lv' := [(1, .int 0), (0, .ref (G.2.1 0))]) hx hb dX12_know_10 rfl hl (by decide) rfl (fun ls hl => ?_)
    obtain ⟨M13, e14, d4⟩ := ob_out d4
    refine pX12_know_L11 F 5000 S (lv_sub hl [1, 0] rfl) e14 (fun H locs ls S hl => ?_)
    refine lv_aload_n (pc := 40) hx hb dX12_know_40 rfl (lv_at hl 0 rfl) ?_
    refine lv_dup (pc := 41) hx hb dX12_know_41 rfl ?_
    obtain ⟨v15, e16, d4⟩ := ob_out d4
    refine r_gN (pc := 42) (k := 3) F S e16 (by decide) cl12 inRX12 (by decide) w906 (fun _ => rfl) dX12_know_42 ?_
    refine lv_iconst (pc := 45) (v := 1) hx hb dX12_know_45 (by decide) ?_
    refine lv_isub (pc := 46) hx hb dX12_know_46 ?_
    obtain ⟨M17, e18, d4⟩ := ob_out d4
    refine r_pN (pc := 47) (k := 3) (ty0 := tyX12) F S e18 (by decide) cl12 inRX12 tyX12_ok nmX12 (by decide) w906 rfl (by decide +kernel) (fun _ => Nat.le_of_ble_eq_true rfl) (fun _ => pf_12_3) dX12_know_47 (fun H locs S => ?_)
    cases d4
    exact J5 H locs ls S (lv_sub hl [0] rfl)
theorem mfX12_putAside : MF true yX12_putAside RX12 cX12_putAside 2 none 0 := ⟨w1230, w13, by rw [if_pos rfl]; exact ⟨w1229, wp53⟩, ⟨by decide, by decide⟩, by decide +kernel⟩
set_option maxHeartbeats 4000000 in
theorem pX12_putAside_L2 {p : Program} {l : Launch} {e : Env} {s : State} {m : MethodId} {args : Array Value} {below : List Frame} {meth : Method} {c : Code} {Q : State → Prop} {G : GD} (F : FX p s m args meth c RX12 cX12_putAside 2 none G) : ∀ (n : Nat) {M N : Mem} {a1 : Int32} {H : Heap} {locs : List Loc} {ls : Array Slot} {Mo : Mem}, ST G M N s H locs → lv_has ls 2 [(0, .ref (G.2.1 0)), (1, .int a1)] → fX12_putAside_L2 n N a1 = some Mo → (K1 : ∀ (H : Heap) (locs : List Loc) (ls : Array Slot), ST G M Mo s H locs → lv_has ls 2 [] → W p l e (Rm 0 0) s m args below meth c H locs 0 0 Q (F0 m 27 ls [])) → W p l e (Rm 0 0) s m args below meth c H locs 0 0 Q (F0 m 2 ls []) := by
  intro n
  induction n with
  | zero => intro M N a1 H locs ls Mo S hl h K1; cases h
  | succ n ih =>
    intro M N a1 H locs ls Mo S hl h K1
    rw [fX12_putAside_L2] at h
    have hx := F.1
    have hb := F.2.1
    have hown := F.2.2.2.2.1
    have hts := F.2.2.2.2.2.1
    have hZ := F.2.2.2.2.2.2.2.2.2
    refine lv_iload_n (pc := 2) hx hb dX12_putAside_2 rfl (lv_at hl 1 rfl) ?_
    refine lv_sipush (pc := 3) (v := 691) hx hb dX12_putAside_3 (by decide) ?_
    refine lv_icmp_ge (pc := 6) (tgt := 27) hx hb dX12_putAside_6 (by decide) (fun c1 => ?_) (fun c1 => ?_)
    · replace h := (if_pos c1).symm.trans h
      cases h
      exact K1 H locs ls S (lv_sub hl [] rfl)
    · replace h := (if_neg c1).symm.trans h
      refine lv_aload_n (pc := 9) hx hb dX12_putAside_9 rfl (lv_at hl 0 rfl) ?_
      refine r_gR (pc := 10) (k := 1) (x := 2) (i := 0) (ci := 12) F S (by decide) (by decide) cl12 inRX12 (by decide) w904 (fun _ => rfl) dX12_putAside_10 ?_
      refine lv_iload_n (pc := 13) hx hb dX12_putAside_13 rfl (lv_at hl 1 rfl) ?_
      refine lv_aload_n (pc := 14) hx hb dX12_putAside_14 rfl (lv_at hl 0 rfl) ?_
      refine r_gR (pc := 15) (k := 0) (x := 1) (i := 0) (ci := 12) F S (by decide) (by decide) cl12 inRX12 (by decide) w903 (fun _ => rfl) dX12_putAside_15 ?_
      refine lv_iload_n (pc := 18) hx hb dX12_putAside_18 rfl (lv_at hl 1 rfl) ?_
      obtain ⟨v2, e3, h⟩ := ob_out h
      refine r_nL (pc := 19) F S e3 dX12_putAside_19 ?_
      obtain ⟨M4, e5, h⟩ := ob_out h
      refine r_nS (pc := 20) F S e5 dX12_putAside_20 (fun H locs S => ?_)
      refine lv_iinc (pc := 21) (lv' := [(1, .int (a1 + 1)), (0, .ref (G.2.1 0))]) hx hb dX12_putAside_21 hl (k := 1) rfl (iinc_n (by decide)) (by decide) rfl (fun ls hl => ?_)
      refine lv_goto (pc := 24) (tgt := 2) hx hb dX12_putAside_24 (by decide) ?_
      exact ih S (lv_sub hl [1, 0] rfl) h K1
set_option maxHeartbeats 4000000 in
theorem tX12_putAside {l : Launch} {G : GD} {M N Mo : Mem} (h : fX12_putAside N = some Mo) : MV l yX12_putAside cX12_putAside 2 0 0 G [.ref (G.2.1 0)] M N M Mo := by
  unfold fX12_putAside at h
  refine MV_of (own := RX12) (by decide) rfl (Nat.le_of_ble_eq_true rfl) ?_
  intro p e s m args below meth c F S ls hl
  have hx := F.1
  have hb := F.2.1
  have hown := F.2.2.2.2.1
  have hts := F.2.2.2.2.2.1
  have hZ := F.2.2.2.2.2.2.2.2.2
  have hl : lv_has ls 2 [(0, .ref (G.2.1 0))] := hl
  generalize s.heap = H, ([] : List Loc) = locs at S ⊢
  refine lv_iconst (pc := 0) (v := 0) hx hb dX12_putAside_0 (by decide) ?_
  refine lv_istore_n (pc := 1) (lv' := [(1, .int 0), (0, .ref (G.2.1 0))]) hx hb dX12_putAside_1 rfl hl (by decide) rfl (fun ls hl => ?_)
  obtain ⟨M1, e2, h⟩ := ob_out h
  refine pX12_putAside_L2 F 5000 S (lv_sub hl [1, 0] rfl) e2 (fun H locs ls S hl => ?_)
  cases h
  exact r_vret (pc := 27) F S dX12_putAside_27
theorem mfX12_putBack : MF true yX12_putBack RX12 cX12_putBack 2 none 0 := ⟨w1234, w13, by rw [if_pos rfl]; exact ⟨w1233, wp54⟩, ⟨by decide, by decide⟩, by decide +kernel⟩
set_option maxHeartbeats 4000000 in
theorem pX12_putBack_L2 {p : Program} {l : Launch} {e : Env} {s : State} {m : MethodId} {args : Array Value} {below : List Frame} {meth : Method} {c : Code} {Q : State → Prop} {G : GD} (F : FX p s m args meth c RX12 cX12_putBack 2 none G) : ∀ (n : Nat) {M N : Mem} {a1 : Int32} {H : Heap} {locs : List Loc} {ls : Array Slot} {Mo : Mem}, ST G M N s H locs → lv_has ls 2 [(0, .ref (G.2.1 0)), (1, .int a1)] → fX12_putBack_L2 n N a1 = some Mo → (K1 : ∀ (H : Heap) (locs : List Loc) (ls : Array Slot), ST G M Mo s H locs → lv_has ls 2 [] → W p l e (Rm 0 0) s m args below meth c H locs 0 0 Q (F0 m 27 ls [])) → W p l e (Rm 0 0) s m args below meth c H locs 0 0 Q (F0 m 2 ls []) := by
  intro n
  induction n with
  | zero => intro M N a1 H locs ls Mo S hl h K1; cases h
  | succ n ih =>
    intro M N a1 H locs ls Mo S hl h K1
    rw [fX12_putBack_L2] at h
    have hx := F.1
    have hb := F.2.1
    have hown := F.2.2.2.2.1
    have hts := F.2.2.2.2.2.1
    have hZ := F.2.2.2.2.2.2.2.2.2
    refine lv_iload_n (pc := 2) hx hb dX12_putBack_2 rfl (lv_at hl 1 rfl) ?_
    refine lv_sipush (pc := 3) (v := 691) hx hb dX12_putBack_3 (by decide) ?_
    refine lv_icmp_ge (pc := 6) (tgt := 27) hx hb dX12_putBack_6 (by decide) (fun c1 => ?_) (fun c1 => ?_)
    · replace h := (if_pos c1).symm.trans h
      cases h
      exact K1 H locs ls S (lv_sub hl [] rfl)
    · replace h := (if_neg c1).symm.trans h
      refine lv_aload_n (pc := 9) hx hb dX12_putBack_9 rfl (lv_at hl 0 rfl) ?_
      refine r_gR (pc := 10) (k := 0) (x := 1) (i := 0) (ci := 12) F S (by decide) (by decide) cl12 inRX12 (by decide) w903 (fun _ => rfl) dX12_putBack_10 ?_
      refine lv_iload_n (pc := 13) hx hb dX12_putBack_13 rfl (lv_at hl 1 rfl) ?_
      refine lv_aload_n (pc := 14) hx hb dX12_putBack_14 rfl (lv_at hl 0 rfl) ?_
      refine r_gR (pc := 15) (k := 1) (x := 2) (i := 0) (ci := 12) F S (by decide) (by decide) cl12 inRX12 (by decide) w904 (fun _ => rfl) dX12_putBack_15 ?_
      refine lv_iload_n (pc := 18) hx hb dX12_putBack_18 rfl (lv_at hl 1 rfl) ?_
      obtain ⟨v2, e3, h⟩ := ob_out h
      refine r_nL (pc := 19) F S e3 dX12_putBack_19 ?_
      obtain ⟨M4, e5, h⟩ := ob_out h
      refine r_nS (pc := 20) F S e5 dX12_putBack_20 (fun H locs S => ?_)
      refine lv_iinc (pc := 21) (lv' := [(1, .int (a1 + 1)), (0, .ref (G.2.1 0))]) hx hb dX12_putBack_21 hl (k := 1) rfl (iinc_n (by decide)) (by decide) rfl (fun ls hl => ?_)
      refine lv_goto (pc := 24) (tgt := 2) hx hb dX12_putBack_24 (by decide) ?_
      exact ih S (lv_sub hl [1, 0] rfl) h K1
set_option maxHeartbeats 4000000 in
theorem tX12_putBack {l : Launch} {G : GD} {M N Mo : Mem} (h : fX12_putBack N = some Mo) : MV l yX12_putBack cX12_putBack 2 0 0 G [.ref (G.2.1 0)] M N M Mo := by
  unfold fX12_putBack at h
  refine MV_of (own := RX12) (by decide) rfl (Nat.le_of_ble_eq_true rfl) ?_
  intro p e s m args below meth c F S ls hl
  have hx := F.1
  have hb := F.2.1
  have hown := F.2.2.2.2.1
  have hts := F.2.2.2.2.2.1
  have hZ := F.2.2.2.2.2.2.2.2.2
  have hl : lv_has ls 2 [(0, .ref (G.2.1 0))] := hl
  generalize s.heap = H, ([] : List Loc) = locs at S ⊢
  refine lv_iconst (pc := 0) (v := 0) hx hb dX12_putBack_0 (by decide) ?_
  refine lv_istore_n (pc := 1) (lv' := [(1, .int 0), (0, .ref (G.2.1 0))]) hx hb dX12_putBack_1 rfl hl (by decide) rfl (fun ls hl => ?_)
  obtain ⟨M1, e2, h⟩ := ob_out h
  refine pX12_putBack_L2 F 5000 S (lv_sub hl [1, 0] rfl) e2 (fun H locs ls S hl => ?_)
  cases h
  exact r_vret (pc := 27) F S dX12_putBack_27
theorem mfX12_watts : MF true yX12_watts RX12 cX12_watts 4 (some .int) 3 := ⟨w1034, w13, by rw [if_pos rfl]; exact ⟨w1033, wp23⟩, ⟨by decide, by decide⟩, by decide +kernel⟩
set_option maxHeartbeats 4000000 in
theorem tX12_watts {l : Launch} {G : GD} {M N : Mem} {a1 : Int32} {a2 : Int32} {a3 : Int32} {r : Int32} (h : fX12_watts N a1 a2 a3 = some r) : MI l yX12_watts cX12_watts 4 .int 2 43 G [.ref (G.2.1 0), .int a1, .int a2, .int a3] M N r M N := by
  unfold fX12_watts at h
  refine MI_of (own := RX12) (by decide) rfl (Nat.le_of_ble_eq_true rfl) ?_
  intro p e s m args below meth c F S ls hl
  have hx := F.1
  have hb := F.2.1
  have hown := F.2.2.2.2.1
  have hts := F.2.2.2.2.2.1
  have hZ := F.2.2.2.2.2.2.2.2.2
  have hl : lv_has ls 4 [(0, .ref (G.2.1 0)), (1, .int a1), (2, .int a2), (3, .int a3)] := hl
  generalize s.heap = H, ([] : List Loc) = locs at S ⊢
  refine lv_aload_n (pc := 0) hx hb dX12_watts_0 rfl (lv_at hl 0 rfl) ?_
  refine r_gR (pc := 1) (k := 0) (x := 1) (i := 0) (ci := 12) F S (by decide) (by decide) cl12 inRX12 (by decide) w903 (fun _ => rfl) dX12_watts_1 ?_
  refine lv_iconst (pc := 4) (v := 4) hx hb dX12_watts_4 (by decide) ?_
  refine lv_iconst (pc := 5) (v := 3) hx hb dX12_watts_5 (by decide) ?_
  refine lv_aload_n (pc := 6) hx hb dX12_watts_6 rfl (lv_at hl 0 rfl) ?_
  refine r_gR (pc := 7) (k := 0) (x := 1) (i := 0) (ci := 12) F S (by decide) (by decide) cl12 inRX12 (by decide) w903 (fun _ => rfl) dX12_watts_7 ?_
  refine lv_iload_n (pc := 10) hx hb dX12_watts_10 rfl (lv_at hl 1 rfl) ?_
  refine lv_iload_n (pc := 11) hx hb dX12_watts_11 rfl (lv_at hl 2 rfl) ?_
  refine lv_iconst (pc := 12) (v := 0) hx hb dX12_watts_12 (by decide) ?_
  obtain ⟨v2, e1, h⟩ := ob_out h
  refine c_sI (pc := 13) (rest := [.ref (G.2.1 1), .int 3, .int 4, .ref (G.2.1 1)]) F S (tX12_ofLamp e1) mfX12_ofLamp w997 ⟨Nat.le_of_ble_eq_true rfl, Nat.le_of_ble_eq_true rfl⟩ rfl hl.1 rfl (Nat.le_of_ble_eq_true rfl) dX12_watts_13 (fun H locs S => ?_)
  obtain ⟨v3, e4, h⟩ := ob_out h
  refine r_nL (pc := 16) F S e4 dX12_watts_16 ?_
  refine lv_imul (pc := 17) hx hb dX12_watts_17 ?_
  refine lv_iadd (pc := 18) hx hb dX12_watts_18 ?_
  obtain ⟨v5, e6, h⟩ := ob_out h
  refine r_nL (pc := 19) F S e6 dX12_watts_19 ?_
  refine lv_iload_n (pc := 20) hx hb dX12_watts_20 rfl (lv_at hl 3 rfl) ?_
  refine lv_imul (pc := 21) hx hb dX12_watts_21 ?_
  refine lv_bipush (pc := 22) (v := 100) hx hb dX12_watts_22 (by decide) ?_
  obtain ⟨v7, e8, h⟩ := ob_out h
  refine lv_idiv (pc := 24) hx hb dX12_watts_24 (dv_out e8).1 ?_
  refine nm_i (dv_out e8).2 ?_
  cases h
  exact r_iret (pc := 25) F S rfl dX12_watts_25
theorem mfX12_loadOfLamp : MF true yX12_loadOfLamp RX12 cX12_loadOfLamp 4 (some .int) 2 := ⟨w1097, w13, by rw [if_pos rfl]; exact ⟨w1096, wp33⟩, ⟨by decide, by decide⟩, by decide +kernel⟩
set_option maxHeartbeats 4000000 in
theorem tX12_loadOfLamp {l : Launch} {G : GD} {M N : Mem} {a1 : Int32} {a2 : Int32} {r : Int32} (h : fX12_loadOfLamp N a1 a2 = some r) : MI l yX12_loadOfLamp cX12_loadOfLamp 4 .int 3 66 G [.ref (G.2.1 0), .int a1, .int a2] M N r M N := by
  unfold fX12_loadOfLamp at h
  refine MI_of (own := RX12) (by decide) rfl (Nat.le_of_ble_eq_true rfl) ?_
  intro p e s m args below meth c F S ls hl
  have hx := F.1
  have hb := F.2.1
  have hown := F.2.2.2.2.1
  have hts := F.2.2.2.2.2.1
  have hZ := F.2.2.2.2.2.2.2.2.2
  have hl : lv_has ls 4 [(0, .ref (G.2.1 0)), (1, .int a1), (2, .int a2)] := hl
  generalize s.heap = H, ([] : List Loc) = locs at S ⊢
  refine lv_aload_n (pc := 0) hx hb dX12_loadOfLamp_0 rfl (lv_at hl 0 rfl) ?_
  refine r_gR (pc := 1) (k := 0) (x := 1) (i := 0) (ci := 12) F S (by decide) (by decide) cl12 inRX12 (by decide) w903 (fun _ => rfl) dX12_loadOfLamp_1 ?_
  refine lv_iload_n (pc := 4) hx hb dX12_loadOfLamp_4 rfl (lv_at hl 1 rfl) ?_
  refine lv_iload_n (pc := 5) hx hb dX12_loadOfLamp_5 rfl (lv_at hl 2 rfl) ?_
  refine lv_iconst (pc := 6) (v := 1) hx hb dX12_loadOfLamp_6 (by decide) ?_
  obtain ⟨v2, e1, h⟩ := ob_out h
  refine c_sI (pc := 7) (rest := [.ref (G.2.1 1)]) F S (tX12_ofLamp e1) mfX12_ofLamp w997 ⟨Nat.le_of_ble_eq_true rfl, Nat.le_of_ble_eq_true rfl⟩ rfl hl.1 rfl (Nat.le_of_ble_eq_true rfl) dX12_loadOfLamp_7 (fun H locs S => ?_)
  obtain ⟨v3, e4, h⟩ := ob_out h
  refine r_nL (pc := 10) F S e4 dX12_loadOfLamp_10 ?_
  refine lv_istore_n (pc := 11) (lv' := [(3, .int v3), (0, .ref (G.2.1 0)), (1, .int a1), (2, .int a2)]) hx hb dX12_loadOfLamp_11 rfl hl (by decide) rfl (fun ls hl => ?_)
  refine lv_iload_n (pc := 12) hx hb dX12_loadOfLamp_12 rfl (lv_at hl 0 rfl) ?_
  refine lv_bipush (pc := 13) (v := (-6)) hx hb dX12_loadOfLamp_13 (by decide) ?_
  refine lv_icmp_eq (pc := 15) (tgt := 64) hx hb dX12_loadOfLamp_15 (by decide) (fun c5 => ?_) (fun c5 => ?_)
  · replace h := (if_pos c5).symm.trans h
    refine lv_iconst (pc := 64) (v := 0) hx hb dX12_loadOfLamp_64 (by decide) ?_
    cases h
    exact r_iret (pc := 65) F S rfl dX12_loadOfLamp_65
  · replace h := (if_neg c5).symm.trans h
    refine lv_aload_n (pc := 18) hx hb dX12_loadOfLamp_18 rfl (lv_at hl 1 rfl) ?_
    refine r_gR (pc := 19) (k := 0) (x := 1) (i := 0) (ci := 12) F S (by decide) (by decide) cl12 inRX12 (by decide) w903 (fun _ => rfl) dX12_loadOfLamp_19 ?_
    refine lv_iload_n (pc := 22) hx hb dX12_loadOfLamp_22 rfl (lv_at hl 2 rfl) ?_
    refine lv_bipush (pc := 23) (v := 87) hx hb dX12_loadOfLamp_23 (by decide) ?_
    refine lv_iload_n (pc := 25) hx hb dX12_loadOfLamp_25 rfl (lv_at hl 0 rfl) ?_
    refine lv_iadd (pc := 26) hx hb dX12_loadOfLamp_26 ?_
    obtain ⟨v7, e6, h⟩ := ob_out h
    refine c_sI (pc := 27) (rest := [.ref (G.2.1 1)]) F S (tX12_at1 e6) mfX12_at1 w900 ⟨Nat.le_of_ble_eq_true rfl, Nat.le_of_ble_eq_true rfl⟩ rfl hl.1 rfl (Nat.le_of_ble_eq_true rfl) dX12_loadOfLamp_27 (fun H locs S => ?_)
    obtain ⟨v8, e9, h⟩ := ob_out h
    refine r_nL (pc := 30) F S e9 dX12_loadOfLamp_30 ?_
    refine lv_iconst (pc := 31) (v := 1) hx hb dX12_loadOfLamp_31 (by decide) ?_
    refine lv_icmp_eq (pc := 32) (tgt := 64) hx hb dX12_loadOfLamp_32 (by decide) (fun c10 => ?_) (fun c10 => ?_)
    · replace h := (if_pos c10).symm.trans h
      refine lv_iconst (pc := 64) (v := 0) hx hb dX12_loadOfLamp_64 (by decide) ?_
      cases h
      exact r_iret (pc := 65) F S rfl dX12_loadOfLamp_65
    · replace h := (if_neg c10).symm.trans h
      refine lv_aload_n (pc := 35) hx hb dX12_loadOfLamp_35 rfl (lv_at hl 1 rfl) ?_
      refine r_gR (pc := 36) (k := 0) (x := 1) (i := 0) (ci := 12) F S (by decide) (by decide) cl12 inRX12 (by decide) w903 (fun _ => rfl) dX12_loadOfLamp_36 ?_
      refine lv_iload_n (pc := 39) hx hb dX12_loadOfLamp_39 rfl (lv_at hl 2 rfl) ?_
      refine lv_bipush (pc := 40) (v := 99) hx hb dX12_loadOfLamp_40 (by decide) ?_
      refine lv_aload_n (pc := 42) hx hb dX12_loadOfLamp_42 rfl (lv_at hl 1 rfl) ?_
      refine r_gR (pc := 43) (k := 0) (x := 1) (i := 0) (ci := 12) F S (by decide) (by decide) cl12 inRX12 (by decide) w903 (fun _ => rfl) dX12_loadOfLamp_43 ?_
      refine lv_iload_n (pc := 46) hx hb dX12_loadOfLamp_46 rfl (lv_at hl 2 rfl) ?_
      refine lv_bipush (pc := 47) (v := 75) hx hb dX12_loadOfLamp_47 (by decide) ?_
      refine lv_iload_n (pc := 49) hx hb dX12_loadOfLamp_49 rfl (lv_at hl 0 rfl) ?_
      refine lv_iadd (pc := 50) hx hb dX12_loadOfLamp_50 ?_
      obtain ⟨v12, e11, h⟩ := ob_out h
      refine c_sI (pc := 51) (rest := [.ref (G.2.1 1), .int 99, .int a1, .ref (G.2.1 1)]) F S (tX12_at1 e11) mfX12_at1 w900 ⟨Nat.le_of_ble_eq_true rfl, Nat.le_of_ble_eq_true rfl⟩ rfl hl.1 rfl (Nat.le_of_ble_eq_true rfl) dX12_loadOfLamp_51 (fun H locs S => ?_)
      obtain ⟨v13, e14, h⟩ := ob_out h
      refine r_nL (pc := 54) F S e14 dX12_loadOfLamp_54 ?_
      refine lv_iadd (pc := 55) hx hb dX12_loadOfLamp_55 ?_
      obtain ⟨v16, e15, h⟩ := ob_out h
      refine c_sI (pc := 56) (rest := [.ref (G.2.1 1)]) F S (tX12_at1 e15) mfX12_at1 w900 ⟨Nat.le_of_ble_eq_true rfl, Nat.le_of_ble_eq_true rfl⟩ rfl hl.1 rfl (Nat.le_of_ble_eq_true rfl) dX12_loadOfLamp_56 (fun H locs S => ?_)
      obtain ⟨v17, e18, h⟩ := ob_out h
      refine r_nL (pc := 59) F S e18 dX12_loadOfLamp_59 ?_
      refine lv_iconst (pc := 60) (v := 1) hx hb dX12_loadOfLamp_60 (by decide) ?_
      refine lv_icmp_ne (pc := 61) (tgt := 66) hx hb dX12_loadOfLamp_61 (by decide) (fun c19 => ?_) (fun c19 => ?_)
      · replace h := (if_neg c19).symm.trans h
        refine lv_aload_n (pc := 66) hx hb dX12_loadOfLamp_66 rfl (lv_at hl 1 rfl) ?_
        refine lv_iload_n (pc := 67) hx hb dX12_loadOfLamp_67 rfl (lv_at hl 2 rfl) ?_
        refine lv_iload_n (pc := 68) hx hb dX12_loadOfLamp_68 rfl (lv_at hl 3 rfl) ?_
        refine lv_aload_n (pc := 69) hx hb dX12_loadOfLamp_69 rfl (lv_at hl 1 rfl) ?_
        refine r_gR (pc := 70) (k := 0) (x := 1) (i := 0) (ci := 12) F S (by decide) (by decide) cl12 inRX12 (by decide) w903 (fun _ => rfl) dX12_loadOfLamp_70 ?_
        refine lv_iload_n (pc := 73) hx hb dX12_loadOfLamp_73 rfl (lv_at hl 2 rfl) ?_
        refine lv_iload_n (pc := 74) hx hb dX12_loadOfLamp_74 rfl (lv_at hl 3 rfl) ?_
        refine lv_iconst (pc := 75) (v := 3) hx hb dX12_loadOfLamp_75 (by decide) ?_
        obtain ⟨v21, e20, h⟩ := ob_out h
        refine c_sI (pc := 76) (rest := [.ref (G.2.1 1), .int a2, .int a1, .ref (G.2.1 0)]) F S (tX12_ofLamp e20) mfX12_ofLamp w997 ⟨Nat.le_of_ble_eq_true rfl, Nat.le_of_ble_eq_true rfl⟩ rfl hl.1 rfl (Nat.le_of_ble_eq_true rfl) dX12_loadOfLamp_76 (fun H locs S => ?_)
        obtain ⟨v22, e23, h⟩ := ob_out h
        refine r_nL (pc := 79) F S e23 dX12_loadOfLamp_79 ?_
        obtain ⟨v25, e24, h⟩ := ob_out h
        refine c_vI (pc := 80) (rest := []) F S (tX12_watts e24) mfX12_watts (by decide) (by decide) cl12 w1031 ⟨Nat.le_of_ble_eq_true rfl, Nat.le_of_ble_eq_true rfl⟩ rfl hl.1 rfl (Nat.le_of_ble_eq_true rfl) dX12_loadOfLamp_80 (fun H locs S => ?_)
        cases h
        exact r_iret (pc := 83) F S rfl dX12_loadOfLamp_83
      · replace h := (if_pos c19).symm.trans h
        refine lv_iconst (pc := 64) (v := 0) hx hb dX12_loadOfLamp_64 (by decide) ?_
        cases h
        exact r_iret (pc := 65) F S rfl dX12_loadOfLamp_65
theorem mfX12_load : MF true yX12_load RX12 cX12_load 7 (some .int) 2 := ⟨w1093, w13, by rw [if_pos rfl]; exact ⟨w1092, wp32⟩, ⟨by decide, by decide⟩, by decide +kernel⟩
set_option maxHeartbeats 4000000 in
theorem pX12_load_L5 {p : Program} {l : Launch} {e : Env} {s : State} {m : MethodId} {args : Array Value} {below : List Frame} {meth : Method} {c : Code} {Q : State → Prop} {G : GD} (F : FX p s m args meth c RX12 cX12_load 7 (some .int) G) : ∀ (n : Nat) {M N : Mem} {a1 : Int32} {a2 : Int32} {a3 : Int32} {a4 : Int32} {H : Heap} {locs : List Loc} {ls : Array Slot} {o3 : Int32}, ST G M N s H locs → lv_has ls 7 [(0, .ref (G.2.1 0)), (1, .int a1), (2, .int a2), (3, .int a3), (4, .int a4)] → fX12_load_L5 n N a1 a2 a3 a4 = some o3 → (K1 : ∀ (H : Heap) (locs : List Loc) (ls : Array Slot), ST G M N s H locs → lv_has ls 7 [(3, .int o3)] → W p l e (Rm 4 89) s m args below meth c H locs 0 0 Q (F0 m 100 ls [])) → W p l e (Rm 4 89) s m args below meth c H locs 0 0 Q (F0 m 5 ls []) := by
  intro n
  induction n with
  | zero => intro M N a1 a2 a3 a4 H locs ls o3 S hl h K1; cases h
  | succ n ih =>
    intro M N a1 a2 a3 a4 H locs ls o3 S hl h K1
    rw [fX12_load_L5] at h
    have hx := F.1
    have hb := F.2.1
    have hown := F.2.2.2.2.1
    have hts := F.2.2.2.2.2.1
    have hZ := F.2.2.2.2.2.2.2.2.2
    refine lv_iload (pc := 5) hx hb dX12_load_5 (lv_at hl 4 rfl) ?_
    refine lv_aload_n (pc := 7) hx hb dX12_load_7 rfl (lv_at hl 0 rfl) ?_
    refine r_gR (pc := 8) (k := 0) (x := 1) (i := 0) (ci := 12) F S (by decide) (by decide) cl12 inRX12 (by decide) w903 (fun _ => rfl) dX12_load_8 ?_
    refine lv_iload_n (pc := 11) hx hb dX12_load_11 rfl (lv_at hl 1 rfl) ?_
    refine lv_iconst (pc := 12) (v := 2) hx hb dX12_load_12 (by decide) ?_
    obtain ⟨v2, e1, h⟩ := ob_out h
    refine c_sI (pc := 13) (rest := [.ref (G.2.1 1), .int a4]) F S (tX12_at1 e1) mfX12_at1 w900 ⟨Nat.le_of_ble_eq_true rfl, Nat.le_of_ble_eq_true rfl⟩ rfl hl.1 rfl (Nat.le_of_ble_eq_true rfl) dX12_load_13 (fun H locs S => ?_)
    obtain ⟨v3, e4, h⟩ := ob_out h
    refine r_nL (pc := 16) F S e4 dX12_load_16 ?_
    refine lv_icmp_ge (pc := 17) (tgt := 100) hx hb dX12_load_17 (by decide) (fun c5 => ?_) (fun c5 => ?_)
    · replace h := (if_pos c5).symm.trans h
      cases h
      exact K1 H locs ls S (lv_sub hl [3] rfl)
    · replace h := (if_neg c5).symm.trans h
      refine lv_aload_n (pc := 20) hx hb dX12_load_20 rfl (lv_at hl 0 rfl) ?_
      refine r_gR (pc := 21) (k := 0) (x := 1) (i := 0) (ci := 12) F S (by decide) (by decide) cl12 inRX12 (by decide) w903 (fun _ => rfl) dX12_load_21 ?_
      refine lv_iload_n (pc := 24) hx hb dX12_load_24 rfl (lv_at hl 1 rfl) ?_
      refine lv_iload (pc := 25) hx hb dX12_load_25 (lv_at hl 4 rfl) ?_
      refine lv_iconst (pc := 27) (v := 1) hx hb dX12_load_27 (by decide) ?_
      obtain ⟨v7, e6, h⟩ := ob_out h
      refine c_sI (pc := 28) (rest := [.ref (G.2.1 1)]) F S (tX12_ofLamp e6) mfX12_ofLamp w997 ⟨Nat.le_of_ble_eq_true rfl, Nat.le_of_ble_eq_true rfl⟩ rfl hl.1 rfl (Nat.le_of_ble_eq_true rfl) dX12_load_28 (fun H locs S => ?_)
      obtain ⟨v8, e9, h⟩ := ob_out h
      refine r_nL (pc := 31) F S e9 dX12_load_31 ?_
      refine lv_istore (pc := 32) (lv' := [(5, .int v8), (0, .ref (G.2.1 0)), (1, .int a1), (2, .int a2), (3, .int a3), (4, .int a4)]) hx hb dX12_load_32 hl (by decide) rfl (fun ls hl => ?_)
      refine lv_iload (pc := 34) hx hb dX12_load_34 (lv_at hl 0 rfl) ?_
      refine lv_bipush (pc := 36) (v := (-6)) hx hb dX12_load_36 (by decide) ?_
      obtain ⟨v10, d11, h⟩ := ob_out h
      have J12 : ∀ (H : Heap) (locs : List Loc) (ls : Array Slot), ST G M N s H locs → lv_has ls 7 [(0, .ref (G.2.1 0)), (1, .int a1), (2, .int a2), (3, .int a3), (4, .int a4)] → W p l e (Rm 4 89) s m args below meth c H locs 0 0 Q (F0 m 73 ls [.int v10]) := by
        intro H locs ls S hl
        refine lv_istore (pc := 73) (lv' := [(6, .int v10), (0, .ref (G.2.1 0)), (1, .int a1), (2, .int a2), (3, .int a3), (4, .int a4)]) hx hb dX12_load_73 hl (by decide) rfl (fun ls hl => ?_)
        refine lv_iload_n (pc := 75) hx hb dX12_load_75 rfl (lv_at hl 4 rfl) ?_
        refine lv_iload (pc := 76) hx hb dX12_load_76 (lv_at hl 0 rfl) ?_
        refine lv_if_eq (pc := 78) (tgt := 91) hx hb dX12_load_78 (by decide) (fun c13 => ?_) (fun c13 => ?_)
        · replace h := (if_pos c13).symm.trans h
          refine lv_iconst (pc := 91) (v := 0) hx hb dX12_load_91 (by decide) ?_
          refine lv_iadd (pc := 92) hx hb dX12_load_92 ?_
          obtain ⟨v14, e15, h⟩ := lt1_out h
          refine nm_i e15 ?_
          refine lv_istore_n (pc := 93) (lv' := [(3, .int v14), (6, .int v10), (0, .ref (G.2.1 0)), (1, .int a1), (2, .int a2), (4, .int a4)]) hx hb dX12_load_93 rfl hl (by decide) rfl (fun ls hl => ?_)
          refine lv_iinc (pc := 94) (lv' := [(4, .int (a4 + 1)), (3, .int v14), (6, .int v10), (0, .ref (G.2.1 0)), (1, .int a1), (2, .int a2)]) hx hb dX12_load_94 hl (k := 5) rfl (iinc_n (by decide)) (by decide) rfl (fun ls hl => ?_)
          refine lv_goto (pc := 97) (tgt := 5) hx hb dX12_load_97 (by decide) ?_
          exact ih S (lv_sub hl [3, 4, 5, 1, 0] rfl) h K1
        · replace h := (if_neg c13).symm.trans h
          refine lv_aload_n (pc := 81) hx hb dX12_load_81 rfl (lv_at hl 1 rfl) ?_
          refine lv_iload_n (pc := 82) hx hb dX12_load_82 rfl (lv_at hl 2 rfl) ?_
          refine lv_iload (pc := 83) hx hb dX12_load_83 (lv_at hl 5 rfl) ?_
          obtain ⟨v17, e16, h⟩ := ob_out h
          refine c_vI (pc := 85) (rest := [.int a3]) F S (tX12_loadOfLamp e16) mfX12_loadOfLamp (by decide) (by decide) cl12 w1094 ⟨Nat.le_of_ble_eq_true rfl, Nat.le_of_ble_eq_true rfl⟩ rfl hl.1 rfl (Nat.le_of_ble_eq_true rfl) dX12_load_85 (fun H locs S => ?_)
          refine lv_goto (pc := 88) (tgt := 92) hx hb dX12_load_88 (by decide) ?_
          refine lv_iadd (pc := 92) hx hb dX12_load_92 ?_
          obtain ⟨v18, e19, h⟩ := lt1_out h
          refine nm_i e19 ?_
          refine lv_istore_n (pc := 93) (lv' := [(3, .int v18), (6, .int v10), (0, .ref (G.2.1 0)), (1, .int a1), (2, .int a2), (4, .int a4)]) hx hb dX12_load_93 rfl hl (by decide) rfl (fun ls hl => ?_)
          refine lv_iinc (pc := 94) (lv' := [(4, .int (a4 + 1)), (3, .int v18), (6, .int v10), (0, .ref (G.2.1 0)), (1, .int a1), (2, .int a2)]) hx hb dX12_load_94 hl (k := 5) rfl (iinc_n (by decide)) (by decide) rfl (fun ls hl => ?_)
          refine lv_goto (pc := 97) (tgt := 5) hx hb dX12_load_97 (by decide) ?_
          exact ih S (lv_sub hl [3, 4, 5, 1, 0] rfl) h K1
      refine lv_icmp_eq (pc := 38) (tgt := 72) hx hb dX12_load_38 (by decide) (fun c20 => ?_) (fun c20 => ?_)
      · replace d11 := (if_pos c20).symm.trans d11
        refine lv_iconst (pc := 72) (v := 0) hx hb dX12_load_72 (by decide) ?_
        cases d11
        exact J12 H locs ls S (lv_sub hl [1, 2, 3, 4, 5] rfl)
      · replace d11 := (if_neg c20).symm.trans d11
        refine lv_iload_n (pc := 41) hx hb dX12_load_41 rfl (lv_at hl 3 rfl) ?_
        refine lv_iload (pc := 42) hx hb dX12_load_42 (lv_at hl 0 rfl) ?_
        refine lv_icmp_eq (pc := 44) (tgt := 68) hx hb dX12_load_44 (by decide) (fun c21 => ?_) (fun c21 => ?_)
        · replace d11 := (if_pos c21).symm.trans d11
          refine lv_iconst (pc := 68) (v := 1) hx hb dX12_load_68 (by decide) ?_
          refine lv_goto (pc := 69) (tgt := 73) hx hb dX12_load_69 (by decide) ?_
          cases d11
          exact J12 H locs ls S (lv_sub hl [1, 2, 3, 4, 5] rfl)
        · replace d11 := (if_neg c21).symm.trans d11
          refine lv_iload_n (pc := 47) hx hb dX12_load_47 rfl (lv_at hl 3 rfl) ?_
          refine lv_bipush (pc := 48) (v := 12) hx hb dX12_load_48 (by decide) ?_
          refine lv_aload_n (pc := 50) hx hb dX12_load_50 rfl (lv_at hl 1 rfl) ?_
          refine r_gR (pc := 51) (k := 0) (x := 1) (i := 0) (ci := 12) F S (by decide) (by decide) cl12 inRX12 (by decide) w903 (fun _ => rfl) dX12_load_51 ?_
          refine lv_iload_n (pc := 54) hx hb dX12_load_54 rfl (lv_at hl 2 rfl) ?_
          refine lv_bipush (pc := 55) (v := 75) hx hb dX12_load_55 (by decide) ?_
          refine lv_iload (pc := 57) hx hb dX12_load_57 (lv_at hl 0 rfl) ?_
          refine lv_iadd (pc := 59) hx hb dX12_load_59 ?_
          obtain ⟨v23, e22, d11⟩ := ob_out d11
          refine c_sI (pc := 60) (rest := [.ref (G.2.1 1), .int 12, .int a2]) F S (tX12_at1 e22) mfX12_at1 w900 ⟨Nat.le_of_ble_eq_true rfl, Nat.le_of_ble_eq_true rfl⟩ rfl hl.1 rfl (Nat.le_of_ble_eq_true rfl) dX12_load_60 (fun H locs S => ?_)
          obtain ⟨v24, e25, d11⟩ := ob_out d11
          refine r_nL (pc := 63) F S e25 dX12_load_63 ?_
          refine lv_iadd (pc := 64) hx hb dX12_load_64 ?_
          refine lv_icmp_ne (pc := 65) (tgt := 72) hx hb dX12_load_65 (by decide) (fun c26 => ?_) (fun c26 => ?_)
          · replace d11 := (if_neg c26).symm.trans d11
            refine lv_iconst (pc := 72) (v := 0) hx hb dX12_load_72 (by decide) ?_
            cases d11
            exact J12 H locs ls S (lv_sub hl [1, 2, 3, 4, 5] rfl)
          · replace d11 := (if_pos c26).symm.trans d11
            refine lv_iconst (pc := 68) (v := 1) hx hb dX12_load_68 (by decide) ?_
            refine lv_goto (pc := 69) (tgt := 73) hx hb dX12_load_69 (by decide) ?_
            cases d11
            exact J12 H locs ls S (lv_sub hl [1, 2, 3, 4, 5] rfl)
set_option maxHeartbeats 4000000 in
theorem tX12_load {l : Launch} {G : GD} {M N : Mem} {a1 : Int32} {a2 : Int32} {r : Int32} (h : fX12_load N a1 a2 = some r) : MI l yX12_load cX12_load 7 .int 4 89 G [.ref (G.2.1 0), .int a1, .int a2] M N r M N := by
  unfold fX12_load at h
  refine MI_of (own := RX12) (by decide) rfl (Nat.le_of_ble_eq_true rfl) ?_
  intro p e s m args below meth c F S ls hl
  have hx := F.1
  have hb := F.2.1
  have hown := F.2.2.2.2.1
  have hts := F.2.2.2.2.2.1
  have hZ := F.2.2.2.2.2.2.2.2.2
  have hl : lv_has ls 7 [(0, .ref (G.2.1 0)), (1, .int a1), (2, .int a2)] := hl
  generalize s.heap = H, ([] : List Loc) = locs at S ⊢
  refine lv_iconst (pc := 0) (v := 0) hx hb dX12_load_0 (by decide) ?_
  refine lv_istore_n (pc := 1) (lv' := [(3, .int 0), (0, .ref (G.2.1 0)), (1, .int a1), (2, .int a2)]) hx hb dX12_load_1 rfl hl (by decide) rfl (fun ls hl => ?_)
  refine lv_iconst (pc := 2) (v := 0) hx hb dX12_load_2 (by decide) ?_
  refine lv_istore (pc := 3) (lv' := [(4, .int 0), (3, .int 0), (0, .ref (G.2.1 0)), (1, .int a1), (2, .int a2)]) hx hb dX12_load_3 hl (by decide) rfl (fun ls hl => ?_)
  obtain ⟨v1, e2, h⟩ := ob_out h
  refine pX12_load_L5 F 5000 S (lv_sub hl [2, 3, 4, 1, 0] rfl) e2 (fun H locs ls S hl => ?_)
  refine lv_iload_n (pc := 100) hx hb dX12_load_100 rfl (lv_at hl 0 rfl) ?_
  cases h
  exact r_iret (pc := 101) F S rfl dX12_load_101
theorem mfX12_loadBy : MF true yX12_loadBy RX12 cX12_loadBy 8 (some .int) 3 := ⟨w1030, w13, by rw [if_pos rfl]; exact ⟨w1029, wp22⟩, ⟨by decide, by decide⟩, by decide +kernel⟩
set_option maxHeartbeats 4000000 in
theorem pX12_loadBy_L6 {p : Program} {l : Launch} {e : Env} {s : State} {m : MethodId} {args : Array Value} {below : List Frame} {meth : Method} {c : Code} {Q : State → Prop} {G : GD} (F : FX p s m args meth c RX12 cX12_loadBy 8 (some .int) G) : ∀ (n : Nat) {M N : Mem} {a1 : Int32} {a2 : Int32} {a3 : Int32} {a4 : Int32} {a5 : Int32} {H : Heap} {locs : List Loc} {ls : Array Slot} {o4 : Int32}, ST G M N s H locs → lv_has ls 8 [(0, .ref (G.2.1 0)), (1, .int a1), (2, .int a2), (3, .int a3), (4, .int a4), (5, .int a5)] → fX12_loadBy_L6 n N a1 a2 a3 a4 a5 = some o4 → (K1 : ∀ (H : Heap) (locs : List Loc) (ls : Array Slot), ST G M N s H locs → lv_has ls 8 [(4, .int o4)] → W p l e (Rm 3 66) s m args below meth c H locs 0 0 Q (F0 m 137 ls [])) → W p l e (Rm 3 66) s m args below meth c H locs 0 0 Q (F0 m 6 ls []) := by
  intro n
  induction n with
  | zero => intro M N a1 a2 a3 a4 a5 H locs ls o4 S hl h K1; cases h
  | succ n ih =>
    intro M N a1 a2 a3 a4 a5 H locs ls o4 S hl h K1
    rw [fX12_loadBy_L6] at h
    have hx := F.1
    have hb := F.2.1
    have hown := F.2.2.2.2.1
    have hts := F.2.2.2.2.2.1
    have hZ := F.2.2.2.2.2.2.2.2.2
    refine lv_iload (pc := 6) hx hb dX12_loadBy_6 (lv_at hl 5 rfl) ?_
    refine lv_aload_n (pc := 8) hx hb dX12_loadBy_8 rfl (lv_at hl 0 rfl) ?_
    refine r_gR (pc := 9) (k := 0) (x := 1) (i := 0) (ci := 12) F S (by decide) (by decide) cl12 inRX12 (by decide) w903 (fun _ => rfl) dX12_loadBy_9 ?_
    refine lv_iload_n (pc := 12) hx hb dX12_loadBy_12 rfl (lv_at hl 1 rfl) ?_
    refine lv_iconst (pc := 13) (v := 2) hx hb dX12_loadBy_13 (by decide) ?_
    obtain ⟨v2, e1, h⟩ := ob_out h
    refine c_sI (pc := 14) (rest := [.ref (G.2.1 1), .int a5]) F S (tX12_at1 e1) mfX12_at1 w900 ⟨Nat.le_of_ble_eq_true rfl, Nat.le_of_ble_eq_true rfl⟩ rfl hl.1 rfl (Nat.le_of_ble_eq_true rfl) dX12_loadBy_14 (fun H locs S => ?_)
    obtain ⟨v3, e4, h⟩ := ob_out h
    refine r_nL (pc := 17) F S e4 dX12_loadBy_17 ?_
    refine lv_icmp_ge (pc := 18) (tgt := 137) hx hb dX12_loadBy_18 (by decide) (fun c5 => ?_) (fun c5 => ?_)
    · replace h := (if_pos c5).symm.trans h
      cases h
      exact K1 H locs ls S (lv_sub hl [4] rfl)
    · replace h := (if_neg c5).symm.trans h
      refine lv_aload_n (pc := 21) hx hb dX12_loadBy_21 rfl (lv_at hl 0 rfl) ?_
      refine r_gR (pc := 22) (k := 0) (x := 1) (i := 0) (ci := 12) F S (by decide) (by decide) cl12 inRX12 (by decide) w903 (fun _ => rfl) dX12_loadBy_22 ?_
      refine lv_iload_n (pc := 25) hx hb dX12_loadBy_25 rfl (lv_at hl 1 rfl) ?_
      refine lv_iload_n (pc := 26) hx hb dX12_loadBy_26 rfl (lv_at hl 3 rfl) ?_
      obtain ⟨v7, e6, h⟩ := ob_out h
      refine c_sI (pc := 27) (rest := [.ref (G.2.1 1)]) F S (tX12_ofCue e6) mfX12_ofCue w1000 ⟨Nat.le_of_ble_eq_true rfl, Nat.le_of_ble_eq_true rfl⟩ rfl hl.1 rfl (Nat.le_of_ble_eq_true rfl) dX12_loadBy_27 (fun H locs S => ?_)
      obtain ⟨v8, e9, h⟩ := ob_out h
      refine r_nL (pc := 30) F S e9 dX12_loadBy_30 ?_
      refine lv_if_le (pc := 31) (tgt := 137) hx hb dX12_loadBy_31 (by decide) (fun c10 => ?_) (fun c10 => ?_)
      · replace h := (if_pos c10).symm.trans h
        cases h
        exact K1 H locs ls S (lv_sub hl [4] rfl)
      · replace h := (if_neg c10).symm.trans h
        refine lv_aload_n (pc := 34) hx hb dX12_loadBy_34 rfl (lv_at hl 0 rfl) ?_
        refine r_gR (pc := 35) (k := 0) (x := 1) (i := 0) (ci := 12) F S (by decide) (by decide) cl12 inRX12 (by decide) w903 (fun _ => rfl) dX12_loadBy_35 ?_
        refine lv_iload_n (pc := 38) hx hb dX12_loadBy_38 rfl (lv_at hl 1 rfl) ?_
        refine lv_iload (pc := 39) hx hb dX12_loadBy_39 (lv_at hl 5 rfl) ?_
        refine lv_iconst (pc := 41) (v := 1) hx hb dX12_loadBy_41 (by decide) ?_
        obtain ⟨v12, e11, h⟩ := ob_out h
        refine c_sI (pc := 42) (rest := [.ref (G.2.1 1)]) F S (tX12_ofLamp e11) mfX12_ofLamp w997 ⟨Nat.le_of_ble_eq_true rfl, Nat.le_of_ble_eq_true rfl⟩ rfl hl.1 rfl (Nat.le_of_ble_eq_true rfl) dX12_loadBy_42 (fun H locs S => ?_)
        obtain ⟨v13, e14, h⟩ := ob_out h
        refine r_nL (pc := 45) F S e14 dX12_loadBy_45 ?_
        refine lv_istore (pc := 46) (lv' := [(6, .int v13), (0, .ref (G.2.1 0)), (1, .int a1), (2, .int a2), (3, .int a3), (4, .int a4), (5, .int a5)]) hx hb dX12_loadBy_46 hl (by decide) rfl (fun ls hl => ?_)
        refine lv_iload (pc := 48) hx hb dX12_loadBy_48 (lv_at hl 0 rfl) ?_
        refine lv_bipush (pc := 50) (v := (-6)) hx hb dX12_loadBy_50 (by decide) ?_
        obtain ⟨v15, d16, h⟩ := ob_out h
        have J17 : ∀ (H : Heap) (locs : List Loc) (ls : Array Slot), ST G M N s H locs → lv_has ls 8 [(0, .ref (G.2.1 0)), (1, .int a1), (2, .int a2), (3, .int a3), (4, .int a4), (5, .int a5)] → W p l e (Rm 3 66) s m args below meth c H locs 0 0 Q (F0 m 93 ls [.int v15]) := by
          intro H locs ls S hl
          refine lv_istore (pc := 93) (lv' := [(7, .int v15), (0, .ref (G.2.1 0)), (1, .int a1), (2, .int a2), (3, .int a3), (4, .int a4), (5, .int a5)]) hx hb dX12_loadBy_93 hl (by decide) rfl (fun ls hl => ?_)
          refine lv_iload (pc := 95) hx hb dX12_loadBy_95 (lv_at hl 5 rfl) ?_
          refine lv_iload (pc := 97) hx hb dX12_loadBy_97 (lv_at hl 0 rfl) ?_
          refine lv_if_eq (pc := 99) (tgt := 127) hx hb dX12_loadBy_99 (by decide) (fun c18 => ?_) (fun c18 => ?_)
          · replace h := (if_pos c18).symm.trans h
            refine lv_iconst (pc := 127) (v := 0) hx hb dX12_loadBy_127 (by decide) ?_
            refine lv_iadd (pc := 128) hx hb dX12_loadBy_128 ?_
            obtain ⟨v19, e20, h⟩ := lt1_out h
            refine nm_i e20 ?_
            refine lv_istore (pc := 129) (lv' := [(4, .int v19), (7, .int v15), (0, .ref (G.2.1 0)), (1, .int a1), (2, .int a2), (3, .int a3), (5, .int a5)]) hx hb dX12_loadBy_129 hl (by decide) rfl (fun ls hl => ?_)
            refine lv_iinc (pc := 131) (lv' := [(5, .int (a5 + 1)), (4, .int v19), (7, .int v15), (0, .ref (G.2.1 0)), (1, .int a1), (2, .int a2), (3, .int a3)]) hx hb dX12_loadBy_131 hl (k := 6) rfl (iinc_n (by decide)) (by decide) rfl (fun ls hl => ?_)
            refine lv_goto (pc := 134) (tgt := 6) hx hb dX12_loadBy_134 (by decide) ?_
            exact ih S (lv_sub hl [3, 4, 5, 6, 1, 0] rfl) h K1
          · replace h := (if_neg c18).symm.trans h
            refine lv_aload_n (pc := 102) hx hb dX12_loadBy_102 rfl (lv_at hl 1 rfl) ?_
            refine lv_iload_n (pc := 103) hx hb dX12_loadBy_103 rfl (lv_at hl 2 rfl) ?_
            refine lv_iload (pc := 104) hx hb dX12_loadBy_104 (lv_at hl 6 rfl) ?_
            refine lv_aload_n (pc := 106) hx hb dX12_loadBy_106 rfl (lv_at hl 1 rfl) ?_
            refine r_gR (pc := 107) (k := 0) (x := 1) (i := 0) (ci := 12) F S (by decide) (by decide) cl12 inRX12 (by decide) w903 (fun _ => rfl) dX12_loadBy_107 ?_
            refine lv_iload_n (pc := 110) hx hb dX12_loadBy_110 rfl (lv_at hl 2 rfl) ?_
            refine lv_iload_n (pc := 111) hx hb dX12_loadBy_111 rfl (lv_at hl 4 rfl) ?_
            obtain ⟨v22, e21, h⟩ := ob_out h
            refine c_sI (pc := 112) (rest := [.ref (G.2.1 1), .int a5, .int a1, .ref (G.2.1 0), .int a4]) F S (tX12_ofCue e21) mfX12_ofCue w1000 ⟨Nat.le_of_ble_eq_true rfl, Nat.le_of_ble_eq_true rfl⟩ rfl hl.1 rfl (Nat.le_of_ble_eq_true rfl) dX12_loadBy_112 (fun H locs S => ?_)
            refine lv_iconst (pc := 115) (v := 1) hx hb dX12_loadBy_115 (by decide) ?_
            refine lv_iadd (pc := 116) hx hb dX12_loadBy_116 ?_
            refine lv_iload (pc := 117) hx hb dX12_loadBy_117 (lv_at hl 6 rfl) ?_
            refine lv_iadd (pc := 119) hx hb dX12_loadBy_119 ?_
            obtain ⟨v23, e24, h⟩ := ob_out h
            refine r_nL (pc := 120) F S e24 dX12_loadBy_120 ?_
            obtain ⟨v26, e25, h⟩ := ob_out h
            refine c_vI (pc := 121) (rest := [.int a4]) F S (tX12_watts e25) mfX12_watts (by decide) (by decide) cl12 w1031 ⟨Nat.le_of_ble_eq_true rfl, Nat.le_of_ble_eq_true rfl⟩ rfl hl.1 rfl (Nat.le_of_ble_eq_true rfl) dX12_loadBy_121 (fun H locs S => ?_)
            refine lv_goto (pc := 124) (tgt := 128) hx hb dX12_loadBy_124 (by decide) ?_
            refine lv_iadd (pc := 128) hx hb dX12_loadBy_128 ?_
            obtain ⟨v27, e28, h⟩ := lt1_out h
            refine nm_i e28 ?_
            refine lv_istore (pc := 129) (lv' := [(4, .int v27), (7, .int v15), (0, .ref (G.2.1 0)), (1, .int a1), (2, .int a2), (3, .int a3), (5, .int a5)]) hx hb dX12_loadBy_129 hl (by decide) rfl (fun ls hl => ?_)
            refine lv_iinc (pc := 131) (lv' := [(5, .int (a5 + 1)), (4, .int v27), (7, .int v15), (0, .ref (G.2.1 0)), (1, .int a1), (2, .int a2), (3, .int a3)]) hx hb dX12_loadBy_131 hl (k := 6) rfl (iinc_n (by decide)) (by decide) rfl (fun ls hl => ?_)
            refine lv_goto (pc := 134) (tgt := 6) hx hb dX12_loadBy_134 (by decide) ?_
            exact ih S (lv_sub hl [3, 4, 5, 6, 1, 0] rfl) h K1
        refine lv_icmp_eq (pc := 52) (tgt := 92) hx hb dX12_loadBy_52 (by decide) (fun c29 => ?_) (fun c29 => ?_)
        · replace d16 := (if_pos c29).symm.trans d16
          refine lv_iconst (pc := 92) (v := 0) hx hb dX12_loadBy_92 (by decide) ?_
          cases d16
          exact J17 H locs ls S (lv_sub hl [1, 2, 3, 4, 5, 6] rfl)
        · replace d16 := (if_neg c29).symm.trans d16
          refine lv_iload_n (pc := 55) hx hb dX12_loadBy_55 rfl (lv_at hl 3 rfl) ?_
          refine lv_iload (pc := 56) hx hb dX12_loadBy_56 (lv_at hl 0 rfl) ?_
          refine lv_icmp_eq (pc := 58) (tgt := 88) hx hb dX12_loadBy_58 (by decide) (fun c30 => ?_) (fun c30 => ?_)
          · replace d16 := (if_pos c30).symm.trans d16
            refine lv_iconst (pc := 88) (v := 1) hx hb dX12_loadBy_88 (by decide) ?_
            refine lv_goto (pc := 89) (tgt := 93) hx hb dX12_loadBy_89 (by decide) ?_
            cases d16
            exact J17 H locs ls S (lv_sub hl [1, 2, 3, 4, 5, 6] rfl)
          · replace d16 := (if_neg c30).symm.trans d16
            refine lv_iload_n (pc := 61) hx hb dX12_loadBy_61 rfl (lv_at hl 3 rfl) ?_
            refine lv_bipush (pc := 62) (v := 15) hx hb dX12_loadBy_62 (by decide) ?_
            refine lv_icmp_eq (pc := 64) (tgt := 88) hx hb dX12_loadBy_64 (by decide) (fun c31 => ?_) (fun c31 => ?_)
            · replace d16 := (if_pos c31).symm.trans d16
              refine lv_iconst (pc := 88) (v := 1) hx hb dX12_loadBy_88 (by decide) ?_
              refine lv_goto (pc := 89) (tgt := 93) hx hb dX12_loadBy_89 (by decide) ?_
              cases d16
              exact J17 H locs ls S (lv_sub hl [1, 2, 3, 4, 5, 6] rfl)
            · replace d16 := (if_neg c31).symm.trans d16
              refine lv_iload_n (pc := 67) hx hb dX12_loadBy_67 rfl (lv_at hl 3 rfl) ?_
              refine lv_bipush (pc := 68) (v := 12) hx hb dX12_loadBy_68 (by decide) ?_
              refine lv_aload_n (pc := 70) hx hb dX12_loadBy_70 rfl (lv_at hl 1 rfl) ?_
              refine r_gR (pc := 71) (k := 0) (x := 1) (i := 0) (ci := 12) F S (by decide) (by decide) cl12 inRX12 (by decide) w903 (fun _ => rfl) dX12_loadBy_71 ?_
              refine lv_iload_n (pc := 74) hx hb dX12_loadBy_74 rfl (lv_at hl 2 rfl) ?_
              refine lv_bipush (pc := 75) (v := 75) hx hb dX12_loadBy_75 (by decide) ?_
              refine lv_iload (pc := 77) hx hb dX12_loadBy_77 (lv_at hl 0 rfl) ?_
              refine lv_iadd (pc := 79) hx hb dX12_loadBy_79 ?_
              obtain ⟨v33, e32, d16⟩ := ob_out d16
              refine c_sI (pc := 80) (rest := [.ref (G.2.1 1), .int 12, .int a2]) F S (tX12_at1 e32) mfX12_at1 w900 ⟨Nat.le_of_ble_eq_true rfl, Nat.le_of_ble_eq_true rfl⟩ rfl hl.1 rfl (Nat.le_of_ble_eq_true rfl) dX12_loadBy_80 (fun H locs S => ?_)
              obtain ⟨v34, e35, d16⟩ := ob_out d16
              refine r_nL (pc := 83) F S e35 dX12_loadBy_83 ?_
              refine lv_iadd (pc := 84) hx hb dX12_loadBy_84 ?_
              refine lv_icmp_ne (pc := 85) (tgt := 92) hx hb dX12_loadBy_85 (by decide) (fun c36 => ?_) (fun c36 => ?_)
              · replace d16 := (if_neg c36).symm.trans d16
                refine lv_iconst (pc := 92) (v := 0) hx hb dX12_loadBy_92 (by decide) ?_
                cases d16
                exact J17 H locs ls S (lv_sub hl [1, 2, 3, 4, 5, 6] rfl)
              · replace d16 := (if_pos c36).symm.trans d16
                refine lv_iconst (pc := 88) (v := 1) hx hb dX12_loadBy_88 (by decide) ?_
                refine lv_goto (pc := 89) (tgt := 93) hx hb dX12_loadBy_89 (by decide) ?_
                cases d16
                exact J17 H locs ls S (lv_sub hl [1, 2, 3, 4, 5, 6] rfl)
set_option maxHeartbeats 4000000 in
theorem tX12_loadBy {l : Launch} {G : GD} {M N : Mem} {a1 : Int32} {a2 : Int32} {a3 : Int32} {r : Int32} (h : fX12_loadBy N a1 a2 a3 = some r) : MI l yX12_loadBy cX12_loadBy 8 .int 3 66 G [.ref (G.2.1 0), .int a1, .int a2, .int a3] M N r M N := by
  unfold fX12_loadBy at h
  refine MI_of (own := RX12) (by decide) rfl (Nat.le_of_ble_eq_true rfl) ?_
  intro p e s m args below meth c F S ls hl
  have hx := F.1
  have hb := F.2.1
  have hown := F.2.2.2.2.1
  have hts := F.2.2.2.2.2.1
  have hZ := F.2.2.2.2.2.2.2.2.2
  have hl : lv_has ls 8 [(0, .ref (G.2.1 0)), (1, .int a1), (2, .int a2), (3, .int a3)] := hl
  generalize s.heap = H, ([] : List Loc) = locs at S ⊢
  refine lv_iconst (pc := 0) (v := 0) hx hb dX12_loadBy_0 (by decide) ?_
  refine lv_istore (pc := 1) (lv' := [(4, .int 0), (0, .ref (G.2.1 0)), (1, .int a1), (2, .int a2), (3, .int a3)]) hx hb dX12_loadBy_1 hl (by decide) rfl (fun ls hl => ?_)
  refine lv_iconst (pc := 3) (v := 0) hx hb dX12_loadBy_3 (by decide) ?_
  refine lv_istore (pc := 4) (lv' := [(5, .int 0), (4, .int 0), (0, .ref (G.2.1 0)), (1, .int a1), (2, .int a2), (3, .int a3)]) hx hb dX12_loadBy_4 hl (by decide) rfl (fun ls hl => ?_)
  obtain ⟨v1, e2, h⟩ := ob_out h
  refine pX12_loadBy_L6 F 5000 S (lv_sub hl [2, 3, 4, 5, 1, 0] rfl) e2 (fun H locs ls S hl => ?_)
  refine lv_iload (pc := 137) hx hb dX12_loadBy_137 (lv_at hl 0 rfl) ?_
  cases h
  exact r_iret (pc := 139) F S rfl dX12_loadBy_139
theorem mfX12_worst : MF true yX12_worst RX12 cX12_worst 6 (some .int) 2 := ⟨w1026, w13, by rw [if_pos rfl]; exact ⟨w1025, wp21⟩, ⟨by decide, by decide⟩, by decide +kernel⟩
set_option maxHeartbeats 4000000 in
theorem pX12_worst_L5 {p : Program} {l : Launch} {e : Env} {s : State} {m : MethodId} {args : Array Value} {below : List Frame} {meth : Method} {c : Code} {Q : State → Prop} {G : GD} (F : FX p s m args meth c RX12 cX12_worst 6 (some .int) G) : ∀ (n : Nat) {M N : Mem} {a1 : Int32} {a2 : Int32} {a3 : Int32} {a4 : Int32} {H : Heap} {locs : List Loc} {ls : Array Slot} {o3 : Int32}, ST G M N s H locs → lv_has ls 6 [(0, .ref (G.2.1 0)), (1, .int a1), (2, .int a2), (3, .int a3), (4, .int a4)] → fX12_worst_L5 n N a1 a2 a3 a4 = some o3 → (K1 : ∀ (H : Heap) (locs : List Loc) (ls : Array Slot), ST G M N s H locs → lv_has ls 6 [(3, .int o3)] → W p l e (Rm 4 93) s m args below meth c H locs 0 0 Q (F0 m 41 ls [])) → W p l e (Rm 4 93) s m args below meth c H locs 0 0 Q (F0 m 5 ls []) := by
  intro n
  induction n with
  | zero => intro M N a1 a2 a3 a4 H locs ls o3 S hl h K1; cases h
  | succ n ih =>
    intro M N a1 a2 a3 a4 H locs ls o3 S hl h K1
    rw [fX12_worst_L5] at h
    have hx := F.1
    have hb := F.2.1
    have hown := F.2.2.2.2.1
    have hts := F.2.2.2.2.2.1
    have hZ := F.2.2.2.2.2.2.2.2.2
    refine lv_iload (pc := 5) hx hb dX12_worst_5 (lv_at hl 4 rfl) ?_
    refine lv_bipush (pc := 7) (v := 8) hx hb dX12_worst_7 (by decide) ?_
    refine lv_icmp_ge (pc := 9) (tgt := 41) hx hb dX12_worst_9 (by decide) (fun c1 => ?_) (fun c1 => ?_)
    · replace h := (if_pos c1).symm.trans h
      cases h
      exact K1 H locs ls S (lv_sub hl [3] rfl)
    · replace h := (if_neg c1).symm.trans h
      refine lv_aload_n (pc := 12) hx hb dX12_worst_12 rfl (lv_at hl 0 rfl) ?_
      refine lv_iload_n (pc := 13) hx hb dX12_worst_13 rfl (lv_at hl 1 rfl) ?_
      refine lv_iload_n (pc := 14) hx hb dX12_worst_14 rfl (lv_at hl 2 rfl) ?_
      refine lv_iload (pc := 15) hx hb dX12_worst_15 (lv_at hl 4 rfl) ?_
      obtain ⟨v3, e2, h⟩ := ob_out h
      refine c_vI (pc := 17) (rest := []) F S (tX12_loadBy e2) mfX12_loadBy (by decide) (by decide) cl12 w1027 ⟨Nat.le_of_ble_eq_true rfl, Nat.le_of_ble_eq_true rfl⟩ rfl hl.1 rfl (Nat.le_of_ble_eq_true rfl) dX12_worst_17 (fun H locs S => ?_)
      refine lv_istore (pc := 20) (lv' := [(5, .int v3), (0, .ref (G.2.1 0)), (1, .int a1), (2, .int a2), (3, .int a3), (4, .int a4)]) hx hb dX12_worst_20 hl (by decide) rfl (fun ls hl => ?_)
      refine lv_iload (pc := 22) hx hb dX12_worst_22 (lv_at hl 0 rfl) ?_
      refine lv_iload_n (pc := 24) hx hb dX12_worst_24 rfl (lv_at hl 4 rfl) ?_
      refine lv_icmp_le (pc := 25) (tgt := 33) hx hb dX12_worst_25 (by decide) (fun c4 => ?_) (fun c4 => ?_)
      · replace h := (if_pos c4).symm.trans h
        refine lv_iload_n (pc := 33) hx hb dX12_worst_33 rfl (lv_at hl 4 rfl) ?_
        refine lv_istore_n (pc := 34) (lv' := [(3, .int a3), (5, .int v3), (0, .ref (G.2.1 0)), (1, .int a1), (2, .int a2), (4, .int a4)]) hx hb dX12_worst_34 rfl hl (by decide) rfl (fun ls hl => ?_)
        refine lv_iinc (pc := 35) (lv' := [(4, .int (a4 + 1)), (3, .int a3), (5, .int v3), (0, .ref (G.2.1 0)), (1, .int a1), (2, .int a2)]) hx hb dX12_worst_35 hl (k := 5) rfl (iinc_n (by decide)) (by decide) rfl (fun ls hl => ?_)
        refine lv_goto (pc := 38) (tgt := 5) hx hb dX12_worst_38 (by decide) ?_
        exact ih S (lv_sub hl [3, 4, 5, 1, 0] rfl) h K1
      · replace h := (if_neg c4).symm.trans h
        refine lv_iload (pc := 28) hx hb dX12_worst_28 (lv_at hl 0 rfl) ?_
        refine lv_goto (pc := 30) (tgt := 34) hx hb dX12_worst_30 (by decide) ?_
        refine lv_istore_n (pc := 34) (lv' := [(3, .int v3), (5, .int v3), (0, .ref (G.2.1 0)), (1, .int a1), (2, .int a2), (4, .int a4)]) hx hb dX12_worst_34 rfl hl (by decide) rfl (fun ls hl => ?_)
        refine lv_iinc (pc := 35) (lv' := [(4, .int (a4 + 1)), (3, .int v3), (5, .int v3), (0, .ref (G.2.1 0)), (1, .int a1), (2, .int a2)]) hx hb dX12_worst_35 hl (k := 5) rfl (iinc_n (by decide)) (by decide) rfl (fun ls hl => ?_)
        refine lv_goto (pc := 38) (tgt := 5) hx hb dX12_worst_38 (by decide) ?_
        exact ih S (lv_sub hl [3, 4, 5, 1, 0] rfl) h K1
set_option maxHeartbeats 4000000 in
theorem tX12_worst {l : Launch} {G : GD} {M N : Mem} {a1 : Int32} {a2 : Int32} {r : Int32} (h : fX12_worst N a1 a2 = some r) : MI l yX12_worst cX12_worst 6 .int 4 93 G [.ref (G.2.1 0), .int a1, .int a2] M N r M N := by
  unfold fX12_worst at h
  refine MI_of (own := RX12) (by decide) rfl (Nat.le_of_ble_eq_true rfl) ?_
  intro p e s m args below meth c F S ls hl
  have hx := F.1
  have hb := F.2.1
  have hown := F.2.2.2.2.1
  have hts := F.2.2.2.2.2.1
  have hZ := F.2.2.2.2.2.2.2.2.2
  have hl : lv_has ls 6 [(0, .ref (G.2.1 0)), (1, .int a1), (2, .int a2)] := hl
  generalize s.heap = H, ([] : List Loc) = locs at S ⊢
  refine lv_iconst (pc := 0) (v := 0) hx hb dX12_worst_0 (by decide) ?_
  refine lv_istore_n (pc := 1) (lv' := [(3, .int 0), (0, .ref (G.2.1 0)), (1, .int a1), (2, .int a2)]) hx hb dX12_worst_1 rfl hl (by decide) rfl (fun ls hl => ?_)
  refine lv_iconst (pc := 2) (v := 0) hx hb dX12_worst_2 (by decide) ?_
  refine lv_istore (pc := 3) (lv' := [(4, .int 0), (3, .int 0), (0, .ref (G.2.1 0)), (1, .int a1), (2, .int a2)]) hx hb dX12_worst_3 hl (by decide) rfl (fun ls hl => ?_)
  obtain ⟨v1, e2, h⟩ := ob_out h
  refine pX12_worst_L5 F 5000 S (lv_sub hl [2, 3, 4, 1, 0] rfl) e2 (fun H locs ls S hl => ?_)
  refine lv_iload_n (pc := 41) hx hb dX12_worst_41 rfl (lv_at hl 0 rfl) ?_
  cases h
  exact r_iret (pc := 42) F S rfl dX12_worst_42
theorem mfX12_trip : MF true yX12_trip RX12 cX12_trip 8 (some .int) 4 := ⟨w1089, w13, by rw [if_pos rfl]; exact ⟨w1088, wp31⟩, ⟨by decide, by decide⟩, by decide +kernel⟩
set_option maxHeartbeats 4000000 in
theorem pX12_trip_L6 {p : Program} {l : Launch} {e : Env} {s : State} {m : MethodId} {args : Array Value} {below : List Frame} {meth : Method} {c : Code} {Q : State → Prop} {G : GD} (F : FX p s m args meth c RX12 cX12_trip 8 (some .int) G) : ∀ (n : Nat) {M N : Mem} {a1 : Int32} {a2 : Int32} {a3 : Int32} {a4 : Int32} {a5 : Int32} {a6 : Int32} {H : Heap} {locs : List Loc} {ls : Array Slot} {Mo : Mem}, ST G M N s H locs → lv_has ls 8 [(0, .ref (G.2.1 0)), (1, .int a1), (2, .int a2), (3, .int a3), (4, .int a4), (5, .int a5), (6, .int a6)] → fX12_trip_L6 n N a1 a2 a3 a4 a5 a6 = some Mo → (K1 : ∀ (H : Heap) (locs : List Loc) (ls : Array Slot), ST G M Mo s H locs → lv_has ls 8 [(0, .ref (G.2.1 0)), (1, .int a1), (2, .int a2), (3, .int a3), (5, .int a5)] → W p l e (Rm 5 115) s m args below meth c H locs 0 0 Q (F0 m 61 ls [])) → W p l e (Rm 5 115) s m args below meth c H locs 0 0 Q (F0 m 6 ls []) := by
  intro n
  induction n with
  | zero => intro M N a1 a2 a3 a4 a5 a6 H locs ls Mo S hl h K1; cases h
  | succ n ih =>
    intro M N a1 a2 a3 a4 a5 a6 H locs ls Mo S hl h K1
    rw [fX12_trip_L6] at h
    have hx := F.1
    have hb := F.2.1
    have hown := F.2.2.2.2.1
    have hts := F.2.2.2.2.2.1
    have hZ := F.2.2.2.2.2.2.2.2.2
    refine lv_iload (pc := 6) hx hb dX12_trip_6 (lv_at hl 6 rfl) ?_
    refine lv_iload_n (pc := 8) hx hb dX12_trip_8 rfl (lv_at hl 3 rfl) ?_
    refine lv_icmp_ge (pc := 9) (tgt := 61) hx hb dX12_trip_9 (by decide) (fun c1 => ?_) (fun c1 => ?_)
    · replace h := (if_pos c1).symm.trans h
      cases h
      exact K1 H locs ls S (lv_sub hl [0, 1, 2, 3, 5] rfl)
    · replace h := (if_neg c1).symm.trans h
      refine lv_iload_n (pc := 12) hx hb dX12_trip_12 rfl (lv_at hl 1 rfl) ?_
      refine lv_bipush (pc := 13) (v := 102) hx hb dX12_trip_13 (by decide) ?_
      refine lv_iload (pc := 15) hx hb dX12_trip_15 (lv_at hl 6 rfl) ?_
      refine lv_iadd (pc := 17) hx hb dX12_trip_17 ?_
      obtain ⟨v3, e2, h⟩ := ob_out h
      refine c_sI (pc := 18) (rest := []) F S (tX12_at1 e2) mfX12_at1 w900 ⟨Nat.le_of_ble_eq_true rfl, Nat.le_of_ble_eq_true rfl⟩ rfl hl.1 rfl (Nat.le_of_ble_eq_true rfl) dX12_trip_18 (fun H locs S => ?_)
      refine lv_istore (pc := 21) (lv' := [(7, .int v3), (0, .ref (G.2.1 0)), (1, .int a1), (2, .int a2), (3, .int a3), (4, .int a4), (5, .int a5), (6, .int a6)]) hx hb dX12_trip_21 hl (by decide) rfl (fun ls hl => ?_)
      refine lv_aload_n (pc := 23) hx hb dX12_trip_23 rfl (lv_at hl 1 rfl) ?_
      refine r_gR (pc := 24) (k := 0) (x := 1) (i := 0) (ci := 12) F S (by decide) (by decide) cl12 inRX12 (by decide) w903 (fun _ => rfl) dX12_trip_24 ?_
      refine lv_iload (pc := 27) hx hb dX12_trip_27 (lv_at hl 0 rfl) ?_
      refine lv_aload_n (pc := 29) hx hb dX12_trip_29 rfl (lv_at hl 1 rfl) ?_
      refine lv_iload_n (pc := 30) hx hb dX12_trip_30 rfl (lv_at hl 2 rfl) ?_
      refine lv_iload (pc := 31) hx hb dX12_trip_31 (lv_at hl 7 rfl) ?_
      obtain ⟨v5, e4, h⟩ := ob_out h
      refine c_vI (pc := 33) (rest := [.int v3, .ref (G.2.1 1)]) F S (tX12_load e4) mfX12_load (by decide) (by decide) cl12 w1090 ⟨Nat.le_of_ble_eq_true rfl, Nat.le_of_ble_eq_true rfl⟩ rfl hl.1 rfl (Nat.le_of_ble_eq_true rfl) dX12_trip_33 (fun H locs S => ?_)
      refine lv_iload (pc := 36) hx hb dX12_trip_36 (lv_at hl 5 rfl) ?_
      refine lv_icmp_le (pc := 38) (tgt := 53) hx hb dX12_trip_38 (by decide) (fun c6 => ?_) (fun c6 => ?_)
      · replace h := (if_pos c6).symm.trans h
        refine lv_iconst (pc := 53) (v := 0) hx hb dX12_trip_53 (by decide) ?_
        obtain ⟨M7, e8, h⟩ := ob_out h
        refine r_nS (pc := 54) F S e8 dX12_trip_54 (fun H locs S => ?_)
        refine lv_iinc (pc := 55) (lv' := [(6, .int (a6 + 1)), (7, .int v3), (0, .ref (G.2.1 0)), (1, .int a1), (2, .int a2), (3, .int a3), (4, .int a4), (5, .int a5)]) hx hb dX12_trip_55 hl (k := 7) rfl (iinc_n (by decide)) (by decide) rfl (fun ls hl => ?_)
        refine lv_goto (pc := 58) (tgt := 6) hx hb dX12_trip_58 (by decide) ?_
        exact ih S (lv_sub hl [2, 3, 4, 5, 6, 7, 0] rfl) h K1
      · replace h := (if_neg c6).symm.trans h
        refine lv_aload_n (pc := 41) hx hb dX12_trip_41 rfl (lv_at hl 1 rfl) ?_
        refine r_gR (pc := 42) (k := 0) (x := 1) (i := 0) (ci := 12) F S (by decide) (by decide) cl12 inRX12 (by decide) w903 (fun _ => rfl) dX12_trip_42 ?_
        refine lv_iload (pc := 45) hx hb dX12_trip_45 (lv_at hl 0 rfl) ?_
        obtain ⟨v9, e10, h⟩ := ob_out h
        refine r_nL (pc := 47) F S e10 dX12_trip_47 ?_
        refine lv_iconst (pc := 48) (v := 1) hx hb dX12_trip_48 (by decide) ?_
        refine lv_iadd (pc := 49) hx hb dX12_trip_49 ?_
        refine lv_goto (pc := 50) (tgt := 54) hx hb dX12_trip_50 (by decide) ?_
        obtain ⟨M11, e12, h⟩ := ob_out h
        refine r_nS (pc := 54) F S e12 dX12_trip_54 (fun H locs S => ?_)
        refine lv_iinc (pc := 55) (lv' := [(6, .int (a6 + 1)), (7, .int v3), (0, .ref (G.2.1 0)), (1, .int a1), (2, .int a2), (3, .int a3), (4, .int a4), (5, .int a5)]) hx hb dX12_trip_55 hl (k := 7) rfl (iinc_n (by decide)) (by decide) rfl (fun ls hl => ?_)
        refine lv_goto (pc := 58) (tgt := 6) hx hb dX12_trip_58 (by decide) ?_
        exact ih S (lv_sub hl [2, 3, 4, 5, 6, 7, 0] rfl) h K1
set_option maxHeartbeats 4000000 in
theorem pX12_trip_L64 {p : Program} {l : Launch} {e : Env} {s : State} {m : MethodId} {args : Array Value} {below : List Frame} {meth : Method} {c : Code} {Q : State → Prop} {G : GD} (F : FX p s m args meth c RX12 cX12_trip 8 (some .int) G) : ∀ (n : Nat) {M N : Mem} {a1 : Int32} {a3 : Int32} {a5 : Int32} {a6 : Int32} {H : Heap} {locs : List Loc} {ls : Array Slot} {o5 : Int32} {Mo : Mem}, ST G M N s H locs → lv_has ls 8 [(0, .ref (G.2.1 0)), (1, .int a1), (3, .int a3), (5, .int a5), (6, .int a6)] → fX12_trip_L64 n N a1 a3 a5 a6 = some (o5, Mo) → (K1 : ∀ (H : Heap) (locs : List Loc) (ls : Array Slot), ST G M Mo s H locs → lv_has ls 8 [(5, .int o5)] → W p l e (Rm 5 115) s m args below meth c H locs 0 0 Q (F0 m 129 ls [])) → W p l e (Rm 5 115) s m args below meth c H locs 0 0 Q (F0 m 64 ls []) := by
  intro n
  induction n with
  | zero => intro M N a1 a3 a5 a6 H locs ls o5 Mo S hl h K1; cases h
  | succ n ih =>
    intro M N a1 a3 a5 a6 H locs ls o5 Mo S hl h K1
    rw [fX12_trip_L64] at h
    have hx := F.1
    have hb := F.2.1
    have hown := F.2.2.2.2.1
    have hts := F.2.2.2.2.2.1
    have hZ := F.2.2.2.2.2.2.2.2.2
    refine lv_iload (pc := 64) hx hb dX12_trip_64 (lv_at hl 4 rfl) ?_
    refine lv_iload_n (pc := 66) hx hb dX12_trip_66 rfl (lv_at hl 2 rfl) ?_
    refine lv_icmp_ge (pc := 67) (tgt := 129) hx hb dX12_trip_67 (by decide) (fun c3 => ?_) (fun c3 => ?_)
    · replace h := (if_pos c3).symm.trans h
      cases h
      exact K1 H locs ls S (lv_sub hl [3] rfl)
    · replace h := (if_neg c3).symm.trans h
      refine lv_iload_n (pc := 70) hx hb dX12_trip_70 rfl (lv_at hl 1 rfl) ?_
      refine lv_bipush (pc := 71) (v := 102) hx hb dX12_trip_71 (by decide) ?_
      refine lv_iload (pc := 73) hx hb dX12_trip_73 (lv_at hl 4 rfl) ?_
      refine lv_iadd (pc := 75) hx hb dX12_trip_75 ?_
      obtain ⟨v5, e4, h⟩ := ob_out h
      refine c_sI (pc := 76) (rest := []) F S (tX12_at1 e4) mfX12_at1 w900 ⟨Nat.le_of_ble_eq_true rfl, Nat.le_of_ble_eq_true rfl⟩ rfl hl.1 rfl (Nat.le_of_ble_eq_true rfl) dX12_trip_76 (fun H locs S => ?_)
      refine lv_istore (pc := 79) (lv' := [(7, .int v5), (0, .ref (G.2.1 0)), (1, .int a1), (3, .int a3), (5, .int a5), (6, .int a6)]) hx hb dX12_trip_79 hl (by decide) rfl (fun ls hl => ?_)
      refine lv_aload_n (pc := 81) hx hb dX12_trip_81 rfl (lv_at hl 1 rfl) ?_
      refine r_gR (pc := 82) (k := 0) (x := 1) (i := 0) (ci := 12) F S (by decide) (by decide) cl12 inRX12 (by decide) w903 (fun _ => rfl) dX12_trip_82 ?_
      refine lv_iload (pc := 85) hx hb dX12_trip_85 (lv_at hl 0 rfl) ?_
      obtain ⟨v6, e7, h⟩ := ob_out h
      refine r_nL (pc := 87) F S e7 dX12_trip_87 ?_
      refine lv_aload_n (pc := 88) hx hb dX12_trip_88 rfl (lv_at hl 1 rfl) ?_
      refine r_gR (pc := 89) (k := 0) (x := 1) (i := 0) (ci := 12) F S (by decide) (by decide) cl12 inRX12 (by decide) w903 (fun _ => rfl) dX12_trip_89 ?_
      refine lv_iconst (pc := 92) (v := 2) hx hb dX12_trip_92 (by decide) ?_
      obtain ⟨v8, e9, h⟩ := ob_out h
      refine r_nL (pc := 93) F S e9 dX12_trip_93 ?_
      refine lv_icmp_lt (pc := 94) (tgt := 123) hx hb dX12_trip_94 (by decide) (fun c10 => ?_) (fun c10 => ?_)
      · replace h := (if_pos c10).symm.trans h
        refine lv_iinc (pc := 123) (lv' := [(6, .int (a6 + 1)), (7, .int v5), (0, .ref (G.2.1 0)), (1, .int a1), (3, .int a3), (5, .int a5)]) hx hb dX12_trip_123 hl (k := 5) rfl (iinc_n (by decide)) (by decide) rfl (fun ls hl => ?_)
        refine lv_goto (pc := 126) (tgt := 64) hx hb dX12_trip_126 (by decide) ?_
        exact ih S (lv_sub hl [2, 3, 4, 5, 0] rfl) h K1
      · replace h := (if_neg c10).symm.trans h
        refine lv_aload_n (pc := 97) hx hb dX12_trip_97 rfl (lv_at hl 1 rfl) ?_
        refine r_gR (pc := 98) (k := 0) (x := 1) (i := 0) (ci := 12) F S (by decide) (by decide) cl12 inRX12 (by decide) w903 (fun _ => rfl) dX12_trip_98 ?_
        refine lv_iload_n (pc := 101) hx hb dX12_trip_101 rfl (lv_at hl 2 rfl) ?_
        refine lv_bipush (pc := 102) (v := 87) hx hb dX12_trip_102 (by decide) ?_
        refine lv_iload (pc := 104) hx hb dX12_trip_104 (lv_at hl 5 rfl) ?_
        refine lv_iadd (pc := 106) hx hb dX12_trip_106 ?_
        obtain ⟨v12, e11, h⟩ := ob_out h
        refine c_sI (pc := 107) (rest := [.ref (G.2.1 1)]) F S (tX12_at1 e11) mfX12_at1 w900 ⟨Nat.le_of_ble_eq_true rfl, Nat.le_of_ble_eq_true rfl⟩ rfl hl.1 rfl (Nat.le_of_ble_eq_true rfl) dX12_trip_107 (fun H locs S => ?_)
        refine lv_iconst (pc := 110) (v := 1) hx hb dX12_trip_110 (by decide) ?_
        obtain ⟨M13, e14, h⟩ := ob_out h
        refine r_nS (pc := 111) F S e14 dX12_trip_111 (fun H locs S => ?_)
        refine lv_aload_n (pc := 112) hx hb dX12_trip_112 rfl (lv_at hl 1 rfl) ?_
        refine r_gR (pc := 113) (k := 0) (x := 1) (i := 0) (ci := 12) F S (by decide) (by decide) cl12 inRX12 (by decide) w903 (fun _ => rfl) dX12_trip_113 ?_
        refine lv_iload (pc := 116) hx hb dX12_trip_116 (lv_at hl 0 rfl) ?_
        refine lv_iconst (pc := 118) (v := 0) hx hb dX12_trip_118 (by decide) ?_
        obtain ⟨M15, e16, h⟩ := ob_out h
        refine r_nS (pc := 119) F S e16 dX12_trip_119 (fun H locs S => ?_)
        refine lv_iinc (pc := 120) (lv' := [(5, .int (a5 + 1)), (7, .int v5), (0, .ref (G.2.1 0)), (1, .int a1), (3, .int a3), (6, .int a6)]) hx hb dX12_trip_120 hl (k := 4) rfl (iinc_n (by decide)) (by decide) rfl (fun ls hl => ?_)
        refine lv_iinc (pc := 123) (lv' := [(6, .int (a6 + 1)), (5, .int (a5 + 1)), (7, .int v5), (0, .ref (G.2.1 0)), (1, .int a1), (3, .int a3)]) hx hb dX12_trip_123 hl (k := 5) rfl (iinc_n (by decide)) (by decide) rfl (fun ls hl => ?_)
        refine lv_goto (pc := 126) (tgt := 64) hx hb dX12_trip_126 (by decide) ?_
        exact ih S (lv_sub hl [3, 4, 5, 1, 0] rfl) h K1
set_option maxHeartbeats 4000000 in
theorem tX12_trip {l : Launch} {G : GD} {M N Mo : Mem} {a1 : Int32} {a2 : Int32} {a3 : Int32} {a4 : Int32} {r : Int32} (h : fX12_trip N a1 a2 a3 a4 = some (r, Mo)) : MI l yX12_trip cX12_trip 8 .int 5 115 G [.ref (G.2.1 0), .int a1, .int a2, .int a3, .int a4] M N r M Mo := by
  unfold fX12_trip at h
  refine MI_of (own := RX12) (by decide) rfl (Nat.le_of_ble_eq_true rfl) ?_
  intro p e s m args below meth c F S ls hl
  have hx := F.1
  have hb := F.2.1
  have hown := F.2.2.2.2.1
  have hts := F.2.2.2.2.2.1
  have hZ := F.2.2.2.2.2.2.2.2.2
  have hl : lv_has ls 8 [(0, .ref (G.2.1 0)), (1, .int a1), (2, .int a2), (3, .int a3), (4, .int a4)] := hl
  generalize s.heap = H, ([] : List Loc) = locs at S ⊢
  refine lv_iconst (pc := 0) (v := 0) hx hb dX12_trip_0 (by decide) ?_
  refine lv_istore (pc := 1) (lv' := [(5, .int 0), (0, .ref (G.2.1 0)), (1, .int a1), (2, .int a2), (3, .int a3), (4, .int a4)]) hx hb dX12_trip_1 hl (by decide) rfl (fun ls hl => ?_)
  refine lv_iload_n (pc := 3) hx hb dX12_trip_3 rfl (lv_at hl 3 rfl) ?_
  refine lv_istore (pc := 4) (lv' := [(6, .int a2), (5, .int 0), (0, .ref (G.2.1 0)), (1, .int a1), (2, .int a2), (3, .int a3), (4, .int a4)]) hx hb dX12_trip_4 hl (by decide) rfl (fun ls hl => ?_)
  obtain ⟨M1, e2, h⟩ := ob_out h
  refine pX12_trip_L6 F 5000 S (lv_sub hl [2, 3, 4, 5, 6, 1, 0] rfl) e2 (fun H locs ls S hl => ?_)
  refine lv_iload_n (pc := 61) hx hb dX12_trip_61 rfl (lv_at hl 2 rfl) ?_
  refine lv_istore (pc := 62) (lv' := [(6, .int a2), (0, .ref (G.2.1 0)), (1, .int a1), (2, .int a2), (3, .int a3), (5, .int 0)]) hx hb dX12_trip_62 hl (by decide) rfl (fun ls hl => ?_)
  obtain ⟨v4, M3, e5, h⟩ := ob2_out h
  refine pX12_trip_L64 F 5000 S (lv_sub hl [1, 2, 4, 5, 0] rfl) e5 (fun H locs ls S hl => ?_)
  refine lv_iload (pc := 129) hx hb dX12_trip_129 (lv_at hl 0 rfl) ?_
  cases h
  exact r_iret (pc := 131) F S rfl dX12_trip_131
theorem mfX12_turn : MF true yX12_turn RX12 cX12_turn 6 (some .int) 1 := ⟨w1085, w13, by rw [if_pos rfl]; exact ⟨w1084, wp30⟩, ⟨by decide, by decide⟩, by decide +kernel⟩
set_option maxHeartbeats 4000000 in
theorem pX12_turn_L49 {p : Program} {l : Launch} {e : Env} {s : State} {m : MethodId} {args : Array Value} {below : List Frame} {meth : Method} {c : Code} {Q : State → Prop} {G : GD} (F : FX p s m args meth c RX12 cX12_turn 6 (some .int) G) : ∀ (n : Nat) {M N : Mem} {a1 : Int32} {a2 : Int32} {a3 : Int32} {a4 : Int32} {H : Heap} {locs : List Loc} {ls : Array Slot} {Mo : Mem}, ST G M N s H locs → lv_has ls 6 [(0, .ref (G.2.1 0)), (1, .int a1), (2, .int a2), (3, .int a3), (4, .int a4)] → fX12_turn_L49 n N a1 a2 a3 a4 = some Mo → (K1 : ∀ (H : Heap) (locs : List Loc) (ls : Array Slot), ST G M Mo s H locs → lv_has ls 6 [(0, .ref (G.2.1 0)), (1, .int a1), (2, .int a2), (3, .int a3)] → W p l e (Rm 6 142) s m args below meth c H locs 0 0 Q (F0 m 118 ls [])) → W p l e (Rm 6 142) s m args below meth c H locs 0 0 Q (F0 m 49 ls []) := by
  intro n
  induction n with
  | zero => intro M N a1 a2 a3 a4 H locs ls Mo S hl h K1; cases h
  | succ n ih =>
    intro M N a1 a2 a3 a4 H locs ls Mo S hl h K1
    rw [fX12_turn_L49] at h
    have hx := F.1
    have hb := F.2.1
    have hown := F.2.2.2.2.1
    have hts := F.2.2.2.2.2.1
    have hZ := F.2.2.2.2.2.2.2.2.2
    refine lv_iload (pc := 49) hx hb dX12_turn_49 (lv_at hl 4 rfl) ?_
    refine lv_aload_n (pc := 51) hx hb dX12_turn_51 rfl (lv_at hl 0 rfl) ?_
    refine r_gR (pc := 52) (k := 0) (x := 1) (i := 0) (ci := 12) F S (by decide) (by decide) cl12 inRX12 (by decide) w903 (fun _ => rfl) dX12_turn_52 ?_
    refine lv_iload_n (pc := 55) hx hb dX12_turn_55 rfl (lv_at hl 1 rfl) ?_
    refine lv_iconst (pc := 56) (v := 2) hx hb dX12_turn_56 (by decide) ?_
    obtain ⟨v17, e16, h⟩ := ob_out h
    refine c_sI (pc := 57) (rest := [.ref (G.2.1 1), .int a4]) F S (tX12_at1 e16) mfX12_at1 w900 ⟨Nat.le_of_ble_eq_true rfl, Nat.le_of_ble_eq_true rfl⟩ rfl hl.1 rfl (Nat.le_of_ble_eq_true rfl) dX12_turn_57 (fun H locs S => ?_)
    obtain ⟨v18, e19, h⟩ := ob_out h
    refine r_nL (pc := 60) F S e19 dX12_turn_60 ?_
    refine lv_icmp_ge (pc := 61) (tgt := 118) hx hb dX12_turn_61 (by decide) (fun c20 => ?_) (fun c20 => ?_)
    · replace h := (if_pos c20).symm.trans h
      cases h
      exact K1 H locs ls S (lv_sub hl [0, 1, 2, 3] rfl)
    · replace h := (if_neg c20).symm.trans h
      refine lv_aload_n (pc := 64) hx hb dX12_turn_64 rfl (lv_at hl 0 rfl) ?_
      refine r_gR (pc := 65) (k := 0) (x := 1) (i := 0) (ci := 12) F S (by decide) (by decide) cl12 inRX12 (by decide) w903 (fun _ => rfl) dX12_turn_65 ?_
      refine lv_iload_n (pc := 68) hx hb dX12_turn_68 rfl (lv_at hl 1 rfl) ?_
      refine lv_iload (pc := 69) hx hb dX12_turn_69 (lv_at hl 4 rfl) ?_
      refine lv_iconst (pc := 71) (v := 4) hx hb dX12_turn_71 (by decide) ?_
      obtain ⟨v22, e21, h⟩ := ob_out h
      refine c_sI (pc := 72) (rest := [.ref (G.2.1 1)]) F S (tX12_ofLamp e21) mfX12_ofLamp w997 ⟨Nat.le_of_ble_eq_true rfl, Nat.le_of_ble_eq_true rfl⟩ rfl hl.1 rfl (Nat.le_of_ble_eq_true rfl) dX12_turn_72 (fun H locs S => ?_)
      obtain ⟨v23, e24, h⟩ := ob_out h
      refine r_nL (pc := 75) F S e24 dX12_turn_75 ?_
      refine lv_istore (pc := 76) (lv' := [(5, .int v23), (0, .ref (G.2.1 0)), (1, .int a1), (2, .int a2), (3, .int a3), (4, .int a4)]) hx hb dX12_turn_76 hl (by decide) rfl (fun ls hl => ?_)
      refine lv_aload_n (pc := 78) hx hb dX12_turn_78 rfl (lv_at hl 1 rfl) ?_
      refine r_gR (pc := 79) (k := 0) (x := 1) (i := 0) (ci := 12) F S (by decide) (by decide) cl12 inRX12 (by decide) w903 (fun _ => rfl) dX12_turn_79 ?_
      refine lv_iload_n (pc := 82) hx hb dX12_turn_82 rfl (lv_at hl 2 rfl) ?_
      refine lv_iload (pc := 83) hx hb dX12_turn_83 (lv_at hl 5 rfl) ?_
      refine lv_iconst (pc := 85) (v := 3) hx hb dX12_turn_85 (by decide) ?_
      obtain ⟨v26, e25, h⟩ := ob_out h
      refine c_sI (pc := 86) (rest := [.ref (G.2.1 1)]) F S (tX12_ofLamp e25) mfX12_ofLamp w997 ⟨Nat.le_of_ble_eq_true rfl, Nat.le_of_ble_eq_true rfl⟩ rfl hl.1 rfl (Nat.le_of_ble_eq_true rfl) dX12_turn_86 (fun H locs S => ?_)
      refine lv_iload (pc := 89) hx hb dX12_turn_89 (lv_at hl 0 rfl) ?_
      refine lv_aload_n (pc := 91) hx hb dX12_turn_91 rfl (lv_at hl 1 rfl) ?_
      refine r_gR (pc := 92) (k := 0) (x := 1) (i := 0) (ci := 12) F S (by decide) (by decide) cl12 inRX12 (by decide) w903 (fun _ => rfl) dX12_turn_92 ?_
      refine lv_iload_n (pc := 95) hx hb dX12_turn_95 rfl (lv_at hl 2 rfl) ?_
      refine lv_iload (pc := 96) hx hb dX12_turn_96 (lv_at hl 5 rfl) ?_
      refine lv_iconst (pc := 98) (v := 5) hx hb dX12_turn_98 (by decide) ?_
      obtain ⟨v28, e27, h⟩ := ob_out h
      refine c_sI (pc := 99) (rest := [.ref (G.2.1 1), .int v23, .int v26, .ref (G.2.1 1)]) F S (tX12_ofLamp e27) mfX12_ofLamp w997 ⟨Nat.le_of_ble_eq_true rfl, Nat.le_of_ble_eq_true rfl⟩ rfl hl.1 rfl (Nat.le_of_ble_eq_true rfl) dX12_turn_99 (fun H locs S => ?_)
      obtain ⟨v29, e30, h⟩ := ob_out h
      refine r_nL (pc := 102) F S e30 dX12_turn_102 ?_
      refine lv_iload (pc := 103) hx hb dX12_turn_103 (lv_at hl 0 rfl) ?_
      refine lv_isub (pc := 105) hx hb dX12_turn_105 ?_
      refine lv_iload_n (pc := 106) hx hb dX12_turn_106 rfl (lv_at hl 4 rfl) ?_
      refine lv_imul (pc := 107) hx hb dX12_turn_107 ?_
      refine lv_iload_n (pc := 108) hx hb dX12_turn_108 rfl (lv_at hl 3 rfl) ?_
      obtain ⟨v31, e32, h⟩ := ob_out h
      refine lv_idiv (pc := 109) hx hb dX12_turn_109 (dv_out e32).1 ?_
      refine nm_i (dv_out e32).2 ?_
      refine lv_iadd (pc := 110) hx hb dX12_turn_110 ?_
      obtain ⟨M33, e34, h⟩ := ob_out h
      refine r_nS (pc := 111) F S e34 dX12_turn_111 (fun H locs S => ?_)
      refine lv_iinc (pc := 112) (lv' := [(4, .int (a4 + 1)), (5, .int v23), (0, .ref (G.2.1 0)), (1, .int a1), (2, .int a2), (3, .int a3)]) hx hb dX12_turn_112 hl (k := 5) rfl (iinc_n (by decide)) (by decide) rfl (fun ls hl => ?_)
      refine lv_goto (pc := 115) (tgt := 49) hx hb dX12_turn_115 (by decide) ?_
      exact ih S (lv_sub hl [2, 3, 4, 5, 0] rfl) h K1
set_option maxHeartbeats 4000000 in
theorem tX12_turn {l : Launch} {G : GD} {M N Mo : Mem} {a1 : Int32} {r : Int32} (h : fX12_turn N a1 = some (r, Mo)) : MI l yX12_turn cX12_turn 6 .int 6 142 G [.ref (G.2.1 0), .int a1] M N r M Mo := by
  unfold fX12_turn at h
  refine MI_of (own := RX12) (by decide) rfl (Nat.le_of_ble_eq_true rfl) ?_
  intro p e s m args below meth c F S ls hl
  have hx := F.1
  have hb := F.2.1
  have hown := F.2.2.2.2.1
  have hts := F.2.2.2.2.2.1
  have hZ := F.2.2.2.2.2.2.2.2.2
  have hl : lv_has ls 6 [(0, .ref (G.2.1 0)), (1, .int a1)] := hl
  generalize s.heap = H, ([] : List Loc) = locs at S ⊢
  refine lv_aload_n (pc := 0) hx hb dX12_turn_0 rfl (lv_at hl 0 rfl) ?_
  refine r_gR (pc := 1) (k := 0) (x := 1) (i := 0) (ci := 12) F S (by decide) (by decide) cl12 inRX12 (by decide) w903 (fun _ => rfl) dX12_turn_1 ?_
  refine lv_iload_n (pc := 4) hx hb dX12_turn_4 rfl (lv_at hl 1 rfl) ?_
  refine lv_sipush (pc := 5) (v := 221) hx hb dX12_turn_5 (by decide) ?_
  obtain ⟨v2, e1, h⟩ := ob_out h
  refine c_sI (pc := 8) (rest := [.ref (G.2.1 1)]) F S (tX12_at1 e1) mfX12_at1 w900 ⟨Nat.le_of_ble_eq_true rfl, Nat.le_of_ble_eq_true rfl⟩ rfl hl.1 rfl (Nat.le_of_ble_eq_true rfl) dX12_turn_8 (fun H locs S => ?_)
  obtain ⟨v3, e4, h⟩ := ob_out h
  refine r_nL (pc := 11) F S e4 dX12_turn_11 ?_
  refine lv_istore_n (pc := 12) (lv' := [(2, .int v3), (0, .ref (G.2.1 0)), (1, .int a1)]) hx hb dX12_turn_12 rfl hl (by decide) rfl (fun ls hl => ?_)
  refine lv_iload_n (pc := 13) hx hb dX12_turn_13 rfl (lv_at hl 0 rfl) ?_
  obtain ⟨M5, d6, h⟩ := ob_out h
  have J7 : ∀ (H : Heap) (locs : List Loc) (ls : Array Slot), ST G M M5 s H locs → lv_has ls 6 [(0, .ref (G.2.1 0)), (1, .int a1)] → W p l e (Rm 6 142) s m args below meth c H locs 0 0 (MQ below (va_Qi (fun r' (_ : Unit) => r' = r) (fun _ t => Wd G M Mo t) (AG G.2.1)) args s 0 0 (AG G.2.1)) (F0 m 140 ls []) := by
    intro H locs ls S hl
    refine lv_aload_n (pc := 140) hx hb dX12_turn_140 rfl (lv_at hl 0 rfl) ?_
    refine lv_iload_n (pc := 141) hx hb dX12_turn_141 rfl (lv_at hl 1 rfl) ?_
    refine lv_iconst (pc := 142) (v := 0) hx hb dX12_turn_142 (by decide) ?_
    refine lv_bipush (pc := 143) (v := 12) hx hb dX12_turn_143 (by decide) ?_
    refine lv_aload_n (pc := 145) hx hb dX12_turn_145 rfl (lv_at hl 0 rfl) ?_
    refine r_gR (pc := 146) (k := 0) (x := 1) (i := 0) (ci := 12) F S (by decide) (by decide) cl12 inRX12 (by decide) w903 (fun _ => rfl) dX12_turn_146 ?_
    refine lv_iconst (pc := 149) (v := 0) hx hb dX12_turn_149 (by decide) ?_
    obtain ⟨v8, e9, h⟩ := ob_out h
    refine r_nL (pc := 150) F S e9 dX12_turn_150 ?_
    obtain ⟨v11, M12, e10, h⟩ := ob2_out h
    refine c_vI (pc := 151) (rest := []) F S (tX12_trip e10) mfX12_trip (by decide) (by decide) cl12 w1086 ⟨Nat.le_of_ble_eq_true rfl, Nat.le_of_ble_eq_true rfl⟩ rfl hl.1 rfl (Nat.le_of_ble_eq_true rfl) dX12_turn_151 (fun H locs S => ?_)
    refine lv_istore_n (pc := 154) (lv' := [(3, .int v11), (0, .ref (G.2.1 0)), (1, .int a1)]) hx hb dX12_turn_154 rfl hl (by decide) rfl (fun ls hl => ?_)
    refine lv_iload_n (pc := 155) hx hb dX12_turn_155 rfl (lv_at hl 0 rfl) ?_
    refine lv_aload_n (pc := 156) hx hb dX12_turn_156 rfl (lv_at hl 1 rfl) ?_
    refine lv_iload_n (pc := 157) hx hb dX12_turn_157 rfl (lv_at hl 2 rfl) ?_
    refine lv_bipush (pc := 158) (v := 12) hx hb dX12_turn_158 (by decide) ?_
    refine lv_bipush (pc := 160) (v := 15) hx hb dX12_turn_160 (by decide) ?_
    refine lv_aload_n (pc := 162) hx hb dX12_turn_162 rfl (lv_at hl 1 rfl) ?_
    refine r_gR (pc := 163) (k := 0) (x := 1) (i := 0) (ci := 12) F S (by decide) (by decide) cl12 inRX12 (by decide) w903 (fun _ => rfl) dX12_turn_163 ?_
    refine lv_iconst (pc := 166) (v := 1) hx hb dX12_turn_166 (by decide) ?_
    obtain ⟨v13, e14, h⟩ := ob_out h
    refine r_nL (pc := 167) F S e14 dX12_turn_167 ?_
    obtain ⟨v16, M17, e15, h⟩ := ob2_out h
    refine c_vI (pc := 168) (rest := [.int v11]) F S (tX12_trip e15) mfX12_trip (by decide) (by decide) cl12 w1086 ⟨Nat.le_of_ble_eq_true rfl, Nat.le_of_ble_eq_true rfl⟩ rfl hl.1 rfl (Nat.le_of_ble_eq_true rfl) dX12_turn_168 (fun H locs S => ?_)
    refine lv_iadd (pc := 171) hx hb dX12_turn_171 ?_
    cases h
    exact r_iret (pc := 172) F S rfl dX12_turn_172
  refine lv_if_le (pc := 14) (tgt := 140) hx hb dX12_turn_14 (by decide) (fun c18 => ?_) (fun c18 => ?_)
  · replace d6 := (if_pos c18).symm.trans d6
    cases d6
    exact J7 H locs ls S (lv_sub hl [1, 2] rfl)
  · replace d6 := (if_neg c18).symm.trans d6
    refine lv_aload_n (pc := 17) hx hb dX12_turn_17 rfl (lv_at hl 1 rfl) ?_
    refine r_gR (pc := 18) (k := 0) (x := 1) (i := 0) (ci := 12) F S (by decide) (by decide) cl12 inRX12 (by decide) w903 (fun _ => rfl) dX12_turn_18 ?_
    refine lv_iload_n (pc := 21) hx hb dX12_turn_21 rfl (lv_at hl 2 rfl) ?_
    refine lv_sipush (pc := 22) (v := 222) hx hb dX12_turn_22 (by decide) ?_
    obtain ⟨v20, e19, d6⟩ := ob_out d6
    refine c_sI (pc := 25) (rest := [.ref (G.2.1 1)]) F S (tX12_at1 e19) mfX12_at1 w900 ⟨Nat.le_of_ble_eq_true rfl, Nat.le_of_ble_eq_true rfl⟩ rfl hl.1 rfl (Nat.le_of_ble_eq_true rfl) dX12_turn_25 (fun H locs S => ?_)
    refine lv_dup2_11 (pc := 28) hx hb dX12_turn_28 rfl rfl ?_
    obtain ⟨v21, e22, d6⟩ := ob_out d6
    refine r_nL (pc := 29) F S e22 dX12_turn_29 ?_
    refine lv_iconst (pc := 30) (v := 1) hx hb dX12_turn_30 (by decide) ?_
    refine lv_iadd (pc := 31) hx hb dX12_turn_31 ?_
    obtain ⟨M23, e24, d6⟩ := ob_out d6
    refine r_nS (pc := 32) F S e24 dX12_turn_32 (fun H locs S => ?_)
    refine lv_aload_n (pc := 33) hx hb dX12_turn_33 rfl (lv_at hl 1 rfl) ?_
    refine r_gR (pc := 34) (k := 0) (x := 1) (i := 0) (ci := 12) F S (by decide) (by decide) cl12 inRX12 (by decide) w903 (fun _ => rfl) dX12_turn_34 ?_
    refine lv_iload_n (pc := 37) hx hb dX12_turn_37 rfl (lv_at hl 2 rfl) ?_
    refine lv_sipush (pc := 38) (v := 222) hx hb dX12_turn_38 (by decide) ?_
    obtain ⟨v26, e25, d6⟩ := ob_out d6
    refine c_sI (pc := 41) (rest := [.ref (G.2.1 1)]) F S (tX12_at1 e25) mfX12_at1 w900 ⟨Nat.le_of_ble_eq_true rfl, Nat.le_of_ble_eq_true rfl⟩ rfl hl.1 rfl (Nat.le_of_ble_eq_true rfl) dX12_turn_41 (fun H locs S => ?_)
    obtain ⟨v27, e28, d6⟩ := ob_out d6
    refine r_nL (pc := 44) F S e28 dX12_turn_44 ?_
    refine lv_istore_n (pc := 45) (lv' := [(3, .int v27), (2, .int v3), (0, .ref (G.2.1 0)), (1, .int a1)]) hx hb dX12_turn_45 rfl hl (by decide) rfl (fun ls hl => ?_)
    refine lv_iconst (pc := 46) (v := 0) hx hb dX12_turn_46 (by decide) ?_
    refine lv_istore (pc := 47) (lv' := [(4, .int 0), (3, .int v27), (2, .int v3), (0, .ref (G.2.1 0)), (1, .int a1)]) hx hb dX12_turn_47 hl (by decide) rfl (fun ls hl => ?_)
    obtain ⟨M29, e30, d6⟩ := ob_out d6
    refine pX12_turn_L49 F 5000 S (lv_sub hl [3, 4, 2, 1, 0] rfl) e30 (fun H locs ls S hl => ?_)
    refine lv_aload_n (pc := 118) hx hb dX12_turn_118 rfl (lv_at hl 0 rfl) ?_
    refine r_gR (pc := 119) (k := 0) (x := 1) (i := 0) (ci := 12) F S (by decide) (by decide) cl12 inRX12 (by decide) w903 (fun _ => rfl) dX12_turn_119 ?_
    refine lv_iload_n (pc := 122) hx hb dX12_turn_122 rfl (lv_at hl 1 rfl) ?_
    refine lv_sipush (pc := 123) (v := 221) hx hb dX12_turn_123 (by decide) ?_
    obtain ⟨v32, e31, d6⟩ := ob_out d6
    refine c_sI (pc := 126) (rest := [.ref (G.2.1 1)]) F S (tX12_at1 e31) mfX12_at1 w900 ⟨Nat.le_of_ble_eq_true rfl, Nat.le_of_ble_eq_true rfl⟩ rfl hl.1 rfl (Nat.le_of_ble_eq_true rfl) dX12_turn_126 (fun H locs S => ?_)
    refine lv_iload_n (pc := 129) hx hb dX12_turn_129 rfl (lv_at hl 3 rfl) ?_
    refine lv_iload_n (pc := 130) hx hb dX12_turn_130 rfl (lv_at hl 2 rfl) ?_
    refine lv_icmp_ne (pc := 131) (tgt := 138) hx hb dX12_turn_131 (by decide) (fun c33 => ?_) (fun c33 => ?_)
    · replace d6 := (if_neg c33).symm.trans d6
      refine lv_iload_n (pc := 138) hx hb dX12_turn_138 rfl (lv_at hl 2 rfl) ?_
      obtain ⟨M34, e35, d6⟩ := ob_out d6
      refine r_nS (pc := 139) F S e35 dX12_turn_139 (fun H locs S => ?_)
      cases d6
      exact J7 H locs ls S (lv_sub hl [0, 1] rfl)
    · replace d6 := (if_pos c33).symm.trans d6
      refine lv_iconst (pc := 134) (v := 0) hx hb dX12_turn_134 (by decide) ?_
      refine lv_goto (pc := 135) (tgt := 139) hx hb dX12_turn_135 (by decide) ?_
      obtain ⟨M36, e37, d6⟩ := ob_out d6
      refine r_nS (pc := 139) F S e37 dX12_turn_139 (fun H locs S => ?_)
      cases d6
      exact J7 H locs ls S (lv_sub hl [0, 1] rfl)
theorem mfX12_start : MF true yX12_start RX12 cX12_start 5 none 3 := ⟨w1069, w13, by rw [if_pos rfl]; exact ⟨w1068, wp28⟩, ⟨by decide, by decide⟩, by decide +kernel⟩
set_option maxHeartbeats 4000000 in
theorem pX12_start_L3 {p : Program} {l : Launch} {e : Env} {s : State} {m : MethodId} {args : Array Value} {below : List Frame} {meth : Method} {c : Code} {Q : State → Prop} {G : GD} (F : FX p s m args meth c RX12 cX12_start 5 none G) : ∀ (n : Nat) {M N : Mem} {a1 : Int32} {a2 : Int32} {a3 : Int32} {a4 : Int32} {H : Heap} {locs : List Loc} {ls : Array Slot} {Mo : Mem}, ST G M N s H locs → lv_has ls 5 [(0, .ref (G.2.1 0)), (1, .int a1), (2, .int a2), (3, .int a3), (4, .int a4)] → fX12_start_L3 n N a1 a2 a3 a4 = some Mo → (K1 : ∀ (H : Heap) (locs : List Loc) (ls : Array Slot), ST G M Mo s H locs → lv_has ls 5 [(0, .ref (G.2.1 0)), (1, .int a1), (3, .int a3)] → W p l e (Rm 2 43) s m args below meth c H locs 0 0 Q (F0 m 75 ls [])) → W p l e (Rm 2 43) s m args below meth c H locs 0 0 Q (F0 m 3 ls []) := by
  intro n
  induction n with
  | zero => intro M N a1 a2 a3 a4 H locs ls Mo S hl h K1; cases h
  | succ n ih =>
    intro M N a1 a2 a3 a4 H locs ls Mo S hl h K1
    rw [fX12_start_L3] at h
    have hx := F.1
    have hb := F.2.1
    have hown := F.2.2.2.2.1
    have hts := F.2.2.2.2.2.1
    have hZ := F.2.2.2.2.2.2.2.2.2
    refine lv_iload (pc := 3) hx hb dX12_start_3 (lv_at hl 4 rfl) ?_
    refine lv_aload_n (pc := 5) hx hb dX12_start_5 rfl (lv_at hl 0 rfl) ?_
    refine r_gR (pc := 6) (k := 0) (x := 1) (i := 0) (ci := 12) F S (by decide) (by decide) cl12 inRX12 (by decide) w903 (fun _ => rfl) dX12_start_6 ?_
    refine lv_iload_n (pc := 9) hx hb dX12_start_9 rfl (lv_at hl 1 rfl) ?_
    refine lv_iconst (pc := 10) (v := 2) hx hb dX12_start_10 (by decide) ?_
    obtain ⟨v2, e1, h⟩ := ob_out h
    refine c_sI (pc := 11) (rest := [.ref (G.2.1 1), .int a4]) F S (tX12_at1 e1) mfX12_at1 w900 ⟨Nat.le_of_ble_eq_true rfl, Nat.le_of_ble_eq_true rfl⟩ rfl hl.1 rfl (Nat.le_of_ble_eq_true rfl) dX12_start_11 (fun H locs S => ?_)
    obtain ⟨v3, e4, h⟩ := ob_out h
    refine r_nL (pc := 14) F S e4 dX12_start_14 ?_
    refine lv_icmp_ge (pc := 15) (tgt := 75) hx hb dX12_start_15 (by decide) (fun c5 => ?_) (fun c5 => ?_)
    · replace h := (if_pos c5).symm.trans h
      cases h
      exact K1 H locs ls S (lv_sub hl [0, 1, 3] rfl)
    · replace h := (if_neg c5).symm.trans h
      refine lv_aload_n (pc := 18) hx hb dX12_start_18 rfl (lv_at hl 0 rfl) ?_
      refine r_gR (pc := 19) (k := 0) (x := 1) (i := 0) (ci := 12) F S (by decide) (by decide) cl12 inRX12 (by decide) w903 (fun _ => rfl) dX12_start_19 ?_
      refine lv_iload_n (pc := 22) hx hb dX12_start_22 rfl (lv_at hl 1 rfl) ?_
      refine lv_iload (pc := 23) hx hb dX12_start_23 (lv_at hl 4 rfl) ?_
      refine lv_iconst (pc := 25) (v := 4) hx hb dX12_start_25 (by decide) ?_
      obtain ⟨v7, e6, h⟩ := ob_out h
      refine c_sI (pc := 26) (rest := [.ref (G.2.1 1)]) F S (tX12_ofLamp e6) mfX12_ofLamp w997 ⟨Nat.le_of_ble_eq_true rfl, Nat.le_of_ble_eq_true rfl⟩ rfl hl.1 rfl (Nat.le_of_ble_eq_true rfl) dX12_start_26 (fun H locs S => ?_)
      refine lv_aload_n (pc := 29) hx hb dX12_start_29 rfl (lv_at hl 0 rfl) ?_
      refine r_gR (pc := 30) (k := 0) (x := 1) (i := 0) (ci := 12) F S (by decide) (by decide) cl12 inRX12 (by decide) w903 (fun _ => rfl) dX12_start_30 ?_
      refine lv_iload_n (pc := 33) hx hb dX12_start_33 rfl (lv_at hl 1 rfl) ?_
      refine lv_iload (pc := 34) hx hb dX12_start_34 (lv_at hl 4 rfl) ?_
      refine lv_iconst (pc := 36) (v := 3) hx hb dX12_start_36 (by decide) ?_
      obtain ⟨v9, e8, h⟩ := ob_out h
      refine c_sI (pc := 37) (rest := [.ref (G.2.1 1), .int v7, .ref (G.2.1 1)]) F S (tX12_ofLamp e8) mfX12_ofLamp w997 ⟨Nat.le_of_ble_eq_true rfl, Nat.le_of_ble_eq_true rfl⟩ rfl hl.1 rfl (Nat.le_of_ble_eq_true rfl) dX12_start_37 (fun H locs S => ?_)
      obtain ⟨v10, e11, h⟩ := ob_out h
      refine r_nL (pc := 40) F S e11 dX12_start_40 ?_
      obtain ⟨M12, e13, h⟩ := ob_out h
      refine r_nS (pc := 41) F S e13 dX12_start_41 (fun H locs S => ?_)
      refine lv_aload_n (pc := 42) hx hb dX12_start_42 rfl (lv_at hl 0 rfl) ?_
      refine r_gR (pc := 43) (k := 0) (x := 1) (i := 0) (ci := 12) F S (by decide) (by decide) cl12 inRX12 (by decide) w903 (fun _ => rfl) dX12_start_43 ?_
      refine lv_iload_n (pc := 46) hx hb dX12_start_46 rfl (lv_at hl 1 rfl) ?_
      refine lv_iload (pc := 47) hx hb dX12_start_47 (lv_at hl 4 rfl) ?_
      refine lv_iconst (pc := 49) (v := 5) hx hb dX12_start_49 (by decide) ?_
      obtain ⟨v15, e14, h⟩ := ob_out h
      refine c_sI (pc := 50) (rest := [.ref (G.2.1 1)]) F S (tX12_ofLamp e14) mfX12_ofLamp w997 ⟨Nat.le_of_ble_eq_true rfl, Nat.le_of_ble_eq_true rfl⟩ rfl hl.1 rfl (Nat.le_of_ble_eq_true rfl) dX12_start_50 (fun H locs S => ?_)
      refine lv_aload_n (pc := 53) hx hb dX12_start_53 rfl (lv_at hl 0 rfl) ?_
      refine r_gR (pc := 54) (k := 0) (x := 1) (i := 0) (ci := 12) F S (by decide) (by decide) cl12 inRX12 (by decide) w903 (fun _ => rfl) dX12_start_54 ?_
      refine lv_iload_n (pc := 57) hx hb dX12_start_57 rfl (lv_at hl 1 rfl) ?_
      refine lv_iload_n (pc := 58) hx hb dX12_start_58 rfl (lv_at hl 2 rfl) ?_
      obtain ⟨v17, e16, h⟩ := ob_out h
      refine c_sI (pc := 59) (rest := [.ref (G.2.1 1), .int v15, .ref (G.2.1 1)]) F S (tX12_ofCue e16) mfX12_ofCue w1000 ⟨Nat.le_of_ble_eq_true rfl, Nat.le_of_ble_eq_true rfl⟩ rfl hl.1 rfl (Nat.le_of_ble_eq_true rfl) dX12_start_59 (fun H locs S => ?_)
      refine lv_iconst (pc := 62) (v := 1) hx hb dX12_start_62 (by decide) ?_
      refine lv_iadd (pc := 63) hx hb dX12_start_63 ?_
      refine lv_iload (pc := 64) hx hb dX12_start_64 (lv_at hl 4 rfl) ?_
      refine lv_iadd (pc := 66) hx hb dX12_start_66 ?_
      obtain ⟨v18, e19, h⟩ := ob_out h
      refine r_nL (pc := 67) F S e19 dX12_start_67 ?_
      obtain ⟨M20, e21, h⟩ := ob_out h
      refine r_nS (pc := 68) F S e21 dX12_start_68 (fun H locs S => ?_)
      refine lv_iinc (pc := 69) (lv' := [(4, .int (a4 + 1)), (0, .ref (G.2.1 0)), (1, .int a1), (2, .int a2), (3, .int a3)]) hx hb dX12_start_69 hl (k := 4) rfl (iinc_n (by decide)) (by decide) rfl (fun ls hl => ?_)
      refine lv_goto (pc := 72) (tgt := 3) hx hb dX12_start_72 (by decide) ?_
      exact ih S (lv_sub hl [1, 2, 3, 4, 0] rfl) h K1
set_option maxHeartbeats 4000000 in
theorem tX12_start {l : Launch} {G : GD} {M N Mo : Mem} {a1 : Int32} {a2 : Int32} {a3 : Int32} (h : fX12_start N a1 a2 a3 = some Mo) : MV l yX12_start cX12_start 5 2 43 G [.ref (G.2.1 0), .int a1, .int a2, .int a3] M N M Mo := by
  unfold fX12_start at h
  refine MV_of (own := RX12) (by decide) rfl (Nat.le_of_ble_eq_true rfl) ?_
  intro p e s m args below meth c F S ls hl
  have hx := F.1
  have hb := F.2.1
  have hown := F.2.2.2.2.1
  have hts := F.2.2.2.2.2.1
  have hZ := F.2.2.2.2.2.2.2.2.2
  have hl : lv_has ls 5 [(0, .ref (G.2.1 0)), (1, .int a1), (2, .int a2), (3, .int a3)] := hl
  generalize s.heap = H, ([] : List Loc) = locs at S ⊢
  refine lv_iconst (pc := 0) (v := 0) hx hb dX12_start_0 (by decide) ?_
  refine lv_istore (pc := 1) (lv' := [(4, .int 0), (0, .ref (G.2.1 0)), (1, .int a1), (2, .int a2), (3, .int a3)]) hx hb dX12_start_1 hl (by decide) rfl (fun ls hl => ?_)
  obtain ⟨M1, e2, h⟩ := ob_out h
  refine pX12_start_L3 F 5000 S (lv_sub hl [1, 2, 3, 4, 0] rfl) e2 (fun H locs ls S hl => ?_)
  refine lv_aload_n (pc := 75) hx hb dX12_start_75 rfl (lv_at hl 0 rfl) ?_
  refine r_gR (pc := 76) (k := 0) (x := 1) (i := 0) (ci := 12) F S (by decide) (by decide) cl12 inRX12 (by decide) w903 (fun _ => rfl) dX12_start_76 ?_
  refine lv_iload_n (pc := 79) hx hb dX12_start_79 rfl (lv_at hl 1 rfl) ?_
  refine lv_sipush (pc := 80) (v := 221) hx hb dX12_start_80 (by decide) ?_
  obtain ⟨v4, e3, h⟩ := ob_out h
  refine c_sI (pc := 83) (rest := [.ref (G.2.1 1)]) F S (tX12_at1 e3) mfX12_at1 w900 ⟨Nat.le_of_ble_eq_true rfl, Nat.le_of_ble_eq_true rfl⟩ rfl hl.1 rfl (Nat.le_of_ble_eq_true rfl) dX12_start_83 (fun H locs S => ?_)
  refine lv_iload_n (pc := 86) hx hb dX12_start_86 rfl (lv_at hl 2 rfl) ?_
  obtain ⟨M5, e6, h⟩ := ob_out h
  refine r_nS (pc := 87) F S e6 dX12_start_87 (fun H locs S => ?_)
  refine lv_aload_n (pc := 88) hx hb dX12_start_88 rfl (lv_at hl 0 rfl) ?_
  refine r_gR (pc := 89) (k := 0) (x := 1) (i := 0) (ci := 12) F S (by decide) (by decide) cl12 inRX12 (by decide) w903 (fun _ => rfl) dX12_start_89 ?_
  refine lv_iload_n (pc := 92) hx hb dX12_start_92 rfl (lv_at hl 1 rfl) ?_
  refine lv_sipush (pc := 93) (v := 222) hx hb dX12_start_93 (by decide) ?_
  obtain ⟨v8, e7, h⟩ := ob_out h
  refine c_sI (pc := 96) (rest := [.ref (G.2.1 1)]) F S (tX12_at1 e7) mfX12_at1 w900 ⟨Nat.le_of_ble_eq_true rfl, Nat.le_of_ble_eq_true rfl⟩ rfl hl.1 rfl (Nat.le_of_ble_eq_true rfl) dX12_start_96 (fun H locs S => ?_)
  refine lv_iconst (pc := 99) (v := 0) hx hb dX12_start_99 (by decide) ?_
  obtain ⟨M9, e10, h⟩ := ob_out h
  refine r_nS (pc := 100) F S e10 dX12_start_100 (fun H locs S => ?_)
  cases h
  exact r_vret (pc := 101) F S dX12_start_101
theorem mfX12_set : MF true yX12_set RX12 cX12_set 6 (some .int) 2 := ⟨w971, w13, by rw [if_pos rfl]; exact ⟨w969, w970⟩, ⟨by decide, by decide⟩, by decide +kernel⟩
set_option maxHeartbeats 4000000 in
theorem tX12_set {l : Launch} {G : GD} {M N Mo : Mem} {a1 : Int32} {a2 : Int32} {r : Int32} (h : fX12_set N a1 a2 = some (r, Mo)) : MI l yX12_set cX12_set 6 .int 1 22 G [.ref (G.2.1 0), .int a1, .int a2] M N r M Mo := by
  unfold fX12_set at h
  refine MI_of (own := RX12) (by decide) rfl (Nat.le_of_ble_eq_true rfl) ?_
  intro p e s m args below meth c F S ls hl
  have hx := F.1
  have hb := F.2.1
  have hown := F.2.2.2.2.1
  have hts := F.2.2.2.2.2.1
  have hZ := F.2.2.2.2.2.2.2.2.2
  have hl : lv_has ls 6 [(0, .ref (G.2.1 0)), (1, .int a1), (2, .int a2)] := hl
  generalize s.heap = H, ([] : List Loc) = locs at S ⊢
  refine lv_iload_n (pc := 0) hx hb dX12_set_0 rfl (lv_at hl 1 rfl) ?_
  obtain ⟨v1, d2, h⟩ := ob_out h
  have J3 : ∀ (H : Heap) (locs : List Loc) (ls : Array Slot), ST G M N s H locs → lv_has ls 6 [(0, .ref (G.2.1 0)), (1, .int a1), (2, .int a2)] → W p l e (Rm 1 22) s m args below meth c H locs 0 0 (MQ below (va_Qi (fun r' (_ : Unit) => r' = r) (fun _ t => Wd G M Mo t) (AG G.2.1)) args s 0 0 (AG G.2.1)) (F0 m 22 ls [.int v1]) := by
    intro H locs ls S hl
    refine lv_istore_n (pc := 22) (lv' := [(3, .int v1), (0, .ref (G.2.1 0)), (1, .int a1), (2, .int a2)]) hx hb dX12_set_22 rfl hl (by decide) rfl (fun ls hl => ?_)
    refine lv_iload_n (pc := 23) hx hb dX12_set_23 rfl (lv_at hl 2 rfl) ?_
    obtain ⟨v4, d5, h⟩ := ob_out h
    have J6 : ∀ (H : Heap) (locs : List Loc) (ls : Array Slot), ST G M N s H locs → lv_has ls 6 [(0, .ref (G.2.1 0)), (1, .int a1), (2, .int a2), (3, .int v1)] → W p l e (Rm 1 22) s m args below meth c H locs 0 0 (MQ below (va_Qi (fun r' (_ : Unit) => r' = r) (fun _ t => Wd G M Mo t) (AG G.2.1)) args s 0 0 (AG G.2.1)) (F0 m 46 ls [.int v4]) := by
      intro H locs ls S hl
      refine lv_istore (pc := 46) (lv' := [(4, .int v4), (0, .ref (G.2.1 0)), (1, .int a1), (2, .int a2), (3, .int v1)]) hx hb dX12_set_46 hl (by decide) rfl (fun ls hl => ?_)
      refine lv_iload_n (pc := 48) hx hb dX12_set_48 rfl (lv_at hl 2 rfl) ?_
      refine lv_iconst (pc := 49) (v := 0) hx hb dX12_set_49 (by decide) ?_
      refine lv_iconst (pc := 50) (v := 2) hx hb dX12_set_50 (by decide) ?_
      obtain ⟨v8, e7, h⟩ := ob_out h
      refine c_sI (pc := 51) (rest := []) F S (tX12_in e7) mfX12_in w972 ⟨Nat.le_of_ble_eq_true rfl, Nat.le_of_ble_eq_true rfl⟩ rfl hl.1 rfl (Nat.le_of_ble_eq_true rfl) dX12_set_51 (fun H locs S => ?_)
      refine lv_if_eq (pc := 54) (tgt := 67) hx hb dX12_set_54 (by decide) (fun c9 => ?_) (fun c9 => ?_)
      · replace h := (if_pos c9).symm.trans h
        refine lv_bipush (pc := 67) (v := (-2)) hx hb dX12_set_67 (by decide) ?_
        cases h
        exact r_iret (pc := 69) F S rfl dX12_set_69
      · replace h := (if_neg c9).symm.trans h
        refine lv_iload_n (pc := 57) hx hb dX12_set_57 rfl (lv_at hl 3 rfl) ?_
        refine lv_iload_n (pc := 58) hx hb dX12_set_58 rfl (lv_at hl 4 rfl) ?_
        refine lv_iload (pc := 59) hx hb dX12_set_59 (lv_at hl 0 rfl) ?_
        obtain ⟨v11, e10, h⟩ := ob_out h
        refine c_sI (pc := 61) (rest := []) F S (tX12_in e10) mfX12_in w972 ⟨Nat.le_of_ble_eq_true rfl, Nat.le_of_ble_eq_true rfl⟩ rfl hl.1 rfl (Nat.le_of_ble_eq_true rfl) dX12_set_61 (fun H locs S => ?_)
        refine lv_if_ne (pc := 64) (tgt := 70) hx hb dX12_set_64 (by decide) (fun c12 => ?_) (fun c12 => ?_)
        · replace h := (if_neg c12).symm.trans h
          refine lv_aload_n (pc := 70) hx hb dX12_set_70 rfl (lv_at hl 1 rfl) ?_
          obtain ⟨M14, e13, h⟩ := ob_out h
          refine c_vV (pc := 71) (rest := []) F S (tX12_know e13) mfX12_know (by decide) (by decide) cl12 w975 ⟨Nat.le_of_ble_eq_true rfl, Nat.le_of_ble_eq_true rfl⟩ rfl hl.1 rfl (Nat.le_of_ble_eq_true rfl) dX12_set_71 (fun H locs S => ?_)
          refine lv_aload_n (pc := 74) hx hb dX12_set_74 rfl (lv_at hl 1 rfl) ?_
          refine r_gR (pc := 75) (k := 0) (x := 1) (i := 0) (ci := 12) F S (by decide) (by decide) cl12 inRX12 (by decide) w903 (fun _ => rfl) dX12_set_75 ?_
          refine lv_iconst (pc := 78) (v := 0) hx hb dX12_set_78 (by decide) ?_
          refine lv_iload_n (pc := 79) hx hb dX12_set_79 rfl (lv_at hl 2 rfl) ?_
          refine lv_iadd (pc := 80) hx hb dX12_set_80 ?_
          obtain ⟨v15, e16, h⟩ := ob_out h
          refine r_nL (pc := 81) F S e16 dX12_set_81 ?_
          refine lv_istore (pc := 82) (lv' := [(5, .int v15), (4, .int v4), (0, .ref (G.2.1 0)), (1, .int a1), (2, .int a2), (3, .int v1)]) hx hb dX12_set_82 hl (by decide) rfl (fun ls hl => ?_)
          refine lv_aload_n (pc := 84) hx hb dX12_set_84 rfl (lv_at hl 2 rfl) ?_
          refine r_gR (pc := 85) (k := 0) (x := 1) (i := 0) (ci := 12) F S (by decide) (by decide) cl12 inRX12 (by decide) w903 (fun _ => rfl) dX12_set_85 ?_
          refine lv_iconst (pc := 88) (v := 0) hx hb dX12_set_88 (by decide) ?_
          refine lv_iload_n (pc := 89) hx hb dX12_set_89 rfl (lv_at hl 3 rfl) ?_
          refine lv_iadd (pc := 90) hx hb dX12_set_90 ?_
          refine lv_iload_n (pc := 91) hx hb dX12_set_91 rfl (lv_at hl 4 rfl) ?_
          obtain ⟨M17, e18, h⟩ := ob_out h
          refine r_nS (pc := 92) F S e18 dX12_set_92 (fun H locs S => ?_)
          refine lv_iload (pc := 93) hx hb dX12_set_93 (lv_at hl 0 rfl) ?_
          cases h
          exact r_iret (pc := 95) F S rfl dX12_set_95
        · replace h := (if_pos c12).symm.trans h
          refine lv_bipush (pc := 67) (v := (-2)) hx hb dX12_set_67 (by decide) ?_
          cases h
          exact r_iret (pc := 69) F S rfl dX12_set_69
    refine lv_if_ne (pc := 24) (tgt := 33) hx hb dX12_set_24 (by decide) (fun c19 => ?_) (fun c19 => ?_)
    · replace d5 := (if_neg c19).symm.trans d5
      refine lv_iload_n (pc := 33) hx hb dX12_set_33 rfl (lv_at hl 2 rfl) ?_
      refine lv_iconst (pc := 34) (v := 1) hx hb dX12_set_34 (by decide) ?_
      refine lv_icmp_ne (pc := 35) (tgt := 44) hx hb dX12_set_35 (by decide) (fun c20 => ?_) (fun c20 => ?_)
      · replace d5 := (if_neg c20).symm.trans d5
        refine lv_bipush (pc := 44) (v := 20) hx hb dX12_set_44 (by decide) ?_
        cases d5
        exact J6 H locs ls S (lv_sub hl [1, 2, 3, 0] rfl)
      · replace d5 := (if_pos c20).symm.trans d5
        refine lv_sipush (pc := 38) (v := 20000) hx hb dX12_set_38 (by decide) ?_
        refine lv_goto (pc := 41) (tgt := 46) hx hb dX12_set_41 (by decide) ?_
        cases d5
        exact J6 H locs ls S (lv_sub hl [1, 2, 3, 0] rfl)
    · replace d5 := (if_pos c19).symm.trans d5
      refine lv_sipush (pc := 27) (v := 6000) hx hb dX12_set_27 (by decide) ?_
      refine lv_goto (pc := 30) (tgt := 46) hx hb dX12_set_30 (by decide) ?_
      cases d5
      exact J6 H locs ls S (lv_sub hl [1, 2, 3, 0] rfl)
  refine lv_if_ne (pc := 1) (tgt := 10) hx hb dX12_set_1 (by decide) (fun c21 => ?_) (fun c21 => ?_)
  · replace d2 := (if_neg c21).symm.trans d2
    refine lv_iload_n (pc := 10) hx hb dX12_set_10 rfl (lv_at hl 1 rfl) ?_
    refine lv_iconst (pc := 11) (v := 1) hx hb dX12_set_11 (by decide) ?_
    refine lv_icmp_ne (pc := 12) (tgt := 21) hx hb dX12_set_12 (by decide) (fun c22 => ?_) (fun c22 => ?_)
    · replace d2 := (if_neg c22).symm.trans d2
      refine lv_iconst (pc := 21) (v := 1) hx hb dX12_set_21 (by decide) ?_
      cases d2
      exact J3 H locs ls S (lv_sub hl [0, 1, 2] rfl)
    · replace d2 := (if_pos c22).symm.trans d2
      refine lv_sipush (pc := 15) (v := 1000) hx hb dX12_set_15 (by decide) ?_
      refine lv_goto (pc := 18) (tgt := 22) hx hb dX12_set_18 (by decide) ?_
      cases d2
      exact J3 H locs ls S (lv_sub hl [0, 1, 2] rfl)
  · replace d2 := (if_pos c21).symm.trans d2
    refine lv_sipush (pc := 4) (v := 500) hx hb dX12_set_4 (by decide) ?_
    refine lv_goto (pc := 7) (tgt := 22) hx hb dX12_set_7 (by decide) ?_
    cases d2
    exact J3 H locs ls S (lv_sub hl [0, 1, 2] rfl)
