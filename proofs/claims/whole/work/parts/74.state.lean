/-! states, walked by program -/
theorem PrL_len {cy : Nat → ClassId} {h : Nat} : (PrL cy h).length = 23 := rfl
theorem OrL_len {cy : Nat → ClassId} {h : Nat} : (OrL cy h).length = 9 := rfl
theorem LoL_len {cy : Nat → ClassId} {h : Nat} : (LoL cy h).length = 3 := rfl
theorem WoL_len {cy : Nat → ClassId} {h : Nat} : (WoL cy h).length = 7 := rfl
abbrev TrF (h : Nat) : List Value := [.ref (h + 1), .int 0, .int 0, .int 0, .int 0]
def TrT (cy : Nat → ClassId) (h : Nat) : List va_E := PrL cy (h + 1)
def TrL (cy : Nat → ClassId) (h : Nat) : List va_E := .inr (8, TrF h) :: TrT cy h
theorem TrL_len {cy : Nat → ClassId} {h : Nat} : (TrL cy h).length = 24 := by
  unfold TrL TrT
  simp only [List.length_cons, List.length_append, List.length_nil, PrL_len]
set_option maxHeartbeats 4000000 in
theorem mcX8 {l : Launch} {D : va_G} {cy : Nat → ClassId} {t : Nat} (hm : Mna l) : MC l yX8_init cX8_init 1 3 100 23 232 D cy t (fun h => []) X8N (TrL cy) := by
  refine MC_of (own := RX8) (by decide) rfl rfl (fun a => Nat.le_of_ble_eq_true rfl) ?_
  intro a p e s m args below meth c F hr hlo hmi hW hS ls hl
  have hx := F.1
  have hb := F.2.1
  have hl : lv_has ls 1 [(0, .ref a)] := hl
  refine lv_aload_n (pc := 0) hx hb dX8_init_0 rfl (lv_at hl 0 rfl) ?_
  refine i_obj (pc := 1) F w296 hl.1 (Nat.le_of_ble_eq_true rfl) (Nat.le_of_ble_eq_true rfl) dX8_init_1 ?_
  refine lv_aload_n (pc := 4) hx hb dX8_init_4 rfl (lv_at hl 0 rfl) ?_
  refine i_new (pc := 5) (ci := 6) (n := 1) F hW hS rfl cl6 tyX6_ok inRX6 w297 w63 w4 nfX6 (Nat.le_of_ble_eq_true rfl) (Nat.le_of_ble_eq_true rfl) dX8_init_5 (fun H hW hS => ?_)
  have hW : WX D a [.inr (8, [.null, .int 0, .int 0, .int 0, .int 0]), .inr (6, nwX6)] H := hW
  refine lv_dup (pc := 8) hx hb dX8_init_8 rfl ?_
  refine i_ctor (pc := 9) (es := [.inr (8, [.null, .int 0, .int 0, .int 0, .int 0])]) (es0 := X6N) (n := 1) (na := 0) (rest := [.ref (a + 1), .ref a]) F hW hS rfl (mcX6 hm) w66 w4 w298 w65 rfl (by decide) ⟨(Nat.le_of_ble_eq_true rfl), (Nat.le_of_ble_eq_true rfl)⟩ rfl hl.1 rfl (Nat.le_of_ble_eq_true rfl) (Nat.le_of_ble_eq_true rfl) (Nat.le_of_ble_eq_true rfl) dX8_init_9 (fun H locs hW hS => ?_)
  have hW : WX D a (.inr (8, [.null, .int 0, .int 0, .int 0, .int 0]) :: (PrL cy (a + 1))) H := by simpa only [List.cons_append, List.append_assoc, List.nil_append] using hW
  refine i_put (pc := 12) (ci := 8) (k := 0) (ty := tyX8 0) F hmi hW hS cl8 tyX8_ok nmX8 inRX8 (by decide) w299 rfl rfl (tyX8_ok 0 (by decide)) rfl rfl (Nat.le_of_ble_eq_true rfl) dX8_init_12 (fun H locs hW hS => ?_)
  have hW : WX D a (.inr (8, [.ref (a + 1), .int 0, .int 0, .int 0, .int 0]) :: (PrL cy (a + 1))) H := hW
  exact i_vret (pc := 15) F hr hlo hW hS (Nat.le_of_ble_eq_true rfl) (Nat.le_of_ble_eq_true rfl) dX8_init_15
abbrev StF (h : Nat) : List Value := [.ref (h + 1), .ref (h + 2), .ref (h + 6)]
def StT (cy : Nat → ClassId) (h : Nat) : List va_E := .inl (cy 0, 3, .inl (sta 0)) :: .inr (9, [.int 0, .ref (h + 2 + 1), .ref (h + 2 + 2), .ref (h + 2 + 3)]) :: AI cy 6 :: AI cy 6 :: AI cy 6 :: RA (cy 2) 3 (va_up (va_up (va_up (fun _ => none) 0 (some (h + 7))) 1 (some (h + 30))) 2 (some (h + 53))) :: (PrL cy (h + 7) ++ (PrL cy (h + 30) ++ (PrL cy (h + 53))))
def StL (cy : Nat → ClassId) (h : Nat) : List va_E := .inr (7, StF h) :: StT cy h
theorem StL_len {cy : Nat → ClassId} {h : Nat} : (StL cy h).length = 76 := by
  unfold StL StT
  simp only [List.length_cons, List.length_append, List.length_nil, PrL_len]
set_option maxHeartbeats 4000000 in
theorem mcX7 {l : Launch} {D : va_G} {cy : Nat → ClassId} {t : Nat} (hm : Mna l) : MC l yX7_init cX7_init 2 3 100 75 724 D cy t (fun h => []) X7N (StL cy) := by
  refine MC_of (own := RX7) (by decide) rfl rfl (fun a => Nat.le_of_ble_eq_true rfl) ?_
  intro a p e s m args below meth c F hr hlo hmi hW hS ls hl
  have hx := F.1
  have hb := F.2.1
  have hl : lv_has ls 2 [(0, .ref a)] := hl
  refine lv_aload_n (pc := 0) hx hb dX7_init_0 rfl (lv_at hl 0 rfl) ?_
  refine i_obj (pc := 1) F w29 hl.1 (Nat.le_of_ble_eq_true rfl) (Nat.le_of_ble_eq_true rfl) dX7_init_1 ?_
  refine lv_aload_n (pc := 4) hx hb dX7_init_4 rfl (lv_at hl 0 rfl) ?_
  refine i_getsF (pc := 5) F hS wn0 dX7_init_5 ?_
  refine i_clone (pc := 8) (n := 1) (rest := [.ref a]) F hW hS rfl hl.1 (Nat.le_of_ble_eq_true rfl) (Nat.le_of_ble_eq_true rfl) (Nat.le_of_ble_eq_true rfl) (Nat.le_of_ble_eq_true rfl) dX7_init_8 (fun H hW hS => ?_)
  have hW : WX D a [.inr (7, [.null, .null, .null]), .inl (cy 0, 3, .inl (sta 0))] H := hW
  refine i_castI (pc := 11) (n := 1) (X := [.inr (7, [.null, .null, .null])]) F hW rfl w38 rfl dX7_init_11 ?_
  refine i_put (pc := 14) (ci := 7) (k := 0) (ty := tyX7 0) F hmi hW hS cl7 tyX7_ok nmX7 inRX7 (by decide) w163 rfl rfl (tyX7_ok 0 (by decide)) rfl rfl (Nat.le_of_ble_eq_true rfl) dX7_init_14 (fun H locs hW hS => ?_)
  have hW : WX D a ([.inr (7, [.ref (a + 1), .null, .null]), .inl (cy 0, 3, .inl (sta 0))]) H := hW
  refine lv_aload_n (pc := 17) hx hb dX7_init_17 rfl (lv_at hl 0 rfl) ?_
  refine i_new (pc := 18) (ci := 9) (n := 2) F hW hS rfl cl9 tyX9_ok inRX9 w39 w40 w3 nfX9 (Nat.le_of_ble_eq_true rfl) (Nat.le_of_ble_eq_true rfl) dX7_init_18 (fun H hW hS => ?_)
  have hW : WX D a [.inr (7, [.ref (a + 1), .null, .null]), .inl (cy 0, 3, .inl (sta 0)), .inr (9, nwX9)] H := hW
  refine lv_dup (pc := 21) hx hb dX7_init_21 rfl ?_
  refine i_ctorN (pc := 22) (es := [.inr (7, [.ref (a + 1), .null, .null]), .inl (cy 0, 3, .inl (sta 0))]) (es0 := X9N) (n := 2) (na := 0) (rest := [.ref (a + 2), .ref a]) F hW hS rfl (mcX9) w43 w3 wn1 w42 rfl (by decide) ⟨(Nat.le_of_ble_eq_true rfl), (Nat.le_of_ble_eq_true rfl)⟩ rfl hl.1 rfl (Nat.le_of_ble_eq_true rfl) (Nat.le_of_ble_eq_true rfl) (Nat.le_of_ble_eq_true rfl) dX7_init_22 (fun H locs hW hS => ?_)
  have hW : WX D a [.inr (7, [.ref (a + 1), .null, .null]), .inl (cy 0, 3, .inl (sta 0)), .inr (9, [.int 0, .ref (a + 2 + 1), .ref (a + 2 + 2), .ref (a + 2 + 3)]), AI cy 6, AI cy 6, AI cy 6] H := hW
  refine i_put (pc := 25) (ci := 7) (k := 1) (ty := tyX7 1) F hmi hW hS cl7 tyX7_ok nmX7 inRX7 (by decide) w167 rfl rfl (tyX7_ok 1 (by decide)) rfl rfl (Nat.le_of_ble_eq_true rfl) dX7_init_25 (fun H locs hW hS => ?_)
  have hW : WX D a ([.inr (7, [.ref (a + 1), .ref (a + 2), .null]), .inl (cy 0, 3, .inl (sta 0)), .inr (9, [.int 0, .ref (a + 2 + 1), .ref (a + 2 + 2), .ref (a + 2 + 3)]), AI cy 6, AI cy 6, AI cy 6]) H := hW
  refine lv_aload_n (pc := 28) hx hb dX7_init_28 rfl (lv_at hl 0 rfl) ?_
  refine lv_iconst (pc := 29) (v := 3) hx hb dX7_init_29 (by decide) ?_
  refine i_anew (pc := 30) (n := 6) (N := 3) (tk := 2) F hW hS rfl rfl (by omega) rfl F.2.2.2.2.2.2.2.1.2.1 w61 (Nat.le_of_ble_eq_true rfl) (Nat.le_of_ble_eq_true rfl) dX7_init_30 (fun H hW hS => ?_)
  have hW : WX D a [.inr (7, [.ref (a + 1), .ref (a + 2), .null]), .inl (cy 0, 3, .inl (sta 0)), .inr (9, [.int 0, .ref (a + 2 + 1), .ref (a + 2 + 2), .ref (a + 2 + 3)]), AI cy 6, AI cy 6, AI cy 6, RA (cy 2) 3 (fun _ => none)] H := hW
  refine i_put (pc := 33) (ci := 7) (k := 2) (ty := tyX7 2) F hmi hW hS cl7 tyX7_ok nmX7 inRX7 (by decide) w170 rfl rfl (tyX7_ok 2 (by decide)) rfl rfl (Nat.le_of_ble_eq_true rfl) dX7_init_33 (fun H locs hW hS => ?_)
  have hW : WX D a ([.inr (7, [.ref (a + 1), .ref (a + 2), .ref (a + 6)]), .inl (cy 0, 3, .inl (sta 0)), .inr (9, [.int 0, .ref (a + 2 + 1), .ref (a + 2 + 2), .ref (a + 2 + 3)]), AI cy 6, AI cy 6, AI cy 6, RA (cy 2) 3 (fun _ => none)]) H := hW
  refine lv_iconst (pc := 36) (v := 0) hx hb dX7_init_36 (by decide) ?_
  refine lv_istore_n (pc := 37) (lv' := [(1, .int 0), (0, .ref a)]) hx hb dX7_init_37 rfl hl (by decide) rfl (fun ls hl => ?_)
  refine lv_iload_n (pc := 38) hx hb dX7_init_38 rfl (lv_at hl 0 rfl) ?_
  refine lv_aload_n (pc := 39) hx hb dX7_init_39 rfl (lv_at hl 1 rfl) ?_
  refine i_get (pc := 40) (ci := 7) (k := 2) (n := 0) (X := []) F hW rfl cl7 inRX7 (by decide) w170 rfl rfl dX7_init_40 ?_
  refine i_alen (pc := 43) (tk := 2) (n := 6) (X := [.inr (7, [.ref (a + 1), .ref (a + 2), .ref (a + 6)]), .inl (cy 0, 3, .inl (sta 0)), .inr (9, [.int 0, .ref (a + 2 + 1), .ref (a + 2 + 2), .ref (a + 2 + 3)]), AI cy 6, AI cy 6, AI cy 6]) F hW rfl rfl (v := 3) rfl rfl dX7_init_43 ?_
  refine lv_icmp_ge (pc := 44) (tgt := 66) hx hb dX7_init_44 (by decide) (fun c1 => absurd c1 (by decide)) (fun c1 => ?_)
  refine lv_aload_n (pc := 47) hx hb dX7_init_47 rfl (lv_at hl 1 rfl) ?_
  refine i_get (pc := 48) (ci := 7) (k := 2) (n := 0) (X := []) F hW rfl cl7 inRX7 (by decide) w170 rfl rfl dX7_init_48 ?_
  refine lv_iload_n (pc := 51) hx hb dX7_init_51 rfl (lv_at hl 0 rfl) ?_
  refine i_new (pc := 52) (ci := 6) (n := 7) F hW hS rfl cl6 tyX6_ok inRX6 w61 w63 w4 nfX6 (Nat.le_of_ble_eq_true rfl) (Nat.le_of_ble_eq_true rfl) dX7_init_52 (fun H hW hS => ?_)
  have hW : WX D a [.inr (7, [.ref (a + 1), .ref (a + 2), .ref (a + 6)]), .inl (cy 0, 3, .inl (sta 0)), .inr (9, [.int 0, .ref (a + 2 + 1), .ref (a + 2 + 2), .ref (a + 2 + 3)]), AI cy 6, AI cy 6, AI cy 6, RA (cy 2) 3 (fun _ => none), .inr (6, nwX6)] H := hW
  refine lv_dup (pc := 55) hx hb dX7_init_55 rfl ?_
  refine i_ctor (pc := 56) (es := [.inr (7, [.ref (a + 1), .ref (a + 2), .ref (a + 6)]), .inl (cy 0, 3, .inl (sta 0)), .inr (9, [.int 0, .ref (a + 2 + 1), .ref (a + 2 + 2), .ref (a + 2 + 3)]), AI cy 6, AI cy 6, AI cy 6, RA (cy 2) 3 (fun _ => none)]) (es0 := X6N) (n := 7) (na := 0) (rest := [.ref (a + 7), .int 0, .ref (a + 6)]) F hW hS rfl (mcX6 hm) w66 w4 w64 w65 rfl (by decide) ⟨(Nat.le_of_ble_eq_true rfl), (Nat.le_of_ble_eq_true rfl)⟩ rfl hl.1 rfl (Nat.le_of_ble_eq_true rfl) (Nat.le_of_ble_eq_true rfl) (Nat.le_of_ble_eq_true rfl) dX7_init_56 (fun H locs hW hS => ?_)
  have hW : WX D a (.inr (7, [.ref (a + 1), .ref (a + 2), .ref (a + 6)]) :: .inl (cy 0, 3, .inl (sta 0)) :: .inr (9, [.int 0, .ref (a + 2 + 1), .ref (a + 2 + 2), .ref (a + 2 + 3)]) :: AI cy 6 :: AI cy 6 :: AI cy 6 :: RA (cy 2) 3 (fun _ => none) :: (PrL cy (a + 7))) H := by simpa only [List.cons_append, List.append_assoc, List.nil_append] using hW
  have h9 := hW
  rw [show PrL cy (a + 7) = .inr (6, PrF (a + 7)) :: PrT cy (a + 7) from rfl] at h9
  refine i_aast (pc := 59) (n := 6) (n2 := 7) (N := 3) (ci := 6) (tk := 2) (k := 0) (X := [.inr (7, [.ref (a + 1), .ref (a + 2), .ref (a + 6)]), .inl (cy 0, 3, .inl (sta 0)), .inr (9, [.int 0, .ref (a + 2 + 1), .ref (a + 2 + 2), .ref (a + 2 + 3)]), AI cy 6, AI cy 6, AI cy 6]) (Y := PrL cy (a + 7)) (f := (fun _ => none)) (X2 := [.inr (7, [.ref (a + 1), .ref (a + 2), .ref (a + 6)]), .inl (cy 0, 3, .inl (sta 0)), .inr (9, [.int 0, .ref (a + 2 + 1), .ref (a + 2 + 2), .ref (a + 2 + 3)]), AI cy 6, AI cy 6, AI cy 6, RA (cy 2) 3 (fun _ => none)]) (Y2 := PrT cy (a + 7)) (fs := PrF (a + 7)) F (by simpa only [List.cons_append, List.append_assoc, List.nil_append] using hW) (by simpa only [List.cons_append, List.append_assoc, List.nil_append] using h9) hS rfl rfl rfl cl6 rfl (by omega) (by omega) rfl rfl dX7_init_59 (fun H locs hW hS => ?_)
  have hW : WX D a (.inr (7, [.ref (a + 1), .ref (a + 2), .ref (a + 6)]) :: .inl (cy 0, 3, .inl (sta 0)) :: .inr (9, [.int 0, .ref (a + 2 + 1), .ref (a + 2 + 2), .ref (a + 2 + 3)]) :: AI cy 6 :: AI cy 6 :: AI cy 6 :: RA (cy 2) 3 (va_up (fun _ => none) 0 (some (a + 7))) :: (PrL cy (a + 7))) H := by simpa only [List.cons_append, List.append_assoc, List.nil_append] using hW
  refine lv_iinc (pc := 60) (lv' := [(1, .int 1), (0, .ref a)]) hx hb dX7_init_60 hl (k := 0) rfl (by decide) (by decide) rfl (fun ls hl => ?_)
  refine lv_goto (pc := 63) (tgt := 38) hx hb dX7_init_63 (by decide) ?_
  refine lv_iload_n (pc := 38) hx hb dX7_init_38 rfl (lv_at hl 0 rfl) ?_
  refine lv_aload_n (pc := 39) hx hb dX7_init_39 rfl (lv_at hl 1 rfl) ?_
  refine i_get (pc := 40) (ci := 7) (k := 2) (n := 0) (X := []) F hW rfl cl7 inRX7 (by decide) w170 rfl rfl dX7_init_40 ?_
  refine i_alen (pc := 43) (tk := 2) (n := 6) (X := [.inr (7, [.ref (a + 1), .ref (a + 2), .ref (a + 6)]), .inl (cy 0, 3, .inl (sta 0)), .inr (9, [.int 0, .ref (a + 2 + 1), .ref (a + 2 + 2), .ref (a + 2 + 3)]), AI cy 6, AI cy 6, AI cy 6]) F (by simpa only [List.cons_append, List.append_assoc, List.nil_append] using hW) rfl rfl (v := 3) rfl rfl dX7_init_43 ?_
  refine lv_icmp_ge (pc := 44) (tgt := 66) hx hb dX7_init_44 (by decide) (fun c1 => absurd c1 (by decide)) (fun c1 => ?_)
  refine lv_aload_n (pc := 47) hx hb dX7_init_47 rfl (lv_at hl 1 rfl) ?_
  refine i_get (pc := 48) (ci := 7) (k := 2) (n := 0) (X := []) F hW rfl cl7 inRX7 (by decide) w170 rfl rfl dX7_init_48 ?_
  refine lv_iload_n (pc := 51) hx hb dX7_init_51 rfl (lv_at hl 0 rfl) ?_
  refine i_new (pc := 52) (ci := 6) (n := 30) F hW hS (by simp only [List.length_cons, List.length_append, List.length_nil, PrL_len]) cl6 tyX6_ok inRX6 w61 w63 w4 nfX6 (Nat.le_of_ble_eq_true rfl) (Nat.le_of_ble_eq_true rfl) dX7_init_52 (fun H hW hS => ?_)
  refine lv_dup (pc := 55) hx hb dX7_init_55 rfl ?_
  refine i_ctor (pc := 56) (es := .inr (7, [.ref (a + 1), .ref (a + 2), .ref (a + 6)]) :: .inl (cy 0, 3, .inl (sta 0)) :: .inr (9, [.int 0, .ref (a + 2 + 1), .ref (a + 2 + 2), .ref (a + 2 + 3)]) :: AI cy 6 :: AI cy 6 :: AI cy 6 :: RA (cy 2) 3 (va_up (fun _ => none) 0 (some (a + 7))) :: (PrL cy (a + 7))) (es0 := X6N) (n := 30) (na := 0) (rest := [.ref (a + 30), .int 1, .ref (a + 6)]) F hW hS (by simp only [List.length_cons, List.length_append, List.length_nil, PrL_len]) (mcX6 hm) w66 w4 w64 w65 rfl (by decide) ⟨(Nat.le_of_ble_eq_true rfl), (Nat.le_of_ble_eq_true rfl)⟩ rfl hl.1 rfl (Nat.le_of_ble_eq_true rfl) (Nat.le_of_ble_eq_true rfl) (Nat.le_of_ble_eq_true rfl) dX7_init_56 (fun H locs hW hS => ?_)
  have hW : WX D a (.inr (7, [.ref (a + 1), .ref (a + 2), .ref (a + 6)]) :: .inl (cy 0, 3, .inl (sta 0)) :: .inr (9, [.int 0, .ref (a + 2 + 1), .ref (a + 2 + 2), .ref (a + 2 + 3)]) :: AI cy 6 :: AI cy 6 :: AI cy 6 :: RA (cy 2) 3 (va_up (fun _ => none) 0 (some (a + 7))) :: (PrL cy (a + 7) ++ (PrL cy (a + 30)))) H := by simpa only [List.cons_append, List.append_assoc, List.nil_append] using hW
  have h9 := hW
  rw [show PrL cy (a + 30) = .inr (6, PrF (a + 30)) :: PrT cy (a + 30) from rfl] at h9
  refine i_aast (pc := 59) (n := 6) (n2 := 30) (N := 3) (ci := 6) (tk := 2) (k := 1) (X := [.inr (7, [.ref (a + 1), .ref (a + 2), .ref (a + 6)]), .inl (cy 0, 3, .inl (sta 0)), .inr (9, [.int 0, .ref (a + 2 + 1), .ref (a + 2 + 2), .ref (a + 2 + 3)]), AI cy 6, AI cy 6, AI cy 6]) (Y := PrL cy (a + 7) ++ (PrL cy (a + 30))) (f := (va_up (fun _ => none) 0 (some (a + 7)))) (X2 := .inr (7, [.ref (a + 1), .ref (a + 2), .ref (a + 6)]) :: .inl (cy 0, 3, .inl (sta 0)) :: .inr (9, [.int 0, .ref (a + 2 + 1), .ref (a + 2 + 2), .ref (a + 2 + 3)]) :: AI cy 6 :: AI cy 6 :: AI cy 6 :: RA (cy 2) 3 (va_up (fun _ => none) 0 (some (a + 7))) :: (PrL cy (a + 7))) (Y2 := PrT cy (a + 30)) (fs := PrF (a + 30)) F (by simpa only [List.cons_append, List.append_assoc, List.nil_append] using hW) (by simpa only [List.cons_append, List.append_assoc, List.nil_append] using h9) hS rfl (by simp only [List.length_cons, List.length_append, List.length_nil, PrL_len]) rfl cl6 rfl (by omega) (by omega) rfl rfl dX7_init_59 (fun H locs hW hS => ?_)
  have hW : WX D a (.inr (7, [.ref (a + 1), .ref (a + 2), .ref (a + 6)]) :: .inl (cy 0, 3, .inl (sta 0)) :: .inr (9, [.int 0, .ref (a + 2 + 1), .ref (a + 2 + 2), .ref (a + 2 + 3)]) :: AI cy 6 :: AI cy 6 :: AI cy 6 :: RA (cy 2) 3 (va_up (va_up (fun _ => none) 0 (some (a + 7))) 1 (some (a + 30))) :: (PrL cy (a + 7) ++ (PrL cy (a + 30)))) H := by simpa only [List.cons_append, List.append_assoc, List.nil_append] using hW
  refine lv_iinc (pc := 60) (lv' := [(1, .int 2), (0, .ref a)]) hx hb dX7_init_60 hl (k := 0) rfl (by decide) (by decide) rfl (fun ls hl => ?_)
  refine lv_goto (pc := 63) (tgt := 38) hx hb dX7_init_63 (by decide) ?_
  refine lv_iload_n (pc := 38) hx hb dX7_init_38 rfl (lv_at hl 0 rfl) ?_
  refine lv_aload_n (pc := 39) hx hb dX7_init_39 rfl (lv_at hl 1 rfl) ?_
  refine i_get (pc := 40) (ci := 7) (k := 2) (n := 0) (X := []) F hW rfl cl7 inRX7 (by decide) w170 rfl rfl dX7_init_40 ?_
  refine i_alen (pc := 43) (tk := 2) (n := 6) (X := [.inr (7, [.ref (a + 1), .ref (a + 2), .ref (a + 6)]), .inl (cy 0, 3, .inl (sta 0)), .inr (9, [.int 0, .ref (a + 2 + 1), .ref (a + 2 + 2), .ref (a + 2 + 3)]), AI cy 6, AI cy 6, AI cy 6]) F (by simpa only [List.cons_append, List.append_assoc, List.nil_append] using hW) rfl rfl (v := 3) rfl rfl dX7_init_43 ?_
  refine lv_icmp_ge (pc := 44) (tgt := 66) hx hb dX7_init_44 (by decide) (fun c1 => absurd c1 (by decide)) (fun c1 => ?_)
  refine lv_aload_n (pc := 47) hx hb dX7_init_47 rfl (lv_at hl 1 rfl) ?_
  refine i_get (pc := 48) (ci := 7) (k := 2) (n := 0) (X := []) F hW rfl cl7 inRX7 (by decide) w170 rfl rfl dX7_init_48 ?_
  refine lv_iload_n (pc := 51) hx hb dX7_init_51 rfl (lv_at hl 0 rfl) ?_
  refine i_new (pc := 52) (ci := 6) (n := 53) F hW hS (by simp only [List.length_cons, List.length_append, List.length_nil, PrL_len]) cl6 tyX6_ok inRX6 w61 w63 w4 nfX6 (Nat.le_of_ble_eq_true rfl) (Nat.le_of_ble_eq_true rfl) dX7_init_52 (fun H hW hS => ?_)
  refine lv_dup (pc := 55) hx hb dX7_init_55 rfl ?_
  refine i_ctor (pc := 56) (es := .inr (7, [.ref (a + 1), .ref (a + 2), .ref (a + 6)]) :: .inl (cy 0, 3, .inl (sta 0)) :: .inr (9, [.int 0, .ref (a + 2 + 1), .ref (a + 2 + 2), .ref (a + 2 + 3)]) :: AI cy 6 :: AI cy 6 :: AI cy 6 :: RA (cy 2) 3 (va_up (va_up (fun _ => none) 0 (some (a + 7))) 1 (some (a + 30))) :: (PrL cy (a + 7) ++ (PrL cy (a + 30)))) (es0 := X6N) (n := 53) (na := 0) (rest := [.ref (a + 53), .int 2, .ref (a + 6)]) F hW hS (by simp only [List.length_cons, List.length_append, List.length_nil, PrL_len]) (mcX6 hm) w66 w4 w64 w65 rfl (by decide) ⟨(Nat.le_of_ble_eq_true rfl), (Nat.le_of_ble_eq_true rfl)⟩ rfl hl.1 rfl (Nat.le_of_ble_eq_true rfl) (Nat.le_of_ble_eq_true rfl) (Nat.le_of_ble_eq_true rfl) dX7_init_56 (fun H locs hW hS => ?_)
  have hW : WX D a (.inr (7, [.ref (a + 1), .ref (a + 2), .ref (a + 6)]) :: .inl (cy 0, 3, .inl (sta 0)) :: .inr (9, [.int 0, .ref (a + 2 + 1), .ref (a + 2 + 2), .ref (a + 2 + 3)]) :: AI cy 6 :: AI cy 6 :: AI cy 6 :: RA (cy 2) 3 (va_up (va_up (fun _ => none) 0 (some (a + 7))) 1 (some (a + 30))) :: (PrL cy (a + 7) ++ (PrL cy (a + 30) ++ (PrL cy (a + 53))))) H := by simpa only [List.cons_append, List.append_assoc, List.nil_append] using hW
  have h9 := hW
  rw [show PrL cy (a + 53) = .inr (6, PrF (a + 53)) :: PrT cy (a + 53) from rfl] at h9
  refine i_aast (pc := 59) (n := 6) (n2 := 53) (N := 3) (ci := 6) (tk := 2) (k := 2) (X := [.inr (7, [.ref (a + 1), .ref (a + 2), .ref (a + 6)]), .inl (cy 0, 3, .inl (sta 0)), .inr (9, [.int 0, .ref (a + 2 + 1), .ref (a + 2 + 2), .ref (a + 2 + 3)]), AI cy 6, AI cy 6, AI cy 6]) (Y := PrL cy (a + 7) ++ (PrL cy (a + 30) ++ (PrL cy (a + 53)))) (f := (va_up (va_up (fun _ => none) 0 (some (a + 7))) 1 (some (a + 30)))) (X2 := .inr (7, [.ref (a + 1), .ref (a + 2), .ref (a + 6)]) :: .inl (cy 0, 3, .inl (sta 0)) :: .inr (9, [.int 0, .ref (a + 2 + 1), .ref (a + 2 + 2), .ref (a + 2 + 3)]) :: AI cy 6 :: AI cy 6 :: AI cy 6 :: RA (cy 2) 3 (va_up (va_up (fun _ => none) 0 (some (a + 7))) 1 (some (a + 30))) :: (PrL cy (a + 7) ++ (PrL cy (a + 30)))) (Y2 := PrT cy (a + 53)) (fs := PrF (a + 53)) F (by simpa only [List.cons_append, List.append_assoc, List.nil_append] using hW) (by simpa only [List.cons_append, List.append_assoc, List.nil_append] using h9) hS rfl (by simp only [List.length_cons, List.length_append, List.length_nil, PrL_len]) rfl cl6 rfl (by omega) (by omega) rfl rfl dX7_init_59 (fun H locs hW hS => ?_)
  have hW : WX D a (.inr (7, [.ref (a + 1), .ref (a + 2), .ref (a + 6)]) :: .inl (cy 0, 3, .inl (sta 0)) :: .inr (9, [.int 0, .ref (a + 2 + 1), .ref (a + 2 + 2), .ref (a + 2 + 3)]) :: AI cy 6 :: AI cy 6 :: AI cy 6 :: RA (cy 2) 3 (va_up (va_up (va_up (fun _ => none) 0 (some (a + 7))) 1 (some (a + 30))) 2 (some (a + 53))) :: (PrL cy (a + 7) ++ (PrL cy (a + 30) ++ (PrL cy (a + 53))))) H := by simpa only [List.cons_append, List.append_assoc, List.nil_append] using hW
  refine lv_iinc (pc := 60) (lv' := [(1, .int 3), (0, .ref a)]) hx hb dX7_init_60 hl (k := 0) rfl (by decide) (by decide) rfl (fun ls hl => ?_)
  refine lv_goto (pc := 63) (tgt := 38) hx hb dX7_init_63 (by decide) ?_
  refine lv_iload_n (pc := 38) hx hb dX7_init_38 rfl (lv_at hl 0 rfl) ?_
  refine lv_aload_n (pc := 39) hx hb dX7_init_39 rfl (lv_at hl 1 rfl) ?_
  refine i_get (pc := 40) (ci := 7) (k := 2) (n := 0) (X := []) F hW rfl cl7 inRX7 (by decide) w170 rfl rfl dX7_init_40 ?_
  refine i_alen (pc := 43) (tk := 2) (n := 6) (X := [.inr (7, [.ref (a + 1), .ref (a + 2), .ref (a + 6)]), .inl (cy 0, 3, .inl (sta 0)), .inr (9, [.int 0, .ref (a + 2 + 1), .ref (a + 2 + 2), .ref (a + 2 + 3)]), AI cy 6, AI cy 6, AI cy 6]) F (by simpa only [List.cons_append, List.append_assoc, List.nil_append] using hW) rfl rfl (v := 3) rfl rfl dX7_init_43 ?_
  refine lv_icmp_ge (pc := 44) (tgt := 66) hx hb dX7_init_44 (by decide) (fun c1 => ?_) (fun c1 => absurd (by decide) c1)
  exact i_vret (pc := 66) F hr hlo hW hS (Nat.le_of_ble_eq_true rfl) (Nat.le_of_ble_eq_true rfl) dX7_init_66
abbrev HiF (h : Nat) : List Value := [.ref (h + 1), .int 0]
def HiT (cy : Nat → ClassId) (h : Nat) : List va_E := RA (cy 3) 6 (va_up (va_up (va_up (va_up (va_up (va_up (fun _ => none) 0 (some (h + 2))) 1 (some (h + 78))) 2 (some (h + 154))) 3 (some (h + 230))) 4 (some (h + 306))) 5 (some (h + 382))) :: (StL cy (h + 2) ++ (StL cy (h + 78) ++ (StL cy (h + 154) ++ (StL cy (h + 230) ++ (StL cy (h + 306) ++ (StL cy (h + 382)))))))
def HiL (cy : Nat → ClassId) (h : Nat) : List va_E := .inr (2, HiF h) :: HiT cy h
theorem HiL_len {cy : Nat → ClassId} {h : Nat} : (HiL cy h).length = 458 := by
  unfold HiL HiT
  simp only [List.length_cons, List.length_append, List.length_nil, StL_len]
set_option maxHeartbeats 4000000 in
theorem mcX2 {l : Launch} {D : va_G} {cy : Nat → ClassId} {t : Nat} (hm : Mna l) : MC l yX2_init cX2_init 2 4 130 457 4368 D cy t (fun h => []) X2N (HiL cy) := by
  refine MC_of (own := RX2) (by decide) rfl rfl (fun a => Nat.le_of_ble_eq_true rfl) ?_
  intro a p e s m args below meth c F hr hlo hmi hW hS ls hl
  have hx := F.1
  have hb := F.2.1
  have hl : lv_has ls 2 [(0, .ref a)] := hl
  refine lv_aload_n (pc := 0) hx hb dX2_init_0 rfl (lv_at hl 0 rfl) ?_
  refine i_obj (pc := 1) F w184 hl.1 (Nat.le_of_ble_eq_true rfl) (Nat.le_of_ble_eq_true rfl) dX2_init_1 ?_
  refine lv_aload_n (pc := 4) hx hb dX2_init_4 rfl (lv_at hl 0 rfl) ?_
  refine lv_bipush (pc := 5) (v := 6) hx hb dX2_init_5 (by decide) ?_
  refine i_anew (pc := 7) (n := 1) (N := 6) (tk := 3) F hW hS rfl rfl (by omega) rfl F.2.2.2.2.2.2.2.1.1 w185 (Nat.le_of_ble_eq_true rfl) (Nat.le_of_ble_eq_true rfl) dX2_init_7 (fun H hW hS => ?_)
  have hW : WX D a [.inr (2, [.null, .int 0]), RA (cy 3) 6 (fun _ => none)] H := hW
  refine i_put (pc := 10) (ci := 2) (k := 0) (ty := tyX2 0) F hmi hW hS cl2 tyX2_ok nmX2 inRX2 (by decide) w188 rfl rfl (tyX2_ok 0 (by decide)) rfl rfl (Nat.le_of_ble_eq_true rfl) dX2_init_10 (fun H locs hW hS => ?_)
  have hW : WX D a ([.inr (2, [.ref (a + 1), .int 0]), RA (cy 3) 6 (fun _ => none)]) H := hW
  refine lv_iconst (pc := 13) (v := 0) hx hb dX2_init_13 (by decide) ?_
  refine lv_istore_n (pc := 14) (lv' := [(1, .int 0), (0, .ref a)]) hx hb dX2_init_14 rfl hl (by decide) rfl (fun ls hl => ?_)
  refine lv_iload_n (pc := 15) hx hb dX2_init_15 rfl (lv_at hl 0 rfl) ?_
  refine lv_aload_n (pc := 16) hx hb dX2_init_16 rfl (lv_at hl 1 rfl) ?_
  refine i_get (pc := 17) (ci := 2) (k := 0) (n := 0) (X := []) F hW rfl cl2 inRX2 (by decide) w188 rfl rfl dX2_init_17 ?_
  refine i_alen (pc := 20) (tk := 3) (n := 1) (X := [.inr (2, [.ref (a + 1), .int 0])]) F hW rfl rfl (v := 6) rfl rfl dX2_init_20 ?_
  refine lv_icmp_ge (pc := 21) (tgt := 43) hx hb dX2_init_21 (by decide) (fun c1 => absurd c1 (by decide)) (fun c1 => ?_)
  refine lv_aload_n (pc := 24) hx hb dX2_init_24 rfl (lv_at hl 1 rfl) ?_
  refine i_get (pc := 25) (ci := 2) (k := 0) (n := 0) (X := []) F hW rfl cl2 inRX2 (by decide) w188 rfl rfl dX2_init_25 ?_
  refine lv_iload_n (pc := 28) hx hb dX2_init_28 rfl (lv_at hl 0 rfl) ?_
  refine i_new (pc := 29) (ci := 7) (n := 2) F hW hS rfl cl7 tyX7_ok inRX7 w185 w25 w2 nfX7 (Nat.le_of_ble_eq_true rfl) (Nat.le_of_ble_eq_true rfl) dX2_init_29 (fun H hW hS => ?_)
  have hW : WX D a [.inr (2, [.ref (a + 1), .int 0]), RA (cy 3) 6 (fun _ => none), .inr (7, nwX7)] H := hW
  refine lv_dup (pc := 32) hx hb dX2_init_32 rfl ?_
  refine i_ctor (pc := 33) (es := [.inr (2, [.ref (a + 1), .int 0]), RA (cy 3) 6 (fun _ => none)]) (es0 := X7N) (n := 2) (na := 0) (rest := [.ref (a + 2), .int 0, .ref (a + 1)]) F hW hS rfl (mcX7 hm) w28 w2 w187 w27 rfl (by decide) ⟨(Nat.le_of_ble_eq_true rfl), (Nat.le_of_ble_eq_true rfl)⟩ rfl hl.1 rfl (Nat.le_of_ble_eq_true rfl) (Nat.le_of_ble_eq_true rfl) (Nat.le_of_ble_eq_true rfl) dX2_init_33 (fun H locs hW hS => ?_)
  have hW : WX D a (.inr (2, [.ref (a + 1), .int 0]) :: RA (cy 3) 6 (fun _ => none) :: (StL cy (a + 2))) H := by simpa only [List.cons_append, List.append_assoc, List.nil_append] using hW
  have h9 := hW
  rw [show StL cy (a + 2) = .inr (7, StF (a + 2)) :: StT cy (a + 2) from rfl] at h9
  refine i_aast (pc := 36) (n := 1) (n2 := 2) (N := 6) (ci := 7) (tk := 3) (k := 0) (X := [.inr (2, [.ref (a + 1), .int 0])]) (Y := StL cy (a + 2)) (f := (fun _ => none)) (X2 := [.inr (2, [.ref (a + 1), .int 0]), RA (cy 3) 6 (fun _ => none)]) (Y2 := StT cy (a + 2)) (fs := StF (a + 2)) F (by simpa only [List.cons_append, List.append_assoc, List.nil_append] using hW) (by simpa only [List.cons_append, List.append_assoc, List.nil_append] using h9) hS rfl rfl rfl cl7 rfl (by omega) (by omega) rfl rfl dX2_init_36 (fun H locs hW hS => ?_)
  have hW : WX D a (.inr (2, [.ref (a + 1), .int 0]) :: RA (cy 3) 6 (va_up (fun _ => none) 0 (some (a + 2))) :: (StL cy (a + 2))) H := by simpa only [List.cons_append, List.append_assoc, List.nil_append] using hW
  refine lv_iinc (pc := 37) (lv' := [(1, .int 1), (0, .ref a)]) hx hb dX2_init_37 hl (k := 0) rfl (by decide) (by decide) rfl (fun ls hl => ?_)
  refine lv_goto (pc := 40) (tgt := 15) hx hb dX2_init_40 (by decide) ?_
  refine lv_iload_n (pc := 15) hx hb dX2_init_15 rfl (lv_at hl 0 rfl) ?_
  refine lv_aload_n (pc := 16) hx hb dX2_init_16 rfl (lv_at hl 1 rfl) ?_
  refine i_get (pc := 17) (ci := 2) (k := 0) (n := 0) (X := []) F hW rfl cl2 inRX2 (by decide) w188 rfl rfl dX2_init_17 ?_
  refine i_alen (pc := 20) (tk := 3) (n := 1) (X := [.inr (2, [.ref (a + 1), .int 0])]) F (by simpa only [List.cons_append, List.append_assoc, List.nil_append] using hW) rfl rfl (v := 6) rfl rfl dX2_init_20 ?_
  refine lv_icmp_ge (pc := 21) (tgt := 43) hx hb dX2_init_21 (by decide) (fun c1 => absurd c1 (by decide)) (fun c1 => ?_)
  refine lv_aload_n (pc := 24) hx hb dX2_init_24 rfl (lv_at hl 1 rfl) ?_
  refine i_get (pc := 25) (ci := 2) (k := 0) (n := 0) (X := []) F hW rfl cl2 inRX2 (by decide) w188 rfl rfl dX2_init_25 ?_
  refine lv_iload_n (pc := 28) hx hb dX2_init_28 rfl (lv_at hl 0 rfl) ?_
  refine i_new (pc := 29) (ci := 7) (n := 78) F hW hS (by simp only [List.length_cons, List.length_append, List.length_nil, PrL_len, StL_len]) cl7 tyX7_ok inRX7 w185 w25 w2 nfX7 (Nat.le_of_ble_eq_true rfl) (Nat.le_of_ble_eq_true rfl) dX2_init_29 (fun H hW hS => ?_)
  refine lv_dup (pc := 32) hx hb dX2_init_32 rfl ?_
  refine i_ctor (pc := 33) (es := .inr (2, [.ref (a + 1), .int 0]) :: RA (cy 3) 6 (va_up (fun _ => none) 0 (some (a + 2))) :: (StL cy (a + 2))) (es0 := X7N) (n := 78) (na := 0) (rest := [.ref (a + 78), .int 1, .ref (a + 1)]) F hW hS (by simp only [List.length_cons, List.length_append, List.length_nil, PrL_len, StL_len]) (mcX7 hm) w28 w2 w187 w27 rfl (by decide) ⟨(Nat.le_of_ble_eq_true rfl), (Nat.le_of_ble_eq_true rfl)⟩ rfl hl.1 rfl (Nat.le_of_ble_eq_true rfl) (Nat.le_of_ble_eq_true rfl) (Nat.le_of_ble_eq_true rfl) dX2_init_33 (fun H locs hW hS => ?_)
  have hW : WX D a (.inr (2, [.ref (a + 1), .int 0]) :: RA (cy 3) 6 (va_up (fun _ => none) 0 (some (a + 2))) :: (StL cy (a + 2) ++ (StL cy (a + 78)))) H := by simpa only [List.cons_append, List.append_assoc, List.nil_append] using hW
  have h9 := hW
  rw [show StL cy (a + 78) = .inr (7, StF (a + 78)) :: StT cy (a + 78) from rfl] at h9
  refine i_aast (pc := 36) (n := 1) (n2 := 78) (N := 6) (ci := 7) (tk := 3) (k := 1) (X := [.inr (2, [.ref (a + 1), .int 0])]) (Y := StL cy (a + 2) ++ (StL cy (a + 78))) (f := (va_up (fun _ => none) 0 (some (a + 2)))) (X2 := .inr (2, [.ref (a + 1), .int 0]) :: RA (cy 3) 6 (va_up (fun _ => none) 0 (some (a + 2))) :: (StL cy (a + 2))) (Y2 := StT cy (a + 78)) (fs := StF (a + 78)) F (by simpa only [List.cons_append, List.append_assoc, List.nil_append] using hW) (by simpa only [List.cons_append, List.append_assoc, List.nil_append] using h9) hS rfl (by simp only [List.length_cons, List.length_append, List.length_nil, PrL_len, StL_len]) rfl cl7 rfl (by omega) (by omega) rfl rfl dX2_init_36 (fun H locs hW hS => ?_)
  have hW : WX D a (.inr (2, [.ref (a + 1), .int 0]) :: RA (cy 3) 6 (va_up (va_up (fun _ => none) 0 (some (a + 2))) 1 (some (a + 78))) :: (StL cy (a + 2) ++ (StL cy (a + 78)))) H := by simpa only [List.cons_append, List.append_assoc, List.nil_append] using hW
  refine lv_iinc (pc := 37) (lv' := [(1, .int 2), (0, .ref a)]) hx hb dX2_init_37 hl (k := 0) rfl (by decide) (by decide) rfl (fun ls hl => ?_)
  refine lv_goto (pc := 40) (tgt := 15) hx hb dX2_init_40 (by decide) ?_
  refine lv_iload_n (pc := 15) hx hb dX2_init_15 rfl (lv_at hl 0 rfl) ?_
  refine lv_aload_n (pc := 16) hx hb dX2_init_16 rfl (lv_at hl 1 rfl) ?_
  refine i_get (pc := 17) (ci := 2) (k := 0) (n := 0) (X := []) F hW rfl cl2 inRX2 (by decide) w188 rfl rfl dX2_init_17 ?_
  refine i_alen (pc := 20) (tk := 3) (n := 1) (X := [.inr (2, [.ref (a + 1), .int 0])]) F (by simpa only [List.cons_append, List.append_assoc, List.nil_append] using hW) rfl rfl (v := 6) rfl rfl dX2_init_20 ?_
  refine lv_icmp_ge (pc := 21) (tgt := 43) hx hb dX2_init_21 (by decide) (fun c1 => absurd c1 (by decide)) (fun c1 => ?_)
  refine lv_aload_n (pc := 24) hx hb dX2_init_24 rfl (lv_at hl 1 rfl) ?_
  refine i_get (pc := 25) (ci := 2) (k := 0) (n := 0) (X := []) F hW rfl cl2 inRX2 (by decide) w188 rfl rfl dX2_init_25 ?_
  refine lv_iload_n (pc := 28) hx hb dX2_init_28 rfl (lv_at hl 0 rfl) ?_
  refine i_new (pc := 29) (ci := 7) (n := 154) F hW hS (by simp only [List.length_cons, List.length_append, List.length_nil, PrL_len, StL_len]) cl7 tyX7_ok inRX7 w185 w25 w2 nfX7 (Nat.le_of_ble_eq_true rfl) (Nat.le_of_ble_eq_true rfl) dX2_init_29 (fun H hW hS => ?_)
  refine lv_dup (pc := 32) hx hb dX2_init_32 rfl ?_
  refine i_ctor (pc := 33) (es := .inr (2, [.ref (a + 1), .int 0]) :: RA (cy 3) 6 (va_up (va_up (fun _ => none) 0 (some (a + 2))) 1 (some (a + 78))) :: (StL cy (a + 2) ++ (StL cy (a + 78)))) (es0 := X7N) (n := 154) (na := 0) (rest := [.ref (a + 154), .int 2, .ref (a + 1)]) F hW hS (by simp only [List.length_cons, List.length_append, List.length_nil, PrL_len, StL_len]) (mcX7 hm) w28 w2 w187 w27 rfl (by decide) ⟨(Nat.le_of_ble_eq_true rfl), (Nat.le_of_ble_eq_true rfl)⟩ rfl hl.1 rfl (Nat.le_of_ble_eq_true rfl) (Nat.le_of_ble_eq_true rfl) (Nat.le_of_ble_eq_true rfl) dX2_init_33 (fun H locs hW hS => ?_)
  have hW : WX D a (.inr (2, [.ref (a + 1), .int 0]) :: RA (cy 3) 6 (va_up (va_up (fun _ => none) 0 (some (a + 2))) 1 (some (a + 78))) :: (StL cy (a + 2) ++ (StL cy (a + 78) ++ (StL cy (a + 154))))) H := by simpa only [List.cons_append, List.append_assoc, List.nil_append] using hW
  have h9 := hW
  rw [show StL cy (a + 154) = .inr (7, StF (a + 154)) :: StT cy (a + 154) from rfl] at h9
  refine i_aast (pc := 36) (n := 1) (n2 := 154) (N := 6) (ci := 7) (tk := 3) (k := 2) (X := [.inr (2, [.ref (a + 1), .int 0])]) (Y := StL cy (a + 2) ++ (StL cy (a + 78) ++ (StL cy (a + 154)))) (f := (va_up (va_up (fun _ => none) 0 (some (a + 2))) 1 (some (a + 78)))) (X2 := .inr (2, [.ref (a + 1), .int 0]) :: RA (cy 3) 6 (va_up (va_up (fun _ => none) 0 (some (a + 2))) 1 (some (a + 78))) :: (StL cy (a + 2) ++ (StL cy (a + 78)))) (Y2 := StT cy (a + 154)) (fs := StF (a + 154)) F (by simpa only [List.cons_append, List.append_assoc, List.nil_append] using hW) (by simpa only [List.cons_append, List.append_assoc, List.nil_append] using h9) hS rfl (by simp only [List.length_cons, List.length_append, List.length_nil, PrL_len, StL_len]) rfl cl7 rfl (by omega) (by omega) rfl rfl dX2_init_36 (fun H locs hW hS => ?_)
  have hW : WX D a (.inr (2, [.ref (a + 1), .int 0]) :: RA (cy 3) 6 (va_up (va_up (va_up (fun _ => none) 0 (some (a + 2))) 1 (some (a + 78))) 2 (some (a + 154))) :: (StL cy (a + 2) ++ (StL cy (a + 78) ++ (StL cy (a + 154))))) H := by simpa only [List.cons_append, List.append_assoc, List.nil_append] using hW
  refine lv_iinc (pc := 37) (lv' := [(1, .int 3), (0, .ref a)]) hx hb dX2_init_37 hl (k := 0) rfl (by decide) (by decide) rfl (fun ls hl => ?_)
  refine lv_goto (pc := 40) (tgt := 15) hx hb dX2_init_40 (by decide) ?_
  refine lv_iload_n (pc := 15) hx hb dX2_init_15 rfl (lv_at hl 0 rfl) ?_
  refine lv_aload_n (pc := 16) hx hb dX2_init_16 rfl (lv_at hl 1 rfl) ?_
  refine i_get (pc := 17) (ci := 2) (k := 0) (n := 0) (X := []) F hW rfl cl2 inRX2 (by decide) w188 rfl rfl dX2_init_17 ?_
  refine i_alen (pc := 20) (tk := 3) (n := 1) (X := [.inr (2, [.ref (a + 1), .int 0])]) F (by simpa only [List.cons_append, List.append_assoc, List.nil_append] using hW) rfl rfl (v := 6) rfl rfl dX2_init_20 ?_
  refine lv_icmp_ge (pc := 21) (tgt := 43) hx hb dX2_init_21 (by decide) (fun c1 => absurd c1 (by decide)) (fun c1 => ?_)
  refine lv_aload_n (pc := 24) hx hb dX2_init_24 rfl (lv_at hl 1 rfl) ?_
  refine i_get (pc := 25) (ci := 2) (k := 0) (n := 0) (X := []) F hW rfl cl2 inRX2 (by decide) w188 rfl rfl dX2_init_25 ?_
  refine lv_iload_n (pc := 28) hx hb dX2_init_28 rfl (lv_at hl 0 rfl) ?_
  refine i_new (pc := 29) (ci := 7) (n := 230) F hW hS (by simp only [List.length_cons, List.length_append, List.length_nil, PrL_len, StL_len]) cl7 tyX7_ok inRX7 w185 w25 w2 nfX7 (Nat.le_of_ble_eq_true rfl) (Nat.le_of_ble_eq_true rfl) dX2_init_29 (fun H hW hS => ?_)
  refine lv_dup (pc := 32) hx hb dX2_init_32 rfl ?_
  refine i_ctor (pc := 33) (es := .inr (2, [.ref (a + 1), .int 0]) :: RA (cy 3) 6 (va_up (va_up (va_up (fun _ => none) 0 (some (a + 2))) 1 (some (a + 78))) 2 (some (a + 154))) :: (StL cy (a + 2) ++ (StL cy (a + 78) ++ (StL cy (a + 154))))) (es0 := X7N) (n := 230) (na := 0) (rest := [.ref (a + 230), .int 3, .ref (a + 1)]) F hW hS (by simp only [List.length_cons, List.length_append, List.length_nil, PrL_len, StL_len]) (mcX7 hm) w28 w2 w187 w27 rfl (by decide) ⟨(Nat.le_of_ble_eq_true rfl), (Nat.le_of_ble_eq_true rfl)⟩ rfl hl.1 rfl (Nat.le_of_ble_eq_true rfl) (Nat.le_of_ble_eq_true rfl) (Nat.le_of_ble_eq_true rfl) dX2_init_33 (fun H locs hW hS => ?_)
  have hW : WX D a (.inr (2, [.ref (a + 1), .int 0]) :: RA (cy 3) 6 (va_up (va_up (va_up (fun _ => none) 0 (some (a + 2))) 1 (some (a + 78))) 2 (some (a + 154))) :: (StL cy (a + 2) ++ (StL cy (a + 78) ++ (StL cy (a + 154) ++ (StL cy (a + 230)))))) H := by simpa only [List.cons_append, List.append_assoc, List.nil_append] using hW
  have h9 := hW
  rw [show StL cy (a + 230) = .inr (7, StF (a + 230)) :: StT cy (a + 230) from rfl] at h9
  refine i_aast (pc := 36) (n := 1) (n2 := 230) (N := 6) (ci := 7) (tk := 3) (k := 3) (X := [.inr (2, [.ref (a + 1), .int 0])]) (Y := StL cy (a + 2) ++ (StL cy (a + 78) ++ (StL cy (a + 154) ++ (StL cy (a + 230))))) (f := (va_up (va_up (va_up (fun _ => none) 0 (some (a + 2))) 1 (some (a + 78))) 2 (some (a + 154)))) (X2 := .inr (2, [.ref (a + 1), .int 0]) :: RA (cy 3) 6 (va_up (va_up (va_up (fun _ => none) 0 (some (a + 2))) 1 (some (a + 78))) 2 (some (a + 154))) :: (StL cy (a + 2) ++ (StL cy (a + 78) ++ (StL cy (a + 154))))) (Y2 := StT cy (a + 230)) (fs := StF (a + 230)) F (by simpa only [List.cons_append, List.append_assoc, List.nil_append] using hW) (by simpa only [List.cons_append, List.append_assoc, List.nil_append] using h9) hS rfl (by simp only [List.length_cons, List.length_append, List.length_nil, PrL_len, StL_len]) rfl cl7 rfl (by omega) (by omega) rfl rfl dX2_init_36 (fun H locs hW hS => ?_)
  have hW : WX D a (.inr (2, [.ref (a + 1), .int 0]) :: RA (cy 3) 6 (va_up (va_up (va_up (va_up (fun _ => none) 0 (some (a + 2))) 1 (some (a + 78))) 2 (some (a + 154))) 3 (some (a + 230))) :: (StL cy (a + 2) ++ (StL cy (a + 78) ++ (StL cy (a + 154) ++ (StL cy (a + 230)))))) H := by simpa only [List.cons_append, List.append_assoc, List.nil_append] using hW
  refine lv_iinc (pc := 37) (lv' := [(1, .int 4), (0, .ref a)]) hx hb dX2_init_37 hl (k := 0) rfl (by decide) (by decide) rfl (fun ls hl => ?_)
  refine lv_goto (pc := 40) (tgt := 15) hx hb dX2_init_40 (by decide) ?_
  refine lv_iload_n (pc := 15) hx hb dX2_init_15 rfl (lv_at hl 0 rfl) ?_
  refine lv_aload_n (pc := 16) hx hb dX2_init_16 rfl (lv_at hl 1 rfl) ?_
  refine i_get (pc := 17) (ci := 2) (k := 0) (n := 0) (X := []) F hW rfl cl2 inRX2 (by decide) w188 rfl rfl dX2_init_17 ?_
  refine i_alen (pc := 20) (tk := 3) (n := 1) (X := [.inr (2, [.ref (a + 1), .int 0])]) F (by simpa only [List.cons_append, List.append_assoc, List.nil_append] using hW) rfl rfl (v := 6) rfl rfl dX2_init_20 ?_
  refine lv_icmp_ge (pc := 21) (tgt := 43) hx hb dX2_init_21 (by decide) (fun c1 => absurd c1 (by decide)) (fun c1 => ?_)
  refine lv_aload_n (pc := 24) hx hb dX2_init_24 rfl (lv_at hl 1 rfl) ?_
  refine i_get (pc := 25) (ci := 2) (k := 0) (n := 0) (X := []) F hW rfl cl2 inRX2 (by decide) w188 rfl rfl dX2_init_25 ?_
  refine lv_iload_n (pc := 28) hx hb dX2_init_28 rfl (lv_at hl 0 rfl) ?_
  refine i_new (pc := 29) (ci := 7) (n := 306) F hW hS (by simp only [List.length_cons, List.length_append, List.length_nil, PrL_len, StL_len]) cl7 tyX7_ok inRX7 w185 w25 w2 nfX7 (Nat.le_of_ble_eq_true rfl) (Nat.le_of_ble_eq_true rfl) dX2_init_29 (fun H hW hS => ?_)
  refine lv_dup (pc := 32) hx hb dX2_init_32 rfl ?_
  refine i_ctor (pc := 33) (es := .inr (2, [.ref (a + 1), .int 0]) :: RA (cy 3) 6 (va_up (va_up (va_up (va_up (fun _ => none) 0 (some (a + 2))) 1 (some (a + 78))) 2 (some (a + 154))) 3 (some (a + 230))) :: (StL cy (a + 2) ++ (StL cy (a + 78) ++ (StL cy (a + 154) ++ (StL cy (a + 230)))))) (es0 := X7N) (n := 306) (na := 0) (rest := [.ref (a + 306), .int 4, .ref (a + 1)]) F hW hS (by simp only [List.length_cons, List.length_append, List.length_nil, PrL_len, StL_len]) (mcX7 hm) w28 w2 w187 w27 rfl (by decide) ⟨(Nat.le_of_ble_eq_true rfl), (Nat.le_of_ble_eq_true rfl)⟩ rfl hl.1 rfl (Nat.le_of_ble_eq_true rfl) (Nat.le_of_ble_eq_true rfl) (Nat.le_of_ble_eq_true rfl) dX2_init_33 (fun H locs hW hS => ?_)
  have hW : WX D a (.inr (2, [.ref (a + 1), .int 0]) :: RA (cy 3) 6 (va_up (va_up (va_up (va_up (fun _ => none) 0 (some (a + 2))) 1 (some (a + 78))) 2 (some (a + 154))) 3 (some (a + 230))) :: (StL cy (a + 2) ++ (StL cy (a + 78) ++ (StL cy (a + 154) ++ (StL cy (a + 230) ++ (StL cy (a + 306))))))) H := by simpa only [List.cons_append, List.append_assoc, List.nil_append] using hW
  have h9 := hW
  rw [show StL cy (a + 306) = .inr (7, StF (a + 306)) :: StT cy (a + 306) from rfl] at h9
  refine i_aast (pc := 36) (n := 1) (n2 := 306) (N := 6) (ci := 7) (tk := 3) (k := 4) (X := [.inr (2, [.ref (a + 1), .int 0])]) (Y := StL cy (a + 2) ++ (StL cy (a + 78) ++ (StL cy (a + 154) ++ (StL cy (a + 230) ++ (StL cy (a + 306)))))) (f := (va_up (va_up (va_up (va_up (fun _ => none) 0 (some (a + 2))) 1 (some (a + 78))) 2 (some (a + 154))) 3 (some (a + 230)))) (X2 := .inr (2, [.ref (a + 1), .int 0]) :: RA (cy 3) 6 (va_up (va_up (va_up (va_up (fun _ => none) 0 (some (a + 2))) 1 (some (a + 78))) 2 (some (a + 154))) 3 (some (a + 230))) :: (StL cy (a + 2) ++ (StL cy (a + 78) ++ (StL cy (a + 154) ++ (StL cy (a + 230)))))) (Y2 := StT cy (a + 306)) (fs := StF (a + 306)) F (by simpa only [List.cons_append, List.append_assoc, List.nil_append] using hW) (by simpa only [List.cons_append, List.append_assoc, List.nil_append] using h9) hS rfl (by simp only [List.length_cons, List.length_append, List.length_nil, PrL_len, StL_len]) rfl cl7 rfl (by omega) (by omega) rfl rfl dX2_init_36 (fun H locs hW hS => ?_)
  have hW : WX D a (.inr (2, [.ref (a + 1), .int 0]) :: RA (cy 3) 6 (va_up (va_up (va_up (va_up (va_up (fun _ => none) 0 (some (a + 2))) 1 (some (a + 78))) 2 (some (a + 154))) 3 (some (a + 230))) 4 (some (a + 306))) :: (StL cy (a + 2) ++ (StL cy (a + 78) ++ (StL cy (a + 154) ++ (StL cy (a + 230) ++ (StL cy (a + 306))))))) H := by simpa only [List.cons_append, List.append_assoc, List.nil_append] using hW
  refine lv_iinc (pc := 37) (lv' := [(1, .int 5), (0, .ref a)]) hx hb dX2_init_37 hl (k := 0) rfl (by decide) (by decide) rfl (fun ls hl => ?_)
  refine lv_goto (pc := 40) (tgt := 15) hx hb dX2_init_40 (by decide) ?_
  refine lv_iload_n (pc := 15) hx hb dX2_init_15 rfl (lv_at hl 0 rfl) ?_
  refine lv_aload_n (pc := 16) hx hb dX2_init_16 rfl (lv_at hl 1 rfl) ?_
  refine i_get (pc := 17) (ci := 2) (k := 0) (n := 0) (X := []) F hW rfl cl2 inRX2 (by decide) w188 rfl rfl dX2_init_17 ?_
  refine i_alen (pc := 20) (tk := 3) (n := 1) (X := [.inr (2, [.ref (a + 1), .int 0])]) F (by simpa only [List.cons_append, List.append_assoc, List.nil_append] using hW) rfl rfl (v := 6) rfl rfl dX2_init_20 ?_
  refine lv_icmp_ge (pc := 21) (tgt := 43) hx hb dX2_init_21 (by decide) (fun c1 => absurd c1 (by decide)) (fun c1 => ?_)
  refine lv_aload_n (pc := 24) hx hb dX2_init_24 rfl (lv_at hl 1 rfl) ?_
  refine i_get (pc := 25) (ci := 2) (k := 0) (n := 0) (X := []) F hW rfl cl2 inRX2 (by decide) w188 rfl rfl dX2_init_25 ?_
  refine lv_iload_n (pc := 28) hx hb dX2_init_28 rfl (lv_at hl 0 rfl) ?_
  refine i_new (pc := 29) (ci := 7) (n := 382) F hW hS (by simp only [List.length_cons, List.length_append, List.length_nil, PrL_len, StL_len]) cl7 tyX7_ok inRX7 w185 w25 w2 nfX7 (Nat.le_of_ble_eq_true rfl) (Nat.le_of_ble_eq_true rfl) dX2_init_29 (fun H hW hS => ?_)
  refine lv_dup (pc := 32) hx hb dX2_init_32 rfl ?_
  refine i_ctor (pc := 33) (es := .inr (2, [.ref (a + 1), .int 0]) :: RA (cy 3) 6 (va_up (va_up (va_up (va_up (va_up (fun _ => none) 0 (some (a + 2))) 1 (some (a + 78))) 2 (some (a + 154))) 3 (some (a + 230))) 4 (some (a + 306))) :: (StL cy (a + 2) ++ (StL cy (a + 78) ++ (StL cy (a + 154) ++ (StL cy (a + 230) ++ (StL cy (a + 306))))))) (es0 := X7N) (n := 382) (na := 0) (rest := [.ref (a + 382), .int 5, .ref (a + 1)]) F hW hS (by simp only [List.length_cons, List.length_append, List.length_nil, PrL_len, StL_len]) (mcX7 hm) w28 w2 w187 w27 rfl (by decide) ⟨(Nat.le_of_ble_eq_true rfl), (Nat.le_of_ble_eq_true rfl)⟩ rfl hl.1 rfl (Nat.le_of_ble_eq_true rfl) (Nat.le_of_ble_eq_true rfl) (Nat.le_of_ble_eq_true rfl) dX2_init_33 (fun H locs hW hS => ?_)
  have hW : WX D a (.inr (2, [.ref (a + 1), .int 0]) :: RA (cy 3) 6 (va_up (va_up (va_up (va_up (va_up (fun _ => none) 0 (some (a + 2))) 1 (some (a + 78))) 2 (some (a + 154))) 3 (some (a + 230))) 4 (some (a + 306))) :: (StL cy (a + 2) ++ (StL cy (a + 78) ++ (StL cy (a + 154) ++ (StL cy (a + 230) ++ (StL cy (a + 306) ++ (StL cy (a + 382)))))))) H := by simpa only [List.cons_append, List.append_assoc, List.nil_append] using hW
  have h9 := hW
  rw [show StL cy (a + 382) = .inr (7, StF (a + 382)) :: StT cy (a + 382) from rfl] at h9
  refine i_aast (pc := 36) (n := 1) (n2 := 382) (N := 6) (ci := 7) (tk := 3) (k := 5) (X := [.inr (2, [.ref (a + 1), .int 0])]) (Y := StL cy (a + 2) ++ (StL cy (a + 78) ++ (StL cy (a + 154) ++ (StL cy (a + 230) ++ (StL cy (a + 306) ++ (StL cy (a + 382))))))) (f := (va_up (va_up (va_up (va_up (va_up (fun _ => none) 0 (some (a + 2))) 1 (some (a + 78))) 2 (some (a + 154))) 3 (some (a + 230))) 4 (some (a + 306)))) (X2 := .inr (2, [.ref (a + 1), .int 0]) :: RA (cy 3) 6 (va_up (va_up (va_up (va_up (va_up (fun _ => none) 0 (some (a + 2))) 1 (some (a + 78))) 2 (some (a + 154))) 3 (some (a + 230))) 4 (some (a + 306))) :: (StL cy (a + 2) ++ (StL cy (a + 78) ++ (StL cy (a + 154) ++ (StL cy (a + 230) ++ (StL cy (a + 306))))))) (Y2 := StT cy (a + 382)) (fs := StF (a + 382)) F (by simpa only [List.cons_append, List.append_assoc, List.nil_append] using hW) (by simpa only [List.cons_append, List.append_assoc, List.nil_append] using h9) hS rfl (by simp only [List.length_cons, List.length_append, List.length_nil, PrL_len, StL_len]) rfl cl7 rfl (by omega) (by omega) rfl rfl dX2_init_36 (fun H locs hW hS => ?_)
  have hW : WX D a (.inr (2, [.ref (a + 1), .int 0]) :: RA (cy 3) 6 (va_up (va_up (va_up (va_up (va_up (va_up (fun _ => none) 0 (some (a + 2))) 1 (some (a + 78))) 2 (some (a + 154))) 3 (some (a + 230))) 4 (some (a + 306))) 5 (some (a + 382))) :: (StL cy (a + 2) ++ (StL cy (a + 78) ++ (StL cy (a + 154) ++ (StL cy (a + 230) ++ (StL cy (a + 306) ++ (StL cy (a + 382)))))))) H := by simpa only [List.cons_append, List.append_assoc, List.nil_append] using hW
  refine lv_iinc (pc := 37) (lv' := [(1, .int 6), (0, .ref a)]) hx hb dX2_init_37 hl (k := 0) rfl (by decide) (by decide) rfl (fun ls hl => ?_)
  refine lv_goto (pc := 40) (tgt := 15) hx hb dX2_init_40 (by decide) ?_
  refine lv_iload_n (pc := 15) hx hb dX2_init_15 rfl (lv_at hl 0 rfl) ?_
  refine lv_aload_n (pc := 16) hx hb dX2_init_16 rfl (lv_at hl 1 rfl) ?_
  refine i_get (pc := 17) (ci := 2) (k := 0) (n := 0) (X := []) F hW rfl cl2 inRX2 (by decide) w188 rfl rfl dX2_init_17 ?_
  refine i_alen (pc := 20) (tk := 3) (n := 1) (X := [.inr (2, [.ref (a + 1), .int 0])]) F (by simpa only [List.cons_append, List.append_assoc, List.nil_append] using hW) rfl rfl (v := 6) rfl rfl dX2_init_20 ?_
  refine lv_icmp_ge (pc := 21) (tgt := 43) hx hb dX2_init_21 (by decide) (fun c1 => ?_) (fun c1 => absurd (by decide) c1)
  exact i_vret (pc := 43) F hr hlo hW hS (Nat.le_of_ble_eq_true rfl) (Nat.le_of_ble_eq_true rfl) dX2_init_43
