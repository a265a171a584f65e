/-! the constructors, walked by program -/
abbrev nwX0 : List Value := [.null, .int 0]
theorem nfX0 : ∀ j, j < 2 → defaultValue (tyX0 j) = vp_V nwX0 j := by
  intro j hj
  rcases (show j = 0 ∨ j = 1 by omega) with rfl | rfl <;> rfl
abbrev nwX1 : List Value := [.int 0, .int 0, .null, .null]
theorem nfX1 : ∀ j, j < 4 → defaultValue (tyX1 j) = vp_V nwX1 j := by
  intro j hj
  rcases (show j = 0 ∨ j = 1 ∨ j = 2 ∨ j = 3 by omega) with rfl | rfl | rfl | rfl <;> rfl
def X1N : Nat → List va_E := fun _ => [.inr (1, nwX1)]
abbrev nwX2 : List Value := [.null, .int 0]
theorem nfX2 : ∀ j, j < 2 → defaultValue (tyX2 j) = vp_V nwX2 j := by
  intro j hj
  rcases (show j = 0 ∨ j = 1 by omega) with rfl | rfl <;> rfl
def X2N : Nat → List va_E := fun _ => [.inr (2, nwX2)]
abbrev nwX3 : List Value := [.null, .null]
theorem nfX3 : ∀ j, j < 2 → defaultValue (tyX3 j) = vp_V nwX3 j := by
  intro j hj
  rcases (show j = 0 ∨ j = 1 by omega) with rfl | rfl <;> rfl
def X3N : Nat → List va_E := fun _ => [.inr (3, nwX3)]
abbrev nwX4 : List Value := [.null, .int 0, .int 0, .int 0, .null, .null, .null, .null, .int 0, .null, .null]
theorem nfX4 : ∀ j, j < 11 → defaultValue (tyX4 j) = vp_V nwX4 j := by
  intro j hj
  rcases (show j = 0 ∨ j = 1 ∨ j = 2 ∨ j = 3 ∨ j = 4 ∨ j = 5 ∨ j = 6 ∨ j = 7 ∨ j = 8 ∨ j = 9 ∨ j = 10 by omega) with rfl | rfl | rfl | rfl | rfl | rfl | rfl | rfl | rfl | rfl | rfl <;> rfl
def X4N : Nat → List va_E := fun _ => [.inr (4, nwX4)]
abbrev nwX5 : List Value := [.null, .int 0]
theorem nfX5 : ∀ j, j < 2 → defaultValue (tyX5 j) = vp_V nwX5 j := by
  intro j hj
  rcases (show j = 0 ∨ j = 1 by omega) with rfl | rfl <;> rfl
def X5N : Nat → List va_E := fun _ => [.inr (5, nwX5)]
abbrev nwX6 : List Value := [.int 0, .int 0, .int 0, .null, .null, .null, .null, .null, .null, .null, .null, .null, .null]
theorem nfX6 : ∀ j, j < 13 → defaultValue (tyX6 j) = vp_V nwX6 j := by
  intro j hj
  rcases (show j = 0 ∨ j = 1 ∨ j = 2 ∨ j = 3 ∨ j = 4 ∨ j = 5 ∨ j = 6 ∨ j = 7 ∨ j = 8 ∨ j = 9 ∨ j = 10 ∨ j = 11 ∨ j = 12 by omega) with rfl | rfl | rfl | rfl | rfl | rfl | rfl | rfl | rfl | rfl | rfl | rfl | rfl <;> rfl
def X6N : Nat → List va_E := fun _ => [.inr (6, nwX6)]
abbrev nwX7 : List Value := [.null, .null, .null]
theorem nfX7 : ∀ j, j < 3 → defaultValue (tyX7 j) = vp_V nwX7 j := by
  intro j hj
  rcases (show j = 0 ∨ j = 1 ∨ j = 2 by omega) with rfl | rfl | rfl <;> rfl
def X7N : Nat → List va_E := fun _ => [.inr (7, nwX7)]
abbrev nwX8 : List Value := [.null, .int 0, .int 0, .int 0, .int 0]
theorem nfX8 : ∀ j, j < 5 → defaultValue (tyX8 j) = vp_V nwX8 j := by
  intro j hj
  rcases (show j = 0 ∨ j = 1 ∨ j = 2 ∨ j = 3 ∨ j = 4 by omega) with rfl | rfl | rfl | rfl | rfl <;> rfl
def X8N : Nat → List va_E := fun _ => [.inr (8, nwX8)]
abbrev nwX9 : List Value := [.int 0, .null, .null, .null]
theorem nfX9 : ∀ j, j < 4 → defaultValue (tyX9 j) = vp_V nwX9 j := by
  intro j hj
  rcases (show j = 0 ∨ j = 1 ∨ j = 2 ∨ j = 3 by omega) with rfl | rfl | rfl | rfl <;> rfl
def X9N : Nat → List va_E := fun _ => [.inr (9, nwX9)]
abbrev nwX10 : List Value := [.null, .null]
theorem nfX10 : ∀ j, j < 2 → defaultValue (tyX10 j) = vp_V nwX10 j := by
  intro j hj
  rcases (show j = 0 ∨ j = 1 by omega) with rfl | rfl <;> rfl
def X10N : Nat → List va_E := fun _ => [.inr (10, nwX10)]
abbrev nwX11 : List Value := [.null, .null, .null, .int 0, .null, .null, .null, .null, .null]
theorem nfX11 : ∀ j, j < 9 → defaultValue (tyX11 j) = vp_V nwX11 j := by
  intro j hj
  rcases (show j = 0 ∨ j = 1 ∨ j = 2 ∨ j = 3 ∨ j = 4 ∨ j = 5 ∨ j = 6 ∨ j = 7 ∨ j = 8 by omega) with rfl | rfl | rfl | rfl | rfl | rfl | rfl | rfl | rfl <;> rfl
def X11N : Nat → List va_E := fun _ => [.inr (11, nwX11)]
abbrev nwX12 : List Value := [.null, .null, .null, .int 0, .null, .null, .null, .int 0, .null, .null, .int 0, .int 0, .null, .int 0, .int 0, .int 0, .int 0, .int 0, .int 0, .int 0, .int 0]
theorem nfX12 : ∀ j, j < 21 → defaultValue (tyX12 j) = vp_V nwX12 j := by
  intro j hj
  rcases (show j = 0 ∨ j = 1 ∨ j = 2 ∨ j = 3 ∨ j = 4 ∨ j = 5 ∨ j = 6 ∨ j = 7 ∨ j = 8 ∨ j = 9 ∨ j = 10 ∨ j = 11 ∨ j = 12 ∨ j = 13 ∨ j = 14 ∨ j = 15 ∨ j = 16 ∨ j = 17 ∨ j = 18 ∨ j = 19 ∨ j = 20 by omega) with rfl | rfl | rfl | rfl | rfl | rfl | rfl | rfl | rfl | rfl | rfl | rfl | rfl | rfl | rfl | rfl | rfl | rfl | rfl | rfl | rfl <;> rfl
def X12N : Nat → List va_E := fun _ => [.inr (12, nwX12)]
def BrN (cy : Nat → ClassId) (N : Nat) : Nat → List va_E := fun _ => [.inr (0, nwX0), AI cy N]
def BrL (cy : Nat → ClassId) (N : Nat) (h : Nat) : List va_E := [.inr (0, [.ref (h + 1), .int 0]), AI cy N]
set_option maxHeartbeats 4000000 in
theorem mcX0 {l : Launch} {D : va_G} {cy : Nat → ClassId} {t : Nat} {N : Nat} : MC l yX0_init cX0_init 2 1 40 0 0 D cy t (fun h => [.ref (h + 1)]) (BrN cy N) (BrL cy N) := by
  refine MC_of (own := RX0) (by decide) rfl rfl (fun a => Nat.le_of_ble_eq_true rfl) ?_
  intro a p e s m args below meth c F hr hlo hmi hW hS ls hl
  have hx := F.1
  have hb := F.2.1
  have hl : lv_has ls 2 [(0, .ref a), (1, .ref (a + 1))] := hl
  refine lv_aload_n (pc := 0) hx hb dX0_init_0 rfl (lv_at hl 0 rfl) ?_
  refine i_obj (pc := 1) F w94 hl.1 (Nat.le_of_ble_eq_true rfl) (Nat.le_of_ble_eq_true rfl) dX0_init_1 ?_
  refine lv_aload_n (pc := 4) hx hb dX0_init_4 rfl (lv_at hl 0 rfl) ?_
  refine lv_aload_n (pc := 5) hx hb dX0_init_5 rfl (lv_at hl 1 rfl) ?_
  refine i_put (pc := 6) (ci := 0) (k := 0) (ty := tyX0 0) F hmi hW hS cl0 tyX0_ok nmX0 inRX0 (by decide) w95 rfl rfl (tyX0_ok 0 (by decide)) rfl rfl (Nat.le_of_ble_eq_true rfl) dX0_init_6 (fun H locs hW hS => ?_)
  have hW : WX D a ([.inr (0, [.ref (a + 1), .int 0]), AI cy N]) H := hW
  exact i_vret (pc := 9) F hr hlo hW hS (Nat.le_of_ble_eq_true rfl) (Nat.le_of_ble_eq_true rfl) dX0_init_9
def FaL (cy : Nat → ClassId) (h : Nat) : List va_E := [.inr (1, [.int 0, .int 0, .ref (h + 1), .ref (h + 2)]), AI cy 12, AI cy 12]
set_option maxHeartbeats 4000000 in
theorem mcX1 {l : Launch} {D : va_G} {cy : Nat → ClassId} {t : Nat} : MC l yX1_init cX1_init 1 1 40 2 24 D cy t (fun h => []) X1N (FaL cy) := by
  refine MC_of (own := RX1) (by decide) rfl rfl (fun a => Nat.le_of_ble_eq_true rfl) ?_
  intro a p e s m args below meth c F hr hlo hmi hW hS ls hl
  have hx := F.1
  have hb := F.2.1
  have hl : lv_has ls 1 [(0, .ref a)] := hl
  refine lv_aload_n (pc := 0) hx hb dX1_init_0 rfl (lv_at hl 0 rfl) ?_
  refine i_obj (pc := 1) F w75 hl.1 (Nat.le_of_ble_eq_true rfl) (Nat.le_of_ble_eq_true rfl) dX1_init_1 ?_
  refine lv_aload_n (pc := 4) hx hb dX1_init_4 rfl (lv_at hl 0 rfl) ?_
  refine lv_bipush (pc := 5) (v := 12) hx hb dX1_init_5 (by decide) ?_
  refine i_newI (pc := 7) (n := 1) (N := 12) F hW hS rfl rfl (by omega) (Nat.le_of_ble_eq_true rfl) (Nat.le_of_ble_eq_true rfl) dX1_init_7 (fun H hW hS => ?_)
  have hW : WX D a [.inr (1, [.int 0, .int 0, .null, .null]), AI cy 12] H := hW
  refine i_put (pc := 9) (ci := 1) (k := 2) (ty := tyX1 2) F hmi hW hS cl1 tyX1_ok nmX1 inRX1 (by decide) w78 rfl rfl (tyX1_ok 2 (by decide)) rfl rfl (Nat.le_of_ble_eq_true rfl) dX1_init_9 (fun H locs hW hS => ?_)
  have hW : WX D a ([.inr (1, [.int 0, .int 0, .ref (a + 1), .null]), AI cy 12]) H := hW
  refine lv_aload_n (pc := 12) hx hb dX1_init_12 rfl (lv_at hl 0 rfl) ?_
  refine lv_bipush (pc := 13) (v := 12) hx hb dX1_init_13 (by decide) ?_
  refine i_newI (pc := 15) (n := 2) (N := 12) F hW hS rfl rfl (by omega) (Nat.le_of_ble_eq_true rfl) (Nat.le_of_ble_eq_true rfl) dX1_init_15 (fun H hW hS => ?_)
  have hW : WX D a [.inr (1, [.int 0, .int 0, .ref (a + 1), .null]), AI cy 12, AI cy 12] H := hW
  refine i_put (pc := 17) (ci := 1) (k := 3) (ty := tyX1 3) F hmi hW hS cl1 tyX1_ok nmX1 inRX1 (by decide) w79 rfl rfl (tyX1_ok 3 (by decide)) rfl rfl (Nat.le_of_ble_eq_true rfl) dX1_init_17 (fun H locs hW hS => ?_)
  have hW : WX D a ([.inr (1, [.int 0, .int 0, .ref (a + 1), .ref (a + 2)]), AI cy 12, AI cy 12]) H := hW
  exact i_vret (pc := 20) F hr hlo hW hS (Nat.le_of_ble_eq_true rfl) (Nat.le_of_ble_eq_true rfl) dX1_init_20
def TyL (cy : Nat → ClassId) (h : Nat) : List va_E := [.inr (9, [.int 0, .ref (h + 1), .ref (h + 2), .ref (h + 3)]), AI cy 6, AI cy 6, AI cy 6]
set_option maxHeartbeats 4000000 in
theorem mcX9 {l : Launch} {D : va_G} {cy : Nat → ClassId} {t : Nat} : MC l yX9_init cX9_init 1 1 40 3 18 D cy t (fun h => []) X9N (TyL cy) := by
  refine MC_of (own := RX9) (by decide) rfl rfl (fun a => Nat.le_of_ble_eq_true rfl) ?_
  intro a p e s m args below meth c F hr hlo hmi hW hS ls hl
  have hx := F.1
  have hb := F.2.1
  have hl : lv_has ls 1 [(0, .ref a)] := hl
  refine lv_aload_n (pc := 0) hx hb dX9_init_0 rfl (lv_at hl 0 rfl) ?_
  refine i_obj (pc := 1) F w44 hl.1 (Nat.le_of_ble_eq_true rfl) (Nat.le_of_ble_eq_true rfl) dX9_init_1 ?_
  refine lv_aload_n (pc := 4) hx hb dX9_init_4 rfl (lv_at hl 0 rfl) ?_
  refine lv_bipush (pc := 5) (v := 6) hx hb dX9_init_5 (by decide) ?_
  refine i_newI (pc := 7) (n := 1) (N := 6) F hW hS rfl rfl (by omega) (Nat.le_of_ble_eq_true rfl) (Nat.le_of_ble_eq_true rfl) dX9_init_7 (fun H hW hS => ?_)
  have hW : WX D a [.inr (9, [.int 0, .null, .null, .null]), AI cy 6] H := hW
  refine i_put (pc := 9) (ci := 9) (k := 1) (ty := tyX9 1) F hmi hW hS cl9 tyX9_ok nmX9 inRX9 (by decide) w48 rfl rfl (tyX9_ok 1 (by decide)) rfl rfl (Nat.le_of_ble_eq_true rfl) dX9_init_9 (fun H locs hW hS => ?_)
  have hW : WX D a ([.inr (9, [.int 0, .ref (a + 1), .null, .null]), AI cy 6]) H := hW
  refine lv_aload_n (pc := 12) hx hb dX9_init_12 rfl (lv_at hl 0 rfl) ?_
  refine lv_bipush (pc := 13) (v := 6) hx hb dX9_init_13 (by decide) ?_
  refine i_newI (pc := 15) (n := 2) (N := 6) F hW hS rfl rfl (by omega) (Nat.le_of_ble_eq_true rfl) (Nat.le_of_ble_eq_true rfl) dX9_init_15 (fun H hW hS => ?_)
  have hW : WX D a [.inr (9, [.int 0, .ref (a + 1), .null, .null]), AI cy 6, AI cy 6] H := hW
  refine i_put (pc := 17) (ci := 9) (k := 2) (ty := tyX9 2) F hmi hW hS cl9 tyX9_ok nmX9 inRX9 (by decide) w49 rfl rfl (tyX9_ok 2 (by decide)) rfl rfl (Nat.le_of_ble_eq_true rfl) dX9_init_17 (fun H locs hW hS => ?_)
  have hW : WX D a ([.inr (9, [.int 0, .ref (a + 1), .ref (a + 2), .null]), AI cy 6, AI cy 6]) H := hW
  refine lv_aload_n (pc := 20) hx hb dX9_init_20 rfl (lv_at hl 0 rfl) ?_
  refine lv_bipush (pc := 21) (v := 6) hx hb dX9_init_21 (by decide) ?_
  refine i_newI (pc := 23) (n := 3) (N := 6) F hW hS rfl rfl (by omega) (Nat.le_of_ble_eq_true rfl) (Nat.le_of_ble_eq_true rfl) dX9_init_23 (fun H hW hS => ?_)
  have hW : WX D a [.inr (9, [.int 0, .ref (a + 1), .ref (a + 2), .null]), AI cy 6, AI cy 6, AI cy 6] H := hW
  refine i_put (pc := 25) (ci := 9) (k := 3) (ty := tyX9 3) F hmi hW hS cl9 tyX9_ok nmX9 inRX9 (by decide) w50 rfl rfl (tyX9_ok 3 (by decide)) rfl rfl (Nat.le_of_ble_eq_true rfl) dX9_init_25 (fun H locs hW hS => ?_)
  have hW : WX D a ([.inr (9, [.int 0, .ref (a + 1), .ref (a + 2), .ref (a + 3)]), AI cy 6, AI cy 6, AI cy 6]) H := hW
  exact i_vret (pc := 28) F hr hlo hW hS (Nat.le_of_ble_eq_true rfl) (Nat.le_of_ble_eq_true rfl) dX9_init_28
def LoL (cy : Nat → ClassId) (h : Nat) : List va_E := [.inr (3, [.ref (h + 1), .ref (h + 2)]), AI cy 12, AI cy 3]
set_option maxHeartbeats 4000000 in
theorem mcX3 {l : Launch} {D : va_G} {cy : Nat → ClassId} {t : Nat} : MC l yX3_init cX3_init 1 1 40 2 15 D cy t (fun h => []) X3N (LoL cy) := by
  refine MC_of (own := RX3) (by decide) rfl rfl (fun a => Nat.le_of_ble_eq_true rfl) ?_
  intro a p e s m args below meth c F hr hlo hmi hW hS ls hl
  have hx := F.1
  have hb := F.2.1
  have hl : lv_has ls 1 [(0, .ref a)] := hl
  refine lv_aload_n (pc := 0) hx hb dX3_init_0 rfl (lv_at hl 0 rfl) ?_
  refine i_obj (pc := 1) F w259 hl.1 (Nat.le_of_ble_eq_true rfl) (Nat.le_of_ble_eq_true rfl) dX3_init_1 ?_
  refine lv_aload_n (pc := 4) hx hb dX3_init_4 rfl (lv_at hl 0 rfl) ?_
  refine lv_bipush (pc := 5) (v := 12) hx hb dX3_init_5 (by decide) ?_
  refine i_newI (pc := 7) (n := 1) (N := 12) F hW hS rfl rfl (by omega) (Nat.le_of_ble_eq_true rfl) (Nat.le_of_ble_eq_true rfl) dX3_init_7 (fun H hW hS => ?_)
  have hW : WX D a [.inr (3, [.null, .null]), AI cy 12] H := hW
  refine i_put (pc := 9) (ci := 3) (k := 0) (ty := tyX3 0) F hmi hW hS cl3 tyX3_ok nmX3 inRX3 (by decide) w260 rfl rfl (tyX3_ok 0 (by decide)) rfl rfl (Nat.le_of_ble_eq_true rfl) dX3_init_9 (fun H locs hW hS => ?_)
  have hW : WX D a ([.inr (3, [.ref (a + 1), .null]), AI cy 12]) H := hW
  refine lv_aload_n (pc := 12) hx hb dX3_init_12 rfl (lv_at hl 0 rfl) ?_
  refine lv_iconst (pc := 13) (v := 3) hx hb dX3_init_13 (by decide) ?_
  refine i_newI (pc := 14) (n := 2) (N := 3) F hW hS rfl rfl (by omega) (Nat.le_of_ble_eq_true rfl) (Nat.le_of_ble_eq_true rfl) dX3_init_14 (fun H hW hS => ?_)
  have hW : WX D a [.inr (3, [.ref (a + 1), .null]), AI cy 12, AI cy 3] H := hW
  refine i_put (pc := 16) (ci := 3) (k := 1) (ty := tyX3 1) F hmi hW hS cl3 tyX3_ok nmX3 inRX3 (by decide) w265 rfl rfl (tyX3_ok 1 (by decide)) rfl rfl (Nat.le_of_ble_eq_true rfl) dX3_init_16 (fun H locs hW hS => ?_)
  have hW : WX D a ([.inr (3, [.ref (a + 1), .ref (a + 2)]), AI cy 12, AI cy 3]) H := hW
  exact i_vret (pc := 19) F hr hlo hW hS (Nat.le_of_ble_eq_true rfl) (Nat.le_of_ble_eq_true rfl) dX3_init_19
def PaL (cy : Nat → ClassId) (h : Nat) : List va_E := [.inr (5, [.ref (h + 1), .int 0]), AI cy 60]
set_option maxHeartbeats 4000000 in
theorem mcX5 {l : Launch} {D : va_G} {cy : Nat → ClassId} {t : Nat} : MC l yX5_init cX5_init 1 1 40 1 60 D cy t (fun h => []) X5N (PaL cy) := by
  refine MC_of (own := RX5) (by decide) rfl rfl (fun a => Nat.le_of_ble_eq_true rfl) ?_
  intro a p e s m args below meth c F hr hlo hmi hW hS ls hl
  have hx := F.1
  have hb := F.2.1
  have hl : lv_has ls 1 [(0, .ref a)] := hl
  refine lv_aload_n (pc := 0) hx hb dX5_init_0 rfl (lv_at hl 0 rfl) ?_
  refine i_obj (pc := 1) F w207 hl.1 (Nat.le_of_ble_eq_true rfl) (Nat.le_of_ble_eq_true rfl) dX5_init_1 ?_
  refine lv_aload_n (pc := 4) hx hb dX5_init_4 rfl (lv_at hl 0 rfl) ?_
  refine lv_bipush (pc := 5) (v := 60) hx hb dX5_init_5 (by decide) ?_
  refine i_newI (pc := 7) (n := 1) (N := 60) F hW hS rfl rfl (by omega) (Nat.le_of_ble_eq_true rfl) (Nat.le_of_ble_eq_true rfl) dX5_init_7 (fun H hW hS => ?_)
  have hW : WX D a [.inr (5, [.null, .int 0]), AI cy 60] H := hW
  refine i_put (pc := 9) (ci := 5) (k := 0) (ty := tyX5 0) F hmi hW hS cl5 tyX5_ok nmX5 inRX5 (by decide) w208 rfl rfl (tyX5_ok 0 (by decide)) rfl rfl (Nat.le_of_ble_eq_true rfl) dX5_init_9 (fun H locs hW hS => ?_)
  have hW : WX D a ([.inr (5, [.ref (a + 1), .int 0]), AI cy 60]) H := hW
  exact i_vret (pc := 12) F hr hlo hW hS (Nat.le_of_ble_eq_true rfl) (Nat.le_of_ble_eq_true rfl) dX5_init_12
abbrev OrF (h : Nat) : List Value := [.ref (h + 1), .int 0, .int 0, .int 0, .ref (h + 3), .ref (h + 4), .ref (h + 5), .ref (h + 6), .int 0, .ref (h + 7), .ref (h + 8)]
def OrT (cy : Nat → ClassId) (h : Nat) : List va_E := [.inr (5, [.ref (h + 1 + 1), .int 0]), AI cy 60, AI cy 60, AI cy 60, AI cy 60, AI cy 60, AI cy 60, AI cy 60]
def OrL (cy : Nat → ClassId) (h : Nat) : List va_E := .inr (4, OrF h) :: OrT cy h
set_option maxHeartbeats 4000000 in
theorem mcX4 {l : Launch} {D : va_G} {cy : Nat → ClassId} {t : Nat} : MC l yX4_init cX4_init 1 2 70 8 422 D cy t (fun h => []) X4N (OrL cy) := by
  refine MC_of (own := RX4) (by decide) rfl rfl (fun a => Nat.le_of_ble_eq_true rfl) ?_
  intro a p e s m args below meth c F hr hlo hmi hW hS ls hl
  have hx := F.1
  have hb := F.2.1
  have hl : lv_has ls 1 [(0, .ref a)] := hl
  refine lv_aload_n (pc := 0) hx hb dX4_init_0 rfl (lv_at hl 0 rfl) ?_
  refine i_obj (pc := 1) F w201 hl.1 (Nat.le_of_ble_eq_true rfl) (Nat.le_of_ble_eq_true rfl) dX4_init_1 ?_
  refine lv_aload_n (pc := 4) hx hb dX4_init_4 rfl (lv_at hl 0 rfl) ?_
  refine i_new (pc := 5) (ci := 5) (n := 1) F hW hS rfl cl5 tyX5_ok inRX5 w202 w203 w9 nfX5 (Nat.le_of_ble_eq_true rfl) (Nat.le_of_ble_eq_true rfl) dX4_init_5 (fun H hW hS => ?_)
  have hW : WX D a [.inr (4, [.null, .int 0, .int 0, .int 0, .null, .null, .null, .null, .int 0, .null, .null]), .inr (5, nwX5)] H := hW
  refine lv_dup (pc := 8) hx hb dX4_init_8 rfl ?_
  refine i_ctorN (pc := 9) (es := [.inr (4, [.null, .int 0, .int 0, .int 0, .null, .null, .null, .null, .int 0, .null, .null])]) (es0 := X5N) (n := 1) (na := 0) (rest := [.ref (a + 1), .ref a]) F hW hS rfl (mcX5) w206 w9 wn4 w205 rfl (by decide) ⟨(Nat.le_of_ble_eq_true rfl), (Nat.le_of_ble_eq_true rfl)⟩ rfl hl.1 rfl (Nat.le_of_ble_eq_true rfl) (Nat.le_of_ble_eq_true rfl) (Nat.le_of_ble_eq_true rfl) dX4_init_9 (fun H locs hW hS => ?_)
  have hW : WX D a [.inr (4, [.null, .int 0, .int 0, .int 0, .null, .null, .null, .null, .int 0, .null, .null]), .inr (5, [.ref (a + 1 + 1), .int 0]), AI cy 60] H := hW
  refine i_put (pc := 12) (ci := 4) (k := 0) (ty := tyX4 0) F hmi hW hS cl4 tyX4_ok nmX4 inRX4 (by decide) w218 rfl rfl (tyX4_ok 0 (by decide)) rfl rfl (Nat.le_of_ble_eq_true rfl) dX4_init_12 (fun H locs hW hS => ?_)
  have hW : WX D a ([.inr (4, [.ref (a + 1), .int 0, .int 0, .int 0, .null, .null, .null, .null, .int 0, .null, .null]), .inr (5, [.ref (a + 1 + 1), .int 0]), AI cy 60]) H := hW
  refine lv_aload_n (pc := 15) hx hb dX4_init_15 rfl (lv_at hl 0 rfl) ?_
  refine lv_bipush (pc := 16) (v := 60) hx hb dX4_init_16 (by decide) ?_
  refine i_newI (pc := 18) (n := 3) (N := 60) F hW hS rfl rfl (by omega) (Nat.le_of_ble_eq_true rfl) (Nat.le_of_ble_eq_true rfl) dX4_init_18 (fun H hW hS => ?_)
  have hW : WX D a [.inr (4, [.ref (a + 1), .int 0, .int 0, .int 0, .null, .null, .null, .null, .int 0, .null, .null]), .inr (5, [.ref (a + 1 + 1), .int 0]), AI cy 60, AI cy 60] H := hW
  refine i_put (pc := 20) (ci := 4) (k := 4) (ty := tyX4 4) F hmi hW hS cl4 tyX4_ok nmX4 inRX4 (by decide) w224 rfl rfl (tyX4_ok 4 (by decide)) rfl rfl (Nat.le_of_ble_eq_true rfl) dX4_init_20 (fun H locs hW hS => ?_)
  have hW : WX D a ([.inr (4, [.ref (a + 1), .int 0, .int 0, .int 0, .ref (a + 3), .null, .null, .null, .int 0, .null, .null]), .inr (5, [.ref (a + 1 + 1), .int 0]), AI cy 60, AI cy 60]) H := hW
  refine lv_aload_n (pc := 23) hx hb dX4_init_23 rfl (lv_at hl 0 rfl) ?_
  refine lv_bipush (pc := 24) (v := 60) hx hb dX4_init_24 (by decide) ?_
  refine i_newI (pc := 26) (n := 4) (N := 60) F hW hS rfl rfl (by omega) (Nat.le_of_ble_eq_true rfl) (Nat.le_of_ble_eq_true rfl) dX4_init_26 (fun H hW hS => ?_)
  have hW : WX D a [.inr (4, [.ref (a + 1), .int 0, .int 0, .int 0, .ref (a + 3), .null, .null, .null, .int 0, .null, .null]), .inr (5, [.ref (a + 1 + 1), .int 0]), AI cy 60, AI cy 60, AI cy 60] H := hW
  refine i_put (pc := 28) (ci := 4) (k := 5) (ty := tyX4 5) F hmi hW hS cl4 tyX4_ok nmX4 inRX4 (by decide) w225 rfl rfl (tyX4_ok 5 (by decide)) rfl rfl (Nat.le_of_ble_eq_true rfl) dX4_init_28 (fun H locs hW hS => ?_)
  have hW : WX D a ([.inr (4, [.ref (a + 1), .int 0, .int 0, .int 0, .ref (a + 3), .ref (a + 4), .null, .null, .int 0, .null, .null]), .inr (5, [.ref (a + 1 + 1), .int 0]), AI cy 60, AI cy 60, AI cy 60]) H := hW
  refine lv_aload_n (pc := 31) hx hb dX4_init_31 rfl (lv_at hl 0 rfl) ?_
  refine lv_bipush (pc := 32) (v := 60) hx hb dX4_init_32 (by decide) ?_
  refine i_newI (pc := 34) (n := 5) (N := 60) F hW hS rfl rfl (by omega) (Nat.le_of_ble_eq_true rfl) (Nat.le_of_ble_eq_true rfl) dX4_init_34 (fun H hW hS => ?_)
  have hW : WX D a [.inr (4, [.ref (a + 1), .int 0, .int 0, .int 0, .ref (a + 3), .ref (a + 4), .null, .null, .int 0, .null, .null]), .inr (5, [.ref (a + 1 + 1), .int 0]), AI cy 60, AI cy 60, AI cy 60, AI cy 60] H := hW
  refine i_put (pc := 36) (ci := 4) (k := 6) (ty := tyX4 6) F hmi hW hS cl4 tyX4_ok nmX4 inRX4 (by decide) w226 rfl rfl (tyX4_ok 6 (by decide)) rfl rfl (Nat.le_of_ble_eq_true rfl) dX4_init_36 (fun H locs hW hS => ?_)
  have hW : WX D a ([.inr (4, [.ref (a + 1), .int 0, .int 0, .int 0, .ref (a + 3), .ref (a + 4), .ref (a + 5), .null, .int 0, .null, .null]), .inr (5, [.ref (a + 1 + 1), .int 0]), AI cy 60, AI cy 60, AI cy 60, AI cy 60]) H := hW
  refine lv_aload_n (pc := 39) hx hb dX4_init_39 rfl (lv_at hl 0 rfl) ?_
  refine lv_bipush (pc := 40) (v := 60) hx hb dX4_init_40 (by decide) ?_
  refine i_newI (pc := 42) (n := 6) (N := 60) F hW hS rfl rfl (by omega) (Nat.le_of_ble_eq_true rfl) (Nat.le_of_ble_eq_true rfl) dX4_init_42 (fun H hW hS => ?_)
  have hW : WX D a [.inr (4, [.ref (a + 1), .int 0, .int 0, .int 0, .ref (a + 3), .ref (a + 4), .ref (a + 5), .null, .int 0, .null, .null]), .inr (5, [.ref (a + 1 + 1), .int 0]), AI cy 60, AI cy 60, AI cy 60, AI cy 60, AI cy 60] H := hW
  refine i_put (pc := 44) (ci := 4) (k := 7) (ty := tyX4 7) F hmi hW hS cl4 tyX4_ok nmX4 inRX4 (by decide) w227 rfl rfl (tyX4_ok 7 (by decide)) rfl rfl (Nat.le_of_ble_eq_true rfl) dX4_init_44 (fun H locs hW hS => ?_)
  have hW : WX D a ([.inr (4, [.ref (a + 1), .int 0, .int 0, .int 0, .ref (a + 3), .ref (a + 4), .ref (a + 5), .ref (a + 6), .int 0, .null, .null]), .inr (5, [.ref (a + 1 + 1), .int 0]), AI cy 60, AI cy 60, AI cy 60, AI cy 60, AI cy 60]) H := hW
  refine lv_aload_n (pc := 47) hx hb dX4_init_47 rfl (lv_at hl 0 rfl) ?_
  refine lv_bipush (pc := 48) (v := 60) hx hb dX4_init_48 (by decide) ?_
  refine i_newI (pc := 50) (n := 7) (N := 60) F hW hS rfl rfl (by omega) (Nat.le_of_ble_eq_true rfl) (Nat.le_of_ble_eq_true rfl) dX4_init_50 (fun H hW hS => ?_)
  have hW : WX D a [.inr (4, [.ref (a + 1), .int 0, .int 0, .int 0, .ref (a + 3), .ref (a + 4), .ref (a + 5), .ref (a + 6), .int 0, .null, .null]), .inr (5, [.ref (a + 1 + 1), .int 0]), AI cy 60, AI cy 60, AI cy 60, AI cy 60, AI cy 60, AI cy 60] H := hW
  refine i_put (pc := 52) (ci := 4) (k := 9) (ty := tyX4 9) F hmi hW hS cl4 tyX4_ok nmX4 inRX4 (by decide) w229 rfl rfl (tyX4_ok 9 (by decide)) rfl rfl (Nat.le_of_ble_eq_true rfl) dX4_init_52 (fun H locs hW hS => ?_)
  have hW : WX D a ([.inr (4, [.ref (a + 1), .int 0, .int 0, .int 0, .ref (a + 3), .ref (a + 4), .ref (a + 5), .ref (a + 6), .int 0, .ref (a + 7), .null]), .inr (5, [.ref (a + 1 + 1), .int 0]), AI cy 60, AI cy 60, AI cy 60, AI cy 60, AI cy 60, AI cy 60]) H := hW
  refine lv_aload_n (pc := 55) hx hb dX4_init_55 rfl (lv_at hl 0 rfl) ?_
  refine lv_bipush (pc := 56) (v := 60) hx hb dX4_init_56 (by decide) ?_
  refine i_newI (pc := 58) (n := 8) (N := 60) F hW hS rfl rfl (by omega) (Nat.le_of_ble_eq_true rfl) (Nat.le_of_ble_eq_true rfl) dX4_init_58 (fun H hW hS => ?_)
  have hW : WX D a [.inr (4, [.ref (a + 1), .int 0, .int 0, .int 0, .ref (a + 3), .ref (a + 4), .ref (a + 5), .ref (a + 6), .int 0, .ref (a + 7), .null]), .inr (5, [.ref (a + 1 + 1), .int 0]), AI cy 60, AI cy 60, AI cy 60, AI cy 60, AI cy 60, AI cy 60, AI cy 60] H := hW
  refine i_put (pc := 60) (ci := 4) (k := 10) (ty := tyX4 10) F hmi hW hS cl4 tyX4_ok nmX4 inRX4 (by decide) w230 rfl rfl (tyX4_ok 10 (by decide)) rfl rfl (Nat.le_of_ble_eq_true rfl) dX4_init_60 (fun H locs hW hS => ?_)
  have hW : WX D a ([.inr (4, [.ref (a + 1), .int 0, .int 0, .int 0, .ref (a + 3), .ref (a + 4), .ref (a + 5), .ref (a + 6), .int 0, .ref (a + 7), .ref (a + 8)]), .inr (5, [.ref (a + 1 + 1), .int 0]), AI cy 60, AI cy 60, AI cy 60, AI cy 60, AI cy 60, AI cy 60, AI cy 60]) H := hW
  exact i_vret (pc := 63) F hr hlo hW hS (Nat.le_of_ble_eq_true rfl) (Nat.le_of_ble_eq_true rfl) dX4_init_63
abbrev WoF (h : Nat) : List Value := [.ref (h + 1), .ref (h + 4)]
def WoT (cy : Nat → ClassId) (h : Nat) : List va_E := [.inr (3, [.ref (h + 1 + 1), .ref (h + 1 + 2)]), AI cy 12, AI cy 3, .inr (3, [.ref (h + 4 + 1), .ref (h + 4 + 2)]), AI cy 12, AI cy 3]
def WoL (cy : Nat → ClassId) (h : Nat) : List va_E := .inr (10, WoF h) :: WoT cy h
set_option maxHeartbeats 4000000 in
theorem mcX10 {l : Launch} {D : va_G} {cy : Nat → ClassId} {t : Nat} : MC l yX10_init cX10_init 1 2 70 6 34 D cy t (fun h => []) X10N (WoL cy) := by
  refine MC_of (own := RX10) (by decide) rfl rfl (fun a => Nat.le_of_ble_eq_true rfl) ?_
  intro a p e s m args below meth c F hr hlo hmi hW hS ls hl
  have hx := F.1
  have hb := F.2.1
  have hl : lv_has ls 1 [(0, .ref a)] := hl
  refine lv_aload_n (pc := 0) hx hb dX10_init_0 rfl (lv_at hl 0 rfl) ?_
  refine i_obj (pc := 1) F w280 hl.1 (Nat.le_of_ble_eq_true rfl) (Nat.le_of_ble_eq_true rfl) dX10_init_1 ?_
  refine lv_aload_n (pc := 4) hx hb dX10_init_4 rfl (lv_at hl 0 rfl) ?_
  refine i_new (pc := 5) (ci := 3) (n := 1) F hW hS rfl cl3 tyX3_ok inRX3 w281 w255 w10 nfX3 (Nat.le_of_ble_eq_true rfl) (Nat.le_of_ble_eq_true rfl) dX10_init_5 (fun H hW hS => ?_)
  have hW : WX D a [.inr (10, [.null, .null]), .inr (3, nwX3)] H := hW
  refine lv_dup (pc := 8) hx hb dX10_init_8 rfl ?_
  refine i_ctorN (pc := 9) (es := [.inr (10, [.null, .null])]) (es0 := X3N) (n := 1) (na := 0) (rest := [.ref (a + 1), .ref a]) F hW hS rfl (mcX3) w258 w10 wn7 w257 rfl (by decide) ⟨(Nat.le_of_ble_eq_true rfl), (Nat.le_of_ble_eq_true rfl)⟩ rfl hl.1 rfl (Nat.le_of_ble_eq_true rfl) (Nat.le_of_ble_eq_true rfl) (Nat.le_of_ble_eq_true rfl) dX10_init_9 (fun H locs hW hS => ?_)
  have hW : WX D a [.inr (10, [.null, .null]), .inr (3, [.ref (a + 1 + 1), .ref (a + 1 + 2)]), AI cy 12, AI cy 3] H := hW
  refine i_put (pc := 12) (ci := 10) (k := 0) (ty := tyX10 0) F hmi hW hS cl10 tyX10_ok nmX10 inRX10 (by decide) w283 rfl rfl (tyX10_ok 0 (by decide)) rfl rfl (Nat.le_of_ble_eq_true rfl) dX10_init_12 (fun H locs hW hS => ?_)
  have hW : WX D a ([.inr (10, [.ref (a + 1), .null]), .inr (3, [.ref (a + 1 + 1), .ref (a + 1 + 2)]), AI cy 12, AI cy 3]) H := hW
  refine lv_aload_n (pc := 15) hx hb dX10_init_15 rfl (lv_at hl 0 rfl) ?_
  refine i_new (pc := 16) (ci := 3) (n := 4) F hW hS rfl cl3 tyX3_ok inRX3 w281 w255 w10 nfX3 (Nat.le_of_ble_eq_true rfl) (Nat.le_of_ble_eq_true rfl) dX10_init_16 (fun H hW hS => ?_)
  have hW : WX D a [.inr (10, [.ref (a + 1), .null]), .inr (3, [.ref (a + 1 + 1), .ref (a + 1 + 2)]), AI cy 12, AI cy 3, .inr (3, nwX3)] H := hW
  refine lv_dup (pc := 19) hx hb dX10_init_19 rfl ?_
  refine i_ctorN (pc := 20) (es := [.inr (10, [.ref (a + 1), .null]), .inr (3, [.ref (a + 1 + 1), .ref (a + 1 + 2)]), AI cy 12, AI cy 3]) (es0 := X3N) (n := 4) (na := 0) (rest := [.ref (a + 4), .ref a]) F hW hS rfl (mcX3) w258 w10 wn7 w257 rfl (by decide) ⟨(Nat.le_of_ble_eq_true rfl), (Nat.le_of_ble_eq_true rfl)⟩ rfl hl.1 rfl (Nat.le_of_ble_eq_true rfl) (Nat.le_of_ble_eq_true rfl) (Nat.le_of_ble_eq_true rfl) dX10_init_20 (fun H locs hW hS => ?_)
  have hW : WX D a [.inr (10, [.ref (a + 1), .null]), .inr (3, [.ref (a + 1 + 1), .ref (a + 1 + 2)]), AI cy 12, AI cy 3, .inr (3, [.ref (a + 4 + 1), .ref (a + 4 + 2)]), AI cy 12, AI cy 3] H := hW
  refine i_put (pc := 23) (ci := 10) (k := 1) (ty := tyX10 1) F hmi hW hS cl10 tyX10_ok nmX10 inRX10 (by decide) w285 rfl rfl (tyX10_ok 1 (by decide)) rfl rfl (Nat.le_of_ble_eq_true rfl) dX10_init_23 (fun H locs hW hS => ?_)
  have hW : WX D a ([.inr (10, [.ref (a + 1), .ref (a + 4)]), .inr (3, [.ref (a + 1 + 1), .ref (a + 1 + 2)]), AI cy 12, AI cy 3, .inr (3, [.ref (a + 4 + 1), .ref (a + 4 + 2)]), AI cy 12, AI cy 3]) H := hW
  exact i_vret (pc := 26) F hr hlo hW hS (Nat.le_of_ble_eq_true rfl) (Nat.le_of_ble_eq_true rfl) dX10_init_26
