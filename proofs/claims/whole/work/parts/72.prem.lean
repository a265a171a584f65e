/-! the premiere's constructor, walked by program -/
def Mna (l : Launch) : Prop := ∀ (p : Program) (e : Env) (R : Room) (s : State) (m : MethodId) (args : Array Value) (below : List Frame) (meth : Method) (c : Code) (H : Heap) (locs : List Loc) (cells slots : Nat) (Q : State → Prop) (ls : Array Slot) (rest : List Value) (D : va_G) (cy : Nat → ClassId) (t a nL : Nat) (es : List va_E) (n : Nat), FC p s m args c RX6 cX6_init nL D cy t a → WX D a es H → va_S (AA a) s.heap H locs → es.length = n → cells + 9 ≤ R.cells → slots + 104 ≤ R.slots → (∀ H1 : Heap, WX D a (es ++ (RA (cy 4) 8 (fun i => if i < 8 then some (a + n + 1 + i) else none) :: [AI cy 12, AI cy 12, AI cy 12, AI cy 12, AI cy 12, AI cy 12, AI cy 12, AI cy 12])) H1 → va_S (AA a) s.heap H1 locs → W p l e R s m args below meth c H1 locs (cells + 9) (slots + 104) Q (F0 m 61 ls (.ref (a + n) :: rest))) → W p l e R s m args below meth c H locs cells slots Q (F0 m 57 ls (.int 12 :: .int 8 :: rest))
def rw5 (k : Nat) : Nat → Int32 := fun j => if j < k then nI (j % 3) else 0
theorem rw5_0 : rw5 0 = fun _ => 0 := by
  funext j
  exact if_neg (Nat.not_lt_zero j)
def dphN : Nat → Int32 := fun j => if j < 12 then nI (j % 3) else 0
theorem rw5_12 : rw5 12 = dphN := rfl
theorem rem3 : ∀ k, k < 12 → nI k - nI k / 3 * 3 = nI (k % 3) := by decide +kernel
theorem rw5_s {k : Nat} : upd (rw5 k) k (nI (k % 3)) = rw5 (k + 1) := by
  funext j
  unfold upd rw5
  by_cases h : j = k
  · subst h
    rw [if_pos rfl, if_pos (Nat.lt_succ_self j)]
  · rw [if_neg h]
    by_cases h2 : j < k
    · rw [if_pos h2, if_pos (by omega)]
    · rw [if_neg h2, if_neg (by omega)]
abbrev PrF (h : Nat) : List Value := [.int 0, .int 0, .int 0, .ref (h + 1), .ref (h + 2), .ref (h + 3), .ref (h + 4), .ref (h + 5), .ref (h + 6), .ref (h + 7), .ref (h + 16), .ref (h + 19), .ref (h + 21)]
def PrY (cy : Nat → ClassId) (h : Nat) (g : Nat → Int32) : List va_E := [AI cy 12, AI cy 12, AI cy 12, AI cy 12, .inl (cy 0, 12, .inl g), AI cy 8, RA (cy 4) 8 (fun i => if i < 8 then some (h + 7 + 1 + i) else none), AI cy 12, AI cy 12, AI cy 12, AI cy 12, AI cy 12, AI cy 12, AI cy 12, AI cy 12, .inr (1, [.int 0, .int 0, .ref (h + 16 + 1), .ref (h + 16 + 2)]), AI cy 12, AI cy 12, .inr (0, [.ref (h + 19 + 1), .int 0]), AI cy 12, .inr (0, [.ref (h + 21 + 1), .int 0]), AI cy 3]
def PrX (cy : Nat → ClassId) (h : Nat) (g : Nat → Int32) : List va_E := .inr (6, PrF h) :: PrY cy h g
def PrT (cy : Nat → ClassId) (h : Nat) : List va_E := PrY cy h dphN
def PrL (cy : Nat → ClassId) (h : Nat) : List va_E := .inr (6, PrF h) :: PrT cy h
set_option maxHeartbeats 4000000 in
theorem prem_loop {p : Program} {l : Launch} {e : Env} {R : Room} {s : State} {m : MethodId} {args : Array Value} {below : List Frame} {meth : Method} {c : Code} {cells slots : Nat} {Q : State → Prop} {D : va_G} {cy : Nat → ClassId} {t a : Nat} (F : FC p s m args c RX6 cX6_init 2 D cy t a) (K1 : ∀ (H : Heap) (locs : List Loc) (ls : Array Slot), WX D a (PrX cy a (rw5 12)) H → va_S (AA a) s.heap H locs → W p l e R s m args below meth c H locs cells slots Q (F0 m 127 ls [])) : ∀ (d k : Nat) (H : Heap) (locs : List Loc) (ls : Array Slot), k + d = 12 → WX D a (PrX cy a (rw5 k)) H → va_S (AA a) s.heap H locs → lv_has ls 2 [(0, .ref a), (1, .int (nI k))] → W p l e R s m args below meth c H locs cells slots Q (F0 m 106 ls []) := by
  have hx := F.1
  have hb := F.2.1
  intro d
  induction d with
  | zero =>
    intro k H locs ls hk hW hS hl
    have e : k = 12 := by omega
    subst e
    refine lv_iload_n (pc := 106) hx hb dX6_init_106 rfl (lv_at hl 1 rfl) ?_
    refine lv_bipush (pc := 107) (v := 12) hx hb dX6_init_107 (by decide) ?_
    exact lv_icmp_ge (pc := 109) (tgt := 127) hx hb dX6_init_109 (by decide) (fun c1 => K1 H locs ls hW hS) (fun c1 => absurd (by decide) c1)
  | succ d ih =>
    intro k H locs ls hk hW hS hl
    refine lv_iload_n (pc := 106) hx hb dX6_init_106 rfl (lv_at hl 1 rfl) ?_
    refine lv_bipush (pc := 107) (v := 12) hx hb dX6_init_107 (by decide) ?_
    refine lv_icmp_ge (pc := 109) (tgt := 127) hx hb dX6_init_109 (by decide) (fun c1 => absurd ((nI_leE (a := 12) (by omega) (by omega)).mp c1) (by omega)) (fun c1 => ?_)
    refine lv_aload_n (pc := 112) hx hb dX6_init_112 rfl (lv_at hl 0 rfl) ?_
    refine i_get (pc := 113) (ci := 6) (k := 7) (n := 0) (X := []) F hW rfl cl6 inRX6 (by decide) w121 rfl rfl dX6_init_113 ?_
    refine lv_iload_n (pc := 116) hx hb dX6_init_116 rfl (lv_at hl 1 rfl) ?_
    refine lv_iload_n (pc := 117) hx hb dX6_init_117 rfl (lv_at hl 1 rfl) ?_
    refine lv_iconst (pc := 118) (v := 3) hx hb dX6_init_118 (by decide) ?_
    refine lv_irem (pc := 119) hx hb dX6_init_119 (by decide) ?_
    rw [rem3 k (by omega)]
    refine i_iast (pc := 120) (n := 5) (N := 12) (k := k) (X := [.inr (6, [.int 0, .int 0, .int 0, .ref (a + 1), .ref (a + 2), .ref (a + 3), .ref (a + 4), .ref (a + 5), .ref (a + 6), .ref (a + 7), .ref (a + 16), .ref (a + 19), .ref (a + 21)]), AI cy 12, AI cy 12, AI cy 12, AI cy 12]) (Y := [AI cy 8, RA (cy 4) 8 (fun i => if i < 8 then some (a + 7 + 1 + i) else none), AI cy 12, AI cy 12, AI cy 12, AI cy 12, AI cy 12, AI cy 12, AI cy 12, AI cy 12, .inr (1, [.int 0, .int 0, .ref (a + 16 + 1), .ref (a + 16 + 2)]), AI cy 12, AI cy 12, .inr (0, [.ref (a + 19 + 1), .int 0]), AI cy 12, .inr (0, [.ref (a + 21 + 1), .int 0]), AI cy 3]) (f := rw5 k) F hW hS rfl rfl (by omega) (by omega) rfl dX6_init_120 (fun H locs hW hS => ?_)
    rw [rw5_s] at hW
    refine lv_iinc (pc := 121) (lv' := [(1, .int (nI (k + 1))), (0, .ref a)]) hx hb dX6_init_121 hl (k := 1) rfl (nI_addE k 1) (by decide) rfl (fun ls hl => ?_)
    refine lv_goto (pc := 124) (tgt := 106) hx hb dX6_init_124 (by decide) ?_
    exact ih (k + 1) H locs ls (by omega) hW hS (lv_sub hl [1, 0] rfl)
set_option maxHeartbeats 4000000 in
theorem mcX6 {l : Launch} {D : va_G} {cy : Nat → ClassId} {t : Nat} (hm : Mna l) : MC l yX6_init cX6_init 2 2 70 22 219 D cy t (fun h => []) X6N (PrL cy) := by
  refine MC_of (own := RX6) (by decide) rfl rfl (fun a => Nat.le_of_ble_eq_true rfl) ?_
  intro a p e s m args below meth c F hr hlo hmi hW hS ls hl
  have hx := F.1
  have hb := F.2.1
  have hl : lv_has ls 2 [(0, .ref a)] := hl
  refine lv_aload_n (pc := 0) hx hb dX6_init_0 rfl (lv_at hl 0 rfl) ?_
  refine i_obj (pc := 1) F w67 hl.1 (Nat.le_of_ble_eq_true rfl) (Nat.le_of_ble_eq_true rfl) dX6_init_1 ?_
  refine lv_aload_n (pc := 4) hx hb dX6_init_4 rfl (lv_at hl 0 rfl) ?_
  refine lv_bipush (pc := 5) (v := 12) hx hb dX6_init_5 (by decide) ?_
  refine i_newI (pc := 7) (n := 1) (N := 12) F hW hS rfl rfl (by omega) (Nat.le_of_ble_eq_true rfl) (Nat.le_of_ble_eq_true rfl) dX6_init_7 (fun H hW hS => ?_)
  have hW : WX D a [.inr (6, [.int 0, .int 0, .int 0, .null, .null, .null, .null, .null, .null, .null, .null, .null, .null]), AI cy 12] H := hW
  refine i_put (pc := 9) (ci := 6) (k := 3) (ty := tyX6 3) F hmi hW hS cl6 tyX6_ok nmX6 inRX6 (by decide) w112 rfl rfl (tyX6_ok 3 (by decide)) rfl rfl (Nat.le_of_ble_eq_true rfl) dX6_init_9 (fun H locs hW hS => ?_)
  have hW : WX D a ([.inr (6, [.int 0, .int 0, .int 0, .ref (a + 1), .null, .null, .null, .null, .null, .null, .null, .null, .null]), AI cy 12]) H := hW
  refine lv_aload_n (pc := 12) hx hb dX6_init_12 rfl (lv_at hl 0 rfl) ?_
  refine lv_bipush (pc := 13) (v := 12) hx hb dX6_init_13 (by decide) ?_
  refine i_newI (pc := 15) (n := 2) (N := 12) F hW hS rfl rfl (by omega) (Nat.le_of_ble_eq_true rfl) (Nat.le_of_ble_eq_true rfl) dX6_init_15 (fun H hW hS => ?_)
  have hW : WX D a [.inr (6, [.int 0, .int 0, .int 0, .ref (a + 1), .null, .null, .null, .null, .null, .null, .null, .null, .null]), AI cy 12, AI cy 12] H := hW
  refine i_put (pc := 17) (ci := 6) (k := 4) (ty := tyX6 4) F hmi hW hS cl6 tyX6_ok nmX6 inRX6 (by decide) w114 rfl rfl (tyX6_ok 4 (by decide)) rfl rfl (Nat.le_of_ble_eq_true rfl) dX6_init_17 (fun H locs hW hS => ?_)
  have hW : WX D a ([.inr (6, [.int 0, .int 0, .int 0, .ref (a + 1), .ref (a + 2), .null, .null, .null, .null, .null, .null, .null, .null]), AI cy 12, AI cy 12]) H := hW
  refine lv_aload_n (pc := 20) hx hb dX6_init_20 rfl (lv_at hl 0 rfl) ?_
  refine lv_bipush (pc := 21) (v := 12) hx hb dX6_init_21 (by decide) ?_
  refine i_newI (pc := 23) (n := 3) (N := 12) F hW hS rfl rfl (by omega) (Nat.le_of_ble_eq_true rfl) (Nat.le_of_ble_eq_true rfl) dX6_init_23 (fun H hW hS => ?_)
  have hW : WX D a [.inr (6, [.int 0, .int 0, .int 0, .ref (a + 1), .ref (a + 2), .null, .null, .null, .null, .null, .null, .null, .null]), AI cy 12, AI cy 12, AI cy 12] H := hW
  refine i_put (pc := 25) (ci := 6) (k := 5) (ty := tyX6 5) F hmi hW hS cl6 tyX6_ok nmX6 inRX6 (by decide) w116 rfl rfl (tyX6_ok 5 (by decide)) rfl rfl (Nat.le_of_ble_eq_true rfl) dX6_init_25 (fun H locs hW hS => ?_)
  have hW : WX D a ([.inr (6, [.int 0, .int 0, .int 0, .ref (a + 1), .ref (a + 2), .ref (a + 3), .null, .null, .null, .null, .null, .null, .null]), AI cy 12, AI cy 12, AI cy 12]) H := hW
  refine lv_aload_n (pc := 28) hx hb dX6_init_28 rfl (lv_at hl 0 rfl) ?_
  refine lv_bipush (pc := 29) (v := 12) hx hb dX6_init_29 (by decide) ?_
  refine i_newI (pc := 31) (n := 4) (N := 12) F hW hS rfl rfl (by omega) (Nat.le_of_ble_eq_true rfl) (Nat.le_of_ble_eq_true rfl) dX6_init_31 (fun H hW hS => ?_)
  have hW : WX D a [.inr (6, [.int 0, .int 0, .int 0, .ref (a + 1), .ref (a + 2), .ref (a + 3), .null, .null, .null, .null, .null, .null, .null]), AI cy 12, AI cy 12, AI cy 12, AI cy 12] H := hW
  refine i_put (pc := 33) (ci := 6) (k := 6) (ty := tyX6 6) F hmi hW hS cl6 tyX6_ok nmX6 inRX6 (by decide) w119 rfl rfl (tyX6_ok 6 (by decide)) rfl rfl (Nat.le_of_ble_eq_true rfl) dX6_init_33 (fun H locs hW hS => ?_)
  have hW : WX D a ([.inr (6, [.int 0, .int 0, .int 0, .ref (a + 1), .ref (a + 2), .ref (a + 3), .ref (a + 4), .null, .null, .null, .null, .null, .null]), AI cy 12, AI cy 12, AI cy 12, AI cy 12]) H := hW
  refine lv_aload_n (pc := 36) hx hb dX6_init_36 rfl (lv_at hl 0 rfl) ?_
  refine lv_bipush (pc := 37) (v := 12) hx hb dX6_init_37 (by decide) ?_
  refine i_newI (pc := 39) (n := 5) (N := 12) F hW hS rfl rfl (by omega) (Nat.le_of_ble_eq_true rfl) (Nat.le_of_ble_eq_true rfl) dX6_init_39 (fun H hW hS => ?_)
  have hW : WX D a [.inr (6, [.int 0, .int 0, .int 0, .ref (a + 1), .ref (a + 2), .ref (a + 3), .ref (a + 4), .null, .null, .null, .null, .null, .null]), AI cy 12, AI cy 12, AI cy 12, AI cy 12, AI cy 12] H := hW
  refine i_put (pc := 41) (ci := 6) (k := 7) (ty := tyX6 7) F hmi hW hS cl6 tyX6_ok nmX6 inRX6 (by decide) w121 rfl rfl (tyX6_ok 7 (by decide)) rfl rfl (Nat.le_of_ble_eq_true rfl) dX6_init_41 (fun H locs hW hS => ?_)
  have hW : WX D a ([.inr (6, [.int 0, .int 0, .int 0, .ref (a + 1), .ref (a + 2), .ref (a + 3), .ref (a + 4), .ref (a + 5), .null, .null, .null, .null, .null]), AI cy 12, AI cy 12, AI cy 12, AI cy 12, AI cy 12]) H := hW
  refine lv_aload_n (pc := 44) hx hb dX6_init_44 rfl (lv_at hl 0 rfl) ?_
  refine lv_bipush (pc := 45) (v := 8) hx hb dX6_init_45 (by decide) ?_
  refine i_newI (pc := 47) (n := 6) (N := 8) F hW hS rfl rfl (by omega) (Nat.le_of_ble_eq_true rfl) (Nat.le_of_ble_eq_true rfl) dX6_init_47 (fun H hW hS => ?_)
  have hW : WX D a [.inr (6, [.int 0, .int 0, .int 0, .ref (a + 1), .ref (a + 2), .ref (a + 3), .ref (a + 4), .ref (a + 5), .null, .null, .null, .null, .null]), AI cy 12, AI cy 12, AI cy 12, AI cy 12, AI cy 12, AI cy 8] H := hW
  refine i_put (pc := 49) (ci := 6) (k := 8) (ty := tyX6 8) F hmi hW hS cl6 tyX6_ok nmX6 inRX6 (by decide) w123 rfl rfl (tyX6_ok 8 (by decide)) rfl rfl (Nat.le_of_ble_eq_true rfl) dX6_init_49 (fun H locs hW hS => ?_)
  have hW : WX D a ([.inr (6, [.int 0, .int 0, .int 0, .ref (a + 1), .ref (a + 2), .ref (a + 3), .ref (a + 4), .ref (a + 5), .ref (a + 6), .null, .null, .null, .null]), AI cy 12, AI cy 12, AI cy 12, AI cy 12, AI cy 12, AI cy 8]) H := hW
  refine lv_aload_n (pc := 52) hx hb dX6_init_52 rfl (lv_at hl 0 rfl) ?_
  refine lv_bipush (pc := 53) (v := 8) hx hb dX6_init_53 (by decide) ?_
  refine lv_bipush (pc := 55) (v := 12) hx hb dX6_init_55 (by decide) ?_
  refine hm p e _ s m args below meth c _ _ _ _ _ _ _ D cy t a _ [.inr (6, [.int 0, .int 0, .int 0, .ref (a + 1), .ref (a + 2), .ref (a + 3), .ref (a + 4), .ref (a + 5), .ref (a + 6), .null, .null, .null, .null]), AI cy 12, AI cy 12, AI cy 12, AI cy 12, AI cy 12, AI cy 8] 7 F hW hS rfl (Nat.le_of_ble_eq_true rfl) (Nat.le_of_ble_eq_true rfl) (fun H hW hS => ?_)
  have hW : WX D a [.inr (6, [.int 0, .int 0, .int 0, .ref (a + 1), .ref (a + 2), .ref (a + 3), .ref (a + 4), .ref (a + 5), .ref (a + 6), .null, .null, .null, .null]), AI cy 12, AI cy 12, AI cy 12, AI cy 12, AI cy 12, AI cy 8, RA (cy 4) 8 (fun i => if i < 8 then some (a + 7 + 1 + i) else none), AI cy 12, AI cy 12, AI cy 12, AI cy 12, AI cy 12, AI cy 12, AI cy 12, AI cy 12] H := hW
  refine i_put (pc := 61) (ci := 6) (k := 9) (ty := tyX6 9) F hmi hW hS cl6 tyX6_ok nmX6 inRX6 (by decide) w127 rfl rfl (tyX6_ok 9 (by decide)) rfl rfl (Nat.le_of_ble_eq_true rfl) dX6_init_61 (fun H locs hW hS => ?_)
  have hW : WX D a ([.inr (6, [.int 0, .int 0, .int 0, .ref (a + 1), .ref (a + 2), .ref (a + 3), .ref (a + 4), .ref (a + 5), .ref (a + 6), .ref (a + 7), .null, .null, .null]), AI cy 12, AI cy 12, AI cy 12, AI cy 12, AI cy 12, AI cy 8, RA (cy 4) 8 (fun i => if i < 8 then some (a + 7 + 1 + i) else none), AI cy 12, AI cy 12, AI cy 12, AI cy 12, AI cy 12, AI cy 12, AI cy 12, AI cy 12]) H := hW
  refine lv_aload_n (pc := 64) hx hb dX6_init_64 rfl (lv_at hl 0 rfl) ?_
  refine i_new (pc := 65) (ci := 1) (n := 16) F hW hS rfl cl1 tyX1_ok inRX1 w70 w71 w5 nfX1 (Nat.le_of_ble_eq_true rfl) (Nat.le_of_ble_eq_true rfl) dX6_init_65 (fun H hW hS => ?_)
  have hW : WX D a [.inr (6, [.int 0, .int 0, .int 0, .ref (a + 1), .ref (a + 2), .ref (a + 3), .ref (a + 4), .ref (a + 5), .ref (a + 6), .ref (a + 7), .null, .null, .null]), AI cy 12, AI cy 12, AI cy 12, AI cy 12, AI cy 12, AI cy 8, RA (cy 4) 8 (fun i => if i < 8 then some (a + 7 + 1 + i) else none), AI cy 12, AI cy 12, AI cy 12, AI cy 12, AI cy 12, AI cy 12, AI cy 12, AI cy 12, .inr (1, nwX1)] H := hW
  refine lv_dup (pc := 68) hx hb dX6_init_68 rfl ?_
  refine i_ctorN (pc := 69) (es := [.inr (6, [.int 0, .int 0, .int 0, .ref (a + 1), .ref (a + 2), .ref (a + 3), .ref (a + 4), .ref (a + 5), .ref (a + 6), .ref (a + 7), .null, .null, .null]), AI cy 12, AI cy 12, AI cy 12, AI cy 12, AI cy 12, AI cy 8, RA (cy 4) 8 (fun i => if i < 8 then some (a + 7 + 1 + i) else none), AI cy 12, AI cy 12, AI cy 12, AI cy 12, AI cy 12, AI cy 12, AI cy 12, AI cy 12]) (es0 := X1N) (n := 16) (na := 0) (rest := [.ref (a + 16), .ref a]) F hW hS rfl (mcX1) w74 w5 wn2 w73 rfl (by decide) ⟨(Nat.le_of_ble_eq_true rfl), (Nat.le_of_ble_eq_true rfl)⟩ rfl hl.1 rfl (Nat.le_of_ble_eq_true rfl) (Nat.le_of_ble_eq_true rfl) (Nat.le_of_ble_eq_true rfl) dX6_init_69 (fun H locs hW hS => ?_)
  have hW : WX D a [.inr (6, [.int 0, .int 0, .int 0, .ref (a + 1), .ref (a + 2), .ref (a + 3), .ref (a + 4), .ref (a + 5), .ref (a + 6), .ref (a + 7), .null, .null, .null]), AI cy 12, AI cy 12, AI cy 12, AI cy 12, AI cy 12, AI cy 8, RA (cy 4) 8 (fun i => if i < 8 then some (a + 7 + 1 + i) else none), AI cy 12, AI cy 12, AI cy 12, AI cy 12, AI cy 12, AI cy 12, AI cy 12, AI cy 12, .inr (1, [.int 0, .int 0, .ref (a + 16 + 1), .ref (a + 16 + 2)]), AI cy 12, AI cy 12] H := hW
  refine i_put (pc := 72) (ci := 6) (k := 10) (ty := tyX6 10) F hmi hW hS cl6 tyX6_ok nmX6 inRX6 (by decide) w130 rfl rfl (tyX6_ok 10 (by decide)) rfl rfl (Nat.le_of_ble_eq_true rfl) dX6_init_72 (fun H locs hW hS => ?_)
  have hW : WX D a ([.inr (6, [.int 0, .int 0, .int 0, .ref (a + 1), .ref (a + 2), .ref (a + 3), .ref (a + 4), .ref (a + 5), .ref (a + 6), .ref (a + 7), .ref (a + 16), .null, .null]), AI cy 12, AI cy 12, AI cy 12, AI cy 12, AI cy 12, AI cy 8, RA (cy 4) 8 (fun i => if i < 8 then some (a + 7 + 1 + i) else none), AI cy 12, AI cy 12, AI cy 12, AI cy 12, AI cy 12, AI cy 12, AI cy 12, AI cy 12, .inr (1, [.int 0, .int 0, .ref (a + 16 + 1), .ref (a + 16 + 2)]), AI cy 12, AI cy 12]) H := hW
  refine lv_aload_n (pc := 75) hx hb dX6_init_75 rfl (lv_at hl 0 rfl) ?_
  refine i_new (pc := 76) (ci := 0) (n := 19) F hW hS rfl cl0 tyX0_ok inRX0 w89 w90 w6 nfX0 (Nat.le_of_ble_eq_true rfl) (Nat.le_of_ble_eq_true rfl) dX6_init_76 (fun H hW hS => ?_)
  have hW : WX D a [.inr (6, [.int 0, .int 0, .int 0, .ref (a + 1), .ref (a + 2), .ref (a + 3), .ref (a + 4), .ref (a + 5), .ref (a + 6), .ref (a + 7), .ref (a + 16), .null, .null]), AI cy 12, AI cy 12, AI cy 12, AI cy 12, AI cy 12, AI cy 8, RA (cy 4) 8 (fun i => if i < 8 then some (a + 7 + 1 + i) else none), AI cy 12, AI cy 12, AI cy 12, AI cy 12, AI cy 12, AI cy 12, AI cy 12, AI cy 12, .inr (1, [.int 0, .int 0, .ref (a + 16 + 1), .ref (a + 16 + 2)]), AI cy 12, AI cy 12, .inr (0, nwX0)] H := hW
  refine lv_dup (pc := 79) hx hb dX6_init_79 rfl ?_
  refine lv_bipush (pc := 80) (v := 12) hx hb dX6_init_80 (by decide) ?_
  refine i_newI (pc := 82) (n := 20) (N := 12) F hW hS rfl rfl (by omega) (Nat.le_of_ble_eq_true rfl) (Nat.le_of_ble_eq_true rfl) dX6_init_82 (fun H hW hS => ?_)
  have hW : WX D a [.inr (6, [.int 0, .int 0, .int 0, .ref (a + 1), .ref (a + 2), .ref (a + 3), .ref (a + 4), .ref (a + 5), .ref (a + 6), .ref (a + 7), .ref (a + 16), .null, .null]), AI cy 12, AI cy 12, AI cy 12, AI cy 12, AI cy 12, AI cy 8, RA (cy 4) 8 (fun i => if i < 8 then some (a + 7 + 1 + i) else none), AI cy 12, AI cy 12, AI cy 12, AI cy 12, AI cy 12, AI cy 12, AI cy 12, AI cy 12, .inr (1, [.int 0, .int 0, .ref (a + 16 + 1), .ref (a + 16 + 2)]), AI cy 12, AI cy 12, .inr (0, nwX0), AI cy 12] H := hW
  refine i_ctor (pc := 84) (es := [.inr (6, [.int 0, .int 0, .int 0, .ref (a + 1), .ref (a + 2), .ref (a + 3), .ref (a + 4), .ref (a + 5), .ref (a + 6), .ref (a + 7), .ref (a + 16), .null, .null]), AI cy 12, AI cy 12, AI cy 12, AI cy 12, AI cy 12, AI cy 8, RA (cy 4) 8 (fun i => if i < 8 then some (a + 7 + 1 + i) else none), AI cy 12, AI cy 12, AI cy 12, AI cy 12, AI cy 12, AI cy 12, AI cy 12, AI cy 12, .inr (1, [.int 0, .int 0, .ref (a + 16 + 1), .ref (a + 16 + 2)]), AI cy 12, AI cy 12]) (es0 := BrN cy 12) (n := 19) (na := 1) (rest := [.ref (a + 19), .ref a]) F hW hS rfl (mcX0 (N := 12)) w93 w6 w91 w92 rfl (by decide) ⟨(Nat.le_of_ble_eq_true rfl), (Nat.le_of_ble_eq_true rfl)⟩ rfl hl.1 rfl (Nat.le_of_ble_eq_true rfl) (Nat.le_of_ble_eq_true rfl) (Nat.le_of_ble_eq_true rfl) dX6_init_84 (fun H locs hW hS => ?_)
  have hW : WX D a [.inr (6, [.int 0, .int 0, .int 0, .ref (a + 1), .ref (a + 2), .ref (a + 3), .ref (a + 4), .ref (a + 5), .ref (a + 6), .ref (a + 7), .ref (a + 16), .null, .null]), AI cy 12, AI cy 12, AI cy 12, AI cy 12, AI cy 12, AI cy 8, RA (cy 4) 8 (fun i => if i < 8 then some (a + 7 + 1 + i) else none), AI cy 12, AI cy 12, AI cy 12, AI cy 12, AI cy 12, AI cy 12, AI cy 12, AI cy 12, .inr (1, [.int 0, .int 0, .ref (a + 16 + 1), .ref (a + 16 + 2)]), AI cy 12, AI cy 12, .inr (0, [.ref (a + 19 + 1), .int 0]), AI cy 12] H := hW
  refine i_put (pc := 87) (ci := 6) (k := 11) (ty := tyX6 11) F hmi hW hS cl6 tyX6_ok nmX6 inRX6 (by decide) w132 rfl rfl (tyX6_ok 11 (by decide)) rfl rfl (Nat.le_of_ble_eq_true rfl) dX6_init_87 (fun H locs hW hS => ?_)
  have hW : WX D a ([.inr (6, [.int 0, .int 0, .int 0, .ref (a + 1), .ref (a + 2), .ref (a + 3), .ref (a + 4), .ref (a + 5), .ref (a + 6), .ref (a + 7), .ref (a + 16), .ref (a + 19), .null]), AI cy 12, AI cy 12, AI cy 12, AI cy 12, AI cy 12, AI cy 8, RA (cy 4) 8 (fun i => if i < 8 then some (a + 7 + 1 + i) else none), AI cy 12, AI cy 12, AI cy 12, AI cy 12, AI cy 12, AI cy 12, AI cy 12, AI cy 12, .inr (1, [.int 0, .int 0, .ref (a + 16 + 1), .ref (a + 16 + 2)]), AI cy 12, AI cy 12, .inr (0, [.ref (a + 19 + 1), .int 0]), AI cy 12]) H := hW
  refine lv_aload_n (pc := 90) hx hb dX6_init_90 rfl (lv_at hl 0 rfl) ?_
  refine i_new (pc := 91) (ci := 0) (n := 21) F hW hS rfl cl0 tyX0_ok inRX0 w89 w90 w6 nfX0 (Nat.le_of_ble_eq_true rfl) (Nat.le_of_ble_eq_true rfl) dX6_init_91 (fun H hW hS => ?_)
  have hW : WX D a [.inr (6, [.int 0, .int 0, .int 0, .ref (a + 1), .ref (a + 2), .ref (a + 3), .ref (a + 4), .ref (a + 5), .ref (a + 6), .ref (a + 7), .ref (a + 16), .ref (a + 19), .null]), AI cy 12, AI cy 12, AI cy 12, AI cy 12, AI cy 12, AI cy 8, RA (cy 4) 8 (fun i => if i < 8 then some (a + 7 + 1 + i) else none), AI cy 12, AI cy 12, AI cy 12, AI cy 12, AI cy 12, AI cy 12, AI cy 12, AI cy 12, .inr (1, [.int 0, .int 0, .ref (a + 16 + 1), .ref (a + 16 + 2)]), AI cy 12, AI cy 12, .inr (0, [.ref (a + 19 + 1), .int 0]), AI cy 12, .inr (0, nwX0)] H := hW
  refine lv_dup (pc := 94) hx hb dX6_init_94 rfl ?_
  refine lv_iconst (pc := 95) (v := 3) hx hb dX6_init_95 (by decide) ?_
  refine i_newI (pc := 96) (n := 22) (N := 3) F hW hS rfl rfl (by omega) (Nat.le_of_ble_eq_true rfl) (Nat.le_of_ble_eq_true rfl) dX6_init_96 (fun H hW hS => ?_)
  have hW : WX D a [.inr (6, [.int 0, .int 0, .int 0, .ref (a + 1), .ref (a + 2), .ref (a + 3), .ref (a + 4), .ref (a + 5), .ref (a + 6), .ref (a + 7), .ref (a + 16), .ref (a + 19), .null]), AI cy 12, AI cy 12, AI cy 12, AI cy 12, AI cy 12, AI cy 8, RA (cy 4) 8 (fun i => if i < 8 then some (a + 7 + 1 + i) else none), AI cy 12, AI cy 12, AI cy 12, AI cy 12, AI cy 12, AI cy 12, AI cy 12, AI cy 12, .inr (1, [.int 0, .int 0, .ref (a + 16 + 1), .ref (a + 16 + 2)]), AI cy 12, AI cy 12, .inr (0, [.ref (a + 19 + 1), .int 0]), AI cy 12, .inr (0, nwX0), AI cy 3] H := hW
  refine i_ctor (pc := 98) (es := [.inr (6, [.int 0, .int 0, .int 0, .ref (a + 1), .ref (a + 2), .ref (a + 3), .ref (a + 4), .ref (a + 5), .ref (a + 6), .ref (a + 7), .ref (a + 16), .ref (a + 19), .null]), AI cy 12, AI cy 12, AI cy 12, AI cy 12, AI cy 12, AI cy 8, RA (cy 4) 8 (fun i => if i < 8 then some (a + 7 + 1 + i) else none), AI cy 12, AI cy 12, AI cy 12, AI cy 12, AI cy 12, AI cy 12, AI cy 12, AI cy 12, .inr (1, [.int 0, .int 0, .ref (a + 16 + 1), .ref (a + 16 + 2)]), AI cy 12, AI cy 12, .inr (0, [.ref (a + 19 + 1), .int 0]), AI cy 12]) (es0 := BrN cy 3) (n := 21) (na := 1) (rest := [.ref (a + 21), .ref a]) F hW hS rfl (mcX0 (N := 3)) w93 w6 w91 w92 rfl (by decide) ⟨(Nat.le_of_ble_eq_true rfl), (Nat.le_of_ble_eq_true rfl)⟩ rfl hl.1 rfl (Nat.le_of_ble_eq_true rfl) (Nat.le_of_ble_eq_true rfl) (Nat.le_of_ble_eq_true rfl) dX6_init_98 (fun H locs hW hS => ?_)
  have hW : WX D a [.inr (6, [.int 0, .int 0, .int 0, .ref (a + 1), .ref (a + 2), .ref (a + 3), .ref (a + 4), .ref (a + 5), .ref (a + 6), .ref (a + 7), .ref (a + 16), .ref (a + 19), .null]), AI cy 12, AI cy 12, AI cy 12, AI cy 12, AI cy 12, AI cy 8, RA (cy 4) 8 (fun i => if i < 8 then some (a + 7 + 1 + i) else none), AI cy 12, AI cy 12, AI cy 12, AI cy 12, AI cy 12, AI cy 12, AI cy 12, AI cy 12, .inr (1, [.int 0, .int 0, .ref (a + 16 + 1), .ref (a + 16 + 2)]), AI cy 12, AI cy 12, .inr (0, [.ref (a + 19 + 1), .int 0]), AI cy 12, .inr (0, [.ref (a + 21 + 1), .int 0]), AI cy 3] H := hW
  refine i_put (pc := 101) (ci := 6) (k := 12) (ty := tyX6 12) F hmi hW hS cl6 tyX6_ok nmX6 inRX6 (by decide) w134 rfl rfl (tyX6_ok 12 (by decide)) rfl rfl (Nat.le_of_ble_eq_true rfl) dX6_init_101 (fun H locs hW hS => ?_)
  have hW : WX D a ([.inr (6, [.int 0, .int 0, .int 0, .ref (a + 1), .ref (a + 2), .ref (a + 3), .ref (a + 4), .ref (a + 5), .ref (a + 6), .ref (a + 7), .ref (a + 16), .ref (a + 19), .ref (a + 21)]), AI cy 12, AI cy 12, AI cy 12, AI cy 12, AI cy 12, AI cy 8, RA (cy 4) 8 (fun i => if i < 8 then some (a + 7 + 1 + i) else none), AI cy 12, AI cy 12, AI cy 12, AI cy 12, AI cy 12, AI cy 12, AI cy 12, AI cy 12, .inr (1, [.int 0, .int 0, .ref (a + 16 + 1), .ref (a + 16 + 2)]), AI cy 12, AI cy 12, .inr (0, [.ref (a + 19 + 1), .int 0]), AI cy 12, .inr (0, [.ref (a + 21 + 1), .int 0]), AI cy 3]) H := hW
  refine lv_iconst (pc := 104) (v := 0) hx hb dX6_init_104 (by decide) ?_
  refine lv_istore_n (pc := 105) (lv' := [(1, .int 0), (0, .ref a)]) hx hb dX6_init_105 rfl hl (by decide) rfl (fun ls hl => ?_)
  have hW : WX D a (PrX cy a (rw5 0)) H := by
    rw [rw5_0]
    exact hW
  exact prem_loop F (fun H locs ls hW hS => i_vret (pc := 127) F hr hlo (by rw [rw5_12] at hW; exact hW) hS (Nat.le_of_ble_eq_true rfl) (Nat.le_of_ble_eq_true rfl) dX6_init_127) 12 0 _ _ _ (by omega) hW hS (lv_sub hl [1, 0] rfl)
