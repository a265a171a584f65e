/-! the reference's constructor, walked by program -/
def mS : Nat → Nat → Int32
  | 0 => upd (upd (upd (fun _ => 0) 0 2400) 1 7000) 2 3
  | k + 1 => upd (mS k) (AX (k / 12) (75 + k % 12)) (nI (k % 12 % 3))
abbrev MoF (h : Nat) : List Value := [.ref (h + 1), .ref (h + 2), .ref (h + 3), .int 0, .ref (h + 4), .ref (h + 5), .ref (h + 6), .int 0, .ref (h + 7), .ref (h + 8), .int 0, .int 0, .ref (h + 9), .int 0, .int 0, .int 0, .int 0, .int 0, .int 0, .int 0, .int 0]
def MoX (cy : Nat → ClassId) (h : Nat) (g : Nat → Int32) : List va_E := .inr (12, MoF h) :: [.inl (cy 0, 691, .inl g), AI cy 691, AI cy 4146, AI cy 1382, .inl (cy 1, 2, .inl (fun _ => 0)), AI cy 60, AI cy 12, AI cy 3, AI cy 62]
def MoL (cy : Nat → ClassId) (h : Nat) : List va_E := MoX cy h (mS 36)
theorem MoL_len {cy : Nat → ClassId} {h : Nat} : (MoL cy h).length = 10 := rfl

theorem c_at1 (l : Launch) (x y : Int32) (sz : Nat) : Met l yX12_at1 (WS yX12_at1 cX12_at1 2 (some .int)) (Rm 0 0) (va_Pc [.int x, .int y] (fun U => U.heap.size = sz)) (va_Qi (fun r (_ : Unit) => r = 22 + 223 * x + y) (fun _ u => u.heap.size = sz) (fun _ => False)) 0 0 (fun _ => False) := by
  refine Met.ofW (cc := cX12_at1) (maxL := 2) (ret := some .int) (ws' := lw_good) (by decide) rfl ?_
  intro p e s m args below meth c s₁ B hml hv
  obtain ⟨rfl, hsz⟩ := hv
  rw [lg_entry_eq]
  have hx := B.exec
  have hb := B.bytes
  have hl := lv_entry [.int x, .int y] (n := 2) (Nat.le_of_ble_eq_true rfl)
  generalize (lg_sl [.int x, .int y] ++ List.replicate (2 - (lg_sl [.int x, .int y]).length) Slot.unset).toArray = ls at hl ⊢
  have hl : lv_has ls 2 [(0, .int x), (1, .int y)] := hl
  refine lv_bipush (pc := 0) (v := 22) hx hb dX12_at1_0 (by decide) ?_
  refine lv_sipush (pc := 2) (v := 223) hx hb dX12_at1_2 (by decide) ?_
  refine lv_iload_n (pc := 5) hx hb dX12_at1_5 rfl (lv_at hl 0 rfl) ?_
  refine lv_imul (pc := 6) hx hb dX12_at1_6 ?_
  refine lv_iadd (pc := 7) hx hb dX12_at1_7 ?_
  refine lv_iload_n (pc := 8) hx hb dX12_at1_8 rfl (lv_at hl 1 rfl) ?_
  refine lv_iadd (pc := 9) hx hb dX12_at1_9 ?_
  exact W.zret (pc := 10) hx hb B.returns rfl (fun t ht _ => ⟨⟨_, (), rfl, rfl, by show t.heap.size = sz; rw [ht]; exact hsz⟩, va_S.rf.F ht⟩) (fun q h => by cases h) dX12_at1_10 B.notSynchronized
section MO
variable {p : Program} {l : Launch} {e : Env} {R : Room} {s : State} {m : MethodId} {args : Array Value} {below : List Frame} {meth : Method} {c : Code} {H : Heap} {locs : List Loc} {cells slots : Nat} {Q : State → Prop}
variable {cc : ByteArray} {pc nL : Nat} {ls : Array Slot} {rest : List Value} {D : va_G} {cy : Nat → ClassId} {t a : Nat} {es : List va_E}
theorem i_at1 (F : FC p s m args c RX12 cc nL D cy t a) (hW : WX D a es H) (hS : va_S (AA a) s.heap H locs) {x y : Int32} (hR : 1 ≤ R.frames ∧ 21 ≤ R.locals) (hls : ls.size = nL) (hroom : (rest.map fun v => v.category).sum ≤ 8) (hc : cells ≤ R.cells) (hs : slots ≤ R.slots) (hdg : decode cc pc = .ok (.invokestatic 38, 3))
    (kk : ∀ (H1 : Heap) (locs1 : List Loc), WX D a es H1 → va_S (AA a) s.heap H1 locs1 → W p l e R s m args below meth c H1 locs1 cells slots Q (F0 m (pc + 3) ls (.int (22 + 223 * x + y) :: rest))) : W p l e R s m args below meth c H locs cells slots Q (F0 m pc ls (.int y :: .int x :: rest)) := by
  obtain ⟨hx, hb, hml, hown, hts, -⟩ := F
  obtain ⟨h1, h2, h3, h4, h5⟩ := mfX12_at1
  simp only [Bool.false_eq_true, if_false] at h3
  refine va_calli (va_runS (As := [.int x, .int y]) (rest := rest) ⟨hx, hb, hml, hown, hts⟩ (c_at1 l x y H.size) ⟨callB_of (ws' := lw_good) 2 hts (ws_good h1) rfl rfl rfl (hts _ h2) (hts _ w900) ⟨h4.1, h4.2, h5⟩ hR, hts _ h3⟩ ⟨fun a U g mk q => q, fun U hU _ => ⟨rfl, by show Array.size U.heap = Array.size H; rw [hU]⟩⟩ rfl rfl hls rfl (lv_room hroom) hdg ⟨hc, hs⟩) hS (fun q _ h => h.elim) (fun q h => h.elim) (fun r u t H1 locs1 ht _ hr hB _ hk1 hS1 => ?_)
  rw [hr]
  refine kk H1 locs1 ⟨?_, SG_kept hW.2 (fun q _ hq => hk1 q ?_ (fun z => z))⟩ hS1
  · have hz : t.heap.size = H.size := hB
    rw [← ht, hz]
    exact hW.1
  · rw [hW.1]
    exact hq
end MO
theorem dv12 : ∀ k, k < 36 → nI k / 12 = nI (k / 12) ∧ nI k - nI k / 12 * 12 = nI (k % 12) := by decide +kernel
theorem rm3 : ∀ k, k < 12 → nI k - nI k / 3 * 3 = nI (k % 3) := by decide +kernel
set_option maxHeartbeats 4000000 in
theorem mod_loop {p : Program} {l : Launch} {e : Env} {s : State} {m : MethodId} {args : Array Value} {below : List Frame} {meth : Method} {c : Code} {cells slots : Nat} {Q : State → Prop} {D : va_G} {cy : Nat → ClassId} {t a : Nat} (F : FC p s m args c RX12 cX12_init 2 D cy t a) (K1 : ∀ (H : Heap) (locs : List Loc) (ls : Array Slot), WX D a (MoX cy a (mS 36)) H → va_S (AA a) s.heap H locs → W p l e { frames := 2, cells := 9, slots := 7049, locals := 70 } s m args below meth c H locs cells slots Q (F0 m 142 ls [])) (hcs : cells ≤ 9) (hss : slots ≤ 7049) : ∀ (d k : Nat) (H : Heap) (locs : List Loc) (ls : Array Slot), k + d = 36 → WX D a (MoX cy a (mS k)) H → va_S (AA a) s.heap H locs → lv_has ls 2 [(0, .ref a), (1, .int (nI k))] → W p l e { frames := 2, cells := 9, slots := 7049, locals := 70 } s m args below meth c H locs cells slots Q (F0 m 105 ls []) := by
  have hx := F.1
  have hb := F.2.1
  intro d
  induction d with
  | zero =>
    intro k H locs ls hk hW hS hl
    have e : k = 36 := by omega
    subst e
    refine lv_iload_n (pc := 105) hx hb dX12_init_105 rfl (lv_at hl 1 rfl) ?_
    refine lv_bipush (pc := 106) (v := 36) hx hb dX12_init_106 (by decide) ?_
    exact lv_icmp_ge (pc := 108) (tgt := 142) hx hb dX12_init_108 (by decide) (fun c1 => K1 H locs ls hW hS) (fun c1 => absurd (by decide) c1)
  | succ d ih =>
    intro k H locs ls hk hW hS hl
    refine lv_iload_n (pc := 105) hx hb dX12_init_105 rfl (lv_at hl 1 rfl) ?_
    refine lv_bipush (pc := 106) (v := 36) hx hb dX12_init_106 (by decide) ?_
    refine lv_icmp_ge (pc := 108) (tgt := 142) hx hb dX12_init_108 (by decide) (fun c1 => absurd ((nI_leE (a := 36) (by omega) (by omega)).mp c1) (by omega)) (fun c1 => ?_)
    refine lv_aload_n (pc := 111) hx hb dX12_init_111 rfl (lv_at hl 0 rfl) ?_
    refine i_get (pc := 112) (ci := 12) (k := 0) (n := 0) (X := []) F hW rfl cl12 inRX12 (by decide) w903 rfl rfl dX12_init_112 ?_
    refine lv_iload_n (pc := 115) hx hb dX12_init_115 rfl (lv_at hl 1 rfl) ?_
    refine lv_bipush (pc := 116) (v := 12) hx hb dX12_init_116 (by decide) ?_
    refine lv_idiv (pc := 118) hx hb dX12_init_118 (by decide) ?_
    refine lv_bipush (pc := 119) (v := 75) hx hb dX12_init_119 (by decide) ?_
    refine lv_iload_n (pc := 121) hx hb dX12_init_121 rfl (lv_at hl 1 rfl) ?_
    refine lv_bipush (pc := 122) (v := 12) hx hb dX12_init_122 (by decide) ?_
    refine lv_irem (pc := 124) hx hb dX12_init_124 (by decide) ?_
    refine lv_iadd (pc := 125) hx hb dX12_init_125 ?_
    refine i_at1 (pc := 126) F hW hS ⟨(Nat.le_of_ble_eq_true rfl), (Nat.le_of_ble_eq_true rfl)⟩ hl.1 (Nat.le_of_ble_eq_true rfl) hcs hss dX12_init_126 (fun H locs hW hS => ?_)
    refine lv_iload_n (pc := 129) hx hb dX12_init_129 rfl (lv_at hl 1 rfl) ?_
    refine lv_bipush (pc := 130) (v := 12) hx hb dX12_init_130 (by decide) ?_
    refine lv_irem (pc := 132) hx hb dX12_init_132 (by decide) ?_
    refine lv_iconst (pc := 133) (v := 3) hx hb dX12_init_133 (by decide) ?_
    refine lv_irem (pc := 134) hx hb dX12_init_134 (by decide) ?_
    have e1 := dv12 k (by omega)
    rw [e1.2, rm3 (k % 12) (Nat.mod_lt _ (by omega)), e1.1]
    have e2 : (22 : Int32) + 223 * nI (k / 12) + (75 + nI (k % 12)) = nI (AX (k / 12) (75 + k % 12)) := by
      unfold AX
      rw [li22, li223, li75, nI_mulE, nI_addE, nI_addE, nI_addE]
    refine i_iast (pc := 135) (n := 1) (N := 691) (k := AX (k / 12) (75 + k % 12)) (X := [.inr (12, MoF a)]) (Y := [AI cy 691, AI cy 4146, AI cy 1382, .inl (cy 1, 2, .inl (fun _ => 0)), AI cy 60, AI cy 12, AI cy 3, AI cy 62]) (f := mS k) F hW hS rfl e2 (by unfold AX; omega) (by omega) rfl dX12_init_135 (fun H locs hW hS => ?_)
    refine lv_iinc (pc := 136) (lv' := [(1, .int (nI (k + 1))), (0, .ref a)]) hx hb dX12_init_136 hl (k := 1) rfl (nI_addE k 1) (by decide) rfl (fun ls hl => ?_)
    refine lv_goto (pc := 139) (tgt := 105) hx hb dX12_init_139 (by decide) ?_
    exact ih (k + 1) H locs ls (by omega) hW hS (lv_sub hl [1, 0] rfl)

set_option maxHeartbeats 4000000 in
theorem mcX12 {l : Launch} {D : va_G} {cy : Nat → ClassId} {t : Nat} : MC l yX12_init cX12_init 2 2 70 9 7049 D cy t (fun h => []) X12N (MoL cy) := by
  refine MC_of (own := RX12) (by decide) rfl rfl (fun a => Nat.le_of_ble_eq_true rfl) ?_
  intro a p e s m args below meth c F hr hlo hmi hW hS ls hl
  have hx := F.1
  have hb := F.2.1
  have hl : lv_has ls 2 [(0, .ref a)] := hl
  refine lv_aload_n (pc := 0) hx hb dX12_init_0 rfl (lv_at hl 0 rfl) ?_
  refine i_obj (pc := 1) F w899 hl.1 (Nat.le_of_ble_eq_true rfl) (Nat.le_of_ble_eq_true rfl) dX12_init_1 ?_
  refine lv_aload_n (pc := 4) hx hb dX12_init_4 rfl (lv_at hl 0 rfl) ?_
  refine lv_sipush (pc := 5) (v := 691) hx hb dX12_init_5 (by decide) ?_
  refine i_newI (pc := 8) (n := 1) (N := 691) F hW hS rfl rfl (by omega) (Nat.le_of_ble_eq_true rfl) (Nat.le_of_ble_eq_true rfl) dX12_init_8 (fun H hW hS => ?_)
  have hW : WX D a [.inr (12, [.null, .null, .null, .int 0, .null, .null, .null, .int 0, .null, .null, .int 0, .int 0, .null, .int 0, .int 0, .int 0, .int 0, .int 0, .int 0, .int 0, .int 0]), AI cy 691] H := hW
  refine i_put (pc := 10) (ci := 12) (k := 0) (ty := tyX12 0) F hmi hW hS cl12 tyX12_ok nmX12 inRX12 (by decide) w903 rfl rfl (tyX12_ok 0 (by decide)) rfl rfl (Nat.le_of_ble_eq_true rfl) dX12_init_10 (fun H locs hW hS => ?_)
  have hW : WX D a ([.inr (12, [.ref (a + 1), .null, .null, .int 0, .null, .null, .null, .int 0, .null, .null, .int 0, .int 0, .null, .int 0, .int 0, .int 0, .int 0, .int 0, .int 0, .int 0, .int 0]), AI cy 691]) H := hW
  refine lv_aload_n (pc := 13) hx hb dX12_init_13 rfl (lv_at hl 0 rfl) ?_
  refine lv_sipush (pc := 14) (v := 691) hx hb dX12_init_14 (by decide) ?_
  refine i_newI (pc := 17) (n := 2) (N := 691) F hW hS rfl rfl (by omega) (Nat.le_of_ble_eq_true rfl) (Nat.le_of_ble_eq_true rfl) dX12_init_17 (fun H hW hS => ?_)
  have hW : WX D a [.inr (12, [.ref (a + 1), .null, .null, .int 0, .null, .null, .null, .int 0, .null, .null, .int 0, .int 0, .null, .int 0, .int 0, .int 0, .int 0, .int 0, .int 0, .int 0, .int 0]), AI cy 691, AI cy 691] H := hW
  refine i_put (pc := 19) (ci := 12) (k := 1) (ty := tyX12 1) F hmi hW hS cl12 tyX12_ok nmX12 inRX12 (by decide) w904 rfl rfl (tyX12_ok 1 (by decide)) rfl rfl (Nat.le_of_ble_eq_true rfl) dX12_init_19 (fun H locs hW hS => ?_)
  have hW : WX D a ([.inr (12, [.ref (a + 1), .ref (a + 2), .null, .int 0, .null, .null, .null, .int 0, .null, .null, .int 0, .int 0, .null, .int 0, .int 0, .int 0, .int 0, .int 0, .int 0, .int 0, .int 0]), AI cy 691, AI cy 691]) H := hW
  refine lv_aload_n (pc := 22) hx hb dX12_init_22 rfl (lv_at hl 0 rfl) ?_
  refine lv_sipush (pc := 23) (v := 4146) hx hb dX12_init_23 (by decide) ?_
  refine i_newI (pc := 26) (n := 3) (N := 4146) F hW hS rfl rfl (by omega) (Nat.le_of_ble_eq_true rfl) (Nat.le_of_ble_eq_true rfl) dX12_init_26 (fun H hW hS => ?_)
  have hW : WX D a [.inr (12, [.ref (a + 1), .ref (a + 2), .null, .int 0, .null, .null, .null, .int 0, .null, .null, .int 0, .int 0, .null, .int 0, .int 0, .int 0, .int 0, .int 0, .int 0, .int 0, .int 0]), AI cy 691, AI cy 691, AI cy 4146] H := hW
  refine i_put (pc := 28) (ci := 12) (k := 2) (ty := tyX12 2) F hmi hW hS cl12 tyX12_ok nmX12 inRX12 (by decide) w905 rfl rfl (tyX12_ok 2 (by decide)) rfl rfl (Nat.le_of_ble_eq_true rfl) dX12_init_28 (fun H locs hW hS => ?_)
  have hW : WX D a ([.inr (12, [.ref (a + 1), .ref (a + 2), .ref (a + 3), .int 0, .null, .null, .null, .int 0, .null, .null, .int 0, .int 0, .null, .int 0, .int 0, .int 0, .int 0, .int 0, .int 0, .int 0, .int 0]), AI cy 691, AI cy 691, AI cy 4146]) H := hW
  refine lv_aload_n (pc := 31) hx hb dX12_init_31 rfl (lv_at hl 0 rfl) ?_
  refine lv_sipush (pc := 32) (v := 1382) hx hb dX12_init_32 (by decide) ?_
  refine i_newI (pc := 35) (n := 4) (N := 1382) F hW hS rfl rfl (by omega) (Nat.le_of_ble_eq_true rfl) (Nat.le_of_ble_eq_true rfl) dX12_init_35 (fun H hW hS => ?_)
  have hW : WX D a [.inr (12, [.ref (a + 1), .ref (a + 2), .ref (a + 3), .int 0, .null, .null, .null, .int 0, .null, .null, .int 0, .int 0, .null, .int 0, .int 0, .int 0, .int 0, .int 0, .int 0, .int 0, .int 0]), AI cy 691, AI cy 691, AI cy 4146, AI cy 1382] H := hW
  refine i_put (pc := 37) (ci := 12) (k := 4) (ty := tyX12 4) F hmi hW hS cl12 tyX12_ok nmX12 inRX12 (by decide) w907 rfl rfl (tyX12_ok 4 (by decide)) rfl rfl (Nat.le_of_ble_eq_true rfl) dX12_init_37 (fun H locs hW hS => ?_)
  have hW : WX D a ([.inr (12, [.ref (a + 1), .ref (a + 2), .ref (a + 3), .int 0, .ref (a + 4), .null, .null, .int 0, .null, .null, .int 0, .int 0, .null, .int 0, .int 0, .int 0, .int 0, .int 0, .int 0, .int 0, .int 0]), AI cy 691, AI cy 691, AI cy 4146, AI cy 1382]) H := hW
  refine lv_aload_n (pc := 40) hx hb dX12_init_40 rfl (lv_at hl 0 rfl) ?_
  refine lv_iconst (pc := 41) (v := 2) hx hb dX12_init_41 (by decide) ?_
  refine i_newZ (pc := 42) (n := 5) (N := 2) F hW hS rfl rfl (by omega) (Nat.le_of_ble_eq_true rfl) (Nat.le_of_ble_eq_true rfl) dX12_init_42 (fun H hW hS => ?_)
  have hW : WX D a [.inr (12, [.ref (a + 1), .ref (a + 2), .ref (a + 3), .int 0, .ref (a + 4), .null, .null, .int 0, .null, .null, .int 0, .int 0, .null, .int 0, .int 0, .int 0, .int 0, .int 0, .int 0, .int 0, .int 0]), AI cy 691, AI cy 691, AI cy 4146, AI cy 1382, .inl (cy 1, 2, .inl (fun _ => 0))] H := hW
  refine i_put (pc := 44) (ci := 12) (k := 5) (ty := tyX12 5) F hmi hW hS cl12 tyX12_ok nmX12 inRX12 (by decide) w908 rfl rfl (tyX12_ok 5 (by decide)) rfl rfl (Nat.le_of_ble_eq_true rfl) dX12_init_44 (fun H locs hW hS => ?_)
  have hW : WX D a ([.inr (12, [.ref (a + 1), .ref (a + 2), .ref (a + 3), .int 0, .ref (a + 4), .ref (a + 5), .null, .int 0, .null, .null, .int 0, .int 0, .null, .int 0, .int 0, .int 0, .int 0, .int 0, .int 0, .int 0, .int 0]), AI cy 691, AI cy 691, AI cy 4146, AI cy 1382, .inl (cy 1, 2, .inl (fun _ => 0))]) H := hW
  refine lv_aload_n (pc := 47) hx hb dX12_init_47 rfl (lv_at hl 0 rfl) ?_
  refine lv_bipush (pc := 48) (v := 60) hx hb dX12_init_48 (by decide) ?_
  refine i_newI (pc := 50) (n := 6) (N := 60) F hW hS rfl rfl (by omega) (Nat.le_of_ble_eq_true rfl) (Nat.le_of_ble_eq_true rfl) dX12_init_50 (fun H hW hS => ?_)
  have hW : WX D a [.inr (12, [.ref (a + 1), .ref (a + 2), .ref (a + 3), .int 0, .ref (a + 4), .ref (a + 5), .null, .int 0, .null, .null, .int 0, .int 0, .null, .int 0, .int 0, .int 0, .int 0, .int 0, .int 0, .int 0, .int 0]), AI cy 691, AI cy 691, AI cy 4146, AI cy 1382, .inl (cy 1, 2, .inl (fun _ => 0)), AI cy 60] H := hW
  refine i_put (pc := 52) (ci := 12) (k := 6) (ty := tyX12 6) F hmi hW hS cl12 tyX12_ok nmX12 inRX12 (by decide) w909 rfl rfl (tyX12_ok 6 (by decide)) rfl rfl (Nat.le_of_ble_eq_true rfl) dX12_init_52 (fun H locs hW hS => ?_)
  have hW : WX D a ([.inr (12, [.ref (a + 1), .ref (a + 2), .ref (a + 3), .int 0, .ref (a + 4), .ref (a + 5), .ref (a + 6), .int 0, .null, .null, .int 0, .int 0, .null, .int 0, .int 0, .int 0, .int 0, .int 0, .int 0, .int 0, .int 0]), AI cy 691, AI cy 691, AI cy 4146, AI cy 1382, .inl (cy 1, 2, .inl (fun _ => 0)), AI cy 60]) H := hW
  refine lv_aload_n (pc := 55) hx hb dX12_init_55 rfl (lv_at hl 0 rfl) ?_
  refine lv_bipush (pc := 56) (v := 12) hx hb dX12_init_56 (by decide) ?_
  refine i_newI (pc := 58) (n := 7) (N := 12) F hW hS rfl rfl (by omega) (Nat.le_of_ble_eq_true rfl) (Nat.le_of_ble_eq_true rfl) dX12_init_58 (fun H hW hS => ?_)
  have hW : WX D a [.inr (12, [.ref (a + 1), .ref (a + 2), .ref (a + 3), .int 0, .ref (a + 4), .ref (a + 5), .ref (a + 6), .int 0, .null, .null, .int 0, .int 0, .null, .int 0, .int 0, .int 0, .int 0, .int 0, .int 0, .int 0, .int 0]), AI cy 691, AI cy 691, AI cy 4146, AI cy 1382, .inl (cy 1, 2, .inl (fun _ => 0)), AI cy 60, AI cy 12] H := hW
  refine i_put (pc := 60) (ci := 12) (k := 8) (ty := tyX12 8) F hmi hW hS cl12 tyX12_ok nmX12 inRX12 (by decide) w911 rfl rfl (tyX12_ok 8 (by decide)) rfl rfl (Nat.le_of_ble_eq_true rfl) dX12_init_60 (fun H locs hW hS => ?_)
  have hW : WX D a ([.inr (12, [.ref (a + 1), .ref (a + 2), .ref (a + 3), .int 0, .ref (a + 4), .ref (a + 5), .ref (a + 6), .int 0, .ref (a + 7), .null, .int 0, .int 0, .null, .int 0, .int 0, .int 0, .int 0, .int 0, .int 0, .int 0, .int 0]), AI cy 691, AI cy 691, AI cy 4146, AI cy 1382, .inl (cy 1, 2, .inl (fun _ => 0)), AI cy 60, AI cy 12]) H := hW
  refine lv_aload_n (pc := 63) hx hb dX12_init_63 rfl (lv_at hl 0 rfl) ?_
  refine lv_iconst (pc := 64) (v := 3) hx hb dX12_init_64 (by decide) ?_
  refine i_newI (pc := 65) (n := 8) (N := 3) F hW hS rfl rfl (by omega) (Nat.le_of_ble_eq_true rfl) (Nat.le_of_ble_eq_true rfl) dX12_init_65 (fun H hW hS => ?_)
  have hW : WX D a [.inr (12, [.ref (a + 1), .ref (a + 2), .ref (a + 3), .int 0, .ref (a + 4), .ref (a + 5), .ref (a + 6), .int 0, .ref (a + 7), .null, .int 0, .int 0, .null, .int 0, .int 0, .int 0, .int 0, .int 0, .int 0, .int 0, .int 0]), AI cy 691, AI cy 691, AI cy 4146, AI cy 1382, .inl (cy 1, 2, .inl (fun _ => 0)), AI cy 60, AI cy 12, AI cy 3] H := hW
  refine i_put (pc := 67) (ci := 12) (k := 9) (ty := tyX12 9) F hmi hW hS cl12 tyX12_ok nmX12 inRX12 (by decide) w912 rfl rfl (tyX12_ok 9 (by decide)) rfl rfl (Nat.le_of_ble_eq_true rfl) dX12_init_67 (fun H locs hW hS => ?_)
  have hW : WX D a ([.inr (12, [.ref (a + 1), .ref (a + 2), .ref (a + 3), .int 0, .ref (a + 4), .ref (a + 5), .ref (a + 6), .int 0, .ref (a + 7), .ref (a + 8), .int 0, .int 0, .null, .int 0, .int 0, .int 0, .int 0, .int 0, .int 0, .int 0, .int 0]), AI cy 691, AI cy 691, AI cy 4146, AI cy 1382, .inl (cy 1, 2, .inl (fun _ => 0)), AI cy 60, AI cy 12, AI cy 3]) H := hW
  refine lv_aload_n (pc := 70) hx hb dX12_init_70 rfl (lv_at hl 0 rfl) ?_
  refine lv_bipush (pc := 71) (v := 62) hx hb dX12_init_71 (by decide) ?_
  refine i_newI (pc := 73) (n := 9) (N := 62) F hW hS rfl rfl (by omega) (Nat.le_of_ble_eq_true rfl) (Nat.le_of_ble_eq_true rfl) dX12_init_73 (fun H hW hS => ?_)
  have hW : WX D a [.inr (12, [.ref (a + 1), .ref (a + 2), .ref (a + 3), .int 0, .ref (a + 4), .ref (a + 5), .ref (a + 6), .int 0, .ref (a + 7), .ref (a + 8), .int 0, .int 0, .null, .int 0, .int 0, .int 0, .int 0, .int 0, .int 0, .int 0, .int 0]), AI cy 691, AI cy 691, AI cy 4146, AI cy 1382, .inl (cy 1, 2, .inl (fun _ => 0)), AI cy 60, AI cy 12, AI cy 3, AI cy 62] H := hW
  refine i_put (pc := 75) (ci := 12) (k := 12) (ty := tyX12 12) F hmi hW hS cl12 tyX12_ok nmX12 inRX12 (by decide) w915 rfl rfl (tyX12_ok 12 (by decide)) rfl rfl (Nat.le_of_ble_eq_true rfl) dX12_init_75 (fun H locs hW hS => ?_)
  have hW : WX D a ([.inr (12, [.ref (a + 1), .ref (a + 2), .ref (a + 3), .int 0, .ref (a + 4), .ref (a + 5), .ref (a + 6), .int 0, .ref (a + 7), .ref (a + 8), .int 0, .int 0, .ref (a + 9), .int 0, .int 0, .int 0, .int 0, .int 0, .int 0, .int 0, .int 0]), AI cy 691, AI cy 691, AI cy 4146, AI cy 1382, .inl (cy 1, 2, .inl (fun _ => 0)), AI cy 60, AI cy 12, AI cy 3, AI cy 62]) H := hW
  refine lv_aload_n (pc := 78) hx hb dX12_init_78 rfl (lv_at hl 0 rfl) ?_
  refine i_get (pc := 79) (ci := 12) (k := 0) (n := 0) (X := []) F hW rfl cl12 inRX12 (by decide) w903 rfl rfl dX12_init_79 ?_
  refine lv_iconst (pc := 82) (v := 0) hx hb dX12_init_82 (by decide) ?_
  refine lv_sipush (pc := 83) (v := 2400) hx hb dX12_init_83 (by decide) ?_
  refine i_iast (pc := 86) (n := 1) (N := 691) (k := 0) (X := [.inr (12, [.ref (a + 1), .ref (a + 2), .ref (a + 3), .int 0, .ref (a + 4), .ref (a + 5), .ref (a + 6), .int 0, .ref (a + 7), .ref (a + 8), .int 0, .int 0, .ref (a + 9), .int 0, .int 0, .int 0, .int 0, .int 0, .int 0, .int 0, .int 0])]) (Y := [AI cy 691, AI cy 4146, AI cy 1382, .inl (cy 1, 2, .inl (fun _ => 0)), AI cy 60, AI cy 12, AI cy 3, AI cy 62]) (f := fun _ => 0) F hW hS rfl rfl (by omega) (by omega) rfl dX12_init_86 (fun H locs hW hS => ?_)
  have hW : WX D a [.inr (12, [.ref (a + 1), .ref (a + 2), .ref (a + 3), .int 0, .ref (a + 4), .ref (a + 5), .ref (a + 6), .int 0, .ref (a + 7), .ref (a + 8), .int 0, .int 0, .ref (a + 9), .int 0, .int 0, .int 0, .int 0, .int 0, .int 0, .int 0, .int 0]), .inl (cy 0, 691, .inl (upd (fun _ => 0) 0 2400)), AI cy 691, AI cy 4146, AI cy 1382, .inl (cy 1, 2, .inl (fun _ => 0)), AI cy 60, AI cy 12, AI cy 3, AI cy 62] H := hW
  refine lv_aload_n (pc := 87) hx hb dX12_init_87 rfl (lv_at hl 0 rfl) ?_
  refine i_get (pc := 88) (ci := 12) (k := 0) (n := 0) (X := []) F hW rfl cl12 inRX12 (by decide) w903 rfl rfl dX12_init_88 ?_
  refine lv_iconst (pc := 91) (v := 1) hx hb dX12_init_91 (by decide) ?_
  refine lv_sipush (pc := 92) (v := 7000) hx hb dX12_init_92 (by decide) ?_
  refine i_iast (pc := 95) (n := 1) (N := 691) (k := 1) (X := [.inr (12, [.ref (a + 1), .ref (a + 2), .ref (a + 3), .int 0, .ref (a + 4), .ref (a + 5), .ref (a + 6), .int 0, .ref (a + 7), .ref (a + 8), .int 0, .int 0, .ref (a + 9), .int 0, .int 0, .int 0, .int 0, .int 0, .int 0, .int 0, .int 0])]) (Y := [AI cy 691, AI cy 4146, AI cy 1382, .inl (cy 1, 2, .inl (fun _ => 0)), AI cy 60, AI cy 12, AI cy 3, AI cy 62]) (f := upd (fun _ => 0) 0 2400) F hW hS rfl rfl (by omega) (by omega) rfl dX12_init_95 (fun H locs hW hS => ?_)
  have hW : WX D a [.inr (12, [.ref (a + 1), .ref (a + 2), .ref (a + 3), .int 0, .ref (a + 4), .ref (a + 5), .ref (a + 6), .int 0, .ref (a + 7), .ref (a + 8), .int 0, .int 0, .ref (a + 9), .int 0, .int 0, .int 0, .int 0, .int 0, .int 0, .int 0, .int 0]), .inl (cy 0, 691, .inl (upd (upd (fun _ => 0) 0 2400) 1 7000)), AI cy 691, AI cy 4146, AI cy 1382, .inl (cy 1, 2, .inl (fun _ => 0)), AI cy 60, AI cy 12, AI cy 3, AI cy 62] H := hW
  refine lv_aload_n (pc := 96) hx hb dX12_init_96 rfl (lv_at hl 0 rfl) ?_
  refine i_get (pc := 97) (ci := 12) (k := 0) (n := 0) (X := []) F hW rfl cl12 inRX12 (by decide) w903 rfl rfl dX12_init_97 ?_
  refine lv_iconst (pc := 100) (v := 2) hx hb dX12_init_100 (by decide) ?_
  refine lv_iconst (pc := 101) (v := 3) hx hb dX12_init_101 (by decide) ?_
  refine i_iast (pc := 102) (n := 1) (N := 691) (k := 2) (X := [.inr (12, [.ref (a + 1), .ref (a + 2), .ref (a + 3), .int 0, .ref (a + 4), .ref (a + 5), .ref (a + 6), .int 0, .ref (a + 7), .ref (a + 8), .int 0, .int 0, .ref (a + 9), .int 0, .int 0, .int 0, .int 0, .int 0, .int 0, .int 0, .int 0])]) (Y := [AI cy 691, AI cy 4146, AI cy 1382, .inl (cy 1, 2, .inl (fun _ => 0)), AI cy 60, AI cy 12, AI cy 3, AI cy 62]) (f := upd (upd (fun _ => 0) 0 2400) 1 7000) F hW hS rfl rfl (by omega) (by omega) rfl dX12_init_102 (fun H locs hW hS => ?_)
  have hW : WX D a [.inr (12, [.ref (a + 1), .ref (a + 2), .ref (a + 3), .int 0, .ref (a + 4), .ref (a + 5), .ref (a + 6), .int 0, .ref (a + 7), .ref (a + 8), .int 0, .int 0, .ref (a + 9), .int 0, .int 0, .int 0, .int 0, .int 0, .int 0, .int 0, .int 0]), .inl (cy 0, 691, .inl (upd (upd (upd (fun _ => 0) 0 2400) 1 7000) 2 3)), AI cy 691, AI cy 4146, AI cy 1382, .inl (cy 1, 2, .inl (fun _ => 0)), AI cy 60, AI cy 12, AI cy 3, AI cy 62] H := hW
  refine lv_iconst (pc := 103) (v := 0) hx hb dX12_init_103 (by decide) ?_
  refine lv_istore_n (pc := 104) (lv' := [(1, .int 0), (0, .ref a)]) hx hb dX12_init_104 rfl hl (by decide) rfl (fun ls hl => ?_)
  exact mod_loop F (fun H locs ls hW hS => i_vret (pc := 142) F hr hlo hW hS (Nat.le_of_ble_eq_true rfl) (Nat.le_of_ble_eq_true rfl) dX12_init_142) (Nat.le_of_ble_eq_true rfl) (Nat.le_of_ble_eq_true rfl) 36 0 _ _ _ (by omega) hW hS (lv_sub hl [1, 0] rfl)
