/-! the law from its entry, but for the one row of new T[n][m] -/
theorem aoA {ty : FieldType} {A : Array Value} {s : State} (h : (Cond.arrayOver (.array ty)).before A s = true) : ∃ c k comp, s.vm.findClass ("[" ++ (FieldType.array ty).toString) = some c ∧ s.vm.classes[c]? = some k ∧ k.kind = .array comp (.array ty) := by
  simp only [Cond.before, Cond.holds, Cond.value, beq_iff_eq] at h
  cases hc : s.vm.findClass (FieldType.array ty).toString with
  | none => simp [hc] at h
  | some comp =>
    simp only [hc, Option.bind_some, Option.bind_eq_some_iff, Option.map_eq_some_iff] at h
    obtain ⟨c, h1, k, hk, h2⟩ := h
    cases hkind : k.kind with
    | array comp' t' =>
      rw [hkind] at h2
      simp only [Bool.and_eq_true, decide_eq_true_eq] at h2
      exact ⟨c, k, comp', h2.2, hk, by rw [hkind, h2.1]⟩
    | _ => rw [hkind] at h2; simp at h2
theorem tb_in {w : Cond} {i : Nat} (h : tables_1[i]? = some w) : w ∈ lw_tbl := List.mem_append_right _ (List.mem_of_getElem? h)
theorem stat_of {args : Array Value} {s : State} {k : Nat} {n : String} {A : Nat → Prop} (hls : (Cond.laysStatic "PhaseLights" n "[I").before args s = true) (hini : (Cond.initialized "PhaseLights").before args s = true) (harr : (Cond.arrayOf (.static "PhaseLights" n "[I") .int).before args s = true) (hlen : (Cond.eq (.length (.static "PhaseLights" n "[I")) (.int 3)).before args s = true) (h0 : (Cond.eq (.elem (.static "PhaseLights" n "[I") (.int 0)) (.int (sta k 0))).before args s = true) (h1 : (Cond.eq (.elem (.static "PhaseLights" n "[I") (.int 1)) (.int (sta k 1))).before args s = true) (h2 : (Cond.eq (.elem (.static "PhaseLights" n "[I") (.int 2)) (.int (sta k 2))).before args s = true) (hA : ∀ a : Nat, a < s.heap.size → ¬ A a) :
    ∃ t : Nat, (Term.static "PhaseLights" n "[I").eval args s none [] s = some (.ref t) ∧ Zo A k t n s s.heap := by
  obtain ⟨t, ht, hT⟩ := va_Tof (N := 3) (f := fun j => .int (sta k j)) (A := A) (by omega) harr (va_eqt hlen) (fun j hj => by
    rcases (show j = 0 ∨ j = 1 ∨ j = 2 by omega) with rfl | rfl | rfl
    · exact va_eqt h0
    · exact va_eqt h1
    · exact va_eqt h2) hA
  exact ⟨t, ht, va_Zof hls hini ht hA, hT⟩
theorem zc_of {args : Array Value} {s : State} {t : Nat} {A : Nat → Prop} (ht : (Term.static "PhaseLights" "FIRST_SETTING" "[I").eval args s none [] s = some (.ref t)) (harr : (Cond.arrayOf (.static "PhaseLights" "FIRST_SETTING" "[I") .int).before args s = true) (hlen : (Cond.eq (.length (.static "PhaseLights" "FIRST_SETTING" "[I")) (.int 3)).before args s = true) (hex : (Cond.exactly (.static "PhaseLights" "FIRST_SETTING" "[I") "[I").before args s = true) (hT : Zo A 0 t "FIRST_SETTING" s s.heap) : ZC t A s s.heap := by
  obtain ⟨cell, h1, h2, h3, h4, h5, h6, h7⟩ := hT.2
  obtain ⟨a, c, cell', k, e1, e2, e3, e4, e5, e6, -⟩ := Cond.exactly_spec hex
  cases ht.symm.trans e1
  cases h1.symm.trans e3
  have hl := va_eqt hlen
  obtain ⟨a', cell', f1, f2, f3⟩ := Term.length_spec hl
  cases ht.symm.trans f1
  obtain ⟨g1, -, -, -⟩ := State.arrayAt?_spec f2
  cases h1.symm.trans g1
  have hsz : cell.slots.size < 2 ^ 31 := by
    simp only [Term.eval, f1, f2, Option.bind_eq_bind, Option.bind_some] at hl
    have ht' : (Term.static "PhaseLights" "FIRST_SETTING" "[I").eval args s none [] s = some (.ref t) := ht
    simp only [Term.eval, Option.bind_eq_bind] at ht'
    rw [ht'] at hl
    simp only [Option.bind_some, f2] at hl
    by_cases hlt : cell.slots.size < 2147483648
    · exact hlt
    · simp [hlt] at hl
  have e3' : cell.slots.size = 3 := by
    have e9 : Int32.ofNat cell.slots.size = Int32.ofNat 3 := h5
    have e10 := congrArg Int32.toInt e9
    have e11 : (Int32.ofNat cell.slots.size).toInt = (cell.slots.size : Int) := nI_toInt hsz
    have e12 : (Int32.ofNat 3).toInt = 3 := by decide
    omega
  exact ⟨cell, h1, by rw [e6]; exact e2, h2, h3, e3', h6, h7⟩
theorem known {args : Array Value} {s : State} (hts : ∀ w ∈ lw_good, w.before args s = true) : ∃ D : va_G, ∀ (k : Nat) (q : vw_C), vwCl[k]? = some q → u_Kn s q.1 q.2.1 q.2.2 (D.1 k) (D.2 k) := by
  obtain ⟨c0, i0, h0⟩ := u_known (C := RX0) (T := TX0) (N := 2) (n := 2) hts inRX0 (hts _ w90)
  obtain ⟨c1, i1, h1⟩ := u_known (C := RX1) (T := TX1) (N := 4) (n := 4) hts inRX1 (hts _ w71)
  obtain ⟨c2, i2, h2⟩ := u_known (C := RX2) (T := TX2) (N := 2) (n := 2) hts inRX2 (hts _ w180)
  obtain ⟨c3, i3, h3⟩ := u_known (C := RX3) (T := TX3) (N := 2) (n := 2) hts inRX3 (hts _ w255)
  obtain ⟨c4, i4, h4⟩ := u_known (C := RX4) (T := TX4) (N := 11) (n := 11) hts inRX4 (hts _ w197)
  obtain ⟨c5, i5, h5⟩ := u_known (C := RX5) (T := TX5) (N := 2) (n := 2) hts inRX5 (hts _ w203)
  obtain ⟨c6, i6, h6⟩ := u_known (C := RX6) (T := TX6) (N := 13) (n := 13) hts inRX6 (hts _ w63)
  obtain ⟨c7, i7, h7⟩ := u_known (C := RX7) (T := TX7) (N := 3) (n := 3) hts inRX7 (hts _ w25)
  obtain ⟨c8, i8, h8⟩ := u_known (C := RX8) (T := TX8) (N := 5) (n := 5) hts inRX8 (hts _ w292)
  obtain ⟨c9, i9, h9⟩ := u_known (C := RX9) (T := TX9) (N := 4) (n := 4) hts inRX9 (hts _ w40)
  obtain ⟨c10, i10, h10⟩ := u_known (C := RX10) (T := TX10) (N := 2) (n := 2) hts inRX10 (hts _ w276)
  obtain ⟨c11, i11, h11⟩ := u_known (C := RX11) (T := TX11) (N := 9) (n := 9) hts inRX11 (hts _ w17)
  obtain ⟨c12, i12, h12⟩ := u_known (C := RX12) (T := TX12) (N := 21) (n := 21) hts inRX12 (hts _ w895)
  refine ⟨(fun k => if k = 0 then c0 else if k = 1 then c1 else if k = 2 then c2 else if k = 3 then c3 else if k = 4 then c4 else if k = 5 then c5 else if k = 6 then c6 else if k = 7 then c7 else if k = 8 then c8 else if k = 9 then c9 else if k = 10 then c10 else if k = 11 then c11 else c12, fun k => if k = 0 then i0 else if k = 1 then i1 else if k = 2 then i2 else if k = 3 then i3 else if k = 4 then i4 else if k = 5 then i5 else if k = 6 then i6 else if k = 7 then i7 else if k = 8 then i8 else if k = 9 then i9 else if k = 10 then i10 else if k = 11 then i11 else i12), ?_⟩
  intro k q hq
  have hk : k < 13 := (List.getElem?_eq_some_iff.mp hq).1
  rcases (show k = 0 ∨ k = 1 ∨ k = 2 ∨ k = 3 ∨ k = 4 ∨ k = 5 ∨ k = 6 ∨ k = 7 ∨ k = 8 ∨ k = 9 ∨ k = 10 ∨ k = 11 ∨ k = 12 by omega) with rfl | rfl | rfl | rfl | rfl | rfl | rfl | rfl | rfl | rfl | rfl | rfl | rfl
  · cases hq
    exact h0
  · cases hq
    exact h1
  · cases hq
    exact h2
  · cases hq
    exact h3
  · cases hq
    exact h4
  · cases hq
    exact h5
  · cases hq
    exact h6
  · cases hq
    exact h7
  · cases hq
    exact h8
  · cases hq
    exact h9
  · cases hq
    exact h10
  · cases hq
    exact h11
  · cases hq
    exact h12
theorem ty_I {args : Array Value} {s : State} {ty : FieldType} (h : (Cond.arrayClass ty).before args s = true) (hr : ∀ cA : ClassId, s.vm.findClass ("[" ++ ty.toString) = some cA → va_RA s cA ty) : ∃ cA : ClassId, ArrOfT s cA ty ∧ va_RA s cA ty := by
  obtain ⟨c, k, comp, h1, h2, h3⟩ := Cond.arrayClass_spec h
  exact ⟨c, fun n z => ⟨fun k h => (by cases h), k, h2, comp, h3⟩, hr c h1⟩
theorem ty_O {args : Array Value} {s : State} {C : String} (h : (Cond.arrayOver (.object C)).before args s = true) : ∃ cA : ClassId, ArrOfT s cA (.object C) ∧ va_RA s cA (.object C) := by
  obtain ⟨comp, c, k, h1, h2, h3, h4, h5⟩ := Cond.arrayOver_spec h
  exact ⟨c, fun n z => ⟨fun k h => (by cases h), k, h3, comp, h4⟩, k, comp, h3, h4, h1, h5⟩
theorem ty_A {args : Array Value} {s : State} (h : (Cond.arrayOver (.array .int)).before args s = true) : ∃ cA : ClassId, ArrOfT s cA (.array .int) ∧ va_RA s cA (.array .int) := by
  obtain ⟨c, k, comp, h1, h2, h3⟩ := aoA h
  exact ⟨c, fun n z => ⟨fun k h => (by cases h), k, h2, comp, h3⟩, h1⟩
theorem nw_of {args : Array Value} {s : State} (hts : ∀ w ∈ lw_tbl, w.before args s = true) : Nw s := by
  intro w hw
  have h1 := hts w (List.mem_append_right _ (nestW_in w hw))
  have h2 := nestW_ok w hw
  cases w with
  | methodLinkNest a i x hh => exact va_Nw.of rfl h1
  | fieldLinkNest a i b n d hh => exact va_Nw.of rfl h1
  | _ => exact absurd h2 (by simp [nestOk])
set_option maxHeartbeats 4000000 in
theorem whole_start0 {p : Program} {e : Env} {s : State} {m : MethodId} {below : List Frame} {meth : Method} {c : Code} (l : Launch) (hm : Mna l) {b L : Nat} {xs : Nat → Int32} (hL : L ≤ 2048) (C0 : lw_At p s m meth c b L xs) : W p l e room_1 s m #[Value.ref b] below meth c s.heap [] 0 0 (lw_Z below #[Value.ref b] s) (entryFrame m ([Value.ref b] : List Value).toArray 4) := by
  obtain ⟨hx, hb, hr, hml, hown, hts, hX, hbl, hlocks, hgv⟩ := C0
  have hgood : ∀ w ∈ lw_good, w.before #[Value.ref b] s = true := fun w hw => hts w (List.mem_filter.mp hw).1
  have hg := flat_of_before _ hgv
  have hA : ∀ q : Nat, q < s.heap.size → ¬ AA s.heap.size q := fun q hq (h : s.heap.size ≤ q) => by omega
  obtain ⟨D, hD⟩ := known hgood
  obtain ⟨y0, hy0⟩ := ty_I (hgood _ w60) (fun cA h => h)
  obtain ⟨y1, hy1⟩ := ty_I (hgood _ w967) (fun cA h => h)
  have hO2 : (Cond.arrayOver (.object "PhaseLights$Premiere")).before #[Value.ref b] s = true := hts _ (tb_in (i := 62) (by decide +kernel))
  have hO3 : (Cond.arrayOver (.object "PhaseLights$State")).before #[Value.ref b] s = true := hts _ (tb_in (i := 186) (by decide +kernel))
  have hO4 : (Cond.arrayOver (.array .int)).before #[Value.ref b] s = true := hts _ (tb_in (i := 69) (by decide +kernel))
  have hCl : (Cond.castable "[I" "java/lang/Cloneable").before #[Value.ref b] s = true := hts _ (tb_in (i := 37) (by decide +kernel))
  obtain ⟨y2, hy2⟩ := ty_O hO2
  obtain ⟨y3, hy3⟩ := ty_O hO3
  obtain ⟨y4, hy4⟩ := ty_A hO4
  obtain ⟨cy, hcy⟩ : ∃ cy : Nat → ClassId, cy = fun k => if k = 0 then y0 else if k = 1 then y1 else if k = 2 then y2 else if k = 3 then y3 else y4 := ⟨_, rfl⟩
  have e0 : cy 0 = y0 := by rw [hcy]; rfl
  have e1 : cy 1 = y1 := by rw [hcy]; rfl
  have e2 : cy 2 = y2 := by rw [hcy]; rfl
  have e3 : cy 3 = y3 := by rw [hcy]; rfl
  have e4 : cy 4 = y4 := by rw [hcy]; rfl
  have hK : va_K D vwCl (tysW cy) s := by
    refine ⟨hD, fun k q hq => ?_⟩
    have hk : k < 5 := (List.getElem?_eq_some_iff.mp hq).1
    unfold tysW at hq
    rw [e0, e1, e2, e3, e4] at hq
    rcases (show k = 0 ∨ k = 1 ∨ k = 2 ∨ k = 3 ∨ k = 4 by omega) with rfl | rfl | rfl | rfl | rfl
    · cases hq
      exact hy0
    · cases hq
      exact hy1
    · cases hq
      exact hy2
    · cases hq
      exact hy3
    · cases hq
      exact hy4
  have hN := nw_of hts
  have hE : EX s := ⟨hO3, hO2, hO4, va_Nw.of rfl hCl⟩
  obtain ⟨t0, ht0, hZ0⟩ := stat_of (A := AA s.heap.size) (k := 0) (n := "FIRST_SETTING") (hts _ (tb_in (i := 31) (by decide +kernel))) (hgood _ w1) (hg _ (by decide +kernel)) (hg _ (by decide +kernel)) (hg _ (by decide +kernel)) (hg _ (by decide +kernel)) (hg _ (by decide +kernel)) hA
  obtain ⟨t1, ht1, hZ1⟩ := stat_of (A := AA s.heap.size) (k := 1) (n := "LEAST_SETTING") (hts _ (tb_in (i := 352) (by decide +kernel))) (hgood _ w1) (hg _ (by decide +kernel)) (hg _ (by decide +kernel)) (hg _ (by decide +kernel)) (hg _ (by decide +kernel)) (hg _ (by decide +kernel)) hA
  obtain ⟨t2, ht2, hZ2⟩ := stat_of (A := AA s.heap.size) (k := 2) (n := "MOST_SETTING") (hts _ (tb_in (i := 357) (by decide +kernel))) (hgood _ w1) (hg _ (by decide +kernel)) (hg _ (by decide +kernel)) (hg _ (by decide +kernel)) (hg _ (by decide +kernel)) (hg _ (by decide +kernel)) hA
  have hZC := zc_of ht0 (hg _ (by decide +kernel)) (hg _ (by decide +kernel)) (hg _ (by decide +kernel)) hZ0
  have F : FC p s m #[Value.ref b] c RL cL_law 4 D cy t0 s.heap.size := ⟨hx, hb, hml, hown, hgood, hK, hN, hE, hZ0.1, hZC⟩
  have hW0 : WX D s.heap.size [] s.heap := ⟨rfl, fun j q h => by simp at h⟩
  have hS0 : va_S (AA s.heap.size) s.heap s.heap [] := va_S.rf
  have hl := lv_entry ([.ref b]) (n := 4) (Nat.le_of_ble_eq_true rfl)
  rw [lg_entry_eq]
  generalize (lg_sl ([.ref b]) ++ List.replicate (4 - (lg_sl ([.ref b])).length) Slot.unset).toArray = ls at hl ⊢
  have hl : lv_has ls 4 [(0, .ref b)] := hl
  refine i_new (pc := 0) (ci := 11) (n := 0) F hW0 hS0 rfl cl11 tyX11_ok inRX11 w16 w17 w1 nfX11 (Nat.le_of_ble_eq_true rfl) (Nat.le_of_ble_eq_true rfl) dL_law_0 (fun H hW hS => ?_)
  refine lv_dup (pc := 3) hx hb dL_law_3 rfl ?_
  refine i_ctor (pc := 4) (es := []) (es0 := X11N) (n := 0) (na := 0) (rest := [.ref (s.heap.size + 0)]) F hW hS rfl (mcX11 hm) w20 w1 w18 w19 rfl (by decide) ⟨(Nat.le_of_ble_eq_true rfl), (Nat.le_of_ble_eq_true rfl)⟩ rfl hl.1 rfl (Nat.le_of_ble_eq_true rfl) (Nat.le_of_ble_eq_true rfl) (Nat.le_of_ble_eq_true rfl) dL_law_4 (fun H locs hW hS => ?_)
  have hW : WX D s.heap.size (PlL cy s.heap.size) H := hW
  refine lv_astore_n (pc := 7) (lv' := [(1, .ref s.heap.size), (0, .ref b)]) hx hb dL_law_7 rfl hl (by decide) rfl (fun ls hl => ?_)
  refine i_new (pc := 8) (ci := 12) (n := 731) F hW hS PlL_len cl12 tyX12_ok inRX12 w894 w895 w13 nfX12 (Nat.le_of_ble_eq_true rfl) (Nat.le_of_ble_eq_true rfl) dL_law_8 (fun H hW hS => ?_)
  refine lv_dup (pc := 11) hx hb dL_law_11 rfl ?_
  refine i_ctor (pc := 12) (es := PlL cy s.heap.size) (es0 := X12N) (n := 731) (na := 0) (rest := [.ref (s.heap.size + 731)]) F hW hS PlL_len mcX12 w898 w13 w896 w897 rfl (by decide) ⟨(Nat.le_of_ble_eq_true rfl), (Nat.le_of_ble_eq_true rfl)⟩ rfl hl.1 rfl (Nat.le_of_ble_eq_true rfl) (Nat.le_of_ble_eq_true rfl) (Nat.le_of_ble_eq_true rfl) dL_law_12 (fun H locs hW hS => ?_)
  refine lv_astore_n (pc := 15) (lv' := [(2, .ref (s.heap.size + 731)), (1, .ref s.heap.size), (0, .ref b)]) hx hb dL_law_15 rfl hl (by decide) rfl (fun ls hl => ?_)
  refine lv_iconst (pc := 16) (v := 0) hx hb dL_law_16 (by decide) ?_
  refine lv_istore_n (pc := 17) (lv' := [(3, .int 0), (2, .ref (s.heap.size + 731)), (1, .ref s.heap.size), (0, .ref b)]) hx hb dL_law_17 rfl hl (by decide) rfl (fun ls hl => ?_)
  refine W.widen (k := 600000) (n := 7302250) (Nat.le_of_ble_eq_true rfl) (Nat.le_of_ble_eq_true rfl) ?_
  refine va_forget (fun q hq => hS.2.2 q hq) ?_
  obtain ⟨hP, hDs⟩ := wd00 hW
  have hsub : ∀ q, AG (ad0 s.heap.size) q → AA s.heap.size q := fun q h => by
    obtain ⟨i, -, rfl⟩ := h
    exact Nat.le_add_right _ _
  obtain ⟨G, hG⟩ : ∃ G : GD, G = (D, ad0 s.heap.size, cy, fun k => if k = 0 then t0 else if k = 1 then t1 else t2) := ⟨_, rfl⟩
  have nz : ∀ {k t : Nat} {n : String}, Zo (AA s.heap.size) k t n s s.heap → Zo (AG (ad0 s.heap.size)) k t n s s.heap := fun h => ⟨h.1.narrow hsub, h.2.narrow hsub⟩
  have FL : FX p s m #[Value.ref b] meth c RL cL_law 4 (some .boolean) G := by
    rw [hG]
    exact ⟨hx, hb, hml, hr, hown, hgood, hlocks, hK, hN, nz hZ0, nz hZ1, nz hZ2⟩
  have SL : ST G M0 N0 s H [] := by
    rw [hG]
    exact ⟨hP, hDs, hS.1, fun q h1 _ => hS.2.1 q h1 (hA q h1), fun q h => by cases h⟩
  have hbA : ¬ AG G.2.1 b := by
    rw [hG]
    exact fun h => hA b hbl (hsub b h)
  refine law_loop FL hX hbl hbA hL (fun M N H locs ls S => ?_) (L + 1) 0 M0 N0 H [] ls (by omega) (Nat.zero_le _) SL rel00 ?_
  · refine lv_iconst (pc := 1278) (v := 1) hx hb dL_law_1278 (by decide) ?_
    refine va_forget (fun q hq => ?_) (lw_ret hx hb hr hlocks dL_law_1279)
    have h1 := S.2.2.2.2 q hq
    rw [hG] at h1
    exact hsub _ h1
  · rw [hG]
    exact lv_sub hl [3, 2, 1, 0] rfl
