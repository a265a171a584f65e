/-! the row of new T[n][m], out of the library's; the claim -/
theorem mr_outer (c : ClassId) (N h0 : Nat) : ∀ i : Nat, Jvm.Free.Multi.outerC c N h0 i = arrV c N (fun j => va_rf (if j < i then some (h0 + 1 + j) else none))
  | 0 => by
    show ({ cls := c, slots := Array.replicate N .null, vm := .none } : Cell) = _
    rw [arrV_new]
    refine congrArg (arrV c N) (funext fun j => ?_)
    simp [va_rf]
  | i + 1 => by
    show (Jvm.Free.Multi.outerC c N h0 i).setSlot i (.ref (h0 + 1 + i)) = _
    rw [mr_outer c N h0 i, arrV_store]
    refine congrArg (arrV c N) (funext fun j => ?_)
    by_cases e : j = i
    · subst e
      simp [updV, va_rf]
    · by_cases h : j < i
      · simp [updV, e, h, Nat.lt_succ_of_lt h]
      · simp [updV, e, h, show ¬ j < i + 1 by omega]
theorem mna_ok (l : Launch) : Mna l := by
  intro p e R s m args below meth c H locs cells slots Q ls rest D cy t a nL es n F hW hS hn hc hs kk T hT X
  obtain ⟨hx, hb, -, hown, hts, hK, -, hE, -⟩ := F
  have e8 : (8 : Int32).toNatClampNeg = 8 := rfl
  have e12 : (12 : Int32).toNatClampNeg = 12 := rfl
  have es2 : "[" ++ (FieldType.array FieldType.int).toString = "[[I" := by decide
  have hcl : (Cond.classLink RX6 30 ("[" ++ (FieldType.array FieldType.int).toString)).before args s = true := by rw [es2]; exact hts _ w68
  obtain ⟨vm₁, cA, comp, -, fA, fC, -, -, X', step⟩ := X.multianewarray2F hx (ty := .int) (own := RX6) (index := 30) hown hcl hE.2.2.1.use (hts _ w60) (n := 8) (k := 12) (rest := rest) (g := F0 m 57 ls (.int 12 :: .int 8 :: rest)) rfl (by rw [hb]; exact dX6_init_57) rfl (by decide) (by decide) (by rw [e8]; decide) (by rw [e12]; decide) (by rw [e12]; decide) rfl rfl (by rw [e8]; omega) (by rw [e8, e12]; omega)
  have ec : comp = cy 0 := by
    have h0 : s.vm.findClass ("[" ++ FieldType.int.toString) = some (cy 0) := (hK.2 0 (cy 0, .int) rfl).2
    have es1 : (FieldType.array FieldType.int).toString = "[" ++ FieldType.int.toString := by decide
    rw [es1] at fC
    exact Option.some.inj (fC.symm.trans h0)
  have eA : cA = cy 4 := by
    have h4 : s.vm.findClass ("[" ++ (FieldType.array FieldType.int).toString) = some (cy 4) := (hK.2 4 (cy 4, .array .int) rfl).2
    exact Option.some.inj (fA.symm.trans h4)
  subst ec
  subst eA
  rw [e8, e12] at X' step
  have hTh : (T.setVm vm₁).heap = H := hT
  have hsz : H.size = a + n := by rw [hW.1, hn]
  obtain ⟨f1, f2, -, -⟩ := Jvm.Free.Multi.fill_facts (T.setVm vm₁) (cy 4) (cy 0) 8 12 (defaultValue .int) 8
  have hold : ∀ x : Nat, x < H.size → (Jvm.Free.Multi.fill (T.setVm vm₁) (cy 4) (cy 0) 8 12 (defaultValue .int) 8).heap[x]? = H[x]? := fun x hx => by
    have := Jvm.Free.Multi.fill_old (T.setVm vm₁) (cy 4) (cy 0) 8 12 (defaultValue .int) (a := x) (by rw [hTh]; exact hx) 8
    rw [hTh] at this
    exact this
  have hz : Jvm.Free.Multi.innerC (cy 0) 12 (defaultValue .int) = vp_cell (cy 0) (12, .inl (fun _ => 0)) := by
    rw [vp_cell_i]
    show ({ cls := cy 0, slots := Array.replicate 12 (.int 0), vm := .none } : Cell) = _
    rw [arrV_new]
  have hrow : ∀ j : Nat, j < 8 → (Jvm.Free.Multi.fill (T.setVm vm₁) (cy 4) (cy 0) 8 12 (defaultValue .int) 8).heap[H.size + 1 + j]? = some (vp_cell (cy 0) (12, .inl (fun _ => 0))) := fun j hj => by
    have := Jvm.Free.Multi.fill_inner (T.setVm vm₁) (cy 4) (cy 0) 8 12 (defaultValue .int) 8 j hj
    rw [hTh, hz] at this
    exact this
  rw [hTh] at f1 f2
  rw [mr_outer] at f2
  generalize Jvm.Free.Multi.fill (T.setVm vm₁) (cy 4) (cy 0) 8 12 (defaultValue .int) 8 = F at X' step f1 f2 hold hrow
  rw [hsz] at f1 f2 hold hrow
  have hW1 : WX D a (es ++ (RA (cy 4) 8 (fun i => if i < 8 then some (a + n + 1 + i) else none) :: [AI cy 12, AI cy 12, AI cy 12, AI cy 12, AI cy 12, AI cy 12, AI cy 12, AI cy 12])) F.heap := by
    refine ⟨?_, SG_app (SG_kept hW.2 (fun q _ hq => hold q (by omega))) ?_⟩
    · rw [List.length_append, hn]
      show F.heap.size = a + (n + 9)
      omega
    · rw [hn]
      intro j x hj
      have hj9 : j < 9 := (List.getElem?_eq_some_iff.mp hj).1
      rcases (show j = 0 ∨ j = 1 ∨ j = 2 ∨ j = 3 ∨ j = 4 ∨ j = 5 ∨ j = 6 ∨ j = 7 ∨ j = 8 by omega) with rfl | rfl | rfl | rfl | rfl | rfl | rfl | rfl | rfl
      · cases hj
        exact f2
      · cases hj
        exact hrow 0 (by omega)
      · cases hj
        exact hrow 1 (by omega)
      · cases hj
        exact hrow 2 (by omega)
      · cases hj
        exact hrow 3 (by omega)
      · cases hj
        exact hrow 4 (by omega)
      · cases hj
        exact hrow 5 (by omega)
      · cases hj
        exact hrow 6 (by omega)
      · cases hj
        exact hrow 7 (by omega)
  have hS1 : va_S (AA a) s.heap F.heap locs := ⟨by have := hS.1; omega, fun x h1 h2 => (hold x (by have := hS.1; omega)).trans (hS.2.1 x h1 h2), hS.2.2⟩
  obtain ⟨u, a1, b1⟩ := kk F.heap hW1 hS1 F rfl X'
  refine ⟨u, step u ?_, b1⟩
  have e : T.heap.size = a + n := by rw [hT, hsz]
  rw [e]
  exact a1
theorem whole_start {p : Program} {e : Env} {s : State} {m : MethodId} {below : List Frame} {meth : Method} {c : Code} (l : Launch) (hflags : l.flags = flags0) {b L : Nat} {xs : Nat → Int32} (hL : L ≤ 2048) (C0 : lw_At p s m meth c b L xs) : W p l e room_1 s m #[Value.ref b] below meth c s.heap [] 0 0 (lw_Z below #[Value.ref b] s) (entryFrame m ([Value.ref b] : List Value).toArray 4) :=
  whole_start0 l (mna_ok l) hL C0
set_option maxHeartbeats 4000000 in
theorem lw_walk (l : Launch) (hflags : l.flags = flags0) (b : Addr) (xs : List Int32) : MetFree l x (headSpec (Jvm.Cond.code x code maxLocals ret :: tables_1) room_1) (lw_P b xs) (fun _ _ _ _ _ => True) lw_Q := by
  refine MetFree.of_bodyS (code := code) (maxLocals := maxLocals) (ret := ret) (by decide) ?_ ?_
  · intro args s m h hn
    obtain ⟨meth, c, h1, h2, h3, h4, h5, h6, -, -⟩ := Cond.code_spec hn (atoms_spec (ws := Jvm.Cond.code x code maxLocals ret :: tables_1) h _ List.mem_cons_self)
    exact ⟨meth, c, h1, h2, h3, h4, h5, h6⟩
  · intro p e s m args below meth c s₁ B hml0 hP _
    obtain ⟨rfl, hx, hbd, hgv⟩ := hP
    obtain ⟨scr, harrAt, hlist, hof, hsmall⟩ := hx
    obtain ⟨hcb, hkn, -, -⟩ := State.arrayAt?_spec harrAt
    have hown : s.vm.findClass R_law = some m.cls := findClass_of_methodNamed B.named
    have hts0 : ∀ c ∈ (Jvm.Cond.code x code maxLocals ret :: tables_1), c.before #[Value.ref b] s = true := atoms_spec (ws := Jvm.Cond.code x code maxLocals ret :: tables_1) B.pre
    have hts : ∀ w ∈ lw_tbl, w.before #[Value.ref b] s = true := k2_hts_sels lw_privs (fun w hw => hts0 w (List.mem_cons_of_mem _ hw)) lw_privs_ok
    have hml : c.maxLocals = 4 := B.maxLocals_eq (hts0 _ List.mem_cons_self)
    have X₀ : Stand p l e room_1 s m #[Value.ref b] below meth c s₁ [] 0 0 := Stand.of_body B
    have hh0 : s₁.heap = s.heap := by rw [B.state]; rfl
    have hsz : scr.slots.size = xs.length := by rw [← Array.length_toList, hlist, List.length_map]
    have hval : ∀ j : Nat, j < xs.length → scr.slots[j]? = some (.int (xs.getD j 0)) := fun j hj => by
      rw [← Array.getElem?_toList, hlist]
      simp [hj]
    have hbl : b < s.heap.size := (Array.getElem?_eq_some_iff.mp hcb).1
    have hX : va_X b xs.length (fun j => xs.getD j 0) s s.heap := ⟨scr, hcb, hof, hkn, hsz, hval⟩
    have K : W p l e room_1 s m #[Value.ref b] below meth c s₁.heap [] 0 0 (lw_Z below #[Value.ref b] s) (entryFrame m ([Value.ref b] : List Value).toArray 4) := by
      rw [hh0]
      exact whole_start l hflags hbd ⟨B.exec, B.bytes, B.returns, hml, hown, hts, hX, hbl, B.notSynchronized, hgv⟩
    obtain ⟨t, a1, o, b1, b2, b3⟩ := K s₁ rfl X₀
    exact ⟨t, o, a1, b1, b2, b3⟩
theorem lw_pre_spec {args : Array Value} {s : State} (h : (Jvm.Cond.and given_1 narrow_1).before args s = true) (hr : rest_1_c.before args s = true) : ∃ (b : Addr) (xs : List Int32), lw_P b xs args s := by
  have hs := flat_of_before _ h
  have hq := flat_of_before _ hr
  have hc : (Cond.count 1).before args s = true := hs _ (by decide +kernel)
  have harr : (Cond.arrayOf (.arg 0) .int).before args s = true := hs _ (by decide +kernel)
  have hle : (Cond.le (.length (.arg 0)) (.int 2048)).before args s = true := hs _ (by decide +kernel)
  have hlen : (Cond.isInt (.length (.arg 0))).before args s = true := hq _ (by decide +kernel)
  have hall : (Cond.all (.arg 0) (.isInt (.elem (.arg 0) (.index 0)))).before args s = true := hq _ (by decide +kernel)
  obtain ⟨b, xs, hb, hx⟩ := State.ints_of_pre rfl harr hlen hall
  have hsm : xs.length < 2 ^ 31 := hx.choose_spec.2.2.2
  have hev : (Term.length (.arg 0)).eval args s none [] s = some (.int xs.length.toInt32) := hx.length_eval hb
  have hv := Cond.le_ints hev (show (Term.int 2048).eval args s none [] s = some (.int 2048) from rfl)
  have hd : xs.length.toInt32 ≤ 2048 := by
    simpa [Cond.before, Cond.holds, hv] using hle
  have hN : xs.length ≤ 2048 := (Int32.ofNat_le_ofNat hsm (by decide)).mp (show Int32.ofNat xs.length ≤ Int32.ofNat 2048 from hd)
  exact ⟨b, xs, Cond.one_arg hc (show args[0]? = some (.ref b) from hb), hx, hN, h⟩
theorem lw_comes (l : Launch) (hflags : l.flags = flags0) : Comes l x (Jvm.Cond.code x code maxLocals ret :: tables_1) room_1 (fun tb e args s => Calls_1 tb e args s ∧ rest_1 tb e args s ∧ Pre_1 tb e args s)
    (fun _ _ args s o t => lw_Q args s o t) := by
  intro p e ha hc hk s m args below hf hfit hheap happ hpre
  obtain ⟨b, xs, hP⟩ := lw_pre_spec hpre.2.2 hpre.2.1
  obtain ⟨k, o, h1, h2, h3, hQ⟩ := lw_walk l hflags b xs p e ha hc hk s m args below hf ((Spec.applies_iff_loose hf).mp happ).1 hP trivial
  exact ⟨k, o, h1, h2, h3, hQ⟩
theorem lw_frame {s t : State} {o : Outcome} {args : Array Value} (h : Framed s o t [] 600000 7302250) :
    Framed s o t (fieldLocs frame_1_writes args s ++ arrayLocs frame_1_arrays args s ++ staticLocs frame_1_statics s) 600000 7302250 := h
theorem lw_limb (L : Cond) (hL : ∀ (args : Array Value) (s t : State), L.after args s (.returned (some (.int 1))) t = true) :
    ArmFor flags0 classFile x code maxLocals ret World_1 tables_1 room_1 Calls_1 rest_1 Pre_1
      (fun tb e a s o t => postC L tb e a s o t ∧ Framed s o t (fieldLocs frame_1_writes a s ++ arrayLocs frame_1_arrays a s ++ staticLocs frame_1_statics s) 600000 7302250) := by
  intro l hflags _ _ p e ha hc hk s m args below hf hfit hheap happ hpre
  obtain ⟨k, o, h1, h2, h3, rfl, hF⟩ := lw_comes l hflags p e ha hc hk s m args below hf hfit hheap happ hpre
  exact ⟨k, _, h1, h2, h3, hL args s _, lw_frame hF⟩
theorem i_vc : Claimed_1_1 ∧ Claimed_1_2 := ⟨lw_limb limb_1_1 (fun args s t => by simp [limb_1_1, Cond.after, Cond.holds, Cond.value]), lw_limb limb_1_2 (fun args s t => Cond.after_iff.mpr (by
  first | (rw [show limb_1_2 = Cond.eq .result (.int 1) from rfl, Cond.eq_ints (x := 1) (y := 1) rfl rfl]; simp; done) | (simp [limb_1_2, Cond.value, Term.eval]; done)))⟩
