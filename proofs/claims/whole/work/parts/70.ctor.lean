/-! the constructors: cells laid one behind the other, from the address a on -/
def yCln : MethodName := ⟨"java/lang/Object", "clone", "()Ljava/lang/Object;"⟩
def yClnI : MethodName := ⟨"[I", "clone", "()Ljava/lang/Object;"⟩
theorem w33 : Cond.sameMethod "[I" "java/lang/Object" "clone" "()Ljava/lang/Object;" ∈ lw_good := lw_in (i := 33) (by decide +kernel) rfl
theorem w34 : Cond.native yCln ∈ lw_good := lw_in (i := 34) (by decide +kernel) rfl
theorem w35' : Cond.instanceMethod yCln ∈ lw_good := lw_in (i := 35) (by decide +kernel) rfl
theorem w36' : Cond.selects "[I" yClnI yCln ∈ lw_good := lw_in (i := 36) (by decide +kernel) rfl
theorem w32' : Cond.methodLink RX7 13 yClnI ∈ lw_good := lw_in (i := 32) (by decide +kernel) rfl
def AOX (ty : FieldType) (U : State) : Prop := (Cond.arrayOver ty).before #[] U = true
theorem AOX.moved {ty : FieldType} {u U : State} (hvm : u.vm.Alike U.vm) (h : AOX ty u) : AOX ty U := by
  have h2 : (Cond.arrayOver ty).before #[] (u.setVm U.vm) = true := by rw [Cond.arrayOver_setVmC hvm]; exact h
  exact h2
theorem AOX.use {ty : FieldType} {A : Array Value} {U : State} (h : AOX ty U) : (Cond.arrayOver ty).before A U = true := h
def EX (U : State) : Prop := AOX (.object "PhaseLights$State") U ∧ AOX (.object "PhaseLights$Premiere") U ∧ AOX (.array .int) U ∧ va_Nw (.castable "[I" "java/lang/Cloneable") U
theorem EX.warm {s U : State} (hW : s.WarmedH U.vm) (h : EX s) : EX U := ⟨h.1.moved hW.alike, h.2.1.moved hW.alike, h.2.2.1.moved hW.alike, va_Nw.warmC hW h.2.2.2⟩
theorem EX.same {s U : State} (hv : s.vm = U.vm) (h : EX s) : EX U := by
  have ha : s.vm.Alike U.vm := by rw [hv]; exact Vm.Alike.refl U.vm
  exact ⟨h.1.moved ha, h.2.1.moved ha, h.2.2.1.moved ha, va_Nw.same rfl hv h.2.2.2⟩
/-- the row that is cloned -/
def ZC (t : Nat) (A : Nat → Prop) (U : State) (H : Heap) : Prop := ∃ cell : Cell, H[t]? = some cell ∧ U.vm.findClass "[I" = some cell.cls ∧ U.isArrayOf cell .int ∧ cell.vm ≠ .unknown ∧ cell.slots.size = 3 ∧ (∀ j, j < 3 → cell.slots[j]? = some (.int (sta 0 j))) ∧ ¬ A t
theorem ZC.moved {t : Nat} {A : Nat → Prop} {u U : State} {H : Heap} (hvm : u.vm.Alike U.vm) (h : ZC t A u H) : ZC t A U H := by
  obtain ⟨cell, h1, h2, h3, h4⟩ := h
  exact ⟨cell, h1, by rw [hvm.findClass]; exact h2, State.isArrayOf_alike hvm h3, h4⟩
theorem ZC.kept {t : Nat} {A : Nat → Prop} {U : State} {H H1 : Heap} (h : ZC t A U H) (hq : ∀ a : Nat, a < H.size → ¬ A a → H1[a]? = H[a]?) : ZC t A U H1 := by
  obtain ⟨cell, h1, h2, h3, h4, h5, h6, h7⟩ := h
  exact ⟨cell, by rw [hq t (Array.getElem?_eq_some_iff.mp h1).1 h7]; exact h1, h2, h3, h4, h5, h6, h7⟩
theorem ZC.narrow {t : Nat} {A B : Nat → Prop} {U : State} {H : Heap} (h : ZC t A U H) (hAB : ∀ q, B q → A q) : ZC t B U H := by
  obtain ⟨cell, h1, h2, h3, h4, h5, h6, h7⟩ := h
  exact ⟨cell, h1, h2, h3, h4, h5, h6, fun z => h7 (hAB t z)⟩
def AA (a : Nat) : Nat → Prop := fun q => a ≤ q
def KXC (D : va_G) (cy : Nat → ClassId) (t a : Nat) (U : State) : Prop := va_K D vwCl (tysW cy) U ∧ Nw U ∧ EX U ∧ va_Z "PhaseLights" "FIRST_SETTING" "[I" (.ref t) (AA a) U U.heap ∧ ZC t (AA a) U U.heap
def SG (D : va_G) (a : Nat) (es : List va_E) (H : Heap) : Prop := ∀ (j : Nat) (e : va_E), es[j]? = some e → va_at D vwCl (a + j, e) H
def WX (D : va_G) (a : Nat) (es : List va_E) (H : Heap) : Prop := H.size = a + es.length ∧ SG D a es H
theorem SG_app {D : va_G} {a : Nat} {x y : List va_E} {H : Heap} (h1 : SG D a x H) (h2 : SG D (a + x.length) y H) : SG D a (x ++ y) H := by
  intro j e hj
  by_cases hl : j < x.length
  · rw [List.getElem?_append_left hl] at hj
    exact h1 j e hj
  · rw [List.getElem?_append_right (by omega)] at hj
    have := h2 _ e hj
    rw [show a + x.length + (j - x.length) = a + j by omega] at this
    exact this
theorem SG_l {D : va_G} {a : Nat} {x y : List va_E} {H : Heap} (h : SG D a (x ++ y) H) : SG D a x H := fun j e hj => h j e (by rw [List.getElem?_append_left (List.getElem?_eq_some_iff.mp hj).1]; exact hj)
theorem SG_r {D : va_G} {a : Nat} {x y : List va_E} {H : Heap} (h : SG D a (x ++ y) H) : SG D (a + x.length) y H := fun j e hj => by
  have := h (x.length + j) e (by rw [List.getElem?_append_right (by omega), Nat.add_sub_cancel_left]; exact hj)
  rw [show a + (x.length + j) = a + x.length + j by omega] at this
  exact this
theorem SG_kept {D : va_G} {a : Nat} {x : List va_E} {H H1 : Heap} (h : SG D a x H) (hk : ∀ q, a ≤ q → q < a + x.length → H1[q]? = H[q]?) : SG D a x H1 := fun j e hj => (h j e hj).kept (hk _ (Nat.le_add_right a j) (by have := (List.getElem?_eq_some_iff.mp hj).1; show a + j < a + x.length; omega))
theorem SG_one {D : va_G} {a : Nat} {e : va_E} {H : Heap} (h : va_at D vwCl (a, e) H) : SG D a [e] H := fun j e' hj => by
  have hz : j < 1 := (List.getElem?_eq_some_iff.mp hj).1
  rw [show j = 0 by omega] at hj ⊢
  cases hj
  exact h
theorem SG_at {D : va_G} {a : Nat} {x y : List va_E} {e : va_E} {H : Heap} (h : SG D a (x ++ e :: y) H) : va_at D vwCl (a + x.length, e) H := h x.length e (by rw [List.getElem?_append_right (Nat.le_refl _), Nat.sub_self]; rfl)
theorem WX_push {D : va_G} {a n : Nat} {es : List va_E} {e : va_E} {H H1 : Heap} (h : WX D a es H) (hn : es.length = n) (hz : H1.size = a + n + 1) (hk : ∀ q, q < a + n → H1[q]? = H[q]?) (he : va_at D vwCl (a + n, e) H1) : WX D a (es ++ [e]) H1 :=
  ⟨by rw [hz, List.length_append, hn]; rfl, SG_app (SG_kept h.2 (fun q _ hq => hk q (by omega))) (by rw [hn]; exact SG_one he)⟩
theorem WX_set {D : va_G} {a n : Nat} {x y : List va_E} {e e' : va_E} {H H1 : Heap} (h : WX D a (x ++ e :: y) H) (hn : x.length = n) (hz : H1.size = H.size) (hk : ∀ q, q ≠ a + n → H1[q]? = H[q]?) (he : va_at D vwCl (a + n, e') H1) : WX D a (x ++ e' :: y) H1 := by
  refine ⟨by rw [hz, h.1, List.length_append, List.length_append]; rfl, SG_app (SG_kept (SG_l h.2) (fun q _ hq => hk q (by omega))) ?_⟩
  have h2 : SG D (a + x.length + 1) y H := SG_r (x := [e]) (SG_r h.2)
  exact SG_app (x := [e']) (SG_one (by rw [hn]; exact he)) (SG_kept h2 (fun q (hq : a + x.length + 1 ≤ q) _ => hk q (by omega)))
abbrev AI (cy : Nat → ClassId) (n : Nat) : va_E := .inl (cy 0, n, .inl (fun _ => 0))
/-- what stays in a constructor's walk -/
def FC (p : Program) (s : State) (m : MethodId) (args : Array Value) (c : Code) (own : String) (cc : ByteArray) (nL : Nat) (D : va_G) (cy : Nat → ClassId) (t a : Nat) : Prop :=
  p.tables.exec = Jvm.exec ∧ c.code = cc ∧ c.maxLocals = nL ∧ s.vm.findClass own = some m.cls ∧ (∀ w ∈ lw_good, w.before args s = true) ∧ KXC D cy t a s
/-- a constructor's contract: the cells es0 before (the object first), es1 behind -/
def MC (l : Launch) (y : MethodName) (b : ByteArray) (n f k mc ms : Nat) (D : va_G) (cy : Nat → ClassId) (t : Nat) (av : Nat → List Value) (es0 es1 : Nat → List va_E) : Prop :=
  ∀ a : Nat, Met l y (WS y b n none) { frames := f, cells := mc, slots := ms, locals := k } (va_Pc (.ref a :: av a) (fun U => WX D a (es0 a) U.heap ∧ KXC D cy t a U)) (va_Qv (fun _ : Unit => True) (fun _ u => WX D a (es1 a) u.heap) (AA a)) mc ms (AA a)
section CT
variable {p : Program} {l : Launch} {e : Env} {R : Room} {s : State} {m : MethodId} {args : Array Value} {below : List Frame} {meth : Method} {c : Code} {H : Heap} {locs : List Loc} {cells slots : Nat} {Q : State → Prop}
variable {cc : ByteArray} {pc nL : Nat} {ls : Array Slot} {rest : List Value} {D : va_G} {cy : Nat → ClassId} {t a : Nat} {own : String} {es : List va_E}
theorem kx_call (F : FC p s m args c own cc nL D cy t a) (hS : va_S (AA a) s.heap H locs) {n : Nat} {U : State} (hU : U.heap = H) (hW : s.WarmedH U.vm) : KXC D cy t (a + n) U := by
  obtain ⟨-, -, -, -, -, k1, k2, k3, k4, k5⟩ := F
  refine ⟨va_K.moved hW.alike k1, Nw_warm hW k2, k3.warm hW, ?_, ?_⟩
  · rw [hU]
    exact ((k4.moved hW.alike).kept hS.2.1).narrow (fun q (h : a + n ≤ q) => (by show a ≤ q; omega))
  · rw [hU]
    exact ((k5.moved hW.alike).kept hS.2.1).narrow (fun q (h : a + n ≤ q) => (by show a ≤ q; omega))
theorem mc_blind {av : List Value} {es0 : List va_E} : FrameBlind (va_Pc av (fun U => WX D a es0 U.heap ∧ KXC D cy t a U)) := by
  intro x U g mk q
  obtain ⟨q0, q1, k1, k2, k3, k4, k5⟩ := q
  exact ⟨q0, q1, va_K.moved (u := U) (U := U.calling g mk x) (Vm.Alike.refl U.vm) k1, Nw_same (s := U) (U := U.calling g mk x) rfl k2, EX.same (s := U) (U := U.calling g mk x) rfl k3, va_Z.moved (u := U) (U := U.calling g mk x) (Vm.Alike.refl U.vm) k4, ZC.moved (u := U) (U := U.calling g mk x) (Vm.Alike.refl U.vm) k5⟩
theorem i_new (F : FC p s m args c own cc nL D cy t a) (hW : WX D a es H) (hS : va_S (AA a) s.heap H locs) {ci N idx n : Nat} {C : String} {T : u_T} {ty : Nat → FieldType} (hn : es.length = n) (hc : vwCl[ci]? = some (C, T, N)) (hty : ∀ k, k < N → parseFieldDescriptor (T k).2.2.1 = some (ty k)) (hin : ∀ w ∈ u_ws C T N, w ∈ lw_good)
    (hcl : Cond.classLink own idx C ∈ lw_good) (hinst : Cond.instantiable C N ∈ lw_good) (hini : Cond.initialized C ∈ lw_good) {fs : List Value} (hfs : ∀ j, j < N → defaultValue (ty j) = vp_V fs j) (hcells : cells + 1 ≤ R.cells) (hslots : slots + N ≤ R.slots) (hdg : decode cc pc = .ok (.new idx, 3))
    (kk : ∀ H1 : Heap, WX D a (es ++ [.inr (ci, fs)]) H1 → va_S (AA a) s.heap H1 locs → W p l e R s m args below meth c H1 locs (cells + 1) (slots + N) Q (F0 m (pc + 3) ls (.ref (a + n) :: rest))) : W p l e R s m args below meth c H locs cells slots Q (F0 m pc ls rest) := by
  obtain ⟨hx, hb, -, hown, hts, hK, -⟩ := F
  have hKn := hK.1 ci _ hc
  refine W.newcK (h := a + n) hx hb hown (hts _ hcl) (hts _ hinst) (hts _ hini) rfl hdg hcells hslots hKn.2.1 (by rw [hW.1, hn]) fun H1 kC hkC e1 z1 o1 => ?_
  refine kk H1 (WX_push hW hn z1 o1 ⟨_, hc, (u_born ty hts hin hKn hkC e1 hty).to hfs⟩) ⟨?_, fun x h1 h2 => ?_, hS.2.2⟩
  · have := hS.1
    have := hW.1
    omega
  · rw [o1 x (by have := hS.1; have := hW.1; omega)]
    exact hS.2.1 x h1 h2
theorem cy_I (F : FC p s m args c own cc nL D cy t a) {cA : ClassId} (h : s.vm.findClass "[I" = some cA) : cA = cy 0 := by
  have hk := (F.2.2.2.2.2.1.2 0 (cy 0, .int) rfl).2
  exact Option.some.inj (h.symm.trans hk)
theorem cy_Z (F : FC p s m args c own cc nL D cy t a) {cA : ClassId} (h : s.vm.findClass "[Z" = some cA) : cA = cy 1 := by
  have hk := (F.2.2.2.2.2.1.2 1 (cy 1, .boolean) rfl).2
  exact Option.some.inj (h.symm.trans hk)
theorem i_newI (F : FC p s m args c own cc nL D cy t a) (hW : WX D a es H) (hS : va_S (AA a) s.heap H locs) {n N : Nat} {v : Int32} (hn : es.length = n) (hv : v = nI N) (hN : N < 10000) (hcells : cells + 1 ≤ R.cells) (hslots : slots + N ≤ R.slots) (hdg : decode cc pc = .ok (.newarray .int, 2))
    (kk : ∀ H1 : Heap, WX D a (es ++ [AI cy N]) H1 → va_S (AA a) s.heap H1 locs → W p l e R s m args below meth c H1 locs (cells + 1) (slots + N) Q (F0 m (pc + 2) ls (.ref (a + n) :: rest))) : W p l e R s m args below meth c H locs cells slots Q (F0 m pc ls (.int v :: rest)) := by
  have F' := F
  obtain ⟨hx, hb, -, hown, hts, hK, -⟩ := F
  subst hv
  refine va_newaK (atype := .int) hx hb (hts _ w60) rfl hdg rfl (nI_pos (by omega)) (nI_cl (by omega)) (by show N * 4 ≤ _; omega) hcells hslots (h := a + n) (by rw [hW.1, hn]) fun H1 cA e1 z1 o1 hAr hNm => ?_
  have ec := cy_I F' (cA := cA) hNm
  subst ec
  refine kk H1 (WX_push hW hn z1 o1 (by show H1[a + n]? = some (vp_cell _ _); rw [vp_cell_i]; exact e1)) ⟨?_, fun x h1 h2 => ?_, hS.2.2⟩
  · have := hS.1
    have := hW.1
    omega
  · rw [o1 x (by have := hS.1; have := hW.1; omega)]
    exact hS.2.1 x h1 h2
theorem i_newZ (F : FC p s m args c own cc nL D cy t a) (hW : WX D a es H) (hS : va_S (AA a) s.heap H locs) {n N : Nat} {v : Int32} (hn : es.length = n) (hv : v = nI N) (hN : N < 10000) (hcells : cells + 1 ≤ R.cells) (hslots : slots + N ≤ R.slots) (hdg : decode cc pc = .ok (.newarray .boolean, 2))
    (kk : ∀ H1 : Heap, WX D a (es ++ [.inl (cy 1, N, .inl (fun _ => 0))]) H1 → va_S (AA a) s.heap H1 locs → W p l e R s m args below meth c H1 locs (cells + 1) (slots + N) Q (F0 m (pc + 2) ls (.ref (a + n) :: rest))) : W p l e R s m args below meth c H locs cells slots Q (F0 m pc ls (.int v :: rest)) := by
  have F' := F
  obtain ⟨hx, hb, -, hown, hts, hK, -⟩ := F
  subst hv
  refine va_newaK (atype := .boolean) hx hb (hts _ w967) rfl hdg rfl (nI_pos (by omega)) (nI_cl (by omega)) (by show N * 1 ≤ _; omega) hcells hslots (h := a + n) (by rw [hW.1, hn]) fun H1 cA e1 z1 o1 hAr hNm => ?_
  have ec := cy_Z F' (cA := cA) hNm
  subst ec
  refine kk H1 (WX_push hW hn z1 o1 (by show H1[a + n]? = some (vp_cell _ _); rw [vp_cell_i]; exact e1)) ⟨?_, fun x h1 h2 => ?_, hS.2.2⟩
  · have := hS.1
    have := hW.1
    omega
  · rw [o1 x (by have := hS.1; have := hW.1; omega)]
    exact hS.2.1 x h1 h2
abbrev RA (x : ClassId) (n : Nat) (f : Nat → Option Nat) : va_E := .inl (x, n, .inr (.inr (.inr (.inr f))))
theorem i_anew (F : FC p s m args c own cc nL D cy t a) (hW : WX D a es H) (hS : va_S (AA a) s.heap H locs) {n N idx tk : Nat} {v : Int32} {C : String} (hn : es.length = n) (hv : v = nI N) (hN : N < 10000) (htk : (tysW cy)[tk]? = some (cy tk, .object C)) (hO : AOX (.object C) s) (hcl : Cond.classLink own idx C ∈ lw_good) (hcells : cells + 1 ≤ R.cells) (hslots : slots + N ≤ R.slots) (hdg : decode cc pc = .ok (.anewarray idx, 3))
    (kk : ∀ H1 : Heap, WX D a (es ++ [RA (cy tk) N (fun _ => none)]) H1 → va_S (AA a) s.heap H1 locs → W p l e R s m args below meth c H1 locs (cells + 1) (slots + N) Q (F0 m (pc + 3) ls (.ref (a + n) :: rest))) : W p l e R s m args below meth c H locs cells slots Q (F0 m pc ls (.int v :: rest)) := by
  obtain ⟨hx, hb, -, hown, hts, hK, -⟩ := F
  subst hv
  have ecl : (nI N).toNatClampNeg = N := nI_cl (by omega)
  refine W.anew hx hb hown (hts _ hcl) hO.use rfl hdg rfl (nI_pos (by omega)) (by rw [ecl]; omega) hcells (by rw [ecl]; exact hslots) fun cA kA comp f1 f2 f3 f4 => ?_
  obtain ⟨kA', comp', -, -, -, hnm⟩ := (hK.2 tk _ htk).2
  have ec : cA = cy tk := Option.some.inj (f1.symm.trans hnm)
  subst ec
  rw [ecl]
  generalize hH1 : H.push ({ cls := cy tk, slots := Array.replicate N .null, vm := .none } : Cell) = H1
  have hsz := hW.1
  rw [hn] at hsz
  have z1 : H1.size = a + n + 1 := by rw [← hH1, Array.size_push, hsz]
  have e1 : H1[a + n]? = some (arrV (cy tk) N (fun _ => .null)) := by rw [← hH1, ← hsz, Array.getElem?_push_size, ← arrV_new]
  have o1 : ∀ q : Nat, q < a + n → H1[q]? = H[q]? := fun q hq => by rw [← hH1, Array.getElem?_push, if_neg (by omega)]
  have K := kk H1 (WX_push hW hn z1 o1 (by show H1[a + n]? = some (vp_cell _ _); rw [vp_cell_q]; exact e1)) ⟨by have := hS.1; omega, fun x h1 h2 => by rw [o1 x (by have := hS.1; omega)]; exact hS.2.1 x h1 h2, hS.2.2⟩
  rw [hsz]
  exact K
theorem i_put (F : FC p s m args c own cc nL D cy t a) (hmi : meth.name = "<init>") {ci N idx k : Nat} {C : String} {T : u_T} {fs : List Value} {Y : List va_E} (hW : WX D a (.inr (ci, fs) :: Y) H) (hS : va_S (AA a) s.heap H locs) (hc : vwCl[ci]? = some (C, T, N)) {ty0 : Nat → FieldType} (hty : ∀ k, k < N → parseFieldDescriptor (T k).2.2.1 = some (ty0 k)) (hnm : ∀ a, a < N → ∀ b, b < N → a ≠ b → (T a).2.1 ≠ (T b).2.1) (hin : ∀ w ∈ u_ws C T N, w ∈ lw_good)
    (hk : k < N) (hlink : Cond.fieldLink own idx (T k).1 (T k).2.1 (T k).2.2.1 ∈ lw_good) (hfin : (T k).2.2.2 = true) (hdecl : (T k).1 = own) {ty : FieldType} {v : Value} (hd : parseFieldDescriptor (T k).2.2.1 = some ty) (hn : narrow ty v = v) (hfit : fits ty v = true) (hl : k < fs.length) (hdg : decode cc pc = .ok (.putfield idx, 3))
    (kk : ∀ (H1 : Heap) (locs1 : List Loc), WX D a (.inr (ci, fs.set k v) :: Y) H1 → va_S (AA a) s.heap H1 locs1 → W p l e R s m args below meth c H1 locs1 cells slots Q (F0 m (pc + 3) ls rest)) : W p l e R s m args below meth c H locs cells slots Q (F0 m pc ls (v :: .ref a :: rest)) := by
  obtain ⟨hx, hb, -, hown, hts, hK, -⟩ := F
  have hap := va_apart (own := own) hts hin ty0 hty hnm hK hc
  obtain ⟨r, h1, cell, q1, q2, q3, q4⟩ := hW.2 0 _ rfl
  have hr : r = (C, T, N) := Option.some.inj (h1.symm.trans hc)
  subst hr
  obtain ⟨hSl, hfc, kC, hkC, hkind⟩ := hK.1 ci _ hc
  obtain ⟨cf, kf, fi, f, hi, hsl⟩ := hSl k hk
  have hlay := hts _ (hin _ (u_in_lay hk))
  unfold u_lay at hlay
  rw [if_pos hfin] at hlay
  have hst := (u_facts hfc hkC (u_lays hts hin hk) hi).1
  have hcf : m.cls = cf := by
    obtain ⟨_, _, c', _, _, _, -, -, hf', -, -, -, hown2, -⟩ := Cond.laysFinal_spec hlay
    have e1 : c' = cf := by have := hi.symm.trans hf'; simp at this; exact this.1.symm
    rw [hdecl] at hown2
    rw [← e1]; exact Option.some.inj (hown.symm.trans hown2)
  have h6 := u_fits hfc hkC hkind (Or.inr hlay) hi hd hn hfit
  refine W.putFinK hx hb hown (hts _ hlink) hi hst hcf hmi (by rw [q2]; exact h6) q1 q3 (by rw [hsl]; exact k2_hasslot (q4 k hk)) rfl rfl hdg fun H' e1 e2 e3 => ?_
  rw [hsl] at e1 ⊢
  exact kk H' _ (WX_set (x := []) (n := 0) hW rfl e2 e3 ⟨_, hc, t_OB.to (V := updV (vp_V fs) k v) ⟨_, e1, q2, q3, t_set q4 hap hk v⟩ (fun j _ => vp_updV_set hl v j)⟩) (hS.put e2 e3 (Nat.le_refl a))
theorem i_get (F : FC p s m args c own cc nL D cy t a) {ci N idx k n : Nat} {C : String} {T : u_T} {fs : List Value} {X Y : List va_E} (hW : WX D a (X ++ .inr (ci, fs) :: Y) H) (hn : X.length = n) (hc : vwCl[ci]? = some (C, T, N)) (hin : ∀ w ∈ u_ws C T N, w ∈ lw_good) (hk : k < N) (hlink : Cond.fieldLink own idx (T k).1 (T k).2.1 (T k).2.2.1 ∈ lw_good) {v : Value} (hv : fs[k]? = some v) {b : Nat} (hb2 : b = a + n) (hdg : decode cc pc = .ok (.getfield idx, 3))
    (kk : W p l e R s m args below meth c H locs cells slots Q (F0 m (pc + 3) ls (v :: rest))) : W p l e R s m args below meth c H locs cells slots Q (F0 m pc ls (.ref b :: rest)) := by
  obtain ⟨hx, hb, -, hown, hts, hK, -⟩ := F
  have h1 := SG_at hW.2
  rw [hn] at h1
  subst hb2
  exact va_get (ws := [(a + n, .inr (ci, fs))]) hx hb hts hin hown hK (fun j q hj => by
    have hz : j < 1 := (List.getElem?_eq_some_iff.mp hj).1
    rw [show j = 0 by omega] at hj
    cases hj
    exact h1) 0 rfl hc k hk (hts _ hlink) (fun _ h9 => h9) hv hdg kk
theorem i_alen (F : FC p s m args c own cc nL D cy t a) {tk n : Nat} {x : vp_A} {X Y : List va_E} {ty : FieldType} (hW : WX D a (X ++ .inl (cy tk, x) :: Y) H) (hn : X.length = n) (htk : (tysW cy)[tk]? = some (cy tk, ty)) {v : Int32} (hv : Int32.ofNat x.1 = v) {b : Nat} (hb2 : b = a + n) (hdg : decode cc pc = .ok (.arraylength, 1))
    (kk : W p l e R s m args below meth c H locs cells slots Q (F0 m (pc + 1) ls (.int v :: rest))) : W p l e R s m args below meth c H locs cells slots Q (F0 m pc ls (.ref b :: rest)) := by
  obtain ⟨hx, hb, -, hown, hts, hK, -⟩ := F
  have h1 := SG_at hW.2
  rw [hn] at h1
  subst hb2
  exact va_alen (ws := [(a + n, .inl (cy tk, x))]) hx hb hK (fun j q hj => by
    have hz : j < 1 := (List.getElem?_eq_some_iff.mp hj).1
    rw [show j = 0 by omega] at hj
    cases hj
    exact h1) 0 tk rfl htk hv hdg kk
theorem i_iast (F : FC p s m args c own cc nL D cy t a) {n N : Nat} {f : Nat → Int32} {X Y : List va_E} (hW : WX D a (X ++ .inl (cy 0, N, .inl f) :: Y) H) (hS : va_S (AA a) s.heap H locs) (hn : X.length = n) {i : Int32} {k : Nat} {v : Int32} (hi : i = nI k) (hk : k < N) (hN : N < 10000) {b : Nat} (hb2 : b = a + n) (hdg : decode cc pc = .ok (.iastore, 1))
    (kk : ∀ (H1 : Heap) (locs1 : List Loc), WX D a (X ++ .inl (cy 0, N, .inl (upd f k v)) :: Y) H1 → va_S (AA a) s.heap H1 locs1 → W p l e R s m args below meth c H1 locs1 cells slots Q (F0 m (pc + 1) ls rest)) : W p l e R s m args below meth c H locs cells slots Q (F0 m pc ls (.int v :: .int i :: .ref b :: rest)) := by
  obtain ⟨hx, hb, -, hown, hts, hK, -⟩ := F
  have h1 := SG_at hW.2
  rw [hn] at h1
  subst hb2
  subst hi
  have ecl : (nI k).toNatClampNeg = k := nI_cl (by omega)
  refine W.iast hx hb h1 ((hK.2 0 _ rfl).1 N (fun j => .int (f j))) (fun q => by cases q) (by show ¬ (nI k < 0 ∨ (arrV _ _ _).slots.size ≤ _); rw [arrV_size]; exact fun z => z.elim (nI_pos (by omega)) (fun h => by have h2 : N ≤ (nI k).toNatClampNeg := h; rw [ecl] at h2; omega)) rfl rfl hdg fun H1 e z oq => ?_
  rw [ecl] at e ⊢
  refine kk H1 _ (WX_set hW hn z oq ?_) (hS.put z oq (Nat.le_add_right a n))
  show H1[a + n]? = some (vp_cell _ _)
  rw [e]
  rw [vp_cell_i, vp_cell_i, arrV_store]
  congr 2
  funext q
  by_cases hq : q = k
  · subst hq
    simp [updV, upd]
  · simp [updV, upd, hq]
theorem i_aast (F : FC p s m args c own cc nL D cy t a) {n n2 N ci tk : Nat} {r : vw_C} {f : Nat → Option Nat} {fs : List Value} {X Y X2 Y2 : List va_E} (hW : WX D a (X ++ RA (cy tk) N f :: Y) H) (hV : WX D a (X2 ++ .inr (ci, fs) :: Y2) H) (hS : va_S (AA a) s.heap H locs) (hn : X.length = n) (hn2 : X2.length = n2) (htk : (tysW cy)[tk]? = some (cy tk, .object r.1)) (hc : vwCl[ci]? = some r) {i : Int32} {k : Nat} (hi : i = nI k) (hk : k < N) (hN : N < 10000) {b v : Nat} (hb2 : b = a + n) (hv2 : v = a + n2) (hdg : decode cc pc = .ok (.aastore, 1))
    (kk : ∀ (H1 : Heap) (locs1 : List Loc), WX D a (X ++ RA (cy tk) N (va_up f k (some v)) :: Y) H1 → va_S (AA a) s.heap H1 locs1 → W p l e R s m args below meth c H1 locs1 cells slots Q (F0 m (pc + 1) ls rest)) : W p l e R s m args below meth c H locs cells slots Q (F0 m pc ls (.ref v :: .int i :: .ref b :: rest)) := by
  obtain ⟨hx, hb, -, hown, hts, hK, -⟩ := F
  have h1 := SG_at hW.2
  rw [hn] at h1
  have h2 := SG_at hV.2
  rw [hn2] at h2
  subst hb2
  subst hv2
  subst hi
  have ecl : (nI k).toNatClampNeg = k := nI_cl (by omega)
  obtain ⟨r', hr', cellV, g1, g2, g3, -⟩ := h2
  have hcls := (hK.1 ci r hc).2
  obtain ⟨kA, comp, k1, k2, k3, -⟩ := (hK.2 tk _ htk).2
  have hcomp : comp = D.1 ci := Option.some.inj (k3.symm.trans hcls.1)
  subst hcomp
  obtain ⟨kC, hkC, -⟩ := hcls.2
  refine W.aast hx hb h1 (fun q h => by cases h) (fun h => by cases h) k1 k2 rfl hkC ⟨nI_pos (by omega), by show _ < (arrV _ _ _).slots.size; rw [arrV_size, ecl]; exact hk⟩ g1 (fun q h => by rw [g3] at h; cases h) (by rw [g2]; exact hkC) (by rw [g2]; exact va_assign hcls) rfl rfl hdg fun H1 e z oq => ?_
  rw [ecl] at e ⊢
  refine kk H1 _ (WX_set hW hn z oq ?_) (hS.put z oq (Nat.le_add_right a n))
  show H1[a + n]? = some (vp_cell _ _)
  rw [e]
  rw [vp_cell_q, vp_cell_q, arrV_store]
  congr 2
  funext q
  by_cases hq : q = k
  · subst hq
    simp [updV, va_up, va_rf]
  · simp [updV, va_up, hq]
theorem i_obj (F : FC p s m args c own cc nL D cy t a) {idx b : Nat} (hlink : Cond.methodLink own idx Lib.objectInit ∈ lw_good) (hsize : ls.size = nL) (hframes : 1 ≤ R.frames) (hlocals : (rest.map fun v => v.category).sum + 12 ≤ R.locals) (hdg : decode cc pc = .ok (.invokespecial idx, 3))
    (kk : W p l e R s m args below meth c H locs cells slots Q (F0 m (pc + 3) ls rest)) : W p l e R s m args below meth c H locs cells slots Q (F0 m pc ls (.ref b :: rest)) := by
  obtain ⟨hx, hb, hml, hown, hts, -⟩ := F
  exact W.objInit hx hb hown (hts _ hlink) (hts _ w22) (hts _ w23) (g := F0 m pc ls (.ref b :: rest)) rfl (hsize.trans hml.symm) rfl hdg hframes (by show 2 * 0 + _ + 12 ≤ _; omega) kk
theorem wx_tail {es es0 : List va_E} {n : Nat} (hW : WX D a (es ++ es0) H) (hn : es.length = n) : WX D (a + n) es0 H := ⟨by rw [hW.1, List.length_append, hn, Nat.add_assoc], by rw [← hn]; exact SG_r hW.2⟩
theorem wx_back {es es0 es1 : List va_E} {n : Nat} {H1 : Heap} (hW : WX D a (es ++ es0) H) (hn : es.length = n) (hk : ∀ q : Nat, q < H.size → ¬ AA (a + n) q → H1[q]? = H[q]?) (h1 : WX D (a + n) es1 H1) : WX D a (es ++ es1) H1 := by
  refine ⟨by rw [h1.1, List.length_append, hn, Nat.add_assoc], SG_app (SG_kept (SG_l hW.2) (fun q _ hq => hk q ?_ ?_)) (by rw [hn]; exact h1.2)⟩
  · rw [hW.1, List.length_append]
    omega
  · exact fun (z : a + n ≤ q) => by omega
/-- a constructor called -/
theorem i_ctor {y : MethodName} {b : ByteArray} {nn f k mc ms idx na n : Nat} {av : Nat → List Value} {es0 es1 : Nat → List va_E} {st0 : List Value} (F : FC p s m args c own cc nL D cy t a) (hW : WX D a (es ++ es0 (a + n)) H) (hS : va_S (AA a) s.heap H locs) (hn : es.length = n) (hM : MC l y b nn f k mc ms D cy t av es0 es1)
    (hcode : Cond.code y b nn none ∈ lw_good) (hini : Cond.initialized y.cls ∈ lw_good) (hl : Cond.methodLink own idx y ∈ lw_good) (hinm : Cond.instanceMethod y ∈ lw_good) (hy1 : y.name = "<init>") (hd : y.cls ≠ "java/lang/invoke/MethodHandle" ∧ y.cls ≠ "java/lang/invoke/VarHandle" ∧ (parseMethodDescriptor y.desc).map (fun d => d.parameters.length) = some na)
    (hR : f + 1 ≤ R.frames ∧ 8 + (nn + 11) + k ≤ R.locals) (hlen : (av (a + n)).length = na) (hls : ls.size = nL) (hst : st0 = (av (a + n)).reverse ++ .ref (a + n) :: rest) (hroom : (rest.map fun v => v.category).sum ≤ 8) (hcells : cells + mc ≤ R.cells) (hslots : slots + ms ≤ R.slots) (hdg : decode cc pc = .ok (.invokespecial idx, 3))
    (kk : ∀ (H1 : Heap) (locs1 : List Loc), WX D a (es ++ es1 (a + n)) H1 → va_S (AA a) s.heap H1 locs1 → W p l e R s m args below meth c H1 locs1 (cells + mc) (slots + ms) Q (F0 m (pc + 3) ls rest)) : W p l e R s m args below meth c H locs cells slots Q (F0 m pc ls st0) := by
  have F' := F
  obtain ⟨hx, hb, hml, hown, hts, -⟩ := F
  have hmono : ∀ q, AA (a + n) q → AA a q := fun q (h : a + n ≤ q) => (by show a ≤ q; omega)
  refine va_callv (va_runI (b := a + n) (As := av (a + n)) (rest := rest) ⟨hx, hb, hml, hown, hts⟩ (hM (a + n)) (cwI na hts (ws_good hcode) rfl rfl rfl (hts _ hini) (hts _ hl) (hts _ hinm) hy1 hd hR) ⟨mc_blind, fun U hU hWm => ⟨rfl, by rw [hU]; exact wx_tail hW hn, kx_call F' hS hU hWm⟩⟩ rfl hlen hls hst (lv_room hroom) hdg ⟨hcells, hslots⟩) hS (fun q _ h => hmono q h) (fun q h => hmono q h) (fun u t H1 locs1 ht _ _ hB _ hk1 hS1 => ?_)
  exact kk H1 locs1 (wx_back hW hn hk1 (by rw [← ht]; exact hB)) hS1
/-- a constructor of a nest mate called -/
theorem i_ctorN {y : MethodName} {host : String} {b : ByteArray} {nn f k mc ms idx na n : Nat} {av : Nat → List Value} {es0 es1 : Nat → List va_E} {st0 : List Value} (F : FC p s m args c own cc nL D cy t a) (hW : WX D a (es ++ es0 (a + n)) H) (hS : va_S (AA a) s.heap H locs) (hn : es.length = n) (hM : MC l y b nn f k mc ms D cy t av es0 es1)
    (hcode : Cond.code y b nn none ∈ lw_good) (hini : Cond.initialized y.cls ∈ lw_good) (hl : Cond.methodLinkNest own idx y host ∈ nestW) (hinm : Cond.instanceMethod y ∈ lw_good) (hy1 : y.name = "<init>") (hd : y.cls ≠ "java/lang/invoke/MethodHandle" ∧ y.cls ≠ "java/lang/invoke/VarHandle" ∧ (parseMethodDescriptor y.desc).map (fun d => d.parameters.length) = some na)
    (hR : f + 1 ≤ R.frames ∧ 8 + (nn + 11) + k ≤ R.locals) (hlen : (av (a + n)).length = na) (hls : ls.size = nL) (hst : st0 = (av (a + n)).reverse ++ .ref (a + n) :: rest) (hroom : (rest.map fun v => v.category).sum ≤ 8) (hcells : cells + mc ≤ R.cells) (hslots : slots + ms ≤ R.slots) (hdg : decode cc pc = .ok (.invokespecial idx, 3))
    (kk : ∀ (H1 : Heap) (locs1 : List Loc), WX D a (es ++ es1 (a + n)) H1 → va_S (AA a) s.heap H1 locs1 → W p l e R s m args below meth c H1 locs1 (cells + mc) (slots + ms) Q (F0 m (pc + 3) ls rest)) : W p l e R s m args below meth c H locs cells slots Q (F0 m pc ls st0) := by
  have F' := F
  obtain ⟨hx, hb, hml, hown, hts, -, hNw, -⟩ := F
  have hmono : ∀ q, AA (a + n) q → AA a q := fun q (h : a + n ≤ q) => (by show a ≤ q; omega)
  refine va_callv (va_runIN (b := a + n) (As := av (a + n)) (rest := rest) ⟨hx, hb, hml, hown, hts⟩ (hM (a + n)) ⟨va_cnB na hts (ws_good hcode) rfl rfl rfl (hNw _ hl) (hts _ hini) hd hR, hy1, hts _ hinm⟩ ⟨mc_blind, fun U hU hWm => ⟨rfl, by rw [hU]; exact wx_tail hW hn, kx_call F' hS hU hWm⟩⟩ rfl hlen hls hst (lv_room hroom) hdg ⟨hcells, hslots⟩) hS (fun q _ h => hmono q h) (fun q h => hmono q h) (fun u t H1 locs1 ht _ _ hB _ hk1 hS1 => ?_)
  exact kk H1 locs1 (wx_back hW hn hk1 (by rw [← ht]; exact hB)) hS1
theorem i_vret {mc ms : Nat} {es1 : List va_E} (F : FC p s m args c own cc nL D cy t a) (hr : meth.sig.returnType = none) (hlo : meth.locks = false) (hW : WX D a es1 H) (hS : va_S (AA a) s.heap H locs) (hc : cells ≤ mc) (hs : slots ≤ ms) (hdg : decode cc pc = .ok (.return_, 1)) :
    W p l e R s m args below meth c H locs cells slots (MQ below (va_Qv (fun _ : Unit => True) (fun _ u => WX D a es1 u.heap) (AA a)) args s mc ms (AA a)) (F0 m pc ls []) :=
  W.widen hc hs (W.vret F.1 F.2.1 hr (fun t ht _ => ⟨⟨(), rfl, trivial, by show WX D a es1 t.heap; rw [ht]; exact hW⟩, hS.F ht⟩) hS.2.2 hdg hlo)
end CT
theorem MC_of {l : Launch} {y : MethodName} {own : String} {b : ByteArray} {n f k mc ms : Nat} {D : va_G} {cy : Nat → ClassId} {t : Nat} {av : Nat → List Value} {es0 es1 : Nat → List va_E} (hy : plainName y.cls = true) (hin : y.name = "<init>") (ho : y.cls = own) (hlen : ∀ a, (lg_sl (.ref a :: av a)).length ≤ n)
    (body : ∀ a p e s m args below meth c, FC p s m args c own b n D cy t a → meth.sig.returnType = none → meth.locks = false → meth.name = "<init>" → WX D a (es0 a) s.heap → va_S (AA a) s.heap s.heap [] → ∀ ls, lv_has ls n (lv_args 0 (.ref a :: av a)) → W p l e { frames := f, cells := mc, slots := ms, locals := k } s m args below meth c s.heap [] 0 0 (MQ below (va_Qv (fun _ : Unit => True) (fun _ u => WX D a (es1 a) u.heap) (AA a)) args s mc ms (AA a)) (F0 m 0 ls [])) : MC l y b n f k mc ms D cy t av es0 es1 := by
  intro a
  refine Met.ofW (cc := b) (maxL := n) (ret := none) (ws' := lw_good) hy rfl ?_
  intro p e s m args below meth c s₁ B hml hv
  obtain ⟨rfl, hW, hK⟩ := hv
  rw [lg_entry_eq]
  exact body a p e s m _ below meth c ⟨B.exec, B.bytes, hml, by rw [← ho]; exact findClass_of_methodNamed B.named, fun w hw => atoms_spec B.pre w (List.mem_cons_of_mem _ hw), hK⟩ B.returns B.notSynchronized (by rw [(name_of_methodNamed B.named B.method).1]; exact hin) hW va_S.rf _ (lv_entry (.ref a :: av a) (hlen a))
