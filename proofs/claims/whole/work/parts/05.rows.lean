/-! the picture: every cell of both systems, by the memories M (class) and N (reference) -/
abbrev GD : Type := va_G × (Nat → Nat) × (Nat → ClassId) × (Nat → Nat)
def obF (ad : Nat → Nat) (M N : Mem) (i : Nat) : Nat → List Value := fun c => match c with
  | 0 => [.ref (ad (rf i 0)), .int (M i 1)]
  | 1 => [.int (M i 0), .int (M i 1), .ref (ad (rf i 2)), .ref (ad (rf i 3))]
  | 2 => [.ref (ad (rf i 0)), .int (M i 1)]
  | 3 => [.ref (ad (rf i 0)), .ref (ad (rf i 1))]
  | 4 => [.ref (ad (rf i 0)), .int (M i 1), .int (M i 2), .int (M i 3), .ref (ad (rf i 4)), .ref (ad (rf i 5)), .ref (ad (rf i 6)), .ref (ad (rf i 7)), .int (M i 8), .ref (ad (rf i 9)), .ref (ad (rf i 10))]
  | 5 => [.ref (ad (rf i 0)), .int (M i 1)]
  | 6 => [.int (M i 0), .int (M i 1), .int (M i 2), .ref (ad (rf i 3)), .ref (ad (rf i 4)), .ref (ad (rf i 5)), .ref (ad (rf i 6)), .ref (ad (rf i 7)), .ref (ad (rf i 8)), .ref (ad (rf i 9)), .ref (ad (rf i 10)), .ref (ad (rf i 11)), .ref (ad (rf i 12))]
  | 7 => [.ref (ad (rf i 0)), .ref (ad (rf i 1)), .ref (ad (rf i 2))]
  | 8 => [.ref (ad (rf i 0)), .int (M i 1), .int (M i 2), .int (M i 3), .int (M i 4)]
  | 9 => [.int (M i 0), .ref (ad (rf i 1)), .ref (ad (rf i 2)), .ref (ad (rf i 3))]
  | 10 => [.ref (ad (rf i 0)), .ref (ad (rf i 1))]
  | 11 => [.ref (ad (rf i 0)), .ref (ad (rf i 1)), .ref (ad (rf i 2)), .int (M i 3), .ref (ad (rf i 4)), .ref (ad (rf i 5)), .ref (ad (rf i 6)), .ref (ad (rf i 7)), .ref (ad (rf i 8))]
  | _ => [.ref (ad (rf i 0)), .ref (ad (rf i 1)), .ref (ad (rf i 2)), .int (N i 3), .ref (ad (rf i 4)), .ref (ad (rf i 5)), .ref (ad (rf i 6)), .int (N i 7), .ref (ad (rf i 8)), .ref (ad (rf i 9)), .int (N i 10), .int (N i 11), .ref (ad (rf i 12)), .int (N i 13), .int (N i 14), .int (N i 15), .int (N i 16), .int (N i 17), .int (N i 18), .int (N i 19), .int (N i 20)]
def arE (ad : Nat → Nat) (cy : Nat → ClassId) (M N : Mem) (i : Nat) : Nat → va_E := fun t => match t with
  | 20 => .inl (cy 0, ln i, .inl (M i))
  | 30 => .inl (cy 0, ln i, .inl (N i))
  | 31 => .inl (cy 1, ln i, .inl (N i))
  | 22 => .inl (cy 2, ln i, .inr (.inr (.inr (.inr (fun j => some (ad (rf i j)))))))
  | 24 => .inl (cy 4, ln i, .inr (.inr (.inr (.inr (fun j => some (ad (rf i j)))))))
  | _ => .inl (cy 3, ln i, .inr (.inr (.inr (.inr (fun j => some (ad (M i j).toNatClampNeg))))))
def ent (ad : Nat → Nat) (cy : Nat → ClassId) (M N : Mem) (i : Nat) : va_E := if shp i < 20 then .inr (shp i, obF ad M N i (shp i)) else arE ad cy M N i (shp i)
def wl (ad : Nat → Nat) (cy : Nat → ClassId) (M N : Mem) : va_W := (List.range 741).map (fun i => (ad i, ent ad cy M N i))
theorem wl_len {ad : Nat → Nat} {cy : Nat → ClassId} {M N : Mem} : (wl ad cy M N).length = 741 := by
  unfold wl
  rw [List.length_map, List.length_range]
theorem wl_get {ad : Nat → Nat} {cy : Nat → ClassId} {M N : Mem} {i : Nat} (h : i < 741) : (wl ad cy M N)[i]? = some (ad i, ent ad cy M N i) := by
  unfold wl
  rw [List.getElem?_map, List.getElem?_range h]
  rfl
theorem wl_out {ad : Nat → Nat} {cy : Nat → ClassId} {M N : Mem} {i : Nat} {q : Nat × va_E} (h : (wl ad cy M N)[i]? = some q) : i < 741 ∧ q = (ad i, ent ad cy M N i) := by
  have hl := (List.getElem?_eq_some_iff.mp h).1
  unfold wl at hl
  rw [List.length_map, List.length_range] at hl
  exact ⟨hl, Option.some.inj (h.symm.trans (wl_get hl))⟩
theorem shp_lt {i t : Nat} (h : shp i = t) (ht : t < 99) : i < 741 := by
  refine Nat.not_le.mp fun q => ?_
  have h9 : shp i = 99 := by
    unfold shp
    rw [if_neg (by omega), if_neg (by omega), if_neg (by omega)]
  omega
theorem ent_ob {ad : Nat → Nat} {cy : Nat → ClassId} {M N : Mem} {i c : Nat} (h : shp i = c) (hc : c < 20) : ent ad cy M N i = .inr (c, obF ad M N i c) := by
  unfold ent
  rw [h, if_pos hc]
theorem ent_ar {ad : Nat → Nat} {cy : Nat → ClassId} {M N : Mem} {i t : Nat} (h : shp i = t) (ht : ¬ t < 20) : ent ad cy M N i = arE ad cy M N i t := by
  unfold ent
  rw [h, if_neg ht]
theorem obF_congr {ad : Nat → Nat} {M N M' N' : Mem} {i c : Nat} (h : M i = M' i) (h2 : N i = N' i) : obF ad M N i c = obF ad M' N' i c := by
  unfold obF
  rw [h, h2]
theorem arE_congr {ad : Nat → Nat} {cy : Nat → ClassId} {M N M' N' : Mem} {i c : Nat} (h : M i = M' i) (h2 : N i = N' i) : arE ad cy M N i c = arE ad cy M' N' i c := by
  unfold arE
  rw [h, h2]
theorem ent_congr {ad : Nat → Nat} {cy : Nat → ClassId} {M N M' N' : Mem} {i : Nat} (h : M i = M' i) (h2 : N i = N' i) : ent ad cy M N i = ent ad cy M' N' i := by
  unfold ent
  rw [obF_congr h h2, arE_congr h h2]
theorem up2_ne {M : Mem} {i j k : Nat} {v : Int32} (h : j ≠ i) : up2 M i k v j = M j := by
  funext q
  unfold up2
  rw [if_neg h]
theorem up2_row {M : Mem} {i k : Nat} {v : Int32} : up2 M i k v i = upd (M i) k v := by
  funext q
  unfold up2 upd
  rw [if_pos rfl]
/-- one entry anew: the rest stays -/
theorem wl_set {ad : Nat → Nat} {cy : Nat → ClassId} {M N M' N' : Mem} {i : Nat} {e : va_E} (hi : i < 741) (he : ent ad cy M' N' i = e) (ho : ∀ j, j ≠ i → M j = M' j ∧ N j = N' j) : (wl ad cy M N).set i (ad i, e) = wl ad cy M' N' := by
  refine List.ext_getElem? fun k => ?_
  by_cases hk : k = i
  · subst hk
    rw [wl_get hi, he, List.getElem?_set_self]
    rw [wl_len]
    exact hi
  · rw [List.getElem?_set_ne (Ne.symm hk)]
    by_cases hl : k < 741
    · rw [wl_get hl, wl_get hl, ent_congr (ho k hk).1 (ho k hk).2]
    · have e1 : ∀ A B : Mem, (wl ad cy A B)[k]? = none := fun A B => List.getElem?_eq_none (by rw [wl_len]; omega)
      rw [e1, e1]
/-- the cells that a call may change -/
def AG (ad : Nat → Nat) : Nat → Prop := fun q => ∃ i, i < 741 ∧ q = ad i
def tysW (cy : Nat → ClassId) : List (ClassId × FieldType) := [(cy 0, .int), (cy 1, .boolean), (cy 2, .object "PhaseLights$Premiere"), (cy 3, .object "PhaseLights$State"), (cy 4, .array .int)]
def Zo (A : Nat → Prop) (k t : Nat) (n : String) (U : State) (H : Heap) : Prop := va_Z "PhaseLights" n "[I" (.ref t) A U H ∧ va_T .int t 3 (fun j => .int (sta k j)) A U H
def Zs (A : Nat → Prop) (tt : Nat → Nat) (U : State) (H : Heap) : Prop := Zo A 0 (tt 0) "FIRST_SETTING" U H ∧ Zo A 1 (tt 1) "LEAST_SETTING" U H ∧ Zo A 2 (tt 2) "MOST_SETTING" U H
theorem Zo_moved {A : Nat → Prop} {k t : Nat} {n : String} {u U : State} {H : Heap} (hvm : u.vm.Alike U.vm) (h : Zo A k t n u H) : Zo A k t n U H := ⟨va_Z.moved hvm h.1, va_T.moved hvm h.2⟩
theorem Zo_kept {A : Nat → Prop} {k t : Nat} {n : String} {U : State} {H H1 : Heap} (h : Zo A k t n U H) (hq : ∀ a : Nat, a < H.size → ¬ A a → H1[a]? = H[a]?) : Zo A k t n U H1 := ⟨va_Z.kept h.1 hq, va_T.kept h.2 hq⟩
theorem Zs_moved {A : Nat → Prop} {tt : Nat → Nat} {u U : State} {H : Heap} (hvm : u.vm.Alike U.vm) (h : Zs A tt u H) : Zs A tt U H := ⟨Zo_moved hvm h.1, Zo_moved hvm h.2.1, Zo_moved hvm h.2.2⟩
theorem Zs_kept {A : Nat → Prop} {tt : Nat → Nat} {U : State} {H H1 : Heap} (h : Zs A tt U H) (hq : ∀ a : Nat, a < H.size → ¬ A a → H1[a]? = H[a]?) : Zs A tt U H1 := ⟨Zo_kept h.1 hq, Zo_kept h.2.1 hq, Zo_kept h.2.2 hq⟩
def Nw (U : State) : Prop := ∀ w ∈ nestW, va_Nw w U
theorem Nw_warm {s U : State} (hW : s.WarmedH U.vm) (h : Nw s) : Nw U := by
  intro w hw
  have h1 := h w hw
  have h2 := nestW_ok w hw
  cases w with
  | methodLinkNest a i x hh => exact va_Nw.warmM hW h1
  | fieldLinkNest a i b n d hh => exact va_Nw.warmF hW h1
  | _ => exact absurd h2 (by simp [nestOk])
theorem Nw_same {s U : State} (hv : s.vm = U.vm) (h : Nw s) : Nw U := by
  intro w hw
  have h1 := h w hw
  have h2 := nestW_ok w hw
  cases w with
  | methodLinkNest a i x hh => exact va_Nw.same rfl hv h1
  | fieldLinkNest a i b n d hh => exact va_Nw.same rfl hv h1
  | _ => exact absurd h2 (by simp [nestOk])
/-- the world of a call: the picture and what the tables say -/
def Wd (G : GD) (M N : Mem) (U : State) : Prop := va_P G.1 vwCl (wl G.2.1 G.2.2.1 M N) U.heap ∧ va_D (AG G.2.1) (wl G.2.1 G.2.2.1 M N) ∧ va_K G.1 vwCl (tysW G.2.2.1) U ∧ Nw U ∧ Zs (AG G.2.1) G.2.2.2 U U.heap
def WS (y : MethodName) (b : ByteArray) (n : Nat) (r : Option FieldType) : List Cond := Cond.code y b n r :: lw_good
def Rm (f k : Nat) : Room := { frames := f, cells := 0, slots := 0, locals := k }
/-- contracts: an int (or boolean) answer; none; a cell of the picture or null -/
def MI (l : Launch) (y : MethodName) (b : ByteArray) (n : Nat) (t : FieldType) (f k : Nat) (G : GD) (av : List Value) (M N : Mem) (r : Int32) (M' N' : Mem) : Prop :=
  Met l y (WS y b n (some t)) (Rm f k) (va_Pc av (Wd G M N)) (va_Qi (fun r' (_ : Unit) => r' = r) (fun _ t => Wd G M' N' t) (AG G.2.1)) 0 0 (AG G.2.1)
def MV (l : Launch) (y : MethodName) (b : ByteArray) (n : Nat) (f k : Nat) (G : GD) (av : List Value) (M N M' N' : Mem) : Prop :=
  Met l y (WS y b n none) (Rm f k) (va_Pc av (Wd G M N)) (va_Qv (fun _ : Unit => True) (fun _ t => Wd G M' N' t) (AG G.2.1)) 0 0 (AG G.2.1)
def MO (l : Launch) (y : MethodName) (b : ByteArray) (n : Nat) (C : String) (f k : Nat) (G : GD) (av : List Value) (M N : Mem) (r : Option Nat) (M' N' : Mem) : Prop :=
  Met l y (WS y b n (some (.object C))) (Rm f k) (va_Pc av (Wd G M N)) (va_Qe G.2.1 (fun r' (_ : Unit) => r' = r) (fun _ t => Wd G M' N' t) (AG G.2.1)) 0 0 (AG G.2.1)
/-- what stays in a method's walk -/
def FX (p : Program) (s : State) (m : MethodId) (args : Array Value) (meth : Method) (c : Code) (own : String) (cc : ByteArray) (nL : Nat) (ret : Option FieldType) (G : GD) : Prop :=
  p.tables.exec = Jvm.exec ∧ c.code = cc ∧ c.maxLocals = nL ∧ meth.sig.returnType = ret ∧ s.vm.findClass own = some m.cls ∧ (∀ w ∈ lw_good, w.before args s = true) ∧ meth.locks = false ∧ va_K G.1 vwCl (tysW G.2.2.1) s ∧ Nw s ∧ Zs (AG G.2.1) G.2.2.2 s s.heap
/-- what a walk has at a heap -/
def ST (G : GD) (M N : Mem) (s : State) (H : Heap) (locs : List Loc) : Prop := va_P G.1 vwCl (wl G.2.1 G.2.2.1 M N) H ∧ va_D (AG G.2.1) (wl G.2.1 G.2.2.1 M N) ∧ va_S (AG G.2.1) s.heap H locs
theorem va_D_any {G : GD} {M N M' N' : Mem} {A : Nat → Prop} (h : va_D A (wl G.2.1 G.2.2.1 M N)) : va_D A (wl G.2.1 G.2.2.1 M' N') := by
  refine ⟨fun i j p q hi hj hpq => ?_, fun k q hk => ?_⟩
  · obtain ⟨hi1, rfl⟩ := wl_out hi
    obtain ⟨hj1, rfl⟩ := wl_out hj
    exact h.1 i j _ _ (wl_get hi1) (wl_get hj1) hpq
  · obtain ⟨hk1, rfl⟩ := wl_out hk
    exact h.2 k (G.2.1 k, ent G.2.1 G.2.2.1 M N k) (wl_get hk1)
section RW
variable {p : Program} {l : Launch} {e : Env} {R : Room} {s : State} {m : MethodId} {args : Array Value} {below : List Frame} {meth : Method} {c : Code} {H : Heap} {locs : List Loc} {Q : State → Prop}
variable {cc : ByteArray} {pc nL : Nat} {ls : Array Slot} {rest : List Value} {G : GD} {M N M' N' : Mem} {own : String} {ret : Option FieldType}
/-- the world at a callee's start -/
theorem wd_call (F : FX p s m args meth c own cc nL ret G) (S : ST G M N s H locs) {U : State} (hU : U.heap = H) (hW : s.WarmedH U.vm) : Wd G M N U := by
  obtain ⟨-, -, -, -, -, -, -, hK, hN, hZ⟩ := F
  refine ⟨by rw [hU]; exact S.1, S.2.1, va_K.moved hW.alike hK, Nw_warm hW hN, ?_⟩
  rw [hU]
  exact Zs_kept (Zs_moved hW.alike hZ) S.2.2.2.1
theorem wd_blind {av : List Value} : FrameBlind (va_Pc av (Wd G M N)) := by
  intro a U g mk q
  obtain ⟨q0, q1, q2, q3, q4, q5⟩ := q
  exact ⟨q0, q1, q2, va_K.moved (u := U) (U := U.calling g mk a) (Vm.Alike.refl U.vm) q3, Nw_same (s := U) (U := U.calling g mk a) rfl q4, Zs_moved (u := U) (U := U.calling g mk a) (Vm.Alike.refl U.vm) q5⟩
theorem st_of {t : State} {H1 : Heap} {locs1 : List Loc} (h : Wd G M N t) (ht : t.heap = H1) (hS : va_S (AG G.2.1) s.heap H1 locs1) : ST G M N s H1 locs1 := ⟨by rw [← ht]; exact h.1, h.2.1, hS⟩
/-! instructions on the memory -/
theorem r_get (F : FX p s m args meth c own cc nL ret G) (S : ST G M N s H locs) {i ci idx k NF : Nat} {C : String} {T : u_T} {v : Value} (hsh : shp i = ci) (hc20 : ci < 20) (hc : vwCl[ci]? = some (C, T, NF)) (hin : ∀ w ∈ u_ws C T NF, w ∈ lw_good) (hk : k < NF)
    (hl : Cond.fieldLink own idx (T k).1 (T k).2.1 (T k).2.2.1 ∈ lw_good) (hv : (obF G.2.1 M N i ci)[k]? = some v) (hdg : decode cc pc = .ok (.getfield idx, 3))
    (kk : W p l e R s m args below meth c H locs 0 0 Q (F0 m (pc + 3) ls (v :: rest))) : W p l e R s m args below meth c H locs 0 0 Q (F0 m pc ls (.ref (G.2.1 i) :: rest)) := by
  obtain ⟨hx, hb, -, -, hown, hts, -, hK, -, -⟩ := F
  have hi : i < 741 := shp_lt hsh (by omega)
  have he : (wl G.2.1 G.2.2.1 M N)[i]? = some (G.2.1 i, .inr (ci, obF G.2.1 M N i ci)) := by rw [wl_get hi, ent_ob hsh hc20]
  exact va_get hx hb hts hin hown hK S.1 i he hc k hk (hts _ hl) (fun _ h9 => h9) hv hdg kk
theorem r_gI (F : FX p s m args meth c own cc nL ret G) (S : ST G M N s H locs) {i ci idx k NF : Nat} {C : String} {T : u_T} {x : Int32} (hg : gI ci k M i = some x) (hc20 : ci < 20) (hc : vwCl[ci]? = some (C, T, NF)) (hin : ∀ w ∈ u_ws C T NF, w ∈ lw_good) (hk : k < NF)
    (hl : Cond.fieldLink own idx (T k).1 (T k).2.1 (T k).2.2.1 ∈ lw_good) (hv : ∀ ad : Nat → Nat, (obF ad M N i ci)[k]? = some (.int (M i k))) (hdg : decode cc pc = .ok (.getfield idx, 3))
    (kk : W p l e R s m args below meth c H locs 0 0 Q (F0 m (pc + 3) ls (.int x :: rest))) : W p l e R s m args below meth c H locs 0 0 Q (F0 m pc ls (.ref (G.2.1 i) :: rest)) := by
  unfold gI at hg
  split at hg
  · rename_i hsh
    cases hg
    exact r_get F S hsh hc20 hc hin hk hl (hv _) hdg kk
  · cases hg
/-- the reference's -/
theorem r_gN (F : FX p s m args meth c own cc nL ret G) (S : ST G M N s H locs) {i ci idx k NF : Nat} {C : String} {T : u_T} {x : Int32} (hg : gI ci k N i = some x) (hc20 : ci < 20) (hc : vwCl[ci]? = some (C, T, NF)) (hin : ∀ w ∈ u_ws C T NF, w ∈ lw_good) (hk : k < NF)
    (hl : Cond.fieldLink own idx (T k).1 (T k).2.1 (T k).2.2.1 ∈ lw_good) (hv : ∀ ad : Nat → Nat, (obF ad M N i ci)[k]? = some (.int (N i k))) (hdg : decode cc pc = .ok (.getfield idx, 3))
    (kk : W p l e R s m args below meth c H locs 0 0 Q (F0 m (pc + 3) ls (.int x :: rest))) : W p l e R s m args below meth c H locs 0 0 Q (F0 m pc ls (.ref (G.2.1 i) :: rest)) := by
  unfold gI at hg
  split at hg
  · rename_i hsh
    cases hg
    exact r_get F S hsh hc20 hc hin hk hl (hv _) hdg kk
  · cases hg
theorem r_gR (F : FX p s m args meth c own cc nL ret G) (S : ST G M N s H locs) {i ci idx k NF x : Nat} {C : String} {T : u_T} (hg : gR ci k i = some x) (hc20 : ci < 20) (hc : vwCl[ci]? = some (C, T, NF)) (hin : ∀ w ∈ u_ws C T NF, w ∈ lw_good) (hk : k < NF)
    (hl : Cond.fieldLink own idx (T k).1 (T k).2.1 (T k).2.2.1 ∈ lw_good) (hv : ∀ ad : Nat → Nat, (obF ad M N i ci)[k]? = some (.ref (ad (rf i k)))) (hdg : decode cc pc = .ok (.getfield idx, 3))
    (kk : W p l e R s m args below meth c H locs 0 0 Q (F0 m (pc + 3) ls (.ref (G.2.1 x) :: rest))) : W p l e R s m args below meth c H locs 0 0 Q (F0 m pc ls (.ref (G.2.1 i) :: rest)) := by
  unfold gR at hg
  split at hg
  · rename_i hsh
    cases hg
    exact r_get F S hsh hc20 hc hin hk hl (hv _) hdg kk
  · cases hg
theorem r_put (F : FX p s m args meth c own cc nL ret G) (S : ST G M N s H locs) {i ci idx k NF : Nat} {C : String} {T : u_T} {ty0 : Nat → FieldType} {ty : FieldType} {v : Int32} (hsh : shp i = ci) (hc20 : ci < 20) (hc : vwCl[ci]? = some (C, T, NF)) (hin : ∀ w ∈ u_ws C T NF, w ∈ lw_good)
    (hty : ∀ k, k < NF → parseFieldDescriptor (T k).2.2.1 = some (ty0 k)) (hnm : ∀ a, a < NF → ∀ b, b < NF → a ≠ b → (T a).2.1 ≠ (T b).2.1) (hk : k < NF) (hl : Cond.fieldLink own idx (T k).1 (T k).2.1 (T k).2.2.1 ∈ lw_good)
    (hfin : (T k).2.2.2 = false) (hd : parseFieldDescriptor (T k).2.2.1 = some ty) (hn : narrow ty (.int v) = .int v) (hfit : fits ty (.int v) = true) (hlen : ∀ ad : Nat → Nat, k < (obF ad M N i ci).length)
    (hset : ∀ ad : Nat → Nat, obF ad M' N' i ci = (obF ad M N i ci).set k (.int v)) (ho : ∀ j, j ≠ i → M j = M' j ∧ N j = N' j)
    (hdg : decode cc pc = .ok (.putfield idx, 3)) (kk : ∀ (H1 : Heap) (locs1 : List Loc), ST G M' N' s H1 locs1 → W p l e R s m args below meth c H1 locs1 0 0 Q (F0 m (pc + 3) ls rest)) : W p l e R s m args below meth c H locs 0 0 Q (F0 m pc ls (.int v :: .ref (G.2.1 i) :: rest)) := by
  obtain ⟨hx, hb, -, -, hown, hts, -, hK, -, -⟩ := F
  have hi : i < 741 := shp_lt hsh (by omega)
  have he : (wl G.2.1 G.2.2.1 M N)[i]? = some (G.2.1 i, .inr (ci, obF G.2.1 M N i ci)) := by rw [wl_get hi, ent_ob hsh hc20]
  have hw : (wl G.2.1 G.2.2.1 M N).set i (G.2.1 i, .inr (ci, (obF G.2.1 M N i ci).set k (.int v))) = wl G.2.1 G.2.2.1 M' N' := wl_set hi (by rw [ent_ob hsh hc20, hset]) ho
  refine va_put hx hb hts hin ty0 hty hnm hown hK S.1 S.2.1 S.2.2 i he hc k hk (hts _ hl) (fun _ h9 => h9) hfin hd hn hfit (hlen _) hdg (fun H1 locs1 h1 h2 h3 => kk H1 locs1 ⟨?_, ?_, h3⟩)
  · rw [← hw]; exact h1
  · rw [← hw]; exact h2
theorem r_pI (F : FX p s m args meth c own cc nL ret G) (S : ST G M N s H locs) {i ci idx k NF : Nat} {C : String} {T : u_T} {ty0 : Nat → FieldType} {v : Int32} (hg : pI ci k M i v = some M') (hc20 : ci < 20) (hc : vwCl[ci]? = some (C, T, NF)) (hin : ∀ w ∈ u_ws C T NF, w ∈ lw_good)
    (hty : ∀ k, k < NF → parseFieldDescriptor (T k).2.2.1 = some (ty0 k)) (hnm : ∀ a, a < NF → ∀ b, b < NF → a ≠ b → (T a).2.1 ≠ (T b).2.1) (hk : k < NF) (hl : Cond.fieldLink own idx (T k).1 (T k).2.1 (T k).2.2.1 ∈ lw_good)
    (hfin : (T k).2.2.2 = false) (hd : parseFieldDescriptor (T k).2.2.1 = some .int) (hlen : ∀ ad : Nat → Nat, k < (obF ad M N i ci).length) (hset : ∀ ad : Nat → Nat, obF ad (up2 M i k v) N i ci = (obF ad M N i ci).set k (.int v))
    (hdg : decode cc pc = .ok (.putfield idx, 3)) (kk : ∀ (H1 : Heap) (locs1 : List Loc), ST G M' N s H1 locs1 → W p l e R s m args below meth c H1 locs1 0 0 Q (F0 m (pc + 3) ls rest)) : W p l e R s m args below meth c H locs 0 0 Q (F0 m pc ls (.int v :: .ref (G.2.1 i) :: rest)) := by
  unfold pI at hg
  split at hg
  · rename_i hsh
    cases hg
    exact r_put F S hsh hc20 hc hin hty hnm hk hl hfin hd rfl rfl hlen hset (fun j hj => ⟨(up2_ne hj).symm, rfl⟩) hdg kk
  · cases hg
theorem r_pN (F : FX p s m args meth c own cc nL ret G) (S : ST G M N s H locs) {i ci idx k NF : Nat} {C : String} {T : u_T} {ty0 : Nat → FieldType} {v : Int32} (hg : pI ci k N i v = some N') (hc20 : ci < 20) (hc : vwCl[ci]? = some (C, T, NF)) (hin : ∀ w ∈ u_ws C T NF, w ∈ lw_good)
    (hty : ∀ k, k < NF → parseFieldDescriptor (T k).2.2.1 = some (ty0 k)) (hnm : ∀ a, a < NF → ∀ b, b < NF → a ≠ b → (T a).2.1 ≠ (T b).2.1) (hk : k < NF) (hl : Cond.fieldLink own idx (T k).1 (T k).2.1 (T k).2.2.1 ∈ lw_good)
    (hfin : (T k).2.2.2 = false) (hd : parseFieldDescriptor (T k).2.2.1 = some .int) (hlen : ∀ ad : Nat → Nat, k < (obF ad M N i ci).length) (hset : ∀ ad : Nat → Nat, obF ad M (up2 N i k v) i ci = (obF ad M N i ci).set k (.int v))
    (hdg : decode cc pc = .ok (.putfield idx, 3)) (kk : ∀ (H1 : Heap) (locs1 : List Loc), ST G M N' s H1 locs1 → W p l e R s m args below meth c H1 locs1 0 0 Q (F0 m (pc + 3) ls rest)) : W p l e R s m args below meth c H locs 0 0 Q (F0 m pc ls (.int v :: .ref (G.2.1 i) :: rest)) := by
  unfold pI at hg
  split at hg
  · rename_i hsh
    cases hg
    exact r_put F S hsh hc20 hc hin hty hnm hk hl hfin hd rfl rfl hlen hset (fun j hj => ⟨rfl, (up2_ne hj).symm⟩) hdg kk
  · cases hg
theorem bool_narrow {v : Int32} (h : v = 0 ∨ v = 1) : narrow .boolean (.int v) = .int v ∧ fits .boolean (.int v) = true := by
  rcases h with rfl | rfl <;> decide +kernel
theorem r_pZ (F : FX p s m args meth c own cc nL ret G) (S : ST G M N s H locs) {i ci idx k NF : Nat} {C : String} {T : u_T} {ty0 : Nat → FieldType} {v : Int32} (hg : pZ ci k N i v = some N') (hc20 : ci < 20) (hc : vwCl[ci]? = some (C, T, NF)) (hin : ∀ w ∈ u_ws C T NF, w ∈ lw_good)
    (hty : ∀ k, k < NF → parseFieldDescriptor (T k).2.2.1 = some (ty0 k)) (hnm : ∀ a, a < NF → ∀ b, b < NF → a ≠ b → (T a).2.1 ≠ (T b).2.1) (hk : k < NF) (hl : Cond.fieldLink own idx (T k).1 (T k).2.1 (T k).2.2.1 ∈ lw_good)
    (hfin : (T k).2.2.2 = false) (hd : parseFieldDescriptor (T k).2.2.1 = some .boolean) (hlen : ∀ ad : Nat → Nat, k < (obF ad M N i ci).length) (hset : ∀ ad : Nat → Nat, obF ad M (up2 N i k v) i ci = (obF ad M N i ci).set k (.int v))
    (hdg : decode cc pc = .ok (.putfield idx, 3)) (kk : ∀ (H1 : Heap) (locs1 : List Loc), ST G M N' s H1 locs1 → W p l e R s m args below meth c H1 locs1 0 0 Q (F0 m (pc + 3) ls rest)) : W p l e R s m args below meth c H locs 0 0 Q (F0 m pc ls (.int v :: .ref (G.2.1 i) :: rest)) := by
  unfold pZ at hg
  split at hg
  · rename_i hsh
    cases hg
    exact r_put F S hsh.1 hc20 hc hin hty hnm hk hl hfin hd (bool_narrow hsh.2).1 (bool_narrow hsh.2).2 hlen hset (fun j hj => ⟨rfl, (up2_ne hj).symm⟩) hdg kk
  · cases hg
theorem he_ar {i t : Nat} (hsh : shp i = t) (h1 : ¬ t < 20) (h2 : t < 99) : (wl G.2.1 G.2.2.1 M N)[i]? = some (G.2.1 i, arE G.2.1 G.2.2.1 M N i t) := by
  rw [wl_get (shp_lt hsh h2), ent_ar hsh h1]
theorem vp_of {n : Nat} {j : Int32} (h : oobB n j = false) : vp_in j n := oobB_not.mp h
theorem r_aL (F : FX p s m args meth c own cc nL ret G) (S : ST G M N s H locs) {i : Nat} {j x : Int32} (hg : aL 20 M i j = some x) (hdg : decode cc pc = .ok (.iaload, 1))
    (kk : W p l e R s m args below meth c H locs 0 0 Q (F0 m (pc + 1) ls (.int x :: rest))) : W p l e R s m args below meth c H locs 0 0 Q (F0 m pc ls (.int j :: .ref (G.2.1 i) :: rest)) := by
  obtain ⟨hx, hb, -, -, hown, hts, -, hK, -, -⟩ := F
  unfold aL at hg
  split at hg
  · rename_i hsh
    cases hg
    exact va_iald (t0 := 0) hx hb hK S.1 i (he_ar hsh.1 (by omega) (by omega)) rfl (vp_of hsh.2) hdg kk
  · cases hg
theorem r_nL (F : FX p s m args meth c own cc nL ret G) (S : ST G M N s H locs) {i : Nat} {j x : Int32} (hg : aL 30 N i j = some x) (hdg : decode cc pc = .ok (.iaload, 1))
    (kk : W p l e R s m args below meth c H locs 0 0 Q (F0 m (pc + 1) ls (.int x :: rest))) : W p l e R s m args below meth c H locs 0 0 Q (F0 m pc ls (.int j :: .ref (G.2.1 i) :: rest)) := by
  obtain ⟨hx, hb, -, -, hown, hts, -, hK, -, -⟩ := F
  unfold aL at hg
  split at hg
  · rename_i hsh
    cases hg
    exact va_iald (t0 := 0) hx hb hK S.1 i (he_ar hsh.1 (by omega) (by omega)) rfl (vp_of hsh.2) hdg kk
  · cases hg
theorem r_zL (F : FX p s m args meth c own cc nL ret G) (S : ST G M N s H locs) {i : Nat} {j x : Int32} (hg : aL 31 N i j = some x) (hdg : decode cc pc = .ok (.baload, 1))
    (kk : W p l e R s m args below meth c H locs 0 0 Q (F0 m (pc + 1) ls (.int x :: rest))) : W p l e R s m args below meth c H locs 0 0 Q (F0 m pc ls (.int j :: .ref (G.2.1 i) :: rest)) := by
  obtain ⟨hx, hb, -, -, hown, hts, -, hK, -, -⟩ := F
  unfold aL at hg
  split at hg
  · rename_i hsh
    cases hg
    exact va_zald (t0 := 1) hx hb hK S.1 i (he_ar hsh.1 (by omega) (by omega)) rfl (vp_of hsh.2) hdg kk
  · cases hg
theorem r_aS (F : FX p s m args meth c own cc nL ret G) (S : ST G M N s H locs) {i : Nat} {j v : Int32} (hg : aS 20 M i j v = some M') (hdg : decode cc pc = .ok (.iastore, 1))
    (kk : ∀ (H1 : Heap) (locs1 : List Loc), ST G M' N s H1 locs1 → W p l e R s m args below meth c H1 locs1 0 0 Q (F0 m (pc + 1) ls rest)) : W p l e R s m args below meth c H locs 0 0 Q (F0 m pc ls (.int v :: .int j :: .ref (G.2.1 i) :: rest)) := by
  obtain ⟨hx, hb, -, -, hown, hts, -, hK, -, -⟩ := F
  unfold aS at hg
  split at hg
  · rename_i hsh
    cases hg
    have hw : (wl G.2.1 G.2.2.1 M N).set i (G.2.1 i, .inl (G.2.2.1 0, ln i, .inl (upd (M i) j.toNatClampNeg v))) = wl G.2.1 G.2.2.1 (up2 M i j.toNatClampNeg v) N := wl_set (shp_lt hsh.1 (by omega)) (by rw [ent_ar hsh.1 (by omega)]; unfold arE; rw [up2_row]; try rfl) (fun q hq => ⟨(up2_ne hq).symm, rfl⟩)
    refine va_iast (t0 := 0) hx hb hK S.1 S.2.1 S.2.2 i (he_ar hsh.1 (by omega) (by omega)) rfl (vp_of hsh.2) hdg (fun H1 locs1 h1 h2 h3 => kk H1 locs1 ⟨?_, ?_, h3⟩)
    · rw [← hw]; exact h1
    · rw [← hw]; exact h2
  · cases hg
theorem r_nS (F : FX p s m args meth c own cc nL ret G) (S : ST G M N s H locs) {i : Nat} {j v : Int32} (hg : aS 30 N i j v = some N') (hdg : decode cc pc = .ok (.iastore, 1))
    (kk : ∀ (H1 : Heap) (locs1 : List Loc), ST G M N' s H1 locs1 → W p l e R s m args below meth c H1 locs1 0 0 Q (F0 m (pc + 1) ls rest)) : W p l e R s m args below meth c H locs 0 0 Q (F0 m pc ls (.int v :: .int j :: .ref (G.2.1 i) :: rest)) := by
  obtain ⟨hx, hb, -, -, hown, hts, -, hK, -, -⟩ := F
  unfold aS at hg
  split at hg
  · rename_i hsh
    cases hg
    have hw : (wl G.2.1 G.2.2.1 M N).set i (G.2.1 i, .inl (G.2.2.1 0, ln i, .inl (upd (N i) j.toNatClampNeg v))) = wl G.2.1 G.2.2.1 M (up2 N i j.toNatClampNeg v) := wl_set (shp_lt hsh.1 (by omega)) (by rw [ent_ar hsh.1 (by omega)]; unfold arE; rw [up2_row]; try rfl) (fun q hq => ⟨rfl, (up2_ne hq).symm⟩)
    refine va_iast (t0 := 0) hx hb hK S.1 S.2.1 S.2.2 i (he_ar hsh.1 (by omega) (by omega)) rfl (vp_of hsh.2) hdg (fun H1 locs1 h1 h2 h3 => kk H1 locs1 ⟨?_, ?_, h3⟩)
    · rw [← hw]; exact h1
    · rw [← hw]; exact h2
  · cases hg
theorem r_zS (F : FX p s m args meth c own cc nL ret G) (S : ST G M N s H locs) {i : Nat} {j v : Int32} (hg : zS 31 N i j v = some N') (hdg : decode cc pc = .ok (.bastore, 1))
    (kk : ∀ (H1 : Heap) (locs1 : List Loc), ST G M N' s H1 locs1 → W p l e R s m args below meth c H1 locs1 0 0 Q (F0 m (pc + 1) ls rest)) : W p l e R s m args below meth c H locs 0 0 Q (F0 m pc ls (.int v :: .int j :: .ref (G.2.1 i) :: rest)) := by
  obtain ⟨hx, hb, -, -, hown, hts, -, hK, -, -⟩ := F
  unfold zS at hg
  split at hg
  · rename_i hsh
    cases hg
    have hv : vp_nar .boolean v = v := by rcases hsh.2.2 with rfl | rfl <;> decide +kernel
    have hw : (wl G.2.1 G.2.2.1 M N).set i (G.2.1 i, .inl (G.2.2.1 1, ln i, .inl (upd (N i) j.toNatClampNeg (vp_nar .boolean v)))) = wl G.2.1 G.2.2.1 M (up2 N i j.toNatClampNeg v) := wl_set (shp_lt hsh.1 (by omega)) (by rw [ent_ar hsh.1 (by omega)]; unfold arE; rw [up2_row, hv]; try rfl) (fun q hq => ⟨rfl, (up2_ne hq).symm⟩)
    refine va_zast (t0 := 1) hx hb hK S.1 S.2.1 S.2.2 i (he_ar hsh.1 (by omega) (by omega)) rfl (vp_of hsh.2.1) hdg (fun H1 locs1 h1 h2 h3 => kk H1 locs1 ⟨?_, ?_, h3⟩)
    · rw [← hw]; exact h1
    · rw [← hw]; exact h2
  · cases hg
theorem r_aN (F : FX p s m args meth c own cc nL ret G) (S : ST G M N s H locs) {i t : Nat} {x : Int32} (hg : aN t i = some x) (ht : t = 20 ∨ t = 22 ∨ t = 23 ∨ t = 24) (hdg : decode cc pc = .ok (.arraylength, 1))
    (kk : W p l e R s m args below meth c H locs 0 0 Q (F0 m (pc + 1) ls (.int x :: rest))) : W p l e R s m args below meth c H locs 0 0 Q (F0 m pc ls (.ref (G.2.1 i) :: rest)) := by
  obtain ⟨hx, hb, -, -, hown, hts, -, hK, -, -⟩ := F
  unfold aN at hg
  split at hg
  · rename_i hsh
    cases hg
    rcases ht with rfl | rfl | rfl | rfl
    · exact va_alen (t0 := 0) hx hb hK S.1 i (he_ar hsh (by omega) (by omega)) rfl rfl hdg kk
    · exact va_alen (t0 := 2) hx hb hK S.1 i (he_ar hsh (by omega) (by omega)) rfl rfl hdg kk
    · exact va_alen (t0 := 3) hx hb hK S.1 i (he_ar hsh (by omega) (by omega)) rfl rfl hdg kk
    · exact va_alen (t0 := 4) hx hb hK S.1 i (he_ar hsh (by omega) (by omega)) rfl rfl hdg kk
  · cases hg
theorem r_aR22 (F : FX p s m args meth c own cc nL ret G) (S : ST G M N s H locs) {i x : Nat} {j : Int32} (hg : aR 22 i j = some x) (hdg : decode cc pc = .ok (.aaload, 1))
    (kk : W p l e R s m args below meth c H locs 0 0 Q (F0 m (pc + 1) ls (.ref (G.2.1 x) :: rest))) : W p l e R s m args below meth c H locs 0 0 Q (F0 m pc ls (.int j :: .ref (G.2.1 i) :: rest)) := by
  obtain ⟨hx, hb, -, -, hown, hts, -, hK, -, -⟩ := F
  unfold aR at hg
  split at hg
  · rename_i hsh
    cases hg
    exact va_aldq (t0 := 2) hx hb hK S.1 i (he_ar hsh.1 (by omega) (by omega)) rfl (vp_of hsh.2) hdg kk
  · cases hg
theorem r_aR24 (F : FX p s m args meth c own cc nL ret G) (S : ST G M N s H locs) {i x : Nat} {j : Int32} (hg : aR 24 i j = some x) (hdg : decode cc pc = .ok (.aaload, 1))
    (kk : W p l e R s m args below meth c H locs 0 0 Q (F0 m (pc + 1) ls (.ref (G.2.1 x) :: rest))) : W p l e R s m args below meth c H locs 0 0 Q (F0 m pc ls (.int j :: .ref (G.2.1 i) :: rest)) := by
  obtain ⟨hx, hb, -, -, hown, hts, -, hK, -, -⟩ := F
  unfold aR at hg
  split at hg
  · rename_i hsh
    cases hg
    have hin := vp_of hsh.2
    have hlt : j.toNatClampNeg < ln i := Nat.not_le.mp fun q => hin (Or.inr q)
    have ha := S.1 i _ (he_ar (M := M) (N := N) hsh.1 (by omega) (by omega))
    exact W.aald (v := va_rf (some (G.2.1 (rf i j.toNatClampNeg)))) (ty := .array .int) hx hb ha ((hK.2 4 (G.2.2.1 4, .array .int) rfl).1 (ln i) (fun j => va_rf (some (G.2.1 (rf i j))))) rfl (fun q => by cases q) (by show ¬ (j < 0 ∨ (arrV _ _ _).slots.size ≤ _); rw [arrV_size]; exact hin) (by show (arrV _ _ _).slots[_]? = _; rw [arrV_read _ _ hlt]) rfl rfl hdg kk
  · cases hg
theorem r_aD (F : FX p s m args meth c own cc nL ret G) (S : ST G M N s H locs) {i x : Nat} {j : Int32} (hg : aD M i j = some x) (hdg : decode cc pc = .ok (.aaload, 1))
    (kk : W p l e R s m args below meth c H locs 0 0 Q (F0 m (pc + 1) ls (.ref (G.2.1 x) :: rest))) : W p l e R s m args below meth c H locs 0 0 Q (F0 m pc ls (.int j :: .ref (G.2.1 i) :: rest)) := by
  obtain ⟨hx, hb, -, -, hown, hts, -, hK, -, -⟩ := F
  unfold aD at hg
  split at hg
  · rename_i hsh
    cases hg
    exact va_aldq (t0 := 3) hx hb hK S.1 i (he_ar hsh.1 (by omega) (by omega)) rfl (vp_of hsh.2) hdg kk
  · cases hg
theorem r_aE (F : FX p s m args meth c own cc nL ret G) (S : ST G M N s H locs) {i v : Nat} {j : Int32} (hg : aE M i j v = some M') (hdg : decode cc pc = .ok (.aastore, 1))
    (kk : ∀ (H1 : Heap) (locs1 : List Loc), ST G M' N s H1 locs1 → W p l e R s m args below meth c H1 locs1 0 0 Q (F0 m (pc + 1) ls rest)) : W p l e R s m args below meth c H locs 0 0 Q (F0 m pc ls (.ref (G.2.1 v) :: .int j :: .ref (G.2.1 i) :: rest)) := by
  obtain ⟨hx, hb, -, -, hown, hts, -, hK, -, -⟩ := F
  unfold aE at hg
  split at hg
  · rename_i hsh
    cases hg
    have hv7 : v < 741 := shp_lt hsh.2.2 (by omega)
    have hvn : (Int32.ofNat v).toNatClampNeg = v := Int32.toNatClampNeg_ofNat_of_lt (by omega)
    have hv : (wl G.2.1 G.2.2.1 M N)[v]? = some (G.2.1 v, .inr (7, obF G.2.1 M N v 7)) := by rw [wl_get hv7, ent_ob hsh.2.2 (by omega)]
    have hw : (wl G.2.1 G.2.2.1 M N).set i (G.2.1 i, .inl (G.2.2.1 3, ln i, .inr (.inr (.inr (.inr (va_up (fun q => some (G.2.1 (M i q).toNatClampNeg)) j.toNatClampNeg (some (G.2.1 v)))))))) = wl G.2.1 G.2.2.1 (up2 M i j.toNatClampNeg (Int32.ofNat v)) N := wl_set (shp_lt hsh.1 (by omega)) (by
        rw [ent_ar hsh.1 (by omega)]
        unfold arE
        have e1 : (fun q => some (G.2.1 (up2 M i j.toNatClampNeg (Int32.ofNat v) i q).toNatClampNeg)) = va_up (fun q => some (G.2.1 (M i q).toNatClampNeg)) j.toNatClampNeg (some (G.2.1 v)) := by
          funext q
          unfold up2 va_up
          rw [if_pos rfl]
          split
          · rw [hvn]
          · rfl
        rw [← e1]
        try rfl) (fun q hq => ⟨(up2_ne hq).symm, rfl⟩)
    refine va_astq (t0 := 3) (ci := 7) (qk := v) hx hb hK S.1 S.2.1 S.2.2 i (he_ar hsh.1 (by omega) (by omega)) rfl hv rfl (vp_of hsh.2.1) hdg (fun H1 locs1 h1 h2 h3 => kk H1 locs1 ⟨?_, ?_, h3⟩)
    · rw [← hw]; exact h1
    · rw [← hw]; exact h2
  · cases hg
end RW
