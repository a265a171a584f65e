/-! THE CLAIM OUT OF ONE WALK OF THE LAW'S BODY. Your part is whole_start (and what it stands on); all else here is the same for every law, but numbers. -/
def R_law : String := "PhaseLightsLaw"
def lw_P (b : Addr) (xs : List Int32) (args : Array Value) (s : State) : Prop := args = #[.ref b] ∧ s.IntsAt b xs ∧ xs.length ≤ 2048 ∧ (Jvm.Cond.and given_1 narrow_1).before args s = true
def lw_Q (_ : Array Value) (s : State) (o : Outcome) (t : State) : Prop := o = .returned (some (.int 1)) ∧ Framed s o t [] 600000 7302250
def lw_Z (below : List Frame) (a : Array Value) (s : State) : State → Prop := fun t => ∃ o, t.status = .running ∧ Ended t below o ∧ lw_Q a s o t
/-- the law's own end, with 1 on the stack, nothing written that was there before, its room as the claim has it -/
theorem lw_ret {p : Program} {l : Launch} {e : Env} {s : State} {m : MethodId} {below : List Frame} {meth : Method} {c : Code} {b : Nat} (hx : p.tables.exec = Jvm.exec) (hb : c.code = code) (hr : meth.sig.returnType = ret) (hlocks : meth.locks = false) {pc : Nat} {H : Heap} {ls : Array Slot} (hdg : decode code pc = .ok (.ireturn, 1)) : W p l e room_1 s m #[Value.ref b] below meth c H [] 600000 7302250 (lw_Z below #[Value.ref b] s) (F0 m pc ls [.int 1]) := by
  intro T hT X
  obtain ⟨fs, hret, hrun, hended, hW, hframe⟩ := X.leave (v := some (.int 1)) (hlocks := hlocks) (fun h => by rw [hr] at h; cases h)
  have hmeth' : T.vm.method? m = some meth := X.method'
  refine ⟨T.setFrames fs, ?_, .returned (some (.int 1)), hrun, hended, rfl, ⟨_, rfl⟩, hW, hframe⟩
  jvm_step X.here [X.here.top, hx, hb, hdg, hmeth', hr, ret, narrow_b1]
  (try refine ⟨rfl, ?_⟩); (try refine ⟨rfl, ?_⟩)
  first | (intro acts; rw [hret _ acts rfl rfl rfl]) | rw [hret _ _ rfl rfl rfl]
  exact Steps.refl _
/-- what holds at the law's entry: the machine, the code, the tables' words (any of lw_tbl by 'hts w (by decide +kernel)'), the script of L ints xs at the cell b, what the Statement gives of the start (any of its parts by flat_of_before) -/
def lw_At (p : Program) (s : State) (m : MethodId) (meth : Method) (c : Code) (b L : Nat) (xs : Nat → Int32) : Prop :=
  p.tables.exec = Jvm.exec ∧ c.code = code ∧ meth.sig.returnType = ret ∧ c.maxLocals = 4 ∧ s.vm.findClass R_law = some m.cls ∧ (∀ w ∈ lw_tbl, w.before #[Value.ref b] s = true) ∧ va_X b L xs s s.heap ∧ b < s.heap.size ∧ meth.locks = false ∧ (Jvm.Cond.and given_1 narrow_1).before #[Value.ref b] s = true
/-! rows of the law's walk -/
section LW
variable {p : Program} {l : Launch} {e : Env} {R : Room} {s : State} {m : MethodId} {args : Array Value} {below : List Frame} {meth : Method} {c : Code} {H : Heap} {locs : List Loc} {cells slots : Nat} {Q : State → Prop}
variable {cc : ByteArray} {pc nL : Nat} {ls : Array Slot} {rest : List Value} {G : GD} {M N M' N' : Mem} {own : String} {ret : Option FieldType}
theorem gc_vI {y : MethodName} {C : String} {b : ByteArray} {n f k idx na i ci NF : Nat} {t : FieldType} {T : u_T} {av st0 : List Value} {r : Int32} (F : FX p s m args meth c own cc nL ret G) (S : ST G M N s H locs) (hM : MI l y b n t f k G (.ref (G.2.1 i) :: av) M N r M' N') (mf : MF true y C b n (some t) na)
    (hsh : shp i = ci) (hci : ci < 20) (hc : vwCl[ci]? = some (C, T, NF)) (hl : Cond.methodLink own idx y ∈ lw_good) (hR : f + 1 ≤ R.frames ∧ 8 + (n + 11) + k ≤ R.locals) (hcs : cells ≤ R.cells ∧ slots ≤ R.slots) (hlen : av.length = na) (hls : ls.size = nL) (hst : st0 = av.reverse ++ .ref (G.2.1 i) :: rest) (hroom : (rest.map fun v => v.category).sum ≤ 8) (hdg : decode cc pc = .ok (.invokevirtual idx, 3))
    (kk : ∀ (H1 : Heap) (locs1 : List Loc), ST G M' N' s H1 locs1 → W p l e R s m args below meth c H1 locs1 cells slots Q (F0 m (pc + 3) ls (.int r :: rest))) : W p l e R s m args below meth c H locs cells slots Q (F0 m pc ls st0) :=
  va_calli (va_runV (b := G.2.1 i) (As := av) (rest := rest) (fx_fix F) hM (cw_v (inst := true) F mf hl hR) ⟨wd_blind, recv F S hsh hci hc, fun U hU hW => ⟨rfl, wd_call F S hU hW⟩⟩ rfl hlen hls hst (lv_room hroom) hdg hcs) S.2.2 (fun _ _ h => h) (fun _ h => h)
    (fun r' u t H1 locs1 ht _ hr hB _ _ hS => by rw [hr]; exact kk H1 locs1 (st_of hB ht hS))
def LC (p : Program) (s : State) (m : MethodId) (meth : Method) (c : Code) (G : GD) (b L : Nat) (xs : Nat → Int32) (x : Nat) : Prop :=
  FX p s m #[.ref b] meth c RL cL_law 4 (some .boolean) G ∧ va_X b L xs s s.heap ∧ b < s.heap.size ∧ ¬ AG G.2.1 b ∧ x + 4 ≤ L ∧ L ≤ 2048
theorem law_ld {b L x k : Nat} {xs : Nat → Int32} {lv : List (Nat × Value)} {kf : Int32} (C : LC p s m meth c G b L xs x) (S : ST G M N s H locs) (hl : lv_has ls 4 [(0, .ref b), (1, .ref (G.2.1 10)), (2, .ref (G.2.1 0)), (3, .int (nI x))]) (hk : k < 4) (hkf : kf = nI k) {op : Int}
    (d0 : decode cL_law pc = .ok (.aload_n 0, 1)) (d1 : decode cL_law (pc + 1) = .ok (.iload_n 3, 1)) (d2 : decode cL_law (pc + 1 + 1) = .ok (.iconst op, 1)) (hop : Int32.ofInt op = kf) (d3 : decode cL_law (pc + 1 + 1 + 1) = .ok (.iadd, 1)) (d4 : decode cL_law (pc + 1 + 1 + 1 + 1) = .ok (.iaload, 1))
    (kk : W p l e R s m #[.ref b] below meth c H locs cells slots Q (F0 m (pc + 5) ls (.int (xs (x + k)) :: rest))) : W p l e R s m #[.ref b] below meth c H locs cells slots Q (F0 m pc ls rest) := by
  obtain ⟨F, hX, hbl, hbA, hx4, hL⟩ := C
  have hx := F.1
  have hb := F.2.1
  refine lv_aload_n hx hb d0 rfl (lv_at hl 0 rfl) ?_
  refine lv_iload_n hx hb d1 rfl (lv_at hl 3 rfl) ?_
  refine lv_iconst hx hb d2 hop ?_
  refine lv_iadd hx hb d3 ?_
  have e1 : nI x + kf = nI (x + k) := by rw [hkf, nI_addE]
  rw [e1]
  refine va_sld hx hb hX hbl hbA S.2.2 (i := nI (x + k)) (nI_in (by omega) (by omega)) d4 ?_
  rw [nI_cl (by omega)]
  exact kk
end LW
theorem and31 (v : Int32) : ∃ k, k < 32 ∧ v &&& 31 = nI k := by
  have h : (v.toBitVec &&& 31#32).toNat ≤ 31 := by
    rw [BitVec.toNat_and]
    exact Nat.and_le_right
  refine ⟨(v.toBitVec &&& 31#32).toNat, by omega, ?_⟩
  refine Int32.toBitVec_inj.mp ?_
  show v.toBitVec &&& 31#32 = BitVec.ofNat 32 (v.toBitVec &&& 31#32).toNat
  rw [BitVec.ofNat_toNat, BitVec.setWidth_eq]
