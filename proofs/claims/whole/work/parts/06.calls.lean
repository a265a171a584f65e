/-! a method's start, its ends, its calls -/
theorem ck_out {α : Type} {c i : Nat} {x : Option α} {z : α} (h : (if shp i = c then x else none) = some z) : shp i = c ∧ x = some z := by
  split at h
  · exact ⟨by assumption, h⟩
  · cases h
theorem MI_of {l : Launch} {y : MethodName} {own : String} {b : ByteArray} {n f k : Nat} {t : FieldType} {G : GD} {av : List Value} {M N M' N' : Mem} {r : Int32} (hy : plainName y.cls = true) (ho : y.cls = own) (hlen : (lg_sl av).length ≤ n)
    (body : ∀ p e s m args below meth c, FX p s m args meth c own b n (some t) G → ST G M N s s.heap [] → ∀ ls, lv_has ls n (lv_args 0 av) → W p l e (Rm f k) s m args below meth c s.heap [] 0 0 (MQ below (va_Qi (fun r' (_ : Unit) => r' = r) (fun _ t => Wd G M' N' t) (AG G.2.1)) args s 0 0 (AG G.2.1)) (F0 m 0 ls [])) : MI l y b n t f k G av M N r M' N' := by
  unfold MI
  refine Met.ofW (cc := b) (maxL := n) (ret := some t) (ws' := lw_good) hy rfl ?_
  intro p e s m args below meth c s₁ B hml hv
  obtain ⟨rfl, hP, hD, hK, hN, hZ⟩ := hv
  rw [lg_entry_eq]
  exact body p e s m _ below meth c ⟨B.exec, B.bytes, hml, B.returns, by rw [← ho]; exact findClass_of_methodNamed B.named, fun w hw => atoms_spec B.pre w (List.mem_cons_of_mem _ hw), B.notSynchronized, hK, hN, hZ⟩ ⟨hP, hD, va_S.rf⟩ _ (lv_entry av hlen)
theorem MV_of {l : Launch} {y : MethodName} {own : String} {b : ByteArray} {n f k : Nat} {G : GD} {av : List Value} {M N M' N' : Mem} (hy : plainName y.cls = true) (ho : y.cls = own) (hlen : (lg_sl av).length ≤ n)
    (body : ∀ p e s m args below meth c, FX p s m args meth c own b n none G → ST G M N s s.heap [] → ∀ ls, lv_has ls n (lv_args 0 av) → W p l e (Rm f k) s m args below meth c s.heap [] 0 0 (MQ below (va_Qv (fun _ : Unit => True) (fun _ t => Wd G M' N' t) (AG G.2.1)) args s 0 0 (AG G.2.1)) (F0 m 0 ls [])) : MV l y b n f k G av M N M' N' := by
  unfold MV
  refine Met.ofW (cc := b) (maxL := n) (ret := none) (ws' := lw_good) hy rfl ?_
  intro p e s m args below meth c s₁ B hml hv
  obtain ⟨rfl, hP, hD, hK, hN, hZ⟩ := hv
  rw [lg_entry_eq]
  exact body p e s m _ below meth c ⟨B.exec, B.bytes, hml, B.returns, by rw [← ho]; exact findClass_of_methodNamed B.named, fun w hw => atoms_spec B.pre w (List.mem_cons_of_mem _ hw), B.notSynchronized, hK, hN, hZ⟩ ⟨hP, hD, va_S.rf⟩ _ (lv_entry av hlen)
theorem MO_of {l : Launch} {y : MethodName} {own C : String} {b : ByteArray} {n f k : Nat} {G : GD} {av : List Value} {M N M' N' : Mem} {r : Option Nat} (hy : plainName y.cls = true) (ho : y.cls = own) (hlen : (lg_sl av).length ≤ n)
    (body : ∀ p e s m args below meth c, FX p s m args meth c own b n (some (.object C)) G → ST G M N s s.heap [] → ∀ ls, lv_has ls n (lv_args 0 av) → W p l e (Rm f k) s m args below meth c s.heap [] 0 0 (MQ below (va_Qe G.2.1 (fun r' (_ : Unit) => r' = r) (fun _ t => Wd G M' N' t) (AG G.2.1)) args s 0 0 (AG G.2.1)) (F0 m 0 ls [])) : MO l y b n C f k G av M N r M' N' := by
  unfold MO
  refine Met.ofW (cc := b) (maxL := n) (ret := some (.object C)) (ws' := lw_good) hy rfl ?_
  intro p e s m args below meth c s₁ B hml hv
  obtain ⟨rfl, hP, hD, hK, hN, hZ⟩ := hv
  rw [lg_entry_eq]
  exact body p e s m _ below meth c ⟨B.exec, B.bytes, hml, B.returns, by rw [← ho]; exact findClass_of_methodNamed B.named, fun w hw => atoms_spec B.pre w (List.mem_cons_of_mem _ hw), B.notSynchronized, hK, hN, hZ⟩ ⟨hP, hD, va_S.rf⟩ _ (lv_entry av hlen)
/-- what a call of a method needs of the tables: own code, its class's initialisation, its kind, its arity -/
def MF (inst : Bool) (y : MethodName) (C : String) (b : ByteArray) (n : Nat) (r : Option FieldType) (na : Nat) : Prop :=
  Cond.code y b n r ∈ lw_good ∧ Cond.initialized y.cls ∈ lw_good ∧ (if inst then Cond.instanceMethod y ∈ lw_good ∧ Cond.selects C y y ∈ lw_good else Cond.static y ∈ lw_good) ∧ (y.cls ≠ "java/lang/invoke/MethodHandle" ∧ y.cls ≠ "java/lang/invoke/VarHandle") ∧ (parseMethodDescriptor y.desc).map (fun d => d.parameters.length) = some na
section RW
variable {p : Program} {l : Launch} {e : Env} {R : Room} {s : State} {m : MethodId} {args : Array Value} {below : List Frame} {meth : Method} {c : Code} {H : Heap} {locs : List Loc} {Q : State → Prop}
variable {cc : ByteArray} {pc nL : Nat} {ls : Array Slot} {rest : List Value} {G : GD} {M N M' N' : Mem} {own : String} {ret : Option FieldType}
theorem r_iret {t : FieldType} {r : Int32} (F : FX p s m args meth c own cc nL (some t) G) (S : ST G M' N' s H locs) (hn : narrow t (.int r) = .int r) (hdg : decode cc pc = .ok (.ireturn, 1)) :
    W p l e R s m args below meth c H locs 0 0 (MQ below (va_Qi (fun r' (_ : Unit) => r' = r) (fun _ t => Wd G M' N' t) (AG G.2.1)) args s 0 0 (AG G.2.1)) (F0 m pc ls [.int r]) :=
  W.zret F.1 F.2.1 F.2.2.2.1 hn (fun t ht hW => ⟨⟨r, (), rfl, rfl, wd_call F S ht hW⟩, S.2.2.F ht⟩) S.2.2.2.2 hdg F.2.2.2.2.2.2.1
theorem r_vret (F : FX p s m args meth c own cc nL none G) (S : ST G M' N' s H locs) (hdg : decode cc pc = .ok (.return_, 1)) :
    W p l e R s m args below meth c H locs 0 0 (MQ below (va_Qv (fun _ : Unit => True) (fun _ t => Wd G M' N' t) (AG G.2.1)) args s 0 0 (AG G.2.1)) (F0 m pc ls []) :=
  W.vret F.1 F.2.1 F.2.2.2.1 (fun t ht hW => ⟨⟨(), rfl, trivial, wd_call F S ht hW⟩, S.2.2.F ht⟩) S.2.2.2.2 hdg F.2.2.2.2.2.2.1
theorem r_aret {C : String} {r : Option Nat} (F : FX p s m args meth c own cc nL (some (.object C)) G) (S : ST G M' N' s H locs) (hdg : decode cc pc = .ok (.areturn, 1)) :
    W p l e R s m args below meth c H locs 0 0 (MQ below (va_Qe G.2.1 (fun r' (_ : Unit) => r' = r) (fun _ t => Wd G M' N' t) (AG G.2.1)) args s 0 0 (AG G.2.1)) (F0 m pc ls [va_re G.2.1 r]) :=
  W.aret F.1 F.2.1 F.2.2.2.1 (Or.inl ⟨C, rfl⟩) (by cases r with | none => exact Or.inl rfl | some a => exact Or.inr ⟨_, rfl⟩) (fun t ht hW => ⟨⟨r, (), rfl, rfl, wd_call F S ht hW⟩, S.2.2.F ht⟩) S.2.2.2.2 hdg F.2.2.2.2.2.2.1
theorem ws_good {y : MethodName} {b : ByteArray} {n : Nat} {r : Option FieldType} (hc : Cond.code y b n r ∈ lw_good) : GoodIn lw_good (WS y b n r) := by
  intro w hw
  have h : w ∈ lw_good := by
    rcases List.mem_cons.mp hw with rfl | h
    · exact hc
    · exact h
  exact ⟨h, good_of_word (List.mem_filter.mp h).2⟩
theorem fx_fix (F : FX p s m args meth c own cc nL ret G) : CallFix p m c cc nL s args lw_good own := ⟨F.1, F.2.1, F.2.2.1, F.2.2.2.2.1, F.2.2.2.2.2.1⟩
theorem cw_v {inst : Bool} {y : MethodName} {C : String} {b : ByteArray} {n f k idx na : Nat} {r : Option FieldType} (F : FX p s m args meth c own cc nL ret G) (mf : MF true y C b n r na) (hl : Cond.methodLink own idx y ∈ lw_good) (hR : f + 1 ≤ R.frames ∧ 8 + (n + 11) + k ≤ R.locals) :
    CallW R s args own C idx y b n r (WS y b n r) (Rm f k) 0 0 na := by
  have hts := F.2.2.2.2.2.1
  obtain ⟨h1, h2, h3, h4, h5⟩ := mf
  simp only [if_true] at h3
  exact ⟨callB_of (ws' := lw_good) na hts (ws_good h1) rfl rfl rfl (hts _ h2) (hts _ hl) ⟨h4.1, h4.2, h5⟩ hR, hts _ h3.1, hts _ h3.2⟩
theorem recv (F : FX p s m args meth c own cc nL ret G) (S : ST G M N s H locs) {i ci NF : Nat} {C : String} {T : u_T} (hsh : shp i = ci) (hci : ci < 20) (hc : vwCl[ci]? = some (C, T, NF)) : ∃ cellB : Cell, H[G.2.1 i]? = some cellB ∧ cellB.vm.isStatics = false ∧ s.vm.findClass C = some cellB.cls := by
  have hK := F.2.2.2.2.2.2.2.1
  have hi : i < 741 := shp_lt hsh (by omega)
  have he : (wl G.2.1 G.2.2.1 M N)[i]? = some (G.2.1 i, .inr (ci, obF G.2.1 M N i ci)) := by rw [wl_get hi, ent_ob hsh hci]
  obtain ⟨r, h1, cell, q1, q2, q3, q4⟩ := S.1 i _ he
  have hr : r = (C, T, NF) := Option.some.inj (h1.symm.trans hc)
  subst hr
  obtain ⟨hS, hfc, kC, hkC, hkind⟩ := hK.1 ci _ hc
  exact ⟨cell, q1, by rw [q3]; rfl, by rw [q2]; exact hfc⟩
/-- virtual, an int answer -/
theorem c_vI {y : MethodName} {C : String} {b : ByteArray} {n f k idx na i ci NF : Nat} {t : FieldType} {T : u_T} {av st0 : List Value} {r : Int32} (F : FX p s m args meth c own cc nL ret G) (S : ST G M N s H locs) (hM : MI l y b n t f k G (.ref (G.2.1 i) :: av) M N r M' N') (mf : MF true y C b n (some t) na)
    (hsh : shp i = ci) (hci : ci < 20) (hc : vwCl[ci]? = some (C, T, NF)) (hl : Cond.methodLink own idx y ∈ lw_good) (hR : f + 1 ≤ R.frames ∧ 8 + (n + 11) + k ≤ R.locals) (hlen : av.length = na) (hls : ls.size = nL) (hst : st0 = av.reverse ++ .ref (G.2.1 i) :: rest) (hroom : (rest.map fun v => v.category).sum ≤ 8) (hdg : decode cc pc = .ok (.invokevirtual idx, 3))
    (kk : ∀ (H1 : Heap) (locs1 : List Loc), ST G M' N' s H1 locs1 → W p l e R s m args below meth c H1 locs1 0 0 Q (F0 m (pc + 3) ls (.int r :: rest))) : W p l e R s m args below meth c H locs 0 0 Q (F0 m pc ls st0) :=
  va_calli (va_runV (b := G.2.1 i) (As := av) (rest := rest) (fx_fix F) hM (cw_v (inst := true) F mf hl hR) ⟨wd_blind, recv F S hsh hci hc, fun U hU hW => ⟨rfl, wd_call F S hU hW⟩⟩ rfl hlen hls hst (lv_room hroom) hdg ⟨Nat.zero_le _, Nat.zero_le _⟩) S.2.2 (fun _ _ h => h) (fun _ h => h)
    (fun r' u t H1 locs1 ht _ hr hB _ _ hS => by rw [hr]; exact kk H1 locs1 (st_of hB ht hS))
/-- virtual, no answer -/
theorem c_vV {y : MethodName} {C : String} {b : ByteArray} {n f k idx na i ci NF : Nat} {T : u_T} {av st0 : List Value} (F : FX p s m args meth c own cc nL ret G) (S : ST G M N s H locs) (hM : MV l y b n f k G (.ref (G.2.1 i) :: av) M N M' N') (mf : MF true y C b n none na)
    (hsh : shp i = ci) (hci : ci < 20) (hc : vwCl[ci]? = some (C, T, NF)) (hl : Cond.methodLink own idx y ∈ lw_good) (hR : f + 1 ≤ R.frames ∧ 8 + (n + 11) + k ≤ R.locals) (hlen : av.length = na) (hls : ls.size = nL) (hst : st0 = av.reverse ++ .ref (G.2.1 i) :: rest) (hroom : (rest.map fun v => v.category).sum ≤ 8) (hdg : decode cc pc = .ok (.invokevirtual idx, 3))
    (kk : ∀ (H1 : Heap) (locs1 : List Loc), ST G M' N' s H1 locs1 → W p l e R s m args below meth c H1 locs1 0 0 Q (F0 m (pc + 3) ls rest)) : W p l e R s m args below meth c H locs 0 0 Q (F0 m pc ls st0) :=
  va_callv (va_runV (b := G.2.1 i) (As := av) (rest := rest) (fx_fix F) hM (cw_v (inst := true) F mf hl hR) ⟨wd_blind, recv F S hsh hci hc, fun U hU hW => ⟨rfl, wd_call F S hU hW⟩⟩ rfl hlen hls hst (lv_room hroom) hdg ⟨Nat.zero_le _, Nat.zero_le _⟩) S.2.2 (fun _ _ h => h) (fun _ h => h)
    (fun u t H1 locs1 ht _ _ hB _ _ hS => kk H1 locs1 (st_of hB ht hS))
/-- virtual, a cell or null -/
theorem c_vO {y : MethodName} {C CR : String} {b : ByteArray} {n f k idx na i ci NF : Nat} {T : u_T} {av st0 : List Value} {r : Option Nat} (F : FX p s m args meth c own cc nL ret G) (S : ST G M N s H locs) (hM : MO l y b n CR f k G (.ref (G.2.1 i) :: av) M N r M' N') (mf : MF true y C b n (some (.object CR)) na)
    (hsh : shp i = ci) (hci : ci < 20) (hc : vwCl[ci]? = some (C, T, NF)) (hl : Cond.methodLink own idx y ∈ lw_good) (hR : f + 1 ≤ R.frames ∧ 8 + (n + 11) + k ≤ R.locals) (hlen : av.length = na) (hls : ls.size = nL) (hst : st0 = av.reverse ++ .ref (G.2.1 i) :: rest) (hroom : (rest.map fun v => v.category).sum ≤ 8) (hdg : decode cc pc = .ok (.invokevirtual idx, 3))
    (kk : ∀ (H1 : Heap) (locs1 : List Loc), ST G M' N' s H1 locs1 → W p l e R s m args below meth c H1 locs1 0 0 Q (F0 m (pc + 3) ls (va_re G.2.1 r :: rest))) : W p l e R s m args below meth c H locs 0 0 Q (F0 m pc ls st0) :=
  va_calle (va_runV (b := G.2.1 i) (As := av) (rest := rest) (fx_fix F) hM (cw_v (inst := true) F mf hl hR) ⟨wd_blind, recv F S hsh hci hc, fun U hU hW => ⟨rfl, wd_call F S hU hW⟩⟩ rfl hlen hls hst (lv_room hroom) hdg ⟨Nat.zero_le _, Nat.zero_le _⟩) S.2.2 (fun _ _ h => h) (fun _ h => h)
    (fun r' u t H1 locs1 ht _ hr hB _ _ hS => by rw [hr]; exact kk H1 locs1 (st_of hB ht hS))
theorem cw_s {y : MethodName} {C : String} {b : ByteArray} {n f k idx na : Nat} {r : Option FieldType} (F : FX p s m args meth c own cc nL ret G) (mf : MF false y C b n r na) (hl : Cond.methodLink own idx y ∈ lw_good) (hR : f + 1 ≤ R.frames ∧ 8 + (n + 11) + k ≤ R.locals) :
    CallB R s args own idx y b n r (WS y b n r) (Rm f k) 0 0 na ∧ (Cond.static y).before args s = true := by
  have hts := F.2.2.2.2.2.1
  obtain ⟨h1, h2, h3, h4, h5⟩ := mf
  simp only [Bool.false_eq_true, if_false] at h3
  exact ⟨callB_of (ws' := lw_good) na hts (ws_good h1) rfl rfl rfl (hts _ h2) (hts _ hl) ⟨h4.1, h4.2, h5⟩ hR, hts _ h3⟩
theorem cw_n {y : MethodName} {C host : String} {b : ByteArray} {n f k idx na : Nat} {r : Option FieldType} (F : FX p s m args meth c own cc nL ret G) (mf : MF false y C b n r na) (hl : Cond.methodLinkNest own idx y host ∈ nestW) (hR : f + 1 ≤ R.frames ∧ 8 + (n + 11) + k ≤ R.locals) :
    va_CN R s args own idx y host b n r (WS y b n r) (Rm f k) 0 0 na ∧ (Cond.static y).before args s = true ∧ True := by
  have hts := F.2.2.2.2.2.1
  have hN := F.2.2.2.2.2.2.2.2.1
  obtain ⟨h1, h2, h3, h4, h5⟩ := mf
  simp only [Bool.false_eq_true, if_false] at h3
  exact ⟨va_cnB (ws' := lw_good) na hts (ws_good h1) rfl rfl rfl (hN _ hl) (hts _ h2) ⟨h4.1, h4.2, h5⟩ hR, hts _ h3, trivial⟩
/-- static, an int answer -/
theorem c_sI {y : MethodName} {C : String} {b : ByteArray} {n f k idx na : Nat} {t : FieldType} {av st0 : List Value} {r : Int32} (F : FX p s m args meth c own cc nL ret G) (S : ST G M N s H locs) (hM : MI l y b n t f k G av M N r M' N') (mf : MF false y C b n (some t) na)
    (hl : Cond.methodLink own idx y ∈ lw_good) (hR : f + 1 ≤ R.frames ∧ 8 + (n + 11) + k ≤ R.locals) (hlen : av.length = na) (hls : ls.size = nL) (hst : st0 = av.reverse ++ rest) (hroom : (rest.map fun v => v.category).sum ≤ 8) (hdg : decode cc pc = .ok (.invokestatic idx, 3))
    (kk : ∀ (H1 : Heap) (locs1 : List Loc), ST G M' N' s H1 locs1 → W p l e R s m args below meth c H1 locs1 0 0 Q (F0 m (pc + 3) ls (.int r :: rest))) : W p l e R s m args below meth c H locs 0 0 Q (F0 m pc ls st0) :=
  va_calli (va_runS (As := av) (rest := rest) (fx_fix F) hM (cw_s F mf hl hR) ⟨wd_blind, fun U hU hW => ⟨rfl, wd_call F S hU hW⟩⟩ rfl hlen hls hst (lv_room hroom) hdg ⟨Nat.zero_le _, Nat.zero_le _⟩) S.2.2 (fun _ _ h => h) (fun _ h => h)
    (fun r' u t H1 locs1 ht _ hr hB _ _ hS => by rw [hr]; exact kk H1 locs1 (st_of hB ht hS))
theorem c_sV {y : MethodName} {C : String} {b : ByteArray} {n f k idx na : Nat} {av st0 : List Value} (F : FX p s m args meth c own cc nL ret G) (S : ST G M N s H locs) (hM : MV l y b n f k G av M N M' N') (mf : MF false y C b n none na)
    (hl : Cond.methodLink own idx y ∈ lw_good) (hR : f + 1 ≤ R.frames ∧ 8 + (n + 11) + k ≤ R.locals) (hlen : av.length = na) (hls : ls.size = nL) (hst : st0 = av.reverse ++ rest) (hroom : (rest.map fun v => v.category).sum ≤ 8) (hdg : decode cc pc = .ok (.invokestatic idx, 3))
    (kk : ∀ (H1 : Heap) (locs1 : List Loc), ST G M' N' s H1 locs1 → W p l e R s m args below meth c H1 locs1 0 0 Q (F0 m (pc + 3) ls rest)) : W p l e R s m args below meth c H locs 0 0 Q (F0 m pc ls st0) :=
  va_callv (va_runS (As := av) (rest := rest) (fx_fix F) hM (cw_s F mf hl hR) ⟨wd_blind, fun U hU hW => ⟨rfl, wd_call F S hU hW⟩⟩ rfl hlen hls hst (lv_room hroom) hdg ⟨Nat.zero_le _, Nat.zero_le _⟩) S.2.2 (fun _ _ h => h) (fun _ h => h)
    (fun u t H1 locs1 ht _ _ hB _ _ hS => kk H1 locs1 (st_of hB ht hS))
/-- static of a nest mate -/
theorem c_nI {y : MethodName} {C host : String} {b : ByteArray} {n f k idx na : Nat} {t : FieldType} {av st0 : List Value} {r : Int32} (F : FX p s m args meth c own cc nL ret G) (S : ST G M N s H locs) (hM : MI l y b n t f k G av M N r M' N') (mf : MF false y C b n (some t) na)
    (hl : Cond.methodLinkNest own idx y host ∈ nestW) (hR : f + 1 ≤ R.frames ∧ 8 + (n + 11) + k ≤ R.locals) (hlen : av.length = na) (hls : ls.size = nL) (hst : st0 = av.reverse ++ rest) (hroom : (rest.map fun v => v.category).sum ≤ 8) (hdg : decode cc pc = .ok (.invokestatic idx, 3))
    (kk : ∀ (H1 : Heap) (locs1 : List Loc), ST G M' N' s H1 locs1 → W p l e R s m args below meth c H1 locs1 0 0 Q (F0 m (pc + 3) ls (.int r :: rest))) : W p l e R s m args below meth c H locs 0 0 Q (F0 m pc ls st0) :=
  va_calli (va_runSN (As := av) (rest := rest) (fx_fix F) hM (cw_n F mf hl hR) ⟨wd_blind, fun U hU hW => ⟨rfl, wd_call F S hU hW⟩⟩ rfl hlen hls hst (lv_room hroom) hdg ⟨Nat.zero_le _, Nat.zero_le _⟩) S.2.2 (fun _ _ h => h) (fun _ h => h)
    (fun r' u t H1 locs1 ht _ hr hB _ _ hS => by rw [hr]; exact kk H1 locs1 (st_of hB ht hS))
theorem c_nV {y : MethodName} {C host : String} {b : ByteArray} {n f k idx na : Nat} {av st0 : List Value} (F : FX p s m args meth c own cc nL ret G) (S : ST G M N s H locs) (hM : MV l y b n f k G av M N M' N') (mf : MF false y C b n none na)
    (hl : Cond.methodLinkNest own idx y host ∈ nestW) (hR : f + 1 ≤ R.frames ∧ 8 + (n + 11) + k ≤ R.locals) (hlen : av.length = na) (hls : ls.size = nL) (hst : st0 = av.reverse ++ rest) (hroom : (rest.map fun v => v.category).sum ≤ 8) (hdg : decode cc pc = .ok (.invokestatic idx, 3))
    (kk : ∀ (H1 : Heap) (locs1 : List Loc), ST G M' N' s H1 locs1 → W p l e R s m args below meth c H1 locs1 0 0 Q (F0 m (pc + 3) ls rest)) : W p l e R s m args below meth c H locs 0 0 Q (F0 m pc ls st0) :=
  va_callv (va_runSN (As := av) (rest := rest) (fx_fix F) hM (cw_n F mf hl hR) ⟨wd_blind, fun U hU hW => ⟨rfl, wd_call F S hU hW⟩⟩ rfl hlen hls hst (lv_room hroom) hdg ⟨Nat.zero_le _, Nat.zero_le _⟩) S.2.2 (fun _ _ h => h) (fun _ h => h)
    (fun u t H1 locs1 ht _ _ hB _ _ hS => kk H1 locs1 (st_of hB ht hS))
/-- Math.max, min, abs -/
theorem c_max (F : FX p s m args meth c own cc nL ret G) {idx : Nat} (hl : Cond.methodLink own idx Lib.Math.max.name ∈ lw_good) (h1 : Cond.static Lib.Math.max.name ∈ lw_good) (h2 : Cond.initialized "java/lang/Math" ∈ lw_good) (h3 : Cond.code Lib.Math.max.name Lib.Math.max.code 2 (some .int) ∈ lw_good)
    (hR : 1 ≤ R.frames) (hls : ls.size = nL) (hroom : (rest.map fun v => v.category).sum + 13 ≤ R.locals) {x y : Int32} (hdg : decode cc pc = .ok (.invokestatic idx, 3))
    (kk : W p l e R s m args below meth c H locs 0 0 Q (F0 m (pc + 3) ls (.int (if x < y then y else x) :: rest))) : W p l e R s m args below meth c H locs 0 0 Q (F0 m pc ls (.int y :: .int x :: rest)) :=
  va_mmax F.1 F.2.1 (by rw [hls]; exact F.2.2.1) F.2.2.2.2.1 (F.2.2.2.2.2.1 _ hl) (F.2.2.2.2.2.1 _ h1) (F.2.2.2.2.2.1 _ h2) (F.2.2.2.2.2.1 _ h3) hR hroom (Nat.zero_le _) (Nat.zero_le _) hdg kk
theorem c_min (F : FX p s m args meth c own cc nL ret G) {idx : Nat} (hl : Cond.methodLink own idx Lib.Math.min.name ∈ lw_good) (h1 : Cond.static Lib.Math.min.name ∈ lw_good) (h2 : Cond.initialized "java/lang/Math" ∈ lw_good) (h3 : Cond.code Lib.Math.min.name Lib.Math.min.code 2 (some .int) ∈ lw_good)
    (hR : 1 ≤ R.frames) (hls : ls.size = nL) (hroom : (rest.map fun v => v.category).sum + 13 ≤ R.locals) {x y : Int32} (hdg : decode cc pc = .ok (.invokestatic idx, 3))
    (kk : W p l e R s m args below meth c H locs 0 0 Q (F0 m (pc + 3) ls (.int (if y < x then y else x) :: rest))) : W p l e R s m args below meth c H locs 0 0 Q (F0 m pc ls (.int y :: .int x :: rest)) :=
  va_mmin F.1 F.2.1 (by rw [hls]; exact F.2.2.1) F.2.2.2.2.1 (F.2.2.2.2.2.1 _ hl) (F.2.2.2.2.2.1 _ h1) (F.2.2.2.2.2.1 _ h2) (F.2.2.2.2.2.1 _ h3) hR hroom (Nat.zero_le _) (Nat.zero_le _) hdg kk
theorem c_abs (F : FX p s m args meth c own cc nL ret G) {idx : Nat} (hl : Cond.methodLink own idx Lib.Math.abs.name ∈ lw_good) (h1 : Cond.static Lib.Math.abs.name ∈ lw_good) (h2 : Cond.initialized "java/lang/Math" ∈ lw_good) (h3 : Cond.code Lib.Math.abs.name Lib.Math.abs.code 1 (some .int) ∈ lw_good)
    (hR : 1 ≤ R.frames) (hls : ls.size = nL) (hroom : (rest.map fun v => v.category).sum + 13 ≤ R.locals) {x : Int32} (hdg : decode cc pc = .ok (.invokestatic idx, 3))
    (kk : W p l e R s m args below meth c H locs 0 0 Q (F0 m (pc + 3) ls (.int (if 0 ≤ x then x else 0 - x) :: rest))) : W p l e R s m args below meth c H locs 0 0 Q (F0 m pc ls (.int x :: rest)) :=
  va_mabs F.1 F.2.1 (by rw [hls]; exact F.2.2.1) F.2.2.2.2.1 (F.2.2.2.2.2.1 _ hl) (F.2.2.2.2.2.1 _ h1) (F.2.2.2.2.2.1 _ h2) (F.2.2.2.2.2.1 _ h3) hR hroom (Nat.zero_le _) (Nat.zero_le _) hdg kk
theorem iinc_n {x : Int32} {n : Int} {k : Int32} (h : Int32.ofInt n = k) : x + Int32.ofInt n = x + k := by rw [h]
theorem r_gS (F : FX p s m args meth c own cc nL ret G) (S : ST G M N s H locs) {t k idx : Nat} {n : String} (hZ : Zo (AG G.2.1) k t n s s.heap) (hl : Cond.fieldLink own idx "PhaseLights" n "[I" ∈ lw_good) (hdg : decode cc pc = .ok (.getstatic idx, 3))
    (kk : W p l e R s m args below meth c H locs 0 0 Q (F0 m (pc + 3) ls (.ref t :: rest))) : W p l e R s m args below meth c H locs 0 0 Q (F0 m pc ls rest) :=
  va_gets F.1 F.2.1 hZ.1 S.2.2 F.2.2.2.2.1 (F.2.2.2.2.2.1 _ hl) (fun _ h => h) hdg kk
end RW
