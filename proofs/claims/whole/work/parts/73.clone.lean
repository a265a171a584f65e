/-! a row cloned -/
section CL
variable {p : Program} {l : Launch} {e : Env} {R : Room} {s : State} {m : MethodId} {args : Array Value} {below : List Frame} {meth : Method} {c : Code} {H : Heap} {locs : List Loc} {cells slots : Nat} {Q : State → Prop}
variable {cc : ByteArray} {pc nL : Nat} {ls : Array Slot} {rest : List Value} {D : va_G} {cy : Nat → ClassId} {t a : Nat} {own : String} {es : List va_E}
theorem i_getsF (F : FC p s m args c own cc nL D cy t a) (hS : va_S (AA a) s.heap H locs) {idx : Nat} {host : String} (hl : Cond.fieldLinkNest own idx "PhaseLights" "FIRST_SETTING" "[I" host ∈ nestW) (hdg : decode cc pc = .ok (.getstatic idx, 3))
    (kk : W p l e R s m args below meth c H locs cells slots Q (F0 m (pc + 3) ls (.ref t :: rest))) : W p l e R s m args below meth c H locs cells slots Q (F0 m pc ls rest) := by
  obtain ⟨hx, hb, -, hown, -, -, hNw, -, hZ, -⟩ := F
  exact va_getsN hx hb hZ hS hown (va_Nw.use rfl (hNw _ hl)) (fun _ h => h) hdg kk
theorem cy_In (F : FC p s m args c own cc nL D cy t a) : s.vm.findClass "[I" = some (cy 0) := (F.2.2.2.2.2.1.2 0 (cy 0, .int) rfl).2
theorem i_castI (F : FC p s m args c own cc nL D cy t a) {n idx : Nat} {x : vp_A} {X Y : List va_E} (hW : WX D a (X ++ .inl (cy 0, x) :: Y) H) (hn : X.length = n) (hcl : Cond.classLink own idx "[I" ∈ lw_good) {b : Nat} (hb2 : b = a + n) (hdg : decode cc pc = .ok (.checkcast idx, 3))
    (kk : W p l e R s m args below meth c H locs cells slots Q (F0 m (pc + 3) ls (.ref b :: rest))) : W p l e R s m args below meth c H locs cells slots Q (F0 m pc ls (.ref b :: rest)) := by
  have hnm := cy_In F
  obtain ⟨hx, hb, -, hown, hts, -⟩ := F
  have h1 := SG_at hW.2
  rw [hn] at h1
  subst hb2
  exact va_castA (ws := [(a + n, .inl (cy 0, x))]) hx hb hown (hts _ hcl) (D := D) (cl := vwCl) (fun j q hj => by
    have hz : j < 1 := (List.getElem?_eq_some_iff.mp hj).1
    rw [show j = 0 by omega] at hj
    cases hj
    exact h1) 0 rfl hnm hdg kk
theorem i_clone (F : FC p s m args c RX7 cc nL D cy t a) (hW : WX D a es H) (hS : va_S (AA a) s.heap H locs) {n : Nat} (hn : es.length = n) (hsize : ls.size = nL) (hframes : 1 ≤ R.frames) (hlocals : (rest.map fun v => v.category).sum + 14 ≤ R.locals) (hcells : cells + 1 ≤ R.cells) (hslots : slots + 3 ≤ R.slots) (hdg : decode cc pc = .ok (.invokevirtual 13, 3))
    (kk : ∀ H1 : Heap, WX D a (es ++ [.inl (cy 0, 3, .inl (sta 0))]) H1 → va_S (AA a) s.heap H1 locs → W p l e R s m args below meth c H1 locs (cells + 1) (slots + 3) Q (F0 m (pc + 3) ls (.ref (a + n) :: rest))) : W p l e R s m args below meth c H locs cells slots Q (F0 m pc ls (.ref t :: rest)) := by
  have hnm := cy_In F
  obtain ⟨hx, hb, hml, hown, hts, -, -, hE, -, hZ⟩ := F
  obtain ⟨cell, g1, g2, g3, g4, g5, g6, g7⟩ := hZ
  have ecy : cell.cls = cy 0 := Option.some.inj (g2.symm.trans hnm)
  have hcell : H[t]? = some cell := by rw [hS.2.1 t (Array.getElem?_eq_some_iff.mp g1).1 g7]; exact g1
  obtain ⟨c0, t0', f1, f2, f3⟩ := Cond.castable_spec (va_Nw.use (A := args) rfl hE.2.2.2)
  cases g2.symm.trans f1
  have hval : ∀ j : Nat, j < 3 → cell.slots[j]? = some (.int (sta 0 j)) := g6
  have hex : ({ cls := cell.cls, slots := cell.slots } : Cell) = vp_cell (cy 0) (3, .inl (sta 0)) := by
    rw [vp_cell_i, ecy]
    unfold arrV
    congr 1
    refine Array.ext (by rw [g5, Array.size_ofFn]) fun i h1 h2 => ?_
    rw [Array.getElem_ofFn]
    have h3 := hval i (by omega)
    rw [Array.getElem?_eq_getElem h1] at h3
    exact Option.some.inj h3
  intro T hT X
  have hcellT : T.heap[t]? = some cell := by rw [hT]; exact hcell
  obtain ⟨-, kA, hkA, comp, hkind⟩ := State.isArrayOf_alike X.warmed.alike g3
  obtain ⟨-, kS, hkS, compS, hkindS⟩ := id g3
  obtain ⟨vm', X', st⟩ := X.cloneArray hx hown (hts _ w32') (hts _ w33) (hts _ w34) (hts _ w35') (hts _ w36') (a := t) (cell := cell) hcellT g3.1 g4 g2 f2 f3
    (fun i v hv => by
      have h3 : i < 3 := by
        have := (Array.getElem?_eq_some_iff.mp hv).1
        omega
      have h4 := (hval i h3).symm.trans hv
      cases h4
      have hk' : T.vm.classes[cell.cls]? = some kA := hkA
      simp [State.fitsSlot, State.slotType?, hk', hkind, fits])
    (g := F0 m pc ls (.ref t :: rest)) rfl (hsize.trans hml.symm) rfl (by rw [hb]; exact hdg) hframes (by show 2 * 0 + _ + 14 ≤ _; omega) hcells (by rw [g5]; exact hslots) (hloader := Vm.clonesLoader_of_array hkS hkindS)
  rw [hex, g5] at X'
  generalize hH1 : H.push (vp_cell (cy 0) (3, .inl (sta 0))) = H1
  have hsz := hW.1
  rw [hn] at hsz
  have z1 : H1.size = a + n + 1 := by rw [← hH1, Array.size_push, hsz]
  have e1 : H1[a + n]? = some (vp_cell (cy 0) (3, .inl (sta 0))) := by rw [← hH1, ← hsz, Array.getElem?_push_size]
  have o1 : ∀ q : Nat, q < a + n → H1[q]? = H[q]? := fun q hq => by rw [← hH1, Array.getElem?_push, if_neg (by omega)]
  obtain ⟨u, b1, b2⟩ := kk H1 (WX_push hW hn z1 o1 e1) ⟨by have := hS.1; omega, fun x h1 h2 => by rw [o1 x (by have := hS.1; omega)]; exact hS.2.1 x h1 h2, hS.2.2⟩
    ((T.setVm vm').pushCell (vp_cell (cy 0) (3, .inl (sta 0)))) (by rw [← hH1, ← hT]; rfl) X'
  refine ⟨u, st u ?_, b2⟩
  rw [hex, hT, hsz]
  exact b1
end CL
