/-! the printed walks' helpers -/
def caseS {α β γ : Type} (z : α ⊕ β) (f : α → Option γ) (g : β → Option γ) : Option γ := match z with
  | .inl a => f a
  | .inr b => g b
def caseP {α β γ : Type} (z : α × β) (f : α → β → Option γ) : Option γ := f z.1 z.2
def caseO {γ : Type} (r : Option Nat) (a : Option γ) (f : Nat → Option γ) : Option γ := match r with
  | none => a
  | some x => f x
theorem caseS_l {α β γ : Type} {a : α} {f : α → Option γ} {g : β → Option γ} {z : γ} (h : caseS (.inl a) f g = some z) : f a = some z := h
theorem caseS_r {α β γ : Type} {b : β} {f : α → Option γ} {g : β → Option γ} {z : γ} (h : caseS (.inr b) f g = some z) : g b = some z := h
theorem caseP_o {α β γ : Type} {a : α} {b : β} {f : α → β → Option γ} {z : γ} (h : caseP (a, b) f = some z) : f a b = some z := h
theorem caseO_n {γ : Type} {a : Option γ} {f : Nat → Option γ} {z : γ} (h : caseO none a f = some z) : a = some z := h
theorem caseO_s {γ : Type} {a : Option γ} {f : Nat → Option γ} {x : Nat} {z : γ} (h : caseO (some x) a f = some z) : f x = some z := h
section NM
variable {p : Program} {l : Launch} {e : Env} {R : Room} {s : State} {m : MethodId} {args : Array Value} {below : List Frame} {meth : Method} {c : Code} {H : Heap} {locs : List Loc} {Q : State → Prop} {pc : Nat} {ls : Array Slot} {rest : List Value}
theorem nm_i {x v : Int32} (hxv : x = v) (k : W p l e R s m args below meth c H locs 0 0 Q (F0 m pc ls (.int v :: rest))) : W p l e R s m args below meth c H locs 0 0 Q (F0 m pc ls (.int x :: rest)) := by
  subst hxv
  exact k
theorem nm_l {x v : Int64} (hxv : x = v) (k : W p l e R s m args below meth c H locs 0 0 Q (F0 m pc ls (.long v :: rest))) : W p l e R s m args below meth c H locs 0 0 Q (F0 m pc ls (.long x :: rest)) := by
  subst hxv
  exact k
end NM
theorem cl0 : vwCl[0]? = some (RX0, TX0, 2) := rfl
theorem cl1 : vwCl[1]? = some (RX1, TX1, 4) := rfl
theorem cl2 : vwCl[2]? = some (RX2, TX2, 2) := rfl
theorem cl3 : vwCl[3]? = some (RX3, TX3, 2) := rfl
theorem cl4 : vwCl[4]? = some (RX4, TX4, 11) := rfl
theorem cl5 : vwCl[5]? = some (RX5, TX5, 2) := rfl
theorem cl6 : vwCl[6]? = some (RX6, TX6, 13) := rfl
theorem cl7 : vwCl[7]? = some (RX7, TX7, 3) := rfl
theorem cl8 : vwCl[8]? = some (RX8, TX8, 5) := rfl
theorem cl9 : vwCl[9]? = some (RX9, TX9, 4) := rfl
theorem cl10 : vwCl[10]? = some (RX10, TX10, 2) := rfl
theorem cl11 : vwCl[11]? = some (RX11, TX11, 9) := rfl
theorem cl12 : vwCl[12]? = some (RX12, TX12, 21) := rfl
theorem pf_0_1 {ad : Nat → Nat} {M N : Mem} {i : Nat} {v : Int32} : obF ad (up2 M i 1 v) N i 0 = (obF ad M N i 0).set 1 (.int v) := by simp [obF, up2]
theorem pf_1_0 {ad : Nat → Nat} {M N : Mem} {i : Nat} {v : Int32} : obF ad (up2 M i 0 v) N i 1 = (obF ad M N i 1).set 0 (.int v) := by simp [obF, up2]
theorem pf_1_1 {ad : Nat → Nat} {M N : Mem} {i : Nat} {v : Int32} : obF ad (up2 M i 1 v) N i 1 = (obF ad M N i 1).set 1 (.int v) := by simp [obF, up2]
theorem pf_2_1 {ad : Nat → Nat} {M N : Mem} {i : Nat} {v : Int32} : obF ad (up2 M i 1 v) N i 2 = (obF ad M N i 2).set 1 (.int v) := by simp [obF, up2]
theorem pf_4_1 {ad : Nat → Nat} {M N : Mem} {i : Nat} {v : Int32} : obF ad (up2 M i 1 v) N i 4 = (obF ad M N i 4).set 1 (.int v) := by simp [obF, up2]
theorem pf_4_2 {ad : Nat → Nat} {M N : Mem} {i : Nat} {v : Int32} : obF ad (up2 M i 2 v) N i 4 = (obF ad M N i 4).set 2 (.int v) := by simp [obF, up2]
theorem pf_4_3 {ad : Nat → Nat} {M N : Mem} {i : Nat} {v : Int32} : obF ad (up2 M i 3 v) N i 4 = (obF ad M N i 4).set 3 (.int v) := by simp [obF, up2]
theorem pf_4_8 {ad : Nat → Nat} {M N : Mem} {i : Nat} {v : Int32} : obF ad (up2 M i 8 v) N i 4 = (obF ad M N i 4).set 8 (.int v) := by simp [obF, up2]
theorem pf_5_1 {ad : Nat → Nat} {M N : Mem} {i : Nat} {v : Int32} : obF ad (up2 M i 1 v) N i 5 = (obF ad M N i 5).set 1 (.int v) := by simp [obF, up2]
theorem pf_6_0 {ad : Nat → Nat} {M N : Mem} {i : Nat} {v : Int32} : obF ad (up2 M i 0 v) N i 6 = (obF ad M N i 6).set 0 (.int v) := by simp [obF, up2]
theorem pf_6_1 {ad : Nat → Nat} {M N : Mem} {i : Nat} {v : Int32} : obF ad (up2 M i 1 v) N i 6 = (obF ad M N i 6).set 1 (.int v) := by simp [obF, up2]
theorem pf_6_2 {ad : Nat → Nat} {M N : Mem} {i : Nat} {v : Int32} : obF ad (up2 M i 2 v) N i 6 = (obF ad M N i 6).set 2 (.int v) := by simp [obF, up2]
theorem pf_8_1 {ad : Nat → Nat} {M N : Mem} {i : Nat} {v : Int32} : obF ad (up2 M i 1 v) N i 8 = (obF ad M N i 8).set 1 (.int v) := by simp [obF, up2]
theorem pf_8_2 {ad : Nat → Nat} {M N : Mem} {i : Nat} {v : Int32} : obF ad (up2 M i 2 v) N i 8 = (obF ad M N i 8).set 2 (.int v) := by simp [obF, up2]
theorem pf_8_3 {ad : Nat → Nat} {M N : Mem} {i : Nat} {v : Int32} : obF ad (up2 M i 3 v) N i 8 = (obF ad M N i 8).set 3 (.int v) := by simp [obF, up2]
theorem pf_8_4 {ad : Nat → Nat} {M N : Mem} {i : Nat} {v : Int32} : obF ad (up2 M i 4 v) N i 8 = (obF ad M N i 8).set 4 (.int v) := by simp [obF, up2]
theorem pf_9_0 {ad : Nat → Nat} {M N : Mem} {i : Nat} {v : Int32} : obF ad (up2 M i 0 v) N i 9 = (obF ad M N i 9).set 0 (.int v) := by simp [obF, up2]
theorem pf_11_3 {ad : Nat → Nat} {M N : Mem} {i : Nat} {v : Int32} : obF ad (up2 M i 3 v) N i 11 = (obF ad M N i 11).set 3 (.int v) := by simp [obF, up2]
theorem pf_12_3 {ad : Nat → Nat} {M N : Mem} {i : Nat} {v : Int32} : obF ad M (up2 N i 3 v) i 12 = (obF ad M N i 12).set 3 (.int v) := by simp [obF, up2]
theorem pf_12_7 {ad : Nat → Nat} {M N : Mem} {i : Nat} {v : Int32} : obF ad M (up2 N i 7 v) i 12 = (obF ad M N i 12).set 7 (.int v) := by simp [obF, up2]
theorem pf_12_10 {ad : Nat → Nat} {M N : Mem} {i : Nat} {v : Int32} : obF ad M (up2 N i 10 v) i 12 = (obF ad M N i 12).set 10 (.int v) := by simp [obF, up2]
theorem pf_12_11 {ad : Nat → Nat} {M N : Mem} {i : Nat} {v : Int32} : obF ad M (up2 N i 11 v) i 12 = (obF ad M N i 12).set 11 (.int v) := by simp [obF, up2]
theorem pf_12_13 {ad : Nat → Nat} {M N : Mem} {i : Nat} {v : Int32} : obF ad M (up2 N i 13 v) i 12 = (obF ad M N i 12).set 13 (.int v) := by simp [obF, up2]
theorem pf_12_14 {ad : Nat → Nat} {M N : Mem} {i : Nat} {v : Int32} : obF ad M (up2 N i 14 v) i 12 = (obF ad M N i 12).set 14 (.int v) := by simp [obF, up2]
theorem pf_12_15 {ad : Nat → Nat} {M N : Mem} {i : Nat} {v : Int32} : obF ad M (up2 N i 15 v) i 12 = (obF ad M N i 12).set 15 (.int v) := by simp [obF, up2]
theorem pf_12_16 {ad : Nat → Nat} {M N : Mem} {i : Nat} {v : Int32} : obF ad M (up2 N i 16 v) i 12 = (obF ad M N i 12).set 16 (.int v) := by simp [obF, up2]
theorem pf_12_17 {ad : Nat → Nat} {M N : Mem} {i : Nat} {v : Int32} : obF ad M (up2 N i 17 v) i 12 = (obF ad M N i 12).set 17 (.int v) := by simp [obF, up2]
theorem pf_12_18 {ad : Nat → Nat} {M N : Mem} {i : Nat} {v : Int32} : obF ad M (up2 N i 18 v) i 12 = (obF ad M N i 12).set 18 (.int v) := by simp [obF, up2]
theorem pf_12_19 {ad : Nat → Nat} {M N : Mem} {i : Nat} {v : Int32} : obF ad M (up2 N i 19 v) i 12 = (obF ad M N i 12).set 19 (.int v) := by simp [obF, up2]
theorem pf_12_20 {ad : Nat → Nat} {M N : Mem} {i : Nat} {v : Int32} : obF ad M (up2 N i 20 v) i 12 = (obF ad M N i 12).set 20 (.int v) := by simp [obF, up2]
