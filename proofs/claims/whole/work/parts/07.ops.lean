/-! the words that the printed functions are made of -/
def rmd (x y : Int32) : Option Int32 := if y = 0 then none else some (x - x / y * y)
def ob2 {α β γ : Type} (x : Option (α × β)) (f : α → β → Option γ) : Option γ := x.bind fun p => f p.1 p.2
def ob3 {α β γ δ : Type} (x : Option (α × β × γ)) (f : α → β → γ → Option δ) : Option δ := x.bind fun p => f p.1 p.2.1 p.2.2
def ob4 {α β γ δ ε : Type} (x : Option (α × β × γ × δ)) (f : α → β → γ → δ → Option ε) : Option ε := x.bind fun p => f p.1 p.2.1 p.2.2.1 p.2.2.2
def ob5 {α β γ δ ε ζ : Type} (x : Option (α × β × γ × δ × ε)) (f : α → β → γ → δ → ε → Option ζ) : Option ζ := x.bind fun p => f p.1 p.2.1 p.2.2.1 p.2.2.2.1 p.2.2.2.2
theorem ob2_out {α β γ : Type} {x : Option (α × β)} {f : α → β → Option γ} {z : γ} (h : ob2 x f = some z) : ∃ a b, x = some (a, b) ∧ f a b = some z := by
  obtain ⟨p, h1, h2⟩ := ob_out h
  exact ⟨p.1, p.2, h1, h2⟩
theorem ob3_out {α β γ δ : Type} {x : Option (α × β × γ)} {f : α → β → γ → Option δ} {z : δ} (h : ob3 x f = some z) : ∃ a b c, x = some (a, b, c) ∧ f a b c = some z := by
  obtain ⟨p, h1, h2⟩ := ob_out h
  exact ⟨p.1, p.2.1, p.2.2, h1, h2⟩
theorem ob4_out {α β γ δ ε : Type} {x : Option (α × β × γ × δ)} {f : α → β → γ → δ → Option ε} {z : ε} (h : ob4 x f = some z) : ∃ a b c d, x = some (a, b, c, d) ∧ f a b c d = some z := by
  obtain ⟨p, h1, h2⟩ := ob_out h
  exact ⟨p.1, p.2.1, p.2.2.1, p.2.2.2, h1, h2⟩
theorem ob5_out {α β γ δ ε ζ : Type} {x : Option (α × β × γ × δ × ε)} {f : α → β → γ → δ → ε → Option ζ} {z : ζ} (h : ob5 x f = some z) : ∃ a b c d e, x = some (a, b, c, d, e) ∧ f a b c d e = some z := by
  obtain ⟨p, h1, h2⟩ := ob_out h
  exact ⟨p.1, p.2.1, p.2.2.1, p.2.2.2.1, p.2.2.2.2, h1, h2⟩
theorem dv_out {x y z : Int32} (h : dv x y = some z) : ¬ y = 0 ∧ x / y = z := by
  unfold dv at h
  split at h
  · cases h
  · exact ⟨by assumption, Option.some.inj h⟩
theorem rmd_out {x y z : Int32} (h : rmd x y = some z) : ¬ y = 0 ∧ x - x / y * y = z := by
  unfold rmd at h
  split at h
  · cases h
  · exact ⟨by assumption, Option.some.inj h⟩
/-- a name for a number -/
def lt1 {α β : Type} (x : α) (f : α → Option β) : Option β := f x
theorem lt1_out {α β : Type} {x : α} {f : α → Option β} {z : β} (h : lt1 x f = some z) : ∃ v, x = v ∧ f v = some z := ⟨x, rfl, h⟩
section RW
variable {p : Program} {l : Launch} {e : Env} {R : Room} {s : State} {m : MethodId} {args : Array Value} {below : List Frame} {meth : Method} {c : Code} {H : Heap} {locs : List Loc} {Q : State → Prop}
variable {cc : ByteArray} {pc nL : Nat} {ls : Array Slot} {rest : List Value} {G : GD} {M N M' N' : Mem} {own : String} {ret : Option FieldType}
theorem r_sL (F : FX p s m args meth c own cc nL ret G) (S : ST G M N s H locs) {t k : Nat} {n : String} {j x : Int32} (hZ : Zo (AG G.2.1) k t n s s.heap) (hg : sL k j = some x) (hdg : decode cc pc = .ok (.iaload, 1))
    (kk : W p l e R s m args below meth c H locs 0 0 Q (F0 m (pc + 1) ls (.int x :: rest))) : W p l e R s m args below meth c H locs 0 0 Q (F0 m pc ls (.int j :: .ref t :: rest)) := by
  unfold sL at hg
  split at hg
  · rename_i h
    cases hg
    exact va_ti F.1 F.2.1 hZ.2 S.2.2 (vp_of h) rfl hdg kk
  · cases hg
theorem r_sN (F : FX p s m args meth c own cc nL ret G) (S : ST G M N s H locs) {t k : Nat} {n : String} (hZ : Zo (AG G.2.1) k t n s s.heap) (hdg : decode cc pc = .ok (.arraylength, 1))
    (kk : W p l e R s m args below meth c H locs 0 0 Q (F0 m (pc + 1) ls (.int 3 :: rest))) : W p l e R s m args below meth c H locs 0 0 Q (F0 m pc ls (.ref t :: rest)) :=
  va_tlen F.1 F.2.1 hZ.2 S.2.2 rfl hdg kk
theorem tbl_out {x : Int32} {n : Int} (h : ∀ k : Int, 0 ≤ k → k ≤ n → ¬ x.toInt = k) : x.toInt < 0 ∨ n < x.toInt := by
  have h1 := h x.toInt
  omega
end RW
