/-! the memory of both systems: cells by number (0..9 the reference's, 10..740 the class's), each a row of ints -/
abbrev Mem : Type := Nat → Nat → Int32
def up2 (M : Mem) (i k : Nat) (v : Int32) : Mem := fun a j => if a = i then (if j = k then v else M a j) else M a j
/-- cell o of the state block b (0 the live one, 1..6 the history's, 7, 8 the slots'), cell o of the premiere block q (3 b + p; 27 the one aside) -/
def st (b o : Nat) : Nat := 34 + 7 * b + o
def pq (q o : Nat) : Nat := 97 + 23 * q + o
def shS : Nat → Nat := fun i => match i with
  | 0 => 12 | 1 => 30 | 2 => 30 | 3 => 30 | 4 => 30 | 5 => 31 | 6 => 30 | 7 => 30 | 8 => 30 | 9 => 30
  | 10 => 11 | 11 => 23 | 12 => 2 | 13 => 23 | 14 => 4 | 15 => 5 | 16 => 20 | 17 => 20 | 18 => 20 | 19 => 20 | 20 => 20 | 21 => 20 | 22 => 20
  | 23 => 3 | 24 => 20 | 25 => 20 | 26 => 10 | 27 => 3 | 28 => 20 | 29 => 20 | 30 => 3 | 31 => 20 | 32 => 20 | 33 => 8 | _ => 99
def shT : Nat → Nat := fun o => match o with
  | 0 => 7 | 1 => 20 | 2 => 9 | 3 => 20 | 4 => 20 | 5 => 20 | 6 => 22 | _ => 99
def shP : Nat → Nat := fun o => match o with
  | 0 => 6 | 1 => 20 | 2 => 20 | 3 => 20 | 4 => 20 | 5 => 20 | 6 => 20 | 7 => 24 | 8 => 20 | 9 => 20 | 10 => 20 | 11 => 20 | 12 => 20 | 13 => 20 | 14 => 20 | 15 => 20
  | 16 => 1 | 17 => 20 | 18 => 20 | 19 => 0 | 20 => 20 | 21 => 0 | 22 => 20 | _ => 99
def shp (i : Nat) : Nat := if i < 34 then shS i else if i < 97 then shT ((i - 34) % 7) else if i < 741 then shP ((i - 97) % 23) else 99
def lnS : Nat → Nat := fun i => match i with
  | 1 => 691 | 2 => 691 | 3 => 4146 | 4 => 1382 | 5 => 2 | 6 => 60 | 7 => 12 | 8 => 3 | 9 => 62
  | 11 => 2 | 13 => 6 | 16 => 60 | 17 => 60 | 18 => 60 | 19 => 60 | 20 => 60 | 21 => 60 | 22 => 60 | 24 => 12 | 25 => 3 | 28 => 12 | 29 => 3 | 31 => 12 | 32 => 3 | _ => 0
def lnT : Nat → Nat := fun o => match o with
  | 1 => 3 | 3 => 6 | 4 => 6 | 5 => 6 | 6 => 3 | _ => 0
def lnP : Nat → Nat := fun o => match o with
  | 1 => 12 | 2 => 12 | 3 => 12 | 4 => 12 | 5 => 12 | 6 => 8 | 7 => 8 | 8 => 12 | 9 => 12 | 10 => 12 | 11 => 12 | 12 => 12 | 13 => 12 | 14 => 12 | 15 => 12
  | 17 => 12 | 18 => 12 | 20 => 12 | 22 => 3 | _ => 0
def ln (i : Nat) : Nat := if i < 34 then lnS i else if i < 97 then lnT ((i - 34) % 7) else if i < 741 then lnP ((i - 97) % 23) else 0
def rfS : Nat → Nat → Nat := fun i k => match i, k with
  | 0, 0 => 1 | 0, 1 => 2 | 0, 2 => 3 | 0, 4 => 4 | 0, 5 => 5 | 0, 6 => 6 | 0, 8 => 7 | 0, 9 => 8 | 0, 12 => 9
  | 10, 0 => 34 | 10, 1 => 12 | 10, 2 => 11 | 10, 4 => 14 | 10, 5 => 15 | 10, 6 => 23 | 10, 7 => 26 | 10, 8 => 33
  | 12, 0 => 13 | 14, 0 => 15 | 14, 4 => 17 | 14, 5 => 18 | 14, 6 => 19 | 14, 7 => 20 | 14, 9 => 21 | 14, 10 => 22
  | 15, 0 => 16 | 23, 0 => 24 | 23, 1 => 25 | 26, 0 => 27 | 26, 1 => 30 | 27, 0 => 28 | 27, 1 => 29 | 30, 0 => 31 | 30, 1 => 32 | 33, 0 => 718 | _, _ => 0
/-- by the cell's place o in its block, its number i, the block's b -/
def rfT (b i : Nat) : Nat → Nat → Nat := fun o k => match o, k with
  | 0, 0 => i + 1 | 0, 1 => i + 2 | 0, 2 => i + 6 | 2, 1 => i + 1 | 2, 2 => i + 2 | 2, 3 => i + 3 | 6, j => 97 + 23 * (3 * b + j) | _, _ => 0
def rfP (i : Nat) : Nat → Nat → Nat := fun o k => match o, k with
  | 0, 3 => i + 1 | 0, 4 => i + 2 | 0, 5 => i + 3 | 0, 6 => i + 4 | 0, 7 => i + 5 | 0, 8 => i + 6 | 0, 9 => i + 7 | 0, 10 => i + 16 | 0, 11 => i + 19 | 0, 12 => i + 21
  | 7, j => i + 1 + j | 16, 2 => i + 1 | 16, 3 => i + 2 | 19, 0 => i + 1 | 21, 0 => i + 1 | _, _ => 0
def rf (i k : Nat) : Nat := if i < 34 then rfS i k else if i < 97 then rfT ((i - 34) / 7) i ((i - 34) % 7) k else rfP i ((i - 97) % 23) k
/-- the static tables FIRST_SETTING, LEAST_SETTING, MOST_SETTING -/
def sta : Nat → Nat → Int32 := fun t j => match t, j with
  | 0, 0 => 2400 | 0, 1 => 7000 | 0, 2 => 3 | 1, 0 => 500 | 1, 1 => 1000 | 1, 2 => 1 | 2, 0 => 6000 | 2, 1 => 20000 | 2, 2 => 20 | _, _ => 0
/-! what the methods do with the memory: none where the machine would throw, or a cell is not of the kind -/
def oob (n : Nat) (j : Int32) : Prop := j < 0 ∨ n ≤ j.toNatClampNeg
def oobB (n : Nat) (j : Int32) : Bool := decide (j < 0) || decide (n ≤ j.toNatClampNeg)
theorem oobB_iff {n : Nat} {j : Int32} : oobB n j = true ↔ oob n j := by simp [oobB, oob]
theorem oobB_not {n : Nat} {j : Int32} : oobB n j = false ↔ ¬ oob n j := by rw [← Bool.not_eq_true, oobB_iff]
def gI (c k : Nat) (M : Mem) (i : Nat) : Option Int32 := if shp i = c then some (M i k) else none
def gR (c k : Nat) (i : Nat) : Option Nat := if shp i = c then some (rf i k) else none
def pI (c k : Nat) (M : Mem) (i : Nat) (v : Int32) : Option Mem := if shp i = c then some (up2 M i k v) else none
def pZ (c k : Nat) (M : Mem) (i : Nat) (v : Int32) : Option Mem := if shp i = c ∧ (v = 0 ∨ v = 1) then some (up2 M i k v) else none
def aL (t : Nat) (M : Mem) (i : Nat) (j : Int32) : Option Int32 := if shp i = t ∧ oobB (ln i) j = false then some (M i j.toNatClampNeg) else none
def aS (t : Nat) (M : Mem) (i : Nat) (j v : Int32) : Option Mem := if shp i = t ∧ oobB (ln i) j = false then some (up2 M i j.toNatClampNeg v) else none
def zS (t : Nat) (M : Mem) (i : Nat) (j v : Int32) : Option Mem := if shp i = t ∧ oobB (ln i) j = false ∧ (v = 0 ∨ v = 1) then some (up2 M i j.toNatClampNeg v) else none
def aN (t : Nat) (i : Nat) : Option Int32 := if shp i = t then some (Int32.ofNat (ln i)) else none
def aR (t : Nat) (i : Nat) (j : Int32) : Option Nat := if shp i = t ∧ oobB (ln i) j = false then some (rf i j.toNatClampNeg) else none
def aD (M : Mem) (i : Nat) (j : Int32) : Option Nat := if shp i = 23 ∧ oobB (ln i) j = false then some (M i j.toNatClampNeg).toNatClampNeg else none
def aE (M : Mem) (i : Nat) (j : Int32) (v : Nat) : Option Mem := if shp i = 23 ∧ oobB (ln i) j = false ∧ shp v = 7 then some (up2 M i j.toNatClampNeg (Int32.ofNat v)) else none
def sL (t : Nat) (j : Int32) : Option Int32 := if oobB 3 j = false then some (sta t j.toNatClampNeg) else none
def dv (x y : Int32) : Option Int32 := if y = 0 then none else some (x / y)
def rm (x y : Int32) : Option Int32 := if y = 0 then none else some (x % y)
/-- a boolean answer -/
def bz (v : Int32) : Option Int32 := if v = 0 ∨ v = 1 then some v else none
theorem bz_out {v r : Int32} (h : bz v = some r) : v = r ∧ (v = 0 ∨ v = 1) := by
  unfold bz at h
  split at h
  · exact ⟨Option.some.inj h, by assumption⟩
  · cases h
theorem ob_out {α β : Type} {x : Option α} {f : α → Option β} {z : β} (h : x.bind f = some z) : ∃ v, x = some v ∧ f v = some z := by
  cases x with
  | none => cases h
  | some v => exact ⟨v, rfl, h⟩
