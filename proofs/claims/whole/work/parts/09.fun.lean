/-! each method as a function over the memory, printed by program from its bytecode -/
def fX11_isIn (a0 : Int32) (a1 : Int32) (a2 : Int32) : Option (Int32) :=
  if a0 < a1 then (
  some 0) else (
  if a2 < a0 then (
  some 0) else (
  some 1))
def fX2_dropOldest_L9 : Nat → Mem → Nat → Int32 → Option (Mem)
  | 0, _, _, _ => none
  | n + 1, M, a1, a2 =>
    if 6 ≤ (a2 + 1) then (
    some M) else (
    (aD M 13 (a2 + 1)).bind fun x4 =>
    (aE M 13 a2 x4).bind fun M6 =>
    fX2_dropOldest_L9 n M6 a1 (a2 + 1))
def fX2_dropOldest (M : Mem) : Option Mem :=
  (aD M 13 0).bind fun x1 =>
  (fX2_dropOldest_L9 5000 M x1 0).bind fun M3 =>
  (aE M3 13 (6 - 1) x1).bind fun M5 =>
  (pI 2 1 M5 12 (6 - 1)).bind fun M7 =>
  some M7
def fX11_copy_L2 : Nat → Mem → Nat → Nat → Int32 → Option (Mem)
  | 0, _, _, _, _ => none
  | n + 1, M, a0, a1, a2 =>
    (aN 20 a0).bind fun v1 =>
    if v1 ≤ a2 then (
    some M) else (
    (aN 20 a1).bind fun v4 =>
    if v4 ≤ a2 then (
    some M) else (
    (aL 20 M a0 a2).bind fun v7 =>
    (aS 20 M a1 a2 v7).bind fun M9 =>
    fX11_copy_L2 n M9 a0 a1 (a2 + 1)))
def fX11_copy (M : Mem) (a0 : Nat) (a1 : Nat) : Option Mem :=
  (fX11_copy_L2 5000 M a0 a1 0).bind fun M1 =>
  some M1
def fX9_copyFrom (M : Mem) (a0 : Nat) (a1 : Nat) : Option Mem :=
  if shp a0 = 9 then (
  (gI 9 0 M a1).bind fun v1 =>
  (pI 9 0 M a0 v1).bind fun M3 =>
  (gR 9 1 a1).bind fun x5 =>
  (gR 9 1 a0).bind fun x7 =>
  (fX11_copy M3 x5 x7).bind fun M10 =>
  (gR 9 2 a1).bind fun x11 =>
  (gR 9 2 a0).bind fun x13 =>
  (fX11_copy M10 x11 x13).bind fun M16 =>
  (gR 9 3 a1).bind fun x17 =>
  (gR 9 3 a0).bind fun x19 =>
  (fX11_copy M16 x17 x19).bind fun M22 =>
  some M22) else none
def fX1_copyFrom (M : Mem) (a0 : Nat) (a1 : Nat) : Option Mem :=
  if shp a0 = 1 then (
  (gI 1 0 M a1).bind fun v1 =>
  (pI 1 0 M a0 v1).bind fun M3 =>
  (gI 1 1 M3 a1).bind fun v5 =>
  (pI 1 1 M3 a0 v5).bind fun M7 =>
  (gR 1 2 a1).bind fun x9 =>
  (gR 1 2 a0).bind fun x11 =>
  (fX11_copy M7 x9 x11).bind fun M14 =>
  (gR 1 3 a1).bind fun x15 =>
  (gR 1 3 a0).bind fun x17 =>
  (fX11_copy M14 x15 x17).bind fun M20 =>
  some M20) else none
def fX0_copyFrom (M : Mem) (a0 : Nat) (a1 : Nat) : Option Mem :=
  if shp a0 = 0 then (
  (gI 0 1 M a1).bind fun v1 =>
  (pI 0 1 M a0 v1).bind fun M3 =>
  (gR 0 0 a1).bind fun x5 =>
  (gR 0 0 a0).bind fun x7 =>
  (fX11_copy M3 x5 x7).bind fun M10 =>
  some M10) else none
def fX6_copyFrom_L92 : Nat → Mem → Nat → Nat → Int32 → Option (Mem)
  | 0, _, _, _, _ => none
  | n + 1, M, a0, a1, a2 =>
    if 8 ≤ a2 then (
    some M) else (
    (gR 6 9 a1).bind fun x50 =>
    (aR 24 x50 a2).bind fun x52 =>
    (gR 6 9 a0).bind fun x54 =>
    (aR 24 x54 a2).bind fun x56 =>
    (fX11_copy M x52 x56).bind fun M59 =>
    fX6_copyFrom_L92 n M59 a0 a1 (a2 + 1))
def fX6_copyFrom (M : Mem) (a0 : Nat) (a1 : Nat) : Option Mem :=
  if shp a0 = 6 then (
  (gI 6 0 M a1).bind fun v1 =>
  (pI 6 0 M a0 v1).bind fun M3 =>
  (gI 6 1 M3 a1).bind fun v5 =>
  (pI 6 1 M3 a0 v5).bind fun M7 =>
  (gI 6 2 M7 a1).bind fun v9 =>
  (pI 6 2 M7 a0 v9).bind fun M11 =>
  (gR 6 3 a1).bind fun x13 =>
  (gR 6 3 a0).bind fun x15 =>
  (fX11_copy M11 x13 x15).bind fun M18 =>
  (gR 6 4 a1).bind fun x19 =>
  (gR 6 4 a0).bind fun x21 =>
  (fX11_copy M18 x19 x21).bind fun M24 =>
  (gR 6 5 a1).bind fun x25 =>
  (gR 6 5 a0).bind fun x27 =>
  (fX11_copy M24 x25 x27).bind fun M30 =>
  (gR 6 6 a1).bind fun x31 =>
  (gR 6 6 a0).bind fun x33 =>
  (fX11_copy M30 x31 x33).bind fun M36 =>
  (gR 6 7 a1).bind fun x37 =>
  (gR 6 7 a0).bind fun x39 =>
  (fX11_copy M36 x37 x39).bind fun M42 =>
  (gR 6 8 a1).bind fun x43 =>
  (gR 6 8 a0).bind fun x45 =>
  (fX11_copy M42 x43 x45).bind fun M48 =>
  (fX6_copyFrom_L92 5000 M48 a0 a1 0).bind fun M49 =>
  (gR 6 10 a0).bind fun x51 =>
  (gR 6 10 a1).bind fun x53 =>
  (fX1_copyFrom M49 x51 x53).bind fun M56 =>
  (gR 6 11 a0).bind fun x57 =>
  (gR 6 11 a1).bind fun x59 =>
  (fX0_copyFrom M56 x57 x59).bind fun M62 =>
  (gR 6 12 a0).bind fun x63 =>
  (gR 6 12 a1).bind fun x65 =>
  (fX0_copyFrom M62 x63 x65).bind fun M68 =>
  some M68) else none
def fX7_copyFrom_L24 : Nat → Mem → Nat → Nat → Int32 → Option (Mem)
  | 0, _, _, _, _ => none
  | n + 1, M, a0, a1, a2 =>
    (gR 7 2 a0).bind fun x13 =>
    (aN 22 x13).bind fun v15 =>
    if v15 ≤ a2 then (
    some M) else (
    (gR 7 2 a1).bind fun x18 =>
    (aN 22 x18).bind fun v20 =>
    if v20 ≤ a2 then (
    some M) else (
    (gR 7 2 a0).bind fun x23 =>
    (aR 22 x23 a2).bind fun x25 =>
    (gR 7 2 a1).bind fun x27 =>
    (aR 22 x27 a2).bind fun x29 =>
    (fX6_copyFrom M x25 x29).bind fun M32 =>
    fX7_copyFrom_L24 n M32 a0 a1 (a2 + 1)))
def fX7_copyFrom (M : Mem) (a0 : Nat) (a1 : Nat) : Option Mem :=
  if shp a0 = 7 then (
  (gR 7 0 a1).bind fun x1 =>
  (gR 7 0 a0).bind fun x3 =>
  (fX11_copy M x1 x3).bind fun M6 =>
  (gR 7 1 a0).bind fun x7 =>
  (gR 7 1 a1).bind fun x9 =>
  (fX9_copyFrom M6 x7 x9).bind fun M12 =>
  (fX7_copyFrom_L24 5000 M12 a0 a1 0).bind fun M13 =>
  some M13) else none
def fX2_push (M : Mem) (a1 : Nat) : Option Mem :=
  (gI 2 1 M 12).bind fun v1 =>
  (if v1 < 6 then (
  some M) else (
  (fX2_dropOldest M).bind fun M18 =>
  some M18)).bind fun M3 =>
  (gI 2 1 M3 12).bind fun v6 =>
  (aD M3 13 v6).bind fun x8 =>
  (fX7_copyFrom M3 x8 a1).bind fun M11 =>
  (gI 2 1 M11 12).bind fun v12 =>
  (pI 2 1 M11 12 (v12 + 1)).bind fun M14 =>
  some M14
def fX11_set (M : Mem) (a1 : Int32) (a2 : Int32) : Option (Int32 × Mem) :=
  (fX11_isIn a1 0 (3 - 1)).bind fun v2 =>
  if v2 = 0 then (
  some ((-2), M)) else (
  (sL 1 a1).bind fun v4 =>
  (sL 2 a1).bind fun v6 =>
  (fX11_isIn a2 v4 v6).bind fun v9 =>
  if v9 = 0 then (
  some ((-2), M)) else (
  (fX2_push M 34).bind fun M12 =>
  (aL 20 M12 35 a1).bind fun v13 =>
  (aS 20 M12 35 a1 a2).bind fun M15 =>
  some (v13, M15)))
def fX9_isFull (M : Mem) (a0 : Nat) : Option (Int32) :=
  if shp a0 = 9 then (
  (gI 9 0 M a0).bind fun v1 =>
  if v1 < 6 then (
  some 0) else (
  some 1)) else none
def fX9_add (M : Mem) (a0 : Nat) (a1 : Int32) (a2 : Int32) (a3 : Int32) : Option (Int32 × Mem) :=
  if shp a0 = 9 then (
  (fX9_isFull M a0).bind fun v2 =>
  if v2 = 0 then (
  (gI 9 0 M a0).bind fun v4 =>
  (pI 9 0 M a0 (v4 + 1)).bind fun M6 =>
  (gR 9 1 a0).bind fun x8 =>
  (aS 20 M6 x8 v4 a1).bind fun M10 =>
  (gR 9 2 a0).bind fun x12 =>
  (aS 20 M10 x12 v4 a2).bind fun M14 =>
  (gR 9 3 a0).bind fun x16 =>
  (aS 20 M14 x16 v4 a3).bind fun M18 =>
  some (v4, M18)) else (
  some ((-4), M))) else none
def fX11_type (M : Mem) (a1 : Int32) (a2 : Int32) (a3 : Int32) : Option (Int32 × Mem) :=
  (fX11_isIn a1 100 2000).bind fun v2 =>
  if v2 = 0 then (
  some ((-2), M)) else (
  (fX11_isIn a2 0 20).bind fun v5 =>
  if v5 = 0 then (
  some ((-2), M)) else (
  (fX11_isIn a3 0 50).bind fun v8 =>
  if v8 = 0 then (
  some ((-2), M)) else (
  (fX9_isFull M 36).bind fun v11 =>
  if v11 = 0 then (
  (fX2_push M 34).bind fun M14 =>
  ob2 (fX9_add M14 36 a1 a2 a3) fun v16 M17 =>
  some (v16, M17)) else (
  some ((-4), M)))))
def fX7_find (a0 : Nat) (a1 : Int32) : Option (Option Nat) :=
  if shp a0 = 7 then (
  (gR 7 2 a0).bind fun x1 =>
  (aN 22 x1).bind fun v3 =>
  (fX11_isIn a1 0 (v3 - 1)).bind fun v6 =>
  if v6 = 0 then (
  some none) else (
  (gR 7 2 a0).bind fun x8 =>
  (aR 22 x8 a1).bind fun x10 =>
  some (some x10))) else none
def fX11_areDays (a0 : Int32) (a1 : Int32) : Option (Int32) :=
  (fX11_isIn a0 0 6).bind fun v2 =>
  if v2 = 0 then (
  some 0) else (
  (fX11_isIn a1 a0 6).bind fun v5 =>
  if v5 = 0 then (
  some 0) else (
  some 1))
def fX11_days (M : Mem) (a1 : Int32) (a2 : Int32) (a3 : Int32) : Option (Int32 × Mem) :=
  (fX7_find 34 a1).bind fun r2 =>
  caseO r2 (
  some ((-1), M)) (fun x3 =>
  (fX11_areDays a2 a3).bind fun v5 =>
  if v5 = 0 then (
  some ((-2), M)) else (
  (fX2_push M 34).bind fun M8 =>
  (gI 6 1 M8 x3).bind fun v9 =>
  (gI 6 0 M8 x3).bind fun v11 =>
  lt1 ((v9 - v11) + 1) fun v13 =>
  (pI 6 0 M8 x3 a2).bind fun M15 =>
  (pI 6 1 M15 x3 a3).bind fun M17 =>
  some (v13, M17)))
def fX9_has (M : Mem) (a0 : Nat) (a1 : Int32) : Option (Int32) :=
  if shp a0 = 9 then (
  if a1 < 0 then (
  some 0) else (
  (gI 9 0 M a0).bind fun v2 =>
  if v2 ≤ a1 then (
  some 0) else (
  if 6 ≤ a1 then (
  some 0) else (
  some 1)))) else none
def fX11_isDimmer (a0 : Int32) : Option (Int32) :=
  (fX11_isIn a0 0 11).bind fun v2 =>
  (bz v2).bind fun b3 =>
  some b3
def fX11_isDimmerOrNone (a0 : Int32) : Option (Int32) :=
  if a0 = (-6) then (
  some 1) else (
  (fX11_isDimmer a0).bind fun v3 =>
  if v3 = 0 then (
  some 0) else (
  some 1))
def fX6_isFull (M : Mem) (a0 : Nat) : Option (Int32) :=
  if shp a0 = 6 then (
  (gI 6 2 M a0).bind fun v1 =>
  if v1 < 12 then (
  some 0) else (
  some 1)) else none
def fX6_addLamp (M : Mem) (a0 : Nat) (a1 : Int32) (a2 : Int32) : Option (Int32 × Mem) :=
  if shp a0 = 6 then (
  (fX6_isFull M a0).bind fun v2 =>
  if v2 = 0 then (
  (gI 6 2 M a0).bind fun v4 =>
  (pI 6 2 M a0 (v4 + 1)).bind fun M6 =>
  (gR 6 3 a0).bind fun x8 =>
  (aS 20 M6 x8 v4 a1).bind fun M10 =>
  (gR 6 4 a0).bind fun x12 =>
  (aS 20 M10 x12 v4 a2).bind fun M14 =>
  some (v4, M14)) else (
  some ((-4), M))) else none
def fX11_hang (M : Mem) (a1 : Int32) (a2 : Int32) (a3 : Int32) : Option (Int32 × Mem) :=
  (fX7_find 34 a1).bind fun r2 =>
  caseO r2 (
  some ((-1), M)) (fun x3 =>
  (fX9_has M 36 a2).bind fun v5 =>
  if v5 = 0 then (
  some ((-1), M)) else (
  (fX11_isDimmerOrNone a3).bind fun v8 =>
  if v8 = 0 then (
  some ((-1), M)) else (
  (fX6_isFull M x3).bind fun v11 =>
  if v11 = 0 then (
  (fX2_push M 34).bind fun M14 =>
  ob2 (fX6_addLamp M14 x3 a2 a3) fun v16 M17 =>
  some (v16, M17)) else (
  some ((-4), M)))))
def fX6_hasLamp (M : Mem) (a0 : Nat) (a1 : Int32) : Option (Int32) :=
  if shp a0 = 6 then (
  if a1 < 0 then (
  some 0) else (
  (gI 6 2 M a0).bind fun v2 =>
  if v2 ≤ a1 then (
  some 0) else (
  if 12 ≤ a1 then (
  some 0) else (
  some 1)))) else none
def fX11_closeGap_L6 : Nat → Mem → Nat → Int32 → Option (Mem)
  | 0, _, _, _ => none
  | n + 1, M, a0, a2 =>
    (aN 20 a0).bind fun v3 =>
    if v3 ≤ a2 then (
    some M) else (
    (aN 20 a0).bind fun v6 =>
    if v6 ≤ (a2 + 1) then (
    (aS 20 M a0 a2 0).bind fun M9 =>
    fX11_closeGap_L6 n M9 a0 (a2 + 1)) else (
    (aL 20 M a0 (a2 + 1)).bind fun v11 =>
    (aS 20 M a0 a2 v11).bind fun M13 =>
    fX11_closeGap_L6 n M13 a0 (a2 + 1)))
def fX11_closeGap (M : Mem) (a0 : Nat) (a1 : Int32) : Option Mem :=
  lt1 (if a1 < 0 then 0 else a1) fun v1 =>
  (fX11_closeGap_L6 5000 M a0 v1).bind fun M3 =>
  some M3
def fX1_removeLamp (M : Mem) (a0 : Nat) (a1 : Int32) : Option Mem :=
  if shp a0 = 1 then (
  (gR 1 2 a0).bind fun x1 =>
  (fX11_closeGap M x1 a1).bind fun M4 =>
  (gR 1 3 a0).bind fun x5 =>
  (fX11_closeGap M4 x5 a1).bind fun M8 =>
  some M8) else none
def fX6_removeLamp_L56 : Nat → Mem → Nat → Int32 → Nat → Int32 → Int32 → Option (Mem)
  | 0, _, _, _, _, _, _ => none
  | n + 1, M, a0, a1, a2, a3, a4 =>
    if a3 ≤ a4 then (
    some M) else (
    (aR 24 a2 a4).bind fun x25 =>
    (fX11_closeGap M x25 a1).bind fun M28 =>
    fX6_removeLamp_L56 n M28 a0 a1 a2 a3 (a4 + 1))
def fX6_removeLamp (M : Mem) (a0 : Nat) (a1 : Int32) : Option (Int32 × Mem) :=
  if shp a0 = 6 then (
  (fX6_hasLamp M a0 a1).bind fun v2 =>
  if v2 = 0 then (
  (gI 6 2 M a0).bind fun v36 =>
  some (v36, M)) else (
  (gR 6 3 a0).bind fun x4 =>
  (fX11_closeGap M x4 a1).bind fun M7 =>
  (gR 6 4 a0).bind fun x8 =>
  (fX11_closeGap M7 x8 a1).bind fun M11 =>
  (gR 6 5 a0).bind fun x12 =>
  (fX11_closeGap M11 x12 a1).bind fun M15 =>
  (gR 6 6 a0).bind fun x16 =>
  (fX11_closeGap M15 x16 a1).bind fun M19 =>
  (gR 6 9 a0).bind fun x20 =>
  (aN 24 x20).bind fun v22 =>
  (fX6_removeLamp_L56 5000 M19 a0 a1 x20 v22 0).bind fun M24 =>
  (gR 6 10 a0).bind fun x26 =>
  (fX1_removeLamp M24 x26 a1).bind fun M29 =>
  (gI 6 2 M29 a0).bind fun v30 =>
  (pI 6 2 M29 a0 (v30 - 1)).bind fun M32 =>
  (gI 6 2 M32 a0).bind fun v34 =>
  some (v34, M32))) else none
def fX11_takeDown (M : Mem) (a1 : Int32) (a2 : Int32) : Option (Int32 × Mem) :=
  (fX7_find 34 a1).bind fun r2 =>
  caseO r2 (
  some ((-1), M)) (fun x3 =>
  (fX6_hasLamp M x3 a2).bind fun v5 =>
  if v5 = 0 then (
  some ((-1), M)) else (
  (fX2_push M 34).bind fun M8 =>
  ob2 (fX6_removeLamp M8 x3 a2) fun v10 M11 =>
  some (v10, M11)))
def fX11_patch (M : Mem) (a1 : Int32) (a2 : Int32) (a3 : Int32) : Option (Int32 × Mem) :=
  (fX7_find 34 a1).bind fun r2 =>
  caseO r2 (
  some ((-1), M)) (fun x3 =>
  (fX6_hasLamp M x3 a2).bind fun v5 =>
  if v5 = 0 then (
  some ((-1), M)) else (
  (fX11_isDimmerOrNone a3).bind fun v8 =>
  if v8 = 0 then (
  some ((-1), M)) else (
  (fX2_push M 34).bind fun M11 =>
  (gR 6 4 x3).bind fun x12 =>
  (aL 20 M11 x12 a2).bind fun v14 =>
  (gR 6 4 x3).bind fun x16 =>
  (aS 20 M11 x16 a2 a3).bind fun M18 =>
  some (v14, M18))))
def fX11_isPhase (a0 : Int32) : Option (Int32) :=
  (fX11_isIn a0 0 2).bind fun v2 =>
  (bz v2).bind fun b3 =>
  some b3
def fX11_feed (M : Mem) (a1 : Int32) (a2 : Int32) (a3 : Int32) : Option (Int32 × Mem) :=
  (fX7_find 34 a1).bind fun r2 =>
  caseO r2 (
  some ((-1), M)) (fun x3 =>
  (fX11_isDimmer a2).bind fun v5 =>
  if v5 = 0 then (
  some ((-1), M)) else (
  (fX11_isPhase a3).bind fun v8 =>
  if v8 = 0 then (
  some ((-1), M)) else (
  (fX2_push M 34).bind fun M11 =>
  (gR 6 7 x3).bind fun x12 =>
  (aL 20 M11 x12 a2).bind fun v14 =>
  (gR 6 7 x3).bind fun x16 =>
  (aS 20 M11 x16 a2 a3).bind fun M18 =>
  some (v14, M18))))
def fX11_clear_L2 : Nat → Mem → Nat → Int32 → Option (Mem)
  | 0, _, _, _ => none
  | n + 1, M, a0, a1 =>
    (aN 20 a0).bind fun v1 =>
    if v1 ≤ a1 then (
    some M) else (
    (aS 20 M a0 a1 0).bind fun M4 =>
    fX11_clear_L2 n M4 a0 (a1 + 1))
def fX11_clear (M : Mem) (a0 : Nat) : Option Mem :=
  (fX11_clear_L2 5000 M a0 0).bind fun M1 =>
  some M1
def fX3_empty (M : Mem) (a0 : Nat) : Option Mem :=
  if shp a0 = 3 then (
  (gR 3 0 a0).bind fun x1 =>
  (fX11_clear M x1).bind fun M4 =>
  (gR 3 1 a0).bind fun x5 =>
  (fX11_clear M4 x5).bind fun M8 =>
  some M8) else none
def fX11_isCue (a0 : Int32) : Option (Int32) :=
  (fX11_isIn a0 0 7).bind fun v2 =>
  (bz v2).bind fun b3 =>
  some b3
def fX6_isRecorded (M : Mem) (a0 : Nat) (a1 : Int32) : Option (Int32) :=
  if shp a0 = 6 then (
  (fX11_isCue a1).bind fun v2 =>
  if v2 = 0 then (
  some 0) else (
  (gR 6 8 a0).bind fun x4 =>
  (aL 20 M x4 a1).bind fun v6 =>
  if v6 ≤ 0 then (
  some 0) else (
  some 1))) else none
def fX9_wattsOf (M : Mem) (a0 : Nat) (a1 : Int32) : Option (Int32) :=
  if shp a0 = 9 then (
  if a1 < 0 then (
  some 0) else (
  (gR 9 1 a0).bind fun x2 =>
  (aN 20 x2).bind fun v4 =>
  if v4 ≤ a1 then (
  some 0) else (
  (gR 9 1 a0).bind fun x7 =>
  (aL 20 M x7 a1).bind fun v9 =>
  some v9))) else none
def fX6_draw (M : Mem) (a0 : Nat) (a1 : Int32) (a2 : Nat) (a3 : Nat) : Option (Int32) :=
  if shp a0 = 6 then (
  (fX6_hasLamp M a0 a1).bind fun v2 =>
  if v2 = 0 then (
  some 0) else (
  (aN 20 a2).bind fun v4 =>
  if a1 < v4 then (
  (gR 6 3 a0).bind fun x7 =>
  (aL 20 M x7 a1).bind fun v9 =>
  (fX9_wattsOf M a3 v9).bind fun v12 =>
  (aL 20 M a2 a1).bind fun v13 =>
  (dv (v12 * v13) 100).bind fun v15 =>
  some v15) else (
  some 0))) else none
def fX6_dimmerOf (M : Mem) (a0 : Nat) (a1 : Int32) : Option (Int32) :=
  if shp a0 = 6 then (
  if a1 < 0 then (
  some (-6)) else (
  (gR 6 4 a0).bind fun x2 =>
  (aN 20 x2).bind fun v4 =>
  if v4 ≤ a1 then (
  some (-6)) else (
  (gR 6 4 a0).bind fun x7 =>
  (aL 20 M x7 a1).bind fun v9 =>
  some v9))) else none
def fX6_phaseOf (M : Mem) (a0 : Nat) (a1 : Int32) : Option (Int32) :=
  if shp a0 = 6 then (
  if a1 < 0 then (
  some (-6)) else (
  (gR 6 7 a0).bind fun x2 =>
  (aN 20 x2).bind fun v4 =>
  if v4 ≤ a1 then (
  some (-6)) else (
  (gR 6 7 a0).bind fun x7 =>
  (aL 20 M x7 a1).bind fun v9 =>
  some v9))) else none
def fX3_add (M : Mem) (a0 : Nat) (a1 : Nat) (a2 : Int32) (a3 : Int32) : Option Mem :=
  if shp a0 = 3 then (
  (fX6_dimmerOf M a1 a2).bind fun v2 =>
  (fX6_phaseOf M a1 v2).bind fun v4 =>
  (fX11_isDimmer v2).bind fun v6 =>
  if v6 = 0 then (
  some M) else (
  (fX11_isPhase v4).bind fun v9 =>
  if v9 = 0 then (
  some M) else (
  (gR 3 0 a0).bind fun x11 =>
  (aL 20 M x11 v2).bind fun v13 =>
  (aS 20 M x11 v2 (v13 + a3)).bind fun M15 =>
  (gR 3 1 a0).bind fun x17 =>
  (aL 20 M15 x17 v4).bind fun v19 =>
  (aS 20 M15 x17 v4 (v19 + a3)).bind fun M21 =>
  some M21))) else none
def fX3_measureCue_L16 : Nat → Mem → Nat → Nat → Int32 → Nat → Int32 → Option (Mem)
  | 0, _, _, _, _, _, _ => none
  | n + 1, M, a0, a1, a2, a3, a4 =>
    (gI 6 2 M a1).bind fun v6 =>
    if v6 ≤ a4 then (
    some M) else (
    (gR 6 9 a1).bind fun x9 =>
    (aR 24 x9 a2).bind fun x11 =>
    (fX6_draw M a1 a4 x11 a3).bind fun v14 =>
    (fX3_add M a0 a1 a4 v14).bind fun M16 =>
    fX3_measureCue_L16 n M16 a0 a1 a2 a3 (a4 + 1))
def fX3_measureCue (M : Mem) (a0 : Nat) (a1 : Nat) (a2 : Int32) (a3 : Nat) : Option Mem :=
  if shp a0 = 3 then (
  (fX3_empty M a0).bind fun M2 =>
  (fX6_isRecorded M2 a1 a2).bind fun v4 =>
  if v4 = 0 then (
  some M2) else (
  (fX3_measureCue_L16 5000 M2 a0 a1 a2 a3 0).bind fun M6 =>
  some M6)) else none
def fX11_raise_L2 : Nat → Mem → Nat → Nat → Int32 → Option (Mem)
  | 0, _, _, _, _ => none
  | n + 1, M, a0, a1, a2 =>
    (aN 20 a0).bind fun v1 =>
    if v1 ≤ a2 then (
    some M) else (
    (aN 20 a1).bind fun v4 =>
    if v4 ≤ a2 then (
    some M) else (
    (aL 20 M a0 a2).bind fun v7 =>
    (aL 20 M a1 a2).bind fun v9 =>
    (aS 20 M a0 a2 (if v7 < v9 then v9 else v7)).bind fun M11 =>
    fX11_raise_L2 n M11 a0 a1 (a2 + 1)))
def fX11_raise (M : Mem) (a0 : Nat) (a1 : Nat) : Option Mem :=
  (fX11_raise_L2 5000 M a0 a1 0).bind fun M1 =>
  some M1
def fX10_measure_L9 : Nat → Mem → Nat → Nat → Int32 → Option (Mem)
  | 0, _, _, _, _ => none
  | n + 1, M, a1, a2, a3 =>
    if 8 ≤ a3 then (
    some M) else (
    (fX3_measureCue M 30 a1 a3 a2).bind fun M5 =>
    (fX11_raise M5 28 31).bind fun M7 =>
    (fX11_raise M7 29 32).bind fun M9 =>
    fX10_measure_L9 n M9 a1 a2 (a3 + 1))
def fX10_measure (M : Mem) (a1 : Nat) (a2 : Nat) : Option Mem :=
  (fX3_empty M 27).bind fun M2 =>
  (fX10_measure_L9 5000 M2 a1 a2 0).bind fun M3 =>
  some M3
def fX11_hasBit (a0 : Int32) (a1 : Int32) : Option (Int32) :=
  if ((a0 >>> (a1 &&& 31)) &&& 1) = 0 then (
  some 0) else (
  some 1)
def fX6_heaviestLeft_L7 : Nat → Mem → Nat → Int32 → Int32 → Int32 → Int32 → Option (Int32)
  | 0, _, _, _, _, _, _ => none
  | n + 1, M, a0, a1, a2, a3, a4 =>
    (aN 20 a0).bind fun v1 =>
    if v1 ≤ a4 then (
    some a2) else (
    (fX11_hasBit a1 a4).bind fun v5 =>
    if v5 = 0 then (
    (aL 20 M a0 a4).bind fun v7 =>
    if v7 ≤ a3 then (
    fX6_heaviestLeft_L7 n M a0 a1 a2 a3 (a4 + 1)) else (
    (aL 20 M a0 a4).bind fun v10 =>
    fX6_heaviestLeft_L7 n M a0 a1 a4 v10 (a4 + 1))) else (
    fX6_heaviestLeft_L7 n M a0 a1 a2 a3 (a4 + 1)))
def fX6_heaviestLeft (M : Mem) (a0 : Nat) (a1 : Int32) : Option (Int32) :=
  (fX6_heaviestLeft_L7 5000 M a0 a1 0 (-1) 0).bind fun v1 =>
  some v1
def fX6_lightest_L4 : Nat → Mem → Nat → Int32 → Int32 → Option (Int32)
  | 0, _, _, _, _ => none
  | n + 1, M, a0, a1, a2 =>
    (aN 20 a0).bind fun v1 =>
    if v1 ≤ a2 then (
    some a1) else (
    (aL 20 M a0 a2).bind fun v4 =>
    (aL 20 M a0 a1).bind fun v6 =>
    if v6 ≤ v4 then (
    fX6_lightest_L4 n M a0 a1 (a2 + 1)) else (
    fX6_lightest_L4 n M a0 a2 (a2 + 1)))
def fX6_lightest (M : Mem) (a0 : Nat) : Option (Int32) :=
  (fX6_lightest_L4 5000 M a0 0 1).bind fun v1 =>
  some v1
def fX6_spreadDimmers_L12 : Nat → Mem → Nat → Nat → Nat → Int32 → Int32 → Int32 → Option (Int32 × Mem)
  | 0, _, _, _, _, _, _, _ => none
  | n + 1, M, a0, a1, a2, a3, a4, a5 =>
    if 12 ≤ a5 then (
    some (a4, M)) else (
    (fX6_heaviestLeft M a1 a3).bind fun v5 =>
    (fX6_lightest M a2).bind fun v7 =>
    (gR 6 7 a0).bind fun x8 =>
    (aL 20 M x8 v5).bind fun v10 =>
    (if v10 = v7 then (
    some a4) else (
    some (a4 + 1))).bind fun v12 =>
    (gR 6 7 a0).bind fun x15 =>
    (aS 20 M x15 v5 v7).bind fun M17 =>
    (aL 20 M17 a2 v7).bind fun v19 =>
    (aL 20 M17 a1 v5).bind fun v21 =>
    (aS 20 M17 a2 v7 (v19 + v21)).bind fun M23 =>
    lt1 (a3 ||| (1 <<< (v5 &&& 31))) fun v25 =>
    fX6_spreadDimmers_L12 n M23 a0 a1 a2 v25 v12 (a5 + 1))
def fX6_spreadDimmers (M : Mem) (a0 : Nat) (a1 : Nat) (a2 : Nat) : Option (Int32 × Mem) :=
  if shp a0 = 6 then (
  (fX11_clear M a2).bind fun M2 =>
  ob2 (fX6_spreadDimmers_L12 5000 M2 a0 a1 a2 0 0 0) fun v4 M3 =>
  some (v4, M3)) else none
def fX11_spread (M : Mem) (a1 : Int32) : Option (Int32 × Mem) :=
  (fX7_find 34 a1).bind fun r2 =>
  caseO r2 (
  some ((-1), M)) (fun x3 =>
  (fX2_push M 34).bind fun M5 =>
  (fX10_measure M5 x3 36).bind fun M7 =>
  ob2 (fX6_spreadDimmers M7 x3 28 29) fun v9 M10 =>
  some (v9, M10))
def fX11_at (M : Mem) (a1 : Int32) (a2 : Int32) (a3 : Int32) : Option (Int32 × Mem) :=
  (fX7_find 34 a1).bind fun r2 =>
  caseO r2 (
  some ((-1), M)) (fun x3 =>
  (fX6_hasLamp M x3 a2).bind fun v5 =>
  if v5 = 0 then (
  some ((-1), M)) else (
  (fX11_isIn a3 0 100).bind fun v8 =>
  if v8 = 0 then (
  some ((-2), M)) else (
  (fX2_push M 34).bind fun M11 =>
  (gR 6 5 x3).bind fun x12 =>
  (aL 20 M11 x12 a2).bind fun v14 =>
  (gR 6 5 x3).bind fun x16 =>
  (aS 20 M11 x16 a2 a3).bind fun M18 =>
  some (v14, M18))))
def fX6_recordCue (M : Mem) (a0 : Nat) (a1 : Int32) (a2 : Int32) : Option Mem :=
  if shp a0 = 6 then (
  (fX11_isCue a1).bind fun v2 =>
  if v2 = 0 then (
  some M) else (
  (gR 6 8 a0).bind fun x4 =>
  (aS 20 M x4 a1 a2).bind fun M6 =>
  (gR 6 5 a0).bind fun x8 =>
  (gR 6 9 a0).bind fun x10 =>
  (aR 24 x10 a1).bind fun x12 =>
  (fX11_copy M6 x8 x12).bind fun M15 =>
  some M15)) else none
def fX6_recordedCues_L4 : Nat → Mem → Nat → Int32 → Int32 → Option (Int32)
  | 0, _, _, _, _ => none
  | n + 1, M, a0, a1, a2 =>
    if 8 ≤ a2 then (
    some a1) else (
    (fX6_isRecorded M a0 a2).bind fun v3 =>
    if v3 = 0 then (
    fX6_recordedCues_L4 n M a0 a1 (a2 + 1)) else (
    lt1 (a1 ||| (1 <<< (a2 &&& 31))) fun v5 =>
    fX6_recordedCues_L4 n M a0 v5 (a2 + 1)))
def fX6_recordedCues (M : Mem) (a0 : Nat) : Option (Int32) :=
  if shp a0 = 6 then (
  (fX6_recordedCues_L4 5000 M a0 0 0).bind fun v1 =>
  some v1) else none
def fJ6_bitCount_0f7a4 (a0 : Int32) : Option (Int32) :=
  lt1 (a0 - (((a0.toUInt32 >>> ((1 : Int32).toUInt32 &&& Int32.toUInt32 31)).toInt32) &&& 1431655765)) fun v1 =>
  lt1 ((v1 &&& 858993459) + (((v1.toUInt32 >>> ((2 : Int32).toUInt32 &&& Int32.toUInt32 31)).toInt32) &&& 858993459)) fun v3 =>
  lt1 ((v3 + ((v3.toUInt32 >>> ((4 : Int32).toUInt32 &&& Int32.toUInt32 31)).toInt32)) &&& 252645135) fun v5 =>
  lt1 (v5 + ((v5.toUInt32 >>> ((8 : Int32).toUInt32 &&& Int32.toUInt32 31)).toInt32)) fun v7 =>
  lt1 (v7 + ((v7.toUInt32 >>> ((16 : Int32).toUInt32 &&& Int32.toUInt32 31)).toInt32)) fun v9 =>
  some (v9 &&& 63)
def fX11_record (M : Mem) (a1 : Int32) (a2 : Int32) (a3 : Int32) : Option (Int32 × Mem) :=
  (fX7_find 34 a1).bind fun r2 =>
  caseO r2 (
  some ((-1), M)) (fun x3 =>
  (fX11_isCue a2).bind fun v5 =>
  if v5 = 0 then (
  some ((-1), M)) else (
  (fX11_isIn a3 1 50).bind fun v8 =>
  if v8 = 0 then (
  some ((-2), M)) else (
  (fX2_push M 34).bind fun M11 =>
  (fX6_recordCue M11 x3 a2 a3).bind fun M13 =>
  (fX6_recordedCues M13 x3).bind fun v15 =>
  (fJ6_bitCount_0f7a4 v15).bind fun v17 =>
  some (v17, M13))))
def fX1_start (M : Mem) (a0 : Nat) (a1 : Nat) (a2 : Nat) (a3 : Int32) : Option Mem :=
  if shp a0 = 1 then (
  (pI 1 0 M a0 a3).bind fun M1 =>
  (pI 1 1 M1 a0 0).bind fun M3 =>
  (gR 1 2 a0).bind fun x5 =>
  (fX11_copy M3 a1 x5).bind fun M8 =>
  (gR 1 3 a0).bind fun x9 =>
  (fX11_copy M8 a2 x9).bind fun M12 =>
  some M12) else none
def fX6_startCue (M : Mem) (a0 : Nat) (a1 : Int32) (a2 : Int32) : Option Mem :=
  if shp a0 = 6 then (
  (fX11_isCue a1).bind fun v2 =>
  if v2 = 0 then (
  some M) else (
  (gR 6 10 a0).bind fun x4 =>
  (gR 6 6 a0).bind fun x6 =>
  (gR 6 9 a0).bind fun x8 =>
  (aR 24 x8 a1).bind fun x10 =>
  (fX1_start M x4 x6 x10 a2).bind fun M13 =>
  some M13)) else none
def fX11_go (M : Mem) (a1 : Int32) (a2 : Int32) : Option (Int32 × Mem) :=
  (fX7_find 34 a1).bind fun r2 =>
  caseO r2 (
  some ((-1), M)) (fun x3 =>
  (fX11_isCue a2).bind fun v5 =>
  if v5 = 0 then (
  some ((-1), M)) else (
  (fX6_isRecorded M x3 a2).bind fun v8 =>
  if v8 = 0 then (
  some ((-5), M)) else (
  (fX2_push M 34).bind fun M11 =>
  (gR 6 8 x3).bind fun x12 =>
  (aL 20 M11 x12 a2).bind fun v14 =>
  (fX6_startCue M11 x3 a2 v14).bind fun M17 =>
  (gR 6 8 x3).bind fun x18 =>
  (aL 20 M17 x18 a2).bind fun v20 =>
  some (v20, M17))))
def fX0_clearTrips (M : Mem) (a0 : Nat) : Option (Int32 × Mem) :=
  if shp a0 = 0 then (
  (gI 0 1 M a0).bind fun v1 =>
  (fJ6_bitCount_0f7a4 v1).bind fun v4 =>
  (pI 0 1 M a0 0).bind fun M5 =>
  (gR 0 0 a0).bind fun x7 =>
  (fX11_clear M5 x7).bind fun M10 =>
  some (v4, M10)) else none
def fX6_clearTrips (M : Mem) (a0 : Nat) : Option (Int32 × Mem) :=
  if shp a0 = 6 then (
  (gR 6 11 a0).bind fun x1 =>
  ob2 (fX0_clearTrips M x1) fun v4 M5 =>
  (gR 6 12 a0).bind fun x6 =>
  ob2 (fX0_clearTrips M5 x6) fun v9 M10 =>
  some (v4 + v9, M10)) else none
def fX11_reset (M : Mem) (a1 : Int32) : Option (Int32 × Mem) :=
  (fX7_find 34 a1).bind fun r2 =>
  caseO r2 (
  some ((-1), M)) (fun x3 =>
  (fX2_push M 34).bind fun M5 =>
  ob2 (fX6_clearTrips M5 x3) fun v7 M8 =>
  some (v7, M8))
def fX1_step_L20 : Nat → Mem → Nat → Nat → Int32 → Option (Mem)
  | 0, _, _, _, _ => none
  | n + 1, M, a0, a1, a2 =>
    if 12 ≤ a2 then (
    some M) else (
    (aN 20 a1).bind fun v9 =>
    if v9 ≤ a2 then (
    some M) else (
    (gR 1 2 a0).bind fun x12 =>
    (aL 20 M x12 a2).bind fun v14 =>
    (gR 1 3 a0).bind fun x16 =>
    (aL 20 M x16 a2).bind fun v18 =>
    (gR 1 2 a0).bind fun x20 =>
    (aL 20 M x20 a2).bind fun v22 =>
    (gI 1 1 M a0).bind fun v24 =>
    (gI 1 0 M a0).bind fun v26 =>
    (dv ((v18 - v22) * v24) v26).bind fun v28 =>
    (aS 20 M a1 a2 (v14 + v28)).bind fun M30 =>
    fX1_step_L20 n M30 a0 a1 (a2 + 1)))
def fX1_step (M : Mem) (a0 : Nat) (a1 : Nat) : Option Mem :=
  if shp a0 = 1 then (
  (gI 1 0 M a0).bind fun v1 =>
  if 0 < v1 then (
  (gI 1 1 M a0).bind fun v4 =>
  (pI 1 1 M a0 (v4 + 1)).bind fun M6 =>
  (fX1_step_L20 5000 M6 a0 a1 0).bind fun M8 =>
  (gI 1 1 M8 a0).bind fun v10 =>
  (gI 1 0 M8 a0).bind fun v12 =>
  if v10 < v12 then (
  some M8) else (
  (pI 1 0 M8 a0 0).bind fun M15 =>
  (pI 1 1 M15 a0 0).bind fun M17 =>
  some M17)) else (
  some M)) else none
def fX0_hasTripped (M : Mem) (a0 : Nat) (a1 : Int32) : Option (Int32) :=
  if shp a0 = 0 then (
  (gI 0 1 M a0).bind fun v1 =>
  if ((v1 >>> (a1 &&& 31)) &&& 1) = 0 then (
  some 0) else (
  some 1)) else none
def fX6_isFed (M : Mem) (a0 : Nat) (a1 : Int32) : Option (Int32) :=
  if shp a0 = 6 then (
  (fX6_dimmerOf M a0 a1).bind fun v2 =>
  if v2 = (-6) then (
  some 0) else (
  (gR 6 11 a0).bind fun x4 =>
  (fX0_hasTripped M x4 v2).bind fun v7 =>
  if v7 = 0 then (
  (gR 6 12 a0).bind fun x9 =>
  (fX6_phaseOf M a0 v2).bind fun v12 =>
  (fX0_hasTripped M x9 v12).bind fun v14 =>
  if v14 = 0 then (
  some 1) else (
  some 0)) else (
  some 0))) else none
def fX6_loadOfLamp (M : Mem) (a0 : Nat) (a1 : Int32) (a2 : Nat) : Option (Int32) :=
  if shp a0 = 6 then (
  (fX6_isFed M a0 a1).bind fun v2 =>
  if v2 = 0 then (
  some 0) else (
  (gR 6 6 a0).bind fun x4 =>
  (fX6_draw M a0 a1 x4 a2).bind fun v7 =>
  some v7)) else none
def fX3_measureNow_L6 : Nat → Mem → Nat → Nat → Nat → Int32 → Option (Mem)
  | 0, _, _, _, _, _ => none
  | n + 1, M, a0, a1, a2, a3 =>
    (gI 6 2 M a1).bind fun v3 =>
    if v3 ≤ a3 then (
    some M) else (
    (fX6_loadOfLamp M a1 a3 a2).bind fun v7 =>
    (fX3_add M a0 a1 a3 v7).bind fun M9 =>
    fX3_measureNow_L6 n M9 a0 a1 a2 (a3 + 1))
def fX3_measureNow (M : Mem) (a0 : Nat) (a1 : Nat) (a2 : Nat) : Option Mem :=
  if shp a0 = 3 then (
  (fX3_empty M a0).bind fun M2 =>
  (fX3_measureNow_L6 5000 M2 a0 a1 a2 0).bind fun M3 =>
  some M3) else none
def fX0_check_L6 : Nat → Mem → Nat → Nat → Int32 → Int32 → Int32 → Int32 → Option (Int32 × Mem)
  | 0, _, _, _, _, _, _, _ => none
  | n + 1, M, a0, a1, a2, a3, a4, a5 =>
    (gR 0 0 a0).bind fun x1 =>
    (aN 20 x1).bind fun v3 =>
    if v3 ≤ a5 then (
    some (a4, M)) else (
    (aN 20 a1).bind fun v6 =>
    if v6 ≤ a5 then (
    some (a4, M)) else (
    (gR 0 0 a0).bind fun x9 =>
    (aL 20 M a1 a5).bind fun v11 =>
    (if v11 ≤ a2 then (
    some (0 : Int32)) else (
    (gR 0 0 a0).bind fun x32 =>
    (aL 20 M x32 a5).bind fun v34 =>
    some (v34 + 1))).bind fun v13 =>
    (aS 20 M x9 a5 v13).bind fun M16 =>
    (gR 0 0 a0).bind fun x18 =>
    (aL 20 M16 x18 a5).bind fun v20 =>
    if v20 < a3 then (
    fX0_check_L6 n M16 a0 a1 a2 a3 a4 (a5 + 1)) else (
    (gR 0 0 a0).bind fun x23 =>
    (aS 20 M16 x23 a5 0).bind fun M25 =>
    (gI 0 1 M25 a0).bind fun v27 =>
    (pI 0 1 M25 a0 (v27 ||| (1 <<< (a5 &&& 31)))).bind fun M29 =>
    fX0_check_L6 n M29 a0 a1 a2 a3 (a4 + 1) (a5 + 1))))
def fX0_check (M : Mem) (a0 : Nat) (a1 : Nat) (a2 : Int32) (a3 : Int32) : Option (Int32 × Mem) :=
  if shp a0 = 0 then (
  ob2 (fX0_check_L6 5000 M a0 a1 a2 a3 0 0) fun v2 M1 =>
  some (v2, M1)) else none
def fX6_passTick (M : Mem) (a0 : Nat) (a1 : Nat) (a2 : Nat) : Option (Int32 × Mem) :=
  if shp a0 = 6 then (
  (gR 7 0 a1).bind fun x1 =>
  (aL 20 M x1 2).bind fun v3 =>
  (gR 6 10 a0).bind fun x5 =>
  (gR 6 6 a0).bind fun x7 =>
  (fX1_step M x5 x7).bind fun M10 =>
  (gR 7 1 a1).bind fun x11 =>
  (fX3_measureNow M10 a2 a0 x11).bind fun M14 =>
  (gR 6 11 a0).bind fun x15 =>
  (gR 3 0 a2).bind fun x17 =>
  (gR 7 0 a1).bind fun x19 =>
  (aL 20 M14 x19 0).bind fun v21 =>
  ob2 (fX0_check M14 x15 x17 v21 v3) fun v24 M25 =>
  (if v24 ≤ 0 then (
  some M25) else (
  (gR 7 1 a1).bind fun x46 =>
  (fX3_measureNow M25 a2 a0 x46).bind fun M49 =>
  some M49)).bind fun M26 =>
  (gR 6 12 a0).bind fun x29 =>
  (gR 3 1 a2).bind fun x31 =>
  (gR 7 0 a1).bind fun x33 =>
  (aL 20 M26 x33 1).bind fun v35 =>
  ob2 (fX0_check M26 x29 x31 v35 v3) fun v38 M39 =>
  if v38 ≤ 0 then (
  some (v24 + v38, M39)) else (
  (gR 7 1 a1).bind fun x41 =>
  (fX3_measureNow M39 a2 a0 x41).bind fun M44 =>
  some (v24 + v38, M44))) else none
def fX11_tick_L50 : Nat → Mem → Int32 → Int32 → Int32 → Int32 → Int32 → Option (Int32 × Mem)
  | 0, _, _, _, _, _, _ => none
  | n + 1, M, a1, a2, a3, a5, a6 =>
    if a5 ≤ a6 then (
    some (a2, M)) else (
    (aR 22 40 a6).bind fun x8 =>
    ob2 (fX6_passTick M x8 34 23) fun v11 M12 =>
    lt1 (a2 + v11) fun v13 =>
    fX11_tick_L50 n M12 a1 v13 a3 a5 (a6 + 1))
def fX11_tick_L28 : Nat → Mem → Int32 → Int32 → Int32 → Option (Int32 × Mem)
  | 0, _, _, _, _ => none
  | n + 1, M, a1, a2, a3 =>
    if a1 ≤ a3 then (
    some (a2, M)) else (
    ob2 (fX11_tick_L50 5000 M a1 a2 a3 3 0) fun v8 M7 =>
    fX11_tick_L28 n M7 a1 v8 (a3 + 1))
def fX11_tick (M : Mem) (a1 : Int32) : Option (Int32 × Mem) :=
  (fX11_isIn a1 1 100).bind fun v2 =>
  if v2 = 0 then (
  some ((-2), M)) else (
  (fX2_push M 34).bind fun M5 =>
  ob2 (fX11_tick_L28 5000 M5 a1 0 0) fun v7 M6 =>
  some (v7, M6))
def fX4_stepTo (M : Mem) (a1 : Int32) : Option Mem :=
  (pI 4 1 M 14 a1).bind fun M1 =>
  if a1 < 0 then (
  (pI 4 2 M1 14 (-6)).bind fun M4 =>
  some M4) else (
  (gI 5 1 M1 15).bind fun v6 =>
  if v6 ≤ a1 then (
  (pI 4 2 M1 14 (-6)).bind fun M9 =>
  some M9) else (
  if 60 ≤ a1 then (
  (pI 4 2 M1 14 (-6)).bind fun M12 =>
  some M12) else (
  (aL 20 M1 16 a1).bind fun v14 =>
  (pI 4 2 M1 14 v14).bind fun M16 =>
  some M16)))
def fX4_take (M : Mem) (a1 : Int32) : Option (Int32 × Mem) :=
  (gI 4 2 M 14).bind fun v1 =>
  if v1 = a1 then (
  (gI 4 1 M 14).bind fun v4 =>
  (fX4_stepTo M (v4 + 1)).bind fun M7 =>
  some (1, M7)) else (
  some (0, M))
def fX4_digitHere (M : Mem) : Option (Int32) :=
  (gI 4 2 M 14).bind fun v1 =>
  if v1 < 48 then (
  some (-6)) else (
  (gI 4 2 M 14).bind fun v4 =>
  if 57 < v4 then (
  some (-6)) else (
  (gI 4 2 M 14).bind fun v7 =>
  some (v7 - 48)))
def fX4_readNumber_L31 : Nat → Mem → Int32 → Int32 → Int32 → Option ((Int32 × Mem) ⊕ (Int32 × Mem))
  | 0, _, _, _, _ => none
  | n + 1, M, a2, a3, a4 =>
    if 3 ≤ a4 then (
    some (.inl (a3, M))) else (
    if a3 ≤ 0 then (
    some (.inl (a3, M))) else (
    (fX4_digitHere M).bind fun v12 =>
    if v12 = (-6) then (
    some (.inr (a3, M))) else (
    if ((a3 * 10) + v12) ≤ a2 then (
    lt1 ((a3 * 10) + v12) fun v15 =>
    (gI 4 1 M 14).bind fun v17 =>
    (fX4_stepTo M (v17 + 1)).bind fun M20 =>
    fX4_readNumber_L31 n M20 a2 v15 (a4 + 1)) else (
    some (.inr (a3, M))))))
def fX4_readNumber (M : Mem) (a1 : Int32) (a2 : Int32) : Option (Int32 × Mem) :=
  (fX4_digitHere M).bind fun v2 =>
  if v2 < a1 then (
  some ((-6), M)) else (
  if v2 ≤ a2 then (
  (gI 4 1 M 14).bind fun v5 =>
  (fX4_stepTo M (v5 + 1)).bind fun M8 =>
  (fX4_readNumber_L31 5000 M8 a2 v2 1).bind fun z12 =>
  caseS z12 (fun zl => caseP zl fun v10 M9 =>
  some (v10, M9)) (fun zr => caseP zr fun v14 M15 =>
  some (v14, M15))) else (
  some ((-6), M)))
def fX4_note (M : Mem) (a1 : Int32) (a2 : Int32) (a3 : Int32) : Option (Int32 × Mem) :=
  (gI 4 3 M 14).bind fun v1 =>
  if v1 < 60 then (
  (gI 4 3 M 14).bind fun v4 =>
  (aS 20 M 17 v4 a1).bind fun M6 =>
  (gI 4 3 M6 14).bind fun v8 =>
  (aS 20 M6 18 v8 a2).bind fun M10 =>
  (gI 4 3 M10 14).bind fun v12 =>
  (aS 20 M10 19 v12 a3).bind fun M14 =>
  (gI 4 3 M14 14).bind fun v16 =>
  (gI 4 8 M14 14).bind fun v18 =>
  (aS 20 M14 20 v16 v18).bind fun M20 =>
  (gI 4 3 M20 14).bind fun v22 =>
  (pI 4 3 M20 14 (v22 + 1)).bind fun M24 =>
  some (1, M24)) else (
  some (0, M))
def fX4_readRecord (M : Mem) : Option (Int32 × Mem) :=
  ob2 (fX4_readNumber M 0 7) fun v2 M3 =>
  if v2 = (-6) then (
  some (0, M3)) else (
  ob2 (fX4_take M3 47) fun v6 M7 =>
  if v6 = 0 then (
  some (0, M7)) else (
  ob2 (fX4_readNumber M7 1 50) fun v10 M11 =>
  if v10 = (-6) then (
  some (0, M11)) else (
  ob2 (fX4_note M11 1 v2 v10) fun v14 M15 =>
  if v14 = 0 then (
  some (0, M15)) else (
  some (1, M15)))))
def fX4_readGo (M : Mem) : Option (Int32 × Mem) :=
  ob2 (fX4_readNumber M 0 7) fun v2 M3 =>
  if v2 = (-6) then (
  some (0, M3)) else (
  ob2 (fX4_note M3 2 v2 0) fun v6 M7 =>
  if v6 = 0 then (
  some (0, M7)) else (
  some (1, M7)))
def fX4_readSpan (M : Mem) : Option (Int32 × Mem) :=
  ob2 (fX4_readNumber M 0 11) fun v2 M3 =>
  if v2 = (-6) then (
  some (0, M3)) else (
  ob2 (fX4_take M3 62) fun v6 M7 =>
  ob2 (if v6 = 0 then (
  some (v2, M7)) else (
  ob2 (fX4_readNumber M7 0 11) fun v30 M31 =>
  some (v30, M31))) fun v8 M9 =>
  if v8 = (-6) then (
  some (0, M9)) else (
  (gI 4 8 M9 14).bind fun v13 =>
  if v13 < 60 then (
  (gI 4 8 M9 14).bind fun v16 =>
  (aS 20 M9 21 v16 v2).bind fun M18 =>
  (gI 4 8 M18 14).bind fun v20 =>
  (aS 20 M18 22 v20 v8).bind fun M22 =>
  (gI 4 8 M22 14).bind fun v24 =>
  (pI 4 8 M22 14 (v24 + 1)).bind fun M26 =>
  some (1, M26)) else (
  some (0, M9))))
def fX4_readLevels_L4 : Nat → Mem → Int32 → Int32 → Option ((Mem) ⊕ (Int32 × Mem))
  | 0, _, _, _ => none
  | n + 1, M, a1, a2 =>
    if 60 ≤ a2 then (
    some (.inl M)) else (
    if a1 = 0 then (
    some (.inl M)) else (
    ob2 (fX4_readSpan M) fun v4 M5 =>
    if v4 = 0 then (
    some (.inr (0, M5))) else (
    ob2 (fX4_take M5 43) fun v8 M9 =>
    fX4_readLevels_L4 n M9 v8 (a2 + 1))))
def fX4_readLevels (M : Mem) : Option (Int32 × Mem) :=
  (fX4_readLevels_L4 5000 M 1 0).bind fun z3 =>
  caseS z3 (fun M1 =>
  ob2 (fX4_take M1 64) fun v10 M11 =>
  if v10 = 0 then (
  some (0, M11)) else (
  ob2 (fX4_readNumber M11 0 100) fun v14 M15 =>
  if v14 = (-6) then (
  some (0, M15)) else (
  ob2 (fX4_note M15 0 v14 0) fun v18 M19 =>
  if v18 = 0 then (
  some (0, M19)) else (
  some (1, M19))))) (fun zr => caseP zr fun v5 M6 =>
  (bz v5).bind fun b7 =>
  some (b7, M6))
def fX4_readOrder (M : Mem) : Option (Int32 × Mem) :=
  ob2 (fX4_take M 114) fun v2 M3 =>
  if v2 = 0 then (
  ob2 (fX4_take M3 103) fun v6 M7 =>
  if v6 = 0 then (
  ob2 (fX4_take M7 120) fun v10 M11 =>
  if v10 = 0 then (
  ob2 (fX4_readLevels M11) fun v14 M15 =>
  (bz v14).bind fun b16 =>
  some (b16, M15)) else (
  ob2 (fX4_note M11 3 0 0) fun v19 M20 =>
  (bz v19).bind fun b21 =>
  some (b21, M20))) else (
  ob2 (fX4_readGo M7) fun v24 M25 =>
  (bz v24).bind fun b26 =>
  some (b26, M25))) else (
  ob2 (fX4_readRecord M3) fun v29 M30 =>
  (bz v29).bind fun b31 =>
  some (b31, M30))
def fX4_read_L17 : Nat → Mem → Int32 → Option ((Mem) ⊕ (Int32 × Mem))
  | 0, _, _ => none
  | n + 1, M, a1 =>
    if 60 ≤ a1 then (
    some (.inl M)) else (
    ob2 (fX4_readOrder M) fun v9 M10 =>
    if v9 = 0 then (
    some (.inr (0, M10))) else (
    (gI 4 1 M10 14).bind fun v12 =>
    (gI 5 1 M10 15).bind fun v14 =>
    if v12 < v14 then (
    ob2 (fX4_take M10 59) fun v18 M19 =>
    if v18 = 0 then (
    some (.inr (0, M19))) else (
    fX4_read_L17 n M19 (a1 + 1))) else (
    some (.inr (1, M10)))))
def fX4_read (M : Mem) : Option (Int32 × Mem) :=
  (pI 4 3 M 14 0).bind fun M1 =>
  (pI 4 8 M1 14 0).bind fun M3 =>
  (fX4_stepTo M3 0).bind fun M6 =>
  (fX4_read_L17 5000 M6 0).bind fun z9 =>
  caseS z9 (fun M7 =>
  some (0, M7)) (fun zr => caseP zr fun v11 M12 =>
  (bz v11).bind fun b13 =>
  some (b13, M12))
def fX4_changeSpan_L23 : Nat → Mem → Nat → Int32 → Int32 → Int32 → Int32 → Int32 → Option ((Mem) ⊕ (Int32 × Mem))
  | 0, _, _, _, _, _, _, _ => none
  | n + 1, M, a1, a2, a4, a5, a6, a7 =>
    if a6 < a7 then (
    some (.inl M)) else (
    if 12 ≤ a7 then (
    some (.inl M)) else (
    lt1 (a2 + (a7 * a5)) fun v8 =>
    (fX6_hasLamp M a1 v8).bind fun v11 =>
    if v11 = 0 then (
    some (.inr (0, M))) else (
    (gR 6 5 a1).bind fun x13 =>
    (aS 20 M x13 v8 a4).bind fun M15 =>
    fX4_changeSpan_L23 n M15 a1 a2 a4 a5 a6 (a7 + 1))))
def fX4_changeSpan (M : Mem) (a1 : Nat) (a2 : Int32) (a3 : Int32) (a4 : Int32) : Option (Int32 × Mem) :=
  (if a2 ≤ a3 then (
  some (1 : Int32)) else (
  some (-1 : Int32))).bind fun v1 =>
  lt1 (if (0 : Int32) ≤ a3 - a2 then a3 - a2 else 0 - (a3 - a2)) fun v4 =>
  (fX4_changeSpan_L23 5000 M a1 a2 a4 v1 v4 0).bind fun z8 =>
  caseS z8 (fun M6 =>
  some (1, M6)) (fun zr => caseP zr fun v10 M11 =>
  (bz v10).bind fun b12 =>
  some (b12, M11))
def fX4_changeLevels_L20 : Nat → Mem → Int32 → Nat → Int32 → Option ((Mem) ⊕ (Int32 × Mem))
  | 0, _, _, _, _ => none
  | n + 1, M, a1, a2, a4 =>
    (aL 20 M 20 a1).bind fun v4 =>
    if v4 ≤ a4 then (
    some (.inl M)) else (
    if 60 ≤ a4 then (
    some (.inl M)) else (
    (aL 20 M 21 a4).bind fun v8 =>
    (aL 20 M 22 a4).bind fun v10 =>
    (aL 20 M 18 a1).bind fun v12 =>
    ob2 (fX4_changeSpan M a2 v8 v10 v12) fun v15 M16 =>
    if v15 = 0 then (
    some (.inr (0, M16))) else (
    fX4_changeLevels_L20 n M16 a1 a2 (a4 + 1))))
def fX4_changeLevels (M : Mem) (a1 : Int32) (a2 : Nat) : Option (Int32 × Mem) :=
  (if a1 ≤ 0 then (
  some (0 : Int32)) else (
  (aL 20 M 20 (a1 - 1)).bind fun v13 =>
  some v13)).bind fun v1 =>
  (fX4_changeLevels_L20 5000 M a1 a2 v1).bind fun z6 =>
  caseS z6 (fun M4 =>
  some (1, M4)) (fun zr => caseP zr fun v8 M9 =>
  (bz v8).bind fun b10 =>
  some (b10, M9))
def fX4_startRecorded (M : Mem) (a1 : Int32) (a2 : Nat) : Option (Int32 × Mem) :=
  (fX6_isRecorded M a2 a1).bind fun v2 =>
  if v2 = 0 then (
  some (0, M)) else (
  (gR 6 8 a2).bind fun x4 =>
  (aL 20 M x4 a1).bind fun v6 =>
  (fX6_startCue M a2 a1 v6).bind fun M9 =>
  some (1, M9))
def fX4_carryOneOut (M : Mem) (a1 : Int32) (a2 : Nat) : Option (Int32 × Mem) :=
  (aL 20 M 17 a1).bind fun v1 =>
  if v1 = 0 then (
  ob2 (fX4_changeLevels M a1 a2) fun v5 M6 =>
  (bz v5).bind fun b7 =>
  some (b7, M6)) else (
  if v1 = 1 then (
  (aL 20 M 18 a1).bind fun v10 =>
  (aL 20 M 19 a1).bind fun v12 =>
  (fX6_recordCue M a2 v10 v12).bind fun M15 =>
  some (1, M15)) else (
  if v1 = 2 then (
  (aL 20 M 18 a1).bind fun v17 =>
  ob2 (fX4_startRecorded M v17 a2) fun v20 M21 =>
  (bz v20).bind fun b22 =>
  some (b22, M21)) else (
  ob2 (fX6_clearTrips M a2) fun v25 M26 =>
  some (1, M26))))
def fX4_carryAllOut_L2 : Nat → Mem → Nat → Int32 → Option ((Mem) ⊕ (Int32 × Mem))
  | 0, _, _, _ => none
  | n + 1, M, a1, a2 =>
    (gI 4 3 M 14).bind fun v1 =>
    if v1 ≤ a2 then (
    some (.inl M)) else (
    if 60 ≤ a2 then (
    some (.inl M)) else (
    ob2 (fX4_carryOneOut M a2 a1) fun v6 M7 =>
    if v6 = 0 then (
    some (.inr (a2, M7))) else (
    fX4_carryAllOut_L2 n M7 a1 (a2 + 1))))
def fX4_carryAllOut (M : Mem) (a1 : Nat) : Option (Int32 × Mem) :=
  (fX4_carryAllOut_L2 5000 M a1 0).bind fun z3 =>
  caseS z3 (fun M1 =>
  (gI 4 3 M1 14).bind fun v7 =>
  some (v7, M1)) (fun zr => caseP zr fun v5 M6 =>
  some (v5, M6))
def fX11_carryOut (M : Mem) (a1 : Int32) : Option (Int32 × Mem) :=
  (fX7_find 34 a1).bind fun r2 =>
  caseO r2 (
  some ((-1), M)) (fun x3 =>
  ob2 (fX4_read M) fun v5 M6 =>
  if v5 = 0 then (
  some ((-3), M6)) else (
  (fX2_push M6 34).bind fun M9 =>
  (pI 5 1 M9 15 0).bind fun M10 =>
  ob2 (fX4_carryAllOut M10 x3) fun v13 M14 =>
  some (v13, M14)))
def fX11_lamp (M : Mem) (a1 : Int32) (a2 : Int32) (a3 : Int32) : Option (Int32) :=
  (fX7_find 34 a1).bind fun r2 =>
  caseO r2 (
  some (-1)) (fun x3 =>
  (fX6_hasLamp M x3 a2).bind fun v5 =>
  if v5 = 0 then (
  some (-1)) else (
  if a3 = 0 then (
  (gR 6 3 x3).bind fun x8 =>
  (aL 20 M x8 a2).bind fun v10 =>
  some v10) else (
  if a3 = 1 then (
  (gR 6 4 x3).bind fun x13 =>
  (aL 20 M x13 a2).bind fun v15 =>
  some v15) else (
  if a3 = 2 then (
  (gR 6 5 x3).bind fun x18 =>
  (aL 20 M x18 a2).bind fun v20 =>
  some v20) else (
  if a3 = 3 then (
  (gR 6 6 x3).bind fun x23 =>
  (aL 20 M x23 a2).bind fun v25 =>
  some v25) else (
  if a3 = 4 then (
  (fX6_loadOfLamp M x3 a2 36).bind fun v29 =>
  some v29) else (
  some (-2))))))))
def fX6_lampsOn_L4 : Nat → Mem → Nat → Int32 → Int32 → Int32 → Option (Int32)
  | 0, _, _, _, _, _ => none
  | n + 1, M, a0, a1, a2, a3 =>
    if 12 ≤ a3 then (
    some a2) else (
    (fX6_hasLamp M a0 a3).bind fun v3 =>
    if v3 = 0 then (
    some a2) else (
    (gR 6 4 a0).bind fun x5 =>
    (aL 20 M x5 a3).bind fun v7 =>
    if v7 = a1 then (
    fX6_lampsOn_L4 n M a0 a1 (a2 + 1) (a3 + 1)) else (
    fX6_lampsOn_L4 n M a0 a1 a2 (a3 + 1))))
def fX6_lampsOn (M : Mem) (a0 : Nat) (a1 : Int32) : Option (Int32) :=
  if shp a0 = 6 then (
  (fX6_lampsOn_L4 5000 M a0 a1 0 0).bind fun v1 =>
  some v1) else none
def fX11_dimmer (M : Mem) (a1 : Int32) (a2 : Int32) (a3 : Int32) : Option (Int32 × Mem) :=
  (fX7_find 34 a1).bind fun r2 =>
  caseO r2 (
  some ((-1), M)) (fun x3 =>
  (fX11_isDimmer a2).bind fun v5 =>
  if v5 = 0 then (
  some ((-1), M)) else (
  if a3 = 0 then (
  (gR 6 7 x3).bind fun x8 =>
  (aL 20 M x8 a2).bind fun v10 =>
  some (v10, M)) else (
  if a3 = 1 then (
  (fX3_measureNow M 23 x3 36).bind fun M14 =>
  (aL 20 M14 24 a2).bind fun v15 =>
  some (v15, M14)) else (
  if a3 = 2 then (
  (gR 6 11 x3).bind fun x18 =>
  (fX0_hasTripped M x18 a2).bind fun v21 =>
  if v21 = 0 then (
  some (0, M)) else (
  some (1, M))) else (
  if a3 = 3 then (
  (gR 6 11 x3).bind fun x24 =>
  (gR 0 0 x24).bind fun x26 =>
  (aL 20 M x26 a2).bind fun v28 =>
  some (v28, M)) else (
  if a3 = 4 then (
  (fX6_lampsOn M x3 a2).bind fun v32 =>
  some (v32, M)) else (
  if a3 = 5 then (
  (fX10_measure M x3 36).bind fun M35 =>
  (aL 20 M35 28 a2).bind fun v36 =>
  some (v36, M35)) else (
  some ((-2), M)))))))))
def fX6_dimmersOn_L4 : Nat → Mem → Nat → Int32 → Int32 → Int32 → Option (Int32)
  | 0, _, _, _, _, _ => none
  | n + 1, M, a0, a1, a2, a3 =>
    if 12 ≤ a3 then (
    some a2) else (
    (gR 6 7 a0).bind fun x2 =>
    (aL 20 M x2 a3).bind fun v4 =>
    if v4 = a1 then (
    lt1 (a2 ||| (1 <<< (a3 &&& 31))) fun v7 =>
    fX6_dimmersOn_L4 n M a0 a1 v7 (a3 + 1)) else (
    fX6_dimmersOn_L4 n M a0 a1 a2 (a3 + 1)))
def fX6_dimmersOn (M : Mem) (a0 : Nat) (a1 : Int32) : Option (Int32) :=
  if shp a0 = 6 then (
  (fX6_dimmersOn_L4 5000 M a0 a1 0 0).bind fun v1 =>
  some v1) else none
def fX11_phase (M : Mem) (a1 : Int32) (a2 : Int32) (a3 : Int32) : Option (Int32 × Mem) :=
  (fX7_find 34 a1).bind fun r2 =>
  caseO r2 (
  some ((-1), M)) (fun x3 =>
  (fX11_isPhase a2).bind fun v5 =>
  if v5 = 0 then (
  some ((-1), M)) else (
  if a3 = 0 then (
  (fX3_measureNow M 23 x3 36).bind fun M9 =>
  (aL 20 M9 25 a2).bind fun v10 =>
  some (v10, M9)) else (
  if a3 = 1 then (
  (gR 6 12 x3).bind fun x13 =>
  (fX0_hasTripped M x13 a2).bind fun v16 =>
  if v16 = 0 then (
  some (0, M)) else (
  some (1, M))) else (
  if a3 = 2 then (
  (gR 6 12 x3).bind fun x19 =>
  (gR 0 0 x19).bind fun x21 =>
  (aL 20 M x21 a2).bind fun v23 =>
  some (v23, M)) else (
  if a3 = 3 then (
  (fX6_dimmersOn M x3 a2).bind fun v27 =>
  some (v27, M)) else (
  if a3 = 4 then (
  (fX10_measure M x3 36).bind fun M30 =>
  (aL 20 M30 29 a2).bind fun v31 =>
  some (v31, M30)) else (
  some ((-2), M))))))))
def fX3_sumOfPhases_L13 : Nat → Mem → Int32 → Nat → Int32 → Int32 → Option (Int32)
  | 0, _, _, _, _, _ => none
  | n + 1, M, a1, a2, a3, a4 =>
    if a3 ≤ a4 then (
    some a1) else (
    (aL 20 M a2 a4).bind fun v6 =>
    lt1 (a1 + v6) fun v8 =>
    fX3_sumOfPhases_L13 n M v8 a2 a3 (a4 + 1))
def fX3_sumOfPhases (M : Mem) (a0 : Nat) : Option (Int32) :=
  if shp a0 = 3 then (
  (gR 3 1 a0).bind fun x1 =>
  (aN 20 x1).bind fun v3 =>
  (fX3_sumOfPhases_L13 5000 M 0 x1 v3 0).bind fun v5 =>
  some v5) else none
def fX11_cue (M : Mem) (a1 : Int32) (a2 : Int32) (a3 : Int32) : Option (Int32 × Mem) :=
  (fX7_find 34 a1).bind fun r2 =>
  caseO r2 (
  some ((-1), M)) (fun x3 =>
  (fX11_isCue a2).bind fun v5 =>
  if v5 = 0 then (
  some ((-1), M)) else (
  if a3 = 0 then (
  (fX6_isRecorded M x3 a2).bind fun v9 =>
  if v9 = 0 then (
  some (0, M)) else (
  some (1, M))) else (
  if a3 = 1 then (
  (gR 6 8 x3).bind fun x12 =>
  (aL 20 M x12 a2).bind fun v14 =>
  some (v14, M)) else (
  if a3 = 2 then (
  (fX3_measureCue M 23 x3 a2 36).bind fun M18 =>
  (fX3_sumOfPhases M18 23).bind fun v20 =>
  some (v20, M18)) else (
  some ((-2), M))))))
def fX11_inCue (M : Mem) (a1 : Int32) (a2 : Int32) (a3 : Int32) : Option (Int32) :=
  (fX7_find 34 a1).bind fun r2 =>
  caseO r2 (
  some (-1)) (fun x3 =>
  (fX11_isCue a2).bind fun v5 =>
  if v5 = 0 then (
  some (-1)) else (
  (fX6_hasLamp M x3 a3).bind fun v8 =>
  if v8 = 0 then (
  some (-1)) else (
  (fX6_isRecorded M x3 a2).bind fun v11 =>
  if v11 = 0 then (
  some (-6)) else (
  (gR 6 9 x3).bind fun x13 =>
  (aR 24 x13 a2).bind fun x15 =>
  (aL 20 M x15 a3).bind fun v17 =>
  some v17))))
def fX1_ticksLeft (M : Mem) (a0 : Nat) : Option (Int32) :=
  if shp a0 = 1 then (
  (gI 1 0 M a0).bind fun v1 =>
  (gI 1 1 M a0).bind fun v3 =>
  some (v1 - v3)) else none
def fX11_greatest_L10 : Nat → Mem → Int32 → Nat → Int32 → Int32 → Option (Int32)
  | 0, _, _, _, _, _ => none
  | n + 1, M, a1, a2, a3, a4 =>
    if a3 ≤ a4 then (
    some a1) else (
    (aL 20 M a2 a4).bind fun v4 =>
    lt1 (if a1 < v4 then v4 else a1) fun v6 =>
    fX11_greatest_L10 n M v6 a2 a3 (a4 + 1))
def fX11_greatest (M : Mem) (a0 : Nat) : Option (Int32) :=
  (aN 20 a0).bind fun v1 =>
  (fX11_greatest_L10 5000 M 0 a0 v1 0).bind fun v3 =>
  some v3
def fX11_least_L21 : Nat → Mem → Int32 → Nat → Int32 → Int32 → Option (Int32)
  | 0, _, _, _, _, _ => none
  | n + 1, M, a1, a2, a3, a4 =>
    if a3 ≤ a4 then (
    some a1) else (
    (aL 20 M a2 a4).bind fun v9 =>
    lt1 (if v9 < a1 then v9 else a1) fun v11 =>
    fX11_least_L21 n M v11 a2 a3 (a4 + 1))
def fX11_least (M : Mem) (a0 : Nat) : Option (Int32) :=
  (aN 20 a0).bind fun v1 =>
  (if v1 ≤ 0 then (
  some (0 : Int32)) else (
  (aL 20 M a0 0).bind fun v11 =>
  some v11)).bind fun v3 =>
  (aN 20 a0).bind fun v6 =>
  (fX11_least_L21 5000 M v3 a0 v6 0).bind fun v8 =>
  some v8
def fX11_of (M : Mem) (a1 : Int32) (a2 : Int32) : Option (Int32 × Mem) :=
  (fX7_find 34 a1).bind fun r2 =>
  caseO r2 (
  some ((-1), M)) (fun x3 =>
  if a2 = 0 then (
  (gI 6 0 M x3).bind fun v5 =>
  some (v5, M)) else (
  if a2 = 1 then (
  (gI 6 1 M x3).bind fun v8 =>
  some (v8, M)) else (
  if a2 = 2 then (
  (gI 6 2 M x3).bind fun v11 =>
  some (v11, M)) else (
  if a2 = 3 then (
  (fX6_recordedCues M x3).bind fun v15 =>
  some (v15, M)) else (
  if a2 = 4 then (
  (gR 6 10 x3).bind fun x17 =>
  (fX1_ticksLeft M x17).bind fun v20 =>
  some (v20, M)) else (
  if a2 = 5 then (
  (fX3_measureNow M 23 x3 36).bind fun M23 =>
  (fX3_sumOfPhases M23 23).bind fun v25 =>
  some (v25, M23)) else (
  if a2 = 6 then (
  (gR 6 11 x3).bind fun x27 =>
  (gI 0 1 M x27).bind fun v29 =>
  some (v29, M)) else (
  if a2 = 7 then (
  (gR 6 12 x3).bind fun x32 =>
  (gI 0 1 M x32).bind fun v34 =>
  some (v34, M)) else (
  if a2 = 8 then (
  (fX3_measureNow M 23 x3 36).bind fun M38 =>
  (fX11_greatest M38 25).bind fun v40 =>
  (fX11_least M38 25).bind fun v42 =>
  some (v40 - v42, M38)) else (
  some ((-2), M)))))))))))
def fX6_isOn (M : Mem) (a0 : Nat) (a1 : Int32) : Option (Int32) :=
  if shp a0 = 6 then (
  (gI 6 0 M a0).bind fun v1 =>
  (gI 6 1 M a0).bind fun v3 =>
  (fX11_isIn a1 v1 v3).bind fun v6 =>
  (bz v6).bind fun b7 =>
  some b7) else none
def fX6_lampsOfType_L4 : Nat → Mem → Nat → Int32 → Int32 → Int32 → Option (Int32)
  | 0, _, _, _, _, _ => none
  | n + 1, M, a0, a1, a2, a3 =>
    if 12 ≤ a3 then (
    some a2) else (
    (fX6_hasLamp M a0 a3).bind fun v3 =>
    if v3 = 0 then (
    some a2) else (
    (gR 6 3 a0).bind fun x5 =>
    (aL 20 M x5 a3).bind fun v7 =>
    if v7 = a1 then (
    fX6_lampsOfType_L4 n M a0 a1 (a2 + 1) (a3 + 1)) else (
    fX6_lampsOfType_L4 n M a0 a1 a2 (a3 + 1))))
def fX6_lampsOfType (M : Mem) (a0 : Nat) (a1 : Int32) : Option (Int32) :=
  if shp a0 = 6 then (
  (fX6_lampsOfType_L4 5000 M a0 a1 0 0).bind fun v1 =>
  some v1) else none
def fX7_needed_L16 : Nat → Mem → Int32 → Int32 → Int32 → Nat → Int32 → Int32 → Option (Int32)
  | 0, _, _, _, _, _, _, _ => none
  | n + 1, M, a1, a2, a3, a4, a5, a6 =>
    if a5 ≤ a6 then (
    some a3) else (
    (aR 22 a4 a6).bind fun x6 =>
    (fX6_isOn M x6 a2).bind fun v9 =>
    if v9 = 0 then (
    fX7_needed_L16 n M a1 a2 a3 a4 a5 (a6 + 1)) else (
    (fX6_lampsOfType M x6 a1).bind fun v12 =>
    lt1 (a3 + v12) fun v13 =>
    fX7_needed_L16 n M a1 a2 v13 a4 a5 (a6 + 1)))
def fX7_needed (M : Mem) (a0 : Nat) (a1 : Int32) (a2 : Int32) : Option (Int32) :=
  if shp a0 = 7 then (
  (gR 7 2 a0).bind fun x1 =>
  (aN 22 x1).bind fun v3 =>
  (fX7_needed_L16 5000 M a1 a2 0 x1 v3 0).bind fun v5 =>
  some v5) else none
def fX9_stockOf (M : Mem) (a0 : Nat) (a1 : Int32) : Option (Int32) :=
  if shp a0 = 9 then (
  (fX9_has M a0 a1).bind fun v2 =>
  if v2 = 0 then (
  some 0) else (
  (gR 9 2 a0).bind fun x4 =>
  (aL 20 M x4 a1).bind fun v6 =>
  some v6)) else none
def fX7_missing (M : Mem) (a0 : Nat) (a1 : Int32) (a2 : Int32) : Option (Int32) :=
  if shp a0 = 7 then (
  (fX7_needed M a0 a1 a2).bind fun v2 =>
  (gR 7 1 a0).bind fun x3 =>
  (fX9_stockOf M x3 a1).bind fun v6 =>
  some (if 0 < v2 - v6 then v2 - v6 else 0)) else none
def fX9_priceOf (M : Mem) (a0 : Nat) (a1 : Int32) : Option (Int32) :=
  if shp a0 = 9 then (
  (fX9_has M a0 a1).bind fun v2 =>
  if v2 = 0 then (
  some 0) else (
  (gR 9 3 a0).bind fun x4 =>
  (aL 20 M x4 a1).bind fun v6 =>
  some v6)) else none
def fX7_cost (M : Mem) (a0 : Nat) (a1 : Int32) (a2 : Int32) : Option (Int32) :=
  if shp a0 = 7 then (
  (gR 7 1 a0).bind fun x1 =>
  (fX9_priceOf M x1 a1).bind fun v4 =>
  (fX7_needed M a0 a1 a2).bind fun v6 =>
  (gR 7 1 a0).bind fun x7 =>
  (fX9_stockOf M x7 a1).bind fun v10 =>
  some (v4 * (if v10 < v6 then v10 else v6))) else none
def fX11_hire (M : Mem) (a1 : Int32) (a2 : Int32) (a3 : Int32) : Option (Int32) :=
  (fX9_has M 36 a1).bind fun v2 =>
  if v2 = 0 then (
  some (-1)) else (
  (fX11_isIn a2 0 6).bind fun v5 =>
  if v5 = 0 then (
  some (-2)) else (
  if a3 = 0 then (
  (fX7_needed M 34 a1 a2).bind fun v9 =>
  some v9) else (
  if a3 = 1 then (
  (fX7_missing M 34 a1 a2).bind fun v12 =>
  some v12) else (
  if a3 = 2 then (
  (fX7_cost M 34 a1 a2).bind fun v15 =>
  some v15) else (
  some (-2))))))
def fX7_wholeCost_L17 : Nat → Mem → Nat → Int32 → Int32 → Int32 → Option (Int32)
  | 0, _, _, _, _, _ => none
  | n + 1, M, a0, a1, a2, a3 =>
    if 7 ≤ a3 then (
    some a1) else (
    (fX7_cost M a0 a2 a3).bind fun v8 =>
    lt1 (a1 + v8) fun v9 =>
    fX7_wholeCost_L17 n M a0 v9 a2 (a3 + 1))
def fX7_wholeCost_L4 : Nat → Mem → Nat → Int32 → Int32 → Option (Int32)
  | 0, _, _, _, _ => none
  | n + 1, M, a0, a1, a2 =>
    (gR 7 1 a0).bind fun x1 =>
    (gI 9 0 M x1).bind fun v3 =>
    if v3 ≤ a2 then (
    some a1) else (
    (fX7_wholeCost_L17 5000 M a0 a1 a2 0).bind fun v6 =>
    fX7_wholeCost_L4 n M a0 v6 (a2 + 1))
def fX7_wholeCost (M : Mem) (a0 : Nat) : Option (Int32) :=
  if shp a0 = 7 then (
  (fX7_wholeCost_L4 5000 M a0 0 0).bind fun v1 =>
  some v1) else none
def fX7_allMissing_L17 : Nat → Mem → Nat → Int32 → Int32 → Int32 → Option (Int32)
  | 0, _, _, _, _, _ => none
  | n + 1, M, a0, a1, a2, a3 =>
    if 7 ≤ a3 then (
    some a1) else (
    (fX7_missing M a0 a2 a3).bind fun v8 =>
    lt1 (a1 + v8) fun v9 =>
    fX7_allMissing_L17 n M a0 v9 a2 (a3 + 1))
def fX7_allMissing_L4 : Nat → Mem → Nat → Int32 → Int32 → Option (Int32)
  | 0, _, _, _, _ => none
  | n + 1, M, a0, a1, a2 =>
    (gR 7 1 a0).bind fun x1 =>
    (gI 9 0 M x1).bind fun v3 =>
    if v3 ≤ a2 then (
    some a1) else (
    (fX7_allMissing_L17 5000 M a0 a1 a2 0).bind fun v6 =>
    fX7_allMissing_L4 n M a0 v6 (a2 + 1))
def fX7_allMissing (M : Mem) (a0 : Nat) : Option (Int32) :=
  if shp a0 = 7 then (
  (fX7_allMissing_L4 5000 M a0 0 0).bind fun v1 =>
  some v1) else none
def fX7_neededOn_L14 : Nat → Mem → Int32 → Int32 → Nat → Int32 → Int32 → Option (Int32)
  | 0, _, _, _, _, _, _ => none
  | n + 1, M, a1, a2, a3, a4, a5 =>
    if a4 ≤ a5 then (
    some a2) else (
    (aR 22 a3 a5).bind fun x6 =>
    (fX6_isOn M x6 a1).bind fun v9 =>
    if v9 = 0 then (
    fX7_neededOn_L14 n M a1 a2 a3 a4 (a5 + 1)) else (
    (gI 6 2 M x6).bind fun v11 =>
    lt1 (a2 + v11) fun v13 =>
    fX7_neededOn_L14 n M a1 v13 a3 a4 (a5 + 1)))
def fX7_neededOn (M : Mem) (a0 : Nat) (a1 : Int32) : Option (Int32) :=
  if shp a0 = 7 then (
  (gR 7 2 a0).bind fun x1 =>
  (aN 22 x1).bind fun v3 =>
  (fX7_neededOn_L14 5000 M a1 0 x1 v3 0).bind fun v5 =>
  some v5) else none
def fX7_busiestDay_L6 : Nat → Mem → Nat → Int32 → Int32 → Int32 → Option (Int32)
  | 0, _, _, _, _, _ => none
  | n + 1, M, a0, a1, a2, a3 =>
    if 7 ≤ a3 then (
    some a1) else (
    (fX7_neededOn M a0 a3).bind fun v3 =>
    if v3 ≤ a2 then (
    fX7_busiestDay_L6 n M a0 a1 a2 (a3 + 1)) else (
    fX7_busiestDay_L6 n M a0 a3 v3 (a3 + 1)))
def fX7_busiestDay (M : Mem) (a0 : Nat) : Option (Int32) :=
  if shp a0 = 7 then (
  (fX7_busiestDay_L6 5000 M a0 0 0 0).bind fun v1 =>
  some v1) else none
def fX11_count (M : Mem) (a1 : Int32) : Option (Int32) :=
  if a1 = 0 then (
  (gI 9 0 M 36).bind fun v2 =>
  some v2) else (
  if a1 = 1 then (
  (fX7_wholeCost M 34).bind fun v6 =>
  some v6) else (
  if a1 = 2 then (
  (fX7_allMissing M 34).bind fun v9 =>
  some v9) else (
  if a1 = 3 then (
  (fX7_busiestDay M 34).bind fun v12 =>
  some v12) else (
  if a1 = 4 then (
  (aL 20 M 35 0).bind fun v14 =>
  some v14) else (
  if a1 = 5 then (
  (aL 20 M 35 1).bind fun v17 =>
  some v17) else (
  if a1 = 6 then (
  (aL 20 M 35 2).bind fun v20 =>
  some v20) else (
  if a1 = 7 then (
  (gI 5 1 M 15).bind fun v23 =>
  some v23) else (
  if a1 = 8 then (
  (gI 2 1 M 12).bind fun v26 =>
  some v26) else (
  some (-2))))))))))
def fX8_begin (M : Mem) (a1 : Nat) (a2 : Int32) (a3 : Int32) : Option Mem :=
  (fX6_copyFrom M 718 a1).bind fun M2 =>
  (fX6_startCue M2 718 a2 a3).bind fun M4 =>
  (pI 8 1 M4 33 0).bind fun M5 =>
  (pI 8 2 M5 33 (-6)).bind fun M7 =>
  (pI 8 3 M7 33 0).bind fun M9 =>
  (pI 8 4 M9 33 0).bind fun M11 =>
  some M11
def fX8_playToTheEnd_L31 : Nat → Mem → Nat → Nat → Int32 → Int32 → Option (Mem)
  | 0, _, _, _, _, _ => none
  | n + 1, M, a1, a4, a5, a6 =>
    (gR 7 0 a1).bind fun x8 =>
    (aL 20 M x8 2).bind fun v10 =>
    if (a5 + v10) < a6 then (
    some M) else (
    ob2 (fX6_passTick M 718 a1 a4) fun v14 M15 =>
    (if v14 ≤ 0 then (
    some M15) else (
    (gI 8 2 M15 33).bind fun v40 =>
    if v40 = (-6) then (
    (pI 8 2 M15 33 a6).bind fun M43 =>
    some M43) else (
    some M15))).bind fun M16 =>
    (gI 8 1 M16 33).bind fun v19 =>
    (pI 8 1 M16 33 (v19 + v14)).bind fun M21 =>
    (gI 8 3 M21 33).bind fun v23 =>
    (gR 3 0 a4).bind fun x25 =>
    (fX11_greatest M21 x25).bind fun v28 =>
    (pI 8 3 M21 33 (if v23 < v28 then v28 else v23)).bind fun M29 =>
    (gI 8 4 M29 33).bind fun v31 =>
    (gR 3 1 a4).bind fun x33 =>
    (fX11_greatest M29 x33).bind fun v36 =>
    (pI 8 4 M29 33 (if v31 < v36 then v36 else v31)).bind fun M37 =>
    fX8_playToTheEnd_L31 n M37 a1 a4 a5 (a6 + 1))
def fX8_playToTheEnd (M : Mem) (a1 : Nat) (a2 : Nat) (a3 : Int32) (a4 : Nat) : Option Mem :=
  (fX6_isRecorded M a2 a3).bind fun v2 =>
  (if v2 = 0 then (
  some (0 : Int32)) else (
  (gR 6 8 a2).bind fun x11 =>
  (aL 20 M x11 a3).bind fun v13 =>
  some v13)).bind fun v3 =>
  (fX8_begin M a2 a3 v3).bind fun M7 =>
  (fX8_playToTheEnd_L31 5000 M7 a1 a4 v3 1).bind fun M8 =>
  some M8
def fX11_ifGo (M : Mem) (a1 : Int32) (a2 : Int32) (a3 : Int32) : Option (Int32 × Mem) :=
  (fX7_find 34 a1).bind fun r2 =>
  caseO r2 (
  some ((-1), M)) (fun x3 =>
  (fX11_isCue a2).bind fun v5 =>
  if v5 = 0 then (
  some ((-1), M)) else (
  (fX11_isIn a3 0 3).bind fun v8 =>
  if v8 = 0 then (
  some ((-2), M)) else (
  (fX6_isRecorded M x3 a2).bind fun v11 =>
  if v11 = 0 then (
  some ((-5), M)) else (
  (fX8_playToTheEnd M 34 x3 a2 23).bind fun M14 =>
  if a3 = 0 then (
  (gI 8 1 M14 33).bind fun v16 =>
  some (v16, M14)) else (
  if a3 = 1 then (
  (gI 8 2 M14 33).bind fun v19 =>
  some (v19, M14)) else (
  if a3 = 2 then (
  (gI 8 3 M14 33).bind fun v22 =>
  some (v22, M14)) else (
  (gI 8 4 M14 33).bind fun v24 =>
  some (v24, M14))))))))
def fX8_isSafe_L11 : Nat → Mem → Nat → Int32 → Nat → Int32 → Option ((Mem) ⊕ (Int32 × Mem))
  | 0, _, _, _, _, _ => none
  | n + 1, M, a1, a4, a5, a6 =>
    (gR 7 0 a1).bind fun x3 =>
    (aL 20 M x3 2).bind fun v5 =>
    if (a4 + v5) < a6 then (
    some (.inl M)) else (
    ob2 (fX6_passTick M 718 a1 a5) fun v9 M10 =>
    if v9 ≤ 0 then (
    fX8_isSafe_L11 n M10 a1 a4 a5 (a6 + 1)) else (
    some (.inr (0, M10))))
def fX8_isSafe (M : Mem) (a1 : Nat) (a2 : Nat) (a3 : Int32) (a4 : Int32) (a5 : Nat) : Option (Int32 × Mem) :=
  (fX8_begin M a2 a3 a4).bind fun M2 =>
  (fX8_isSafe_L11 5000 M2 a1 a4 a5 1).bind fun z5 =>
  caseS z5 (fun M3 =>
  some (1, M3)) (fun zr => caseP zr fun v7 M8 =>
  (bz v7).bind fun b9 =>
  some (b9, M8))
def fX11_safeTicks_L36 : Nat → Mem → Int32 → Nat → Int32 → Option ((Mem) ⊕ (Int32 × Mem))
  | 0, _, _, _, _ => none
  | n + 1, M, a2, a3, a4 =>
    if 50 < a4 then (
    some (.inl M)) else (
    ob2 (fX8_isSafe M 34 a3 a2 a4 23) fun v12 M13 =>
    if v12 = 0 then (
    fX11_safeTicks_L36 n M13 a2 a3 (a4 + 1)) else (
    some (.inr (a4, M13))))
def fX11_safeTicks (M : Mem) (a1 : Int32) (a2 : Int32) : Option (Int32 × Mem) :=
  (fX7_find 34 a1).bind fun r2 =>
  caseO r2 (
  some ((-1), M)) (fun x3 =>
  (fX11_isCue a2).bind fun v5 =>
  if v5 = 0 then (
  some ((-1), M)) else (
  (fX6_isRecorded M x3 a2).bind fun v8 =>
  if v8 = 0 then (
  some ((-5), M)) else (
  (fX11_safeTicks_L36 5000 M a2 x3 1).bind fun z12 =>
  caseS z12 (fun M10 =>
  some ((-6), M10)) (fun zr => caseP zr fun v14 M15 =>
  some (v14, M15)))))
def fX11_bestFeed_L39 : Nat → Mem → Int32 → Nat → Int32 → Int32 → Int32 → Int32 → Option (Int32 × Mem)
  | 0, _, _, _, _, _, _, _ => none
  | n + 1, M, a2, a3, a4, a5, a6, a7 =>
    if 3 ≤ a7 then (
    some (a5, M)) else (
    (gR 6 7 a3).bind fun x12 =>
    (aS 20 M x12 a2 a7).bind fun M14 =>
    (fX10_measure M14 a3 36).bind fun M17 =>
    (fX11_greatest M17 29).bind fun v19 =>
    if a7 = 0 then (
    fX11_bestFeed_L39 n M17 a2 a3 a4 a7 v19 (a7 + 1)) else (
    if a6 ≤ v19 then (
    fX11_bestFeed_L39 n M17 a2 a3 a4 a5 a6 (a7 + 1)) else (
    fX11_bestFeed_L39 n M17 a2 a3 a4 a7 v19 (a7 + 1))))
def fX11_bestFeed (M : Mem) (a1 : Int32) (a2 : Int32) : Option (Int32 × Mem) :=
  (fX7_find 34 a1).bind fun r2 =>
  caseO r2 (
  some ((-1), M)) (fun x3 =>
  (fX11_isDimmer a2).bind fun v5 =>
  if v5 = 0 then (
  some ((-1), M)) else (
  (gR 6 7 x3).bind fun x7 =>
  (aL 20 M x7 a2).bind fun v9 =>
  ob2 (fX11_bestFeed_L39 5000 M a2 x3 v9 0 0 0) fun v12 M11 =>
  (gR 6 7 x3).bind fun x14 =>
  (aS 20 M11 x14 a2 v9).bind fun M16 =>
  some (v12, M16)))
def fX11_ifDays (M : Mem) (a1 : Int32) (a2 : Int32) (a3 : Int32) : Option (Int32 × Mem) :=
  (fX7_find 34 a1).bind fun r2 =>
  caseO r2 (
  some ((-1), M)) (fun x3 =>
  (fX11_areDays a2 a3).bind fun v5 =>
  if v5 = 0 then (
  some ((-2), M)) else (
  (gI 6 0 M x3).bind fun v7 =>
  (gI 6 1 M x3).bind fun v9 =>
  (pI 6 0 M x3 a2).bind fun M11 =>
  (pI 6 1 M11 x3 a3).bind fun M13 =>
  (fX7_allMissing M13 34).bind fun v16 =>
  (pI 6 0 M13 x3 v7).bind fun M17 =>
  (pI 6 1 M17 x3 v9).bind fun M19 =>
  some (v16, M19)))
def fX5_signsIn_L2 : Nat → Int64 → Int32 → Option ((Unit) ⊕ Int32)
  | 0, _, _ => none
  | n + 1, a0, a2 =>
    if 8 ≤ a2 then (
    some (.inl ())) else (
    lt1 ((a0.toUInt64 >>> ((8 * a2).toInt64.toUInt64 &&& Int64.toUInt64 63)).toInt64) fun v2 =>
    lt1 (v2 &&& 255) fun v4 =>
    if (lg_cmp v4 0) = 0 then (
    if (lg_cmp v2 0) = 0 then (
    some (.inr a2)) else (
    some (.inr 0))) else (
    if (lg_cmp v4 33) < 0 then (
    some (.inr 0)) else (
    if (lg_cmp v4 126) ≤ 0 then (
    fX5_signsIn_L2 n a0 (a2 + 1)) else (
    some (.inr 0)))))
def fX5_signsIn (a0 : Int64) : Option (Int32) :=
  (fX5_signsIn_L2 5000 a0 0).bind fun z2 =>
  caseS z2 (fun u4 =>
  some 8) (fun v5 =>
  some v5)
def fX5_append_L5 : Nat → Mem → Int64 → Int32 → Option (Mem)
  | 0, _, _, _ => none
  | n + 1, M, a1, a4 =>
    if a4 < 0 then (
    some M) else (
    (gI 5 1 M 15).bind fun v4 =>
    if 60 ≤ v4 then (
    some M) else (
    (gI 5 1 M 15).bind fun v7 =>
    (aS 20 M 16 v7 ((((a1.toUInt64 >>> ((8 * a4).toInt64.toUInt64 &&& Int64.toUInt64 63)).toInt64) &&& 255).toInt32)).bind fun M9 =>
    (gI 5 1 M9 15).bind fun v11 =>
    (pI 5 1 M9 15 (v11 + 1)).bind fun M13 =>
    fX5_append_L5 n M13 a1 (a4 + (-1))))
def fX5_append (M : Mem) (a1 : Int64) (a3 : Int32) : Option Mem :=
  lt1 (a3 - 1) fun v1 =>
  (fX5_append_L5 5000 M a1 v1).bind fun M3 =>
  some M3
def fX11_put (M : Mem) (a1 : Int64) : Option (Int32 × Mem) :=
  (fX5_signsIn a1).bind fun v2 =>
  if v2 = 0 then (
  some ((-2), M)) else (
  (gI 5 1 M 15).bind fun v4 =>
  if (v4 + v2) ≤ 60 then (
  (fX5_append M a1 v2).bind fun M8 =>
  (gI 5 1 M8 15).bind fun v9 =>
  some (v9, M8)) else (
  some ((-4), M)))
def fX11_wipe (M : Mem) : Option (Int32 × Mem) :=
  (gI 5 1 M 15).bind fun v1 =>
  (pI 5 1 M 15 0).bind fun M3 =>
  some (v1, M3)
def fX11_fault (M : Mem) : Option (Int32 × Mem) :=
  ob2 (fX4_read M) fun v2 M3 =>
  if v2 = 0 then (
  (gI 4 1 M3 14).bind fun v5 =>
  some (v5, M3)) else (
  some ((-6), M3))
def fX2_pop (M : Mem) (a1 : Nat) : Option (Int32 × Mem) :=
  (gI 2 1 M 12).bind fun v1 =>
  if 0 < v1 then (
  (gI 2 1 M 12).bind fun v4 =>
  (pI 2 1 M 12 (v4 - 1)).bind fun M6 =>
  (gI 2 1 M6 12).bind fun v8 =>
  (aD M6 13 v8).bind fun x10 =>
  (fX7_copyFrom M6 a1 x10).bind fun M13 =>
  some (1, M13)) else (
  some (0, M))
def fX11_undo (M : Mem) : Option (Int32 × Mem) :=
  ob2 (fX2_pop M 34) fun v2 M3 =>
  if v2 = 0 then (
  some ((-5), M3)) else (
  (gI 2 1 M3 12).bind fun v5 =>
  some (v5, M3))
def fX7_allLamps_L13 : Nat → Mem → Int32 → Nat → Int32 → Int32 → Option (Int32)
  | 0, _, _, _, _, _ => none
  | n + 1, M, a1, a2, a3, a4 =>
    if a3 ≤ a4 then (
    some a1) else (
    (aR 22 a2 a4).bind fun x6 =>
    (gI 6 2 M x6).bind fun v8 =>
    lt1 (a1 + v8) fun v10 =>
    fX7_allLamps_L13 n M v10 a2 a3 (a4 + 1))
def fX7_allLamps (M : Mem) (a0 : Nat) : Option (Int32) :=
  if shp a0 = 7 then (
  (gR 7 2 a0).bind fun x1 =>
  (aN 22 x1).bind fun v3 =>
  (fX7_allLamps_L13 5000 M 0 x1 v3 0).bind fun v5 =>
  some v5) else none
def fX11_save (M : Mem) (a1 : Int32) : Option (Int32 × Mem) :=
  (fX11_isIn a1 0 1).bind fun v2 =>
  if v2 = 0 then (
  some ((-2), M)) else (
  (aD M 11 a1).bind fun x4 =>
  (fX7_copyFrom M x4 34).bind fun M7 =>
  (gI 11 3 M7 10).bind fun v8 =>
  (pI 11 3 M7 10 (v8 ||| (1 <<< (a1 &&& 31)))).bind fun M10 =>
  (fX7_allLamps M10 34).bind fun v13 =>
  some (v13, M10))
def fX11_restore (M : Mem) (a1 : Int32) : Option (Int32 × Mem) :=
  (fX11_isIn a1 0 1).bind fun v2 =>
  if v2 = 0 then (
  some ((-2), M)) else (
  (gI 11 3 M 10).bind fun v4 =>
  (fX11_hasBit v4 a1).bind fun v7 =>
  if v7 = 0 then (
  some ((-5), M)) else (
  (fX2_push M 34).bind fun M10 =>
  (aD M10 11 a1).bind fun x11 =>
  (fX7_copyFrom M10 34 x11).bind fun M14 =>
  (fX7_allLamps M14 34).bind fun v16 =>
  some (v16, M14)))
def fX12_in (a0 : Int32) (a1 : Int32) (a2 : Int32) : Option (Int32) :=
  if a0 < a1 then (
  some 0) else (
  if a2 < a0 then (
  some 0) else (
  some 1))
def fX12_at1 (a0 : Int32) (a1 : Int32) : Option (Int32) :=
  some ((22 + (223 * a0)) + a1)
def fX12_ofLamp (a0 : Int32) (a1 : Int32) (a2 : Int32) : Option (Int32) :=
  (fX12_at1 a0 ((3 + (6 * a1)) + a2)).bind fun v2 =>
  some v2
def fX12_ofCue (a0 : Int32) (a1 : Int32) : Option (Int32) :=
  (fX12_at1 a0 (117 + (13 * a1))).bind fun v2 =>
  some v2
def fX12_isPremiere (a0 : Int32) : Option (Int32) :=
  (fX12_in a0 0 2).bind fun v2 =>
  (bz v2).bind fun b3 =>
  some b3
def fX12_isLamp (N : Mem) (a1 : Int32) (a2 : Int32) : Option (Int32) :=
  (fX12_isPremiere a1).bind fun v2 =>
  if v2 = 0 then (
  some 0) else (
  (fX12_at1 a1 2).bind fun v5 =>
  (aL 30 N 1 v5).bind fun v6 =>
  (fX12_in a2 0 (v6 - 1)).bind fun v9 =>
  if v9 = 0 then (
  some 0) else (
  some 1))
def fX12_isDimmer (a0 : Int32) : Option (Int32) :=
  (fX12_in a0 0 11).bind fun v2 =>
  (bz v2).bind fun b3 =>
  some b3
def fX12_know_L11 : Nat → Mem → Int32 → Option (Mem)
  | 0, _, _ => none
  | n + 1, N, a1 =>
    if 3455 ≤ a1 then (
    some N) else (
    (aL 30 N 3 (691 + a1)).bind fun v5 =>
    (aS 30 N 3 a1 v5).bind fun M7 =>
    fX12_know_L11 n M7 (a1 + 1))
def fX12_know_L52 : Nat → Mem → Int32 → Option (Mem)
  | 0, _, _ => none
  | n + 1, N, a1 =>
    if 691 ≤ a1 then (
    some N) else (
    (gI 12 3 N 0).bind fun v7 =>
    (aL 30 N 1 a1).bind fun v9 =>
    (aS 30 N 3 ((691 * v7) + a1) v9).bind fun M11 =>
    fX12_know_L52 n M11 (a1 + 1))
def fX12_know (N : Mem) : Option Mem :=
  (gI 12 3 N 0).bind fun v1 =>
  (if v1 = 6 then (
  (fX12_know_L11 5000 N 0).bind fun M13 =>
  (gI 12 3 M13 0).bind fun v15 =>
  (pI 12 3 M13 0 (v15 - 1)).bind fun M17 =>
  some M17) else (
  some N)).bind fun M3 =>
  (fX12_know_L52 5000 M3 0).bind fun M6 =>
  (gI 12 3 M6 0).bind fun v8 =>
  (pI 12 3 M6 0 (v8 + 1)).bind fun M10 =>
  some M10
def fX12_putAside_L2 : Nat → Mem → Int32 → Option (Mem)
  | 0, _, _ => none
  | n + 1, N, a1 =>
    if 691 ≤ a1 then (
    some N) else (
    (aL 30 N 1 a1).bind fun v2 =>
    (aS 30 N 2 a1 v2).bind fun M4 =>
    fX12_putAside_L2 n M4 (a1 + 1))
def fX12_putAside (N : Mem) : Option Mem :=
  (fX12_putAside_L2 5000 N 0).bind fun M1 =>
  some M1
def fX12_putBack_L2 : Nat → Mem → Int32 → Option (Mem)
  | 0, _, _ => none
  | n + 1, N, a1 =>
    if 691 ≤ a1 then (
    some N) else (
    (aL 30 N 2 a1).bind fun v2 =>
    (aS 30 N 1 a1 v2).bind fun M4 =>
    fX12_putBack_L2 n M4 (a1 + 1))
def fX12_putBack (N : Mem) : Option Mem :=
  (fX12_putBack_L2 5000 N 0).bind fun M1 =>
  some M1
def fX12_watts (N : Mem) (a1 : Int32) (a2 : Int32) (a3 : Int32) : Option (Int32) :=
  (fX12_ofLamp a1 a2 0).bind fun v2 =>
  (aL 30 N 1 v2).bind fun v3 =>
  (aL 30 N 1 (4 + (3 * v3))).bind fun v5 =>
  (dv (v5 * a3) 100).bind fun v7 =>
  some v7
def fX12_loadOfLamp (N : Mem) (a1 : Int32) (a2 : Int32) : Option (Int32) :=
  (fX12_ofLamp a1 a2 1).bind fun v2 =>
  (aL 30 N 1 v2).bind fun v3 =>
  if v3 = (-6) then (
  some 0) else (
  (fX12_at1 a1 (87 + v3)).bind fun v7 =>
  (aL 30 N 1 v7).bind fun v8 =>
  if v8 = 1 then (
  some 0) else (
  (fX12_at1 a1 (75 + v3)).bind fun v12 =>
  (aL 30 N 1 v12).bind fun v13 =>
  (fX12_at1 a1 (99 + v13)).bind fun v16 =>
  (aL 30 N 1 v16).bind fun v17 =>
  if v17 = 1 then (
  some 0) else (
  (fX12_ofLamp a1 a2 3).bind fun v21 =>
  (aL 30 N 1 v21).bind fun v22 =>
  (fX12_watts N a1 a2 v22).bind fun v25 =>
  some v25)))
def fX12_load_L5 : Nat → Mem → Int32 → Int32 → Int32 → Int32 → Option (Int32)
  | 0, _, _, _, _, _ => none
  | n + 1, N, a1, a2, a3, a4 =>
    (fX12_at1 a1 2).bind fun v2 =>
    (aL 30 N 1 v2).bind fun v3 =>
    if v3 ≤ a4 then (
    some a3) else (
    (fX12_ofLamp a1 a4 1).bind fun v7 =>
    (aL 30 N 1 v7).bind fun v8 =>
    (if v8 = (-6) then (
    some (0 : Int32)) else (
    if a2 = v8 then (
    some (1 : Int32)) else (
    (fX12_at1 a1 (75 + v8)).bind fun v23 =>
    (aL 30 N 1 v23).bind fun v24 =>
    if a2 = (12 + v24) then (
    some (1 : Int32)) else (
    some (0 : Int32))))).bind fun v10 =>
    if v10 = 0 then (
    lt1 (a3 + 0) fun v14 =>
    fX12_load_L5 n N a1 a2 v14 (a4 + 1)) else (
    (fX12_loadOfLamp N a1 a4).bind fun v17 =>
    lt1 (a3 + v17) fun v18 =>
    fX12_load_L5 n N a1 a2 v18 (a4 + 1)))
def fX12_load (N : Mem) (a1 : Int32) (a2 : Int32) : Option (Int32) :=
  (fX12_load_L5 5000 N a1 a2 0 0).bind fun v1 =>
  some v1
def fX12_loadBy_L6 : Nat → Mem → Int32 → Int32 → Int32 → Int32 → Int32 → Option (Int32)
  | 0, _, _, _, _, _, _ => none
  | n + 1, N, a1, a2, a3, a4, a5 =>
    (fX12_at1 a1 2).bind fun v2 =>
    (aL 30 N 1 v2).bind fun v3 =>
    if v3 ≤ a5 then (
    some a4) else (
    (fX12_ofCue a1 a3).bind fun v7 =>
    (aL 30 N 1 v7).bind fun v8 =>
    if v8 ≤ 0 then (
    some a4) else (
    (fX12_ofLamp a1 a5 1).bind fun v12 =>
    (aL 30 N 1 v12).bind fun v13 =>
    (if v13 = (-6) then (
    some (0 : Int32)) else (
    if a2 = v13 then (
    some (1 : Int32)) else (
    if a2 = 15 then (
    some (1 : Int32)) else (
    (fX12_at1 a1 (75 + v13)).bind fun v33 =>
    (aL 30 N 1 v33).bind fun v34 =>
    if a2 = (12 + v34) then (
    some (1 : Int32)) else (
    some (0 : Int32)))))).bind fun v15 =>
    if v15 = 0 then (
    lt1 (a4 + 0) fun v19 =>
    fX12_loadBy_L6 n N a1 a2 a3 v19 (a5 + 1)) else (
    (fX12_ofCue a1 a3).bind fun v22 =>
    (aL 30 N 1 ((v22 + 1) + a5)).bind fun v23 =>
    (fX12_watts N a1 a5 v23).bind fun v26 =>
    lt1 (a4 + v26) fun v27 =>
    fX12_loadBy_L6 n N a1 a2 a3 v27 (a5 + 1))))
def fX12_loadBy (N : Mem) (a1 : Int32) (a2 : Int32) (a3 : Int32) : Option (Int32) :=
  (fX12_loadBy_L6 5000 N a1 a2 a3 0 0).bind fun v1 =>
  some v1
def fX12_worst_L5 : Nat → Mem → Int32 → Int32 → Int32 → Int32 → Option (Int32)
  | 0, _, _, _, _, _ => none
  | n + 1, N, a1, a2, a3, a4 =>
    if 8 ≤ a4 then (
    some a3) else (
    (fX12_loadBy N a1 a2 a4).bind fun v3 =>
    if v3 ≤ a3 then (
    fX12_worst_L5 n N a1 a2 a3 (a4 + 1)) else (
    fX12_worst_L5 n N a1 a2 v3 (a4 + 1)))
def fX12_worst (N : Mem) (a1 : Int32) (a2 : Int32) : Option (Int32) :=
  (fX12_worst_L5 5000 N a1 a2 0 0).bind fun v1 =>
  some v1
def fX12_trip_L6 : Nat → Mem → Int32 → Int32 → Int32 → Int32 → Int32 → Int32 → Option (Mem)
  | 0, _, _, _, _, _, _, _ => none
  | n + 1, N, a1, a2, a3, a4, a5, a6 =>
    if a3 ≤ a6 then (
    some N) else (
    (fX12_at1 a1 (102 + a6)).bind fun v3 =>
    (fX12_load N a1 a6).bind fun v5 =>
    if v5 ≤ a4 then (
    (aS 30 N 1 v3 0).bind fun M7 =>
    fX12_trip_L6 n M7 a1 a2 a3 a4 a5 (a6 + 1)) else (
    (aL 30 N 1 v3).bind fun v9 =>
    (aS 30 N 1 v3 (v9 + 1)).bind fun M11 =>
    fX12_trip_L6 n M11 a1 a2 a3 a4 a5 (a6 + 1)))
def fX12_trip_L64 : Nat → Mem → Int32 → Int32 → Int32 → Int32 → Option (Int32 × Mem)
  | 0, _, _, _, _, _ => none
  | n + 1, N, a1, a3, a5, a6 =>
    if a3 ≤ a6 then (
    some (a5, N)) else (
    (fX12_at1 a1 (102 + a6)).bind fun v5 =>
    (aL 30 N 1 v5).bind fun v6 =>
    (aL 30 N 1 2).bind fun v8 =>
    if v6 < v8 then (
    fX12_trip_L64 n N a1 a3 a5 (a6 + 1)) else (
    (fX12_at1 a1 (87 + a6)).bind fun v12 =>
    (aS 30 N 1 v12 1).bind fun M13 =>
    (aS 30 M13 1 v5 0).bind fun M15 =>
    fX12_trip_L64 n M15 a1 a3 (a5 + 1) (a6 + 1)))
def fX12_trip (N : Mem) (a1 : Int32) (a2 : Int32) (a3 : Int32) (a4 : Int32) : Option (Int32 × Mem) :=
  (fX12_trip_L6 5000 N a1 a2 a3 a4 0 a2).bind fun M1 =>
  ob2 (fX12_trip_L64 5000 M1 a1 a3 0 a2) fun v4 M3 =>
  some (v4, M3)
def fX12_turn_L49 : Nat → Mem → Int32 → Int32 → Int32 → Int32 → Option (Mem)
  | 0, _, _, _, _, _ => none
  | n + 1, N, a1, a2, a3, a4 =>
    (fX12_at1 a1 2).bind fun v17 =>
    (aL 30 N 1 v17).bind fun v18 =>
    if v18 ≤ a4 then (
    some N) else (
    (fX12_ofLamp a1 a4 4).bind fun v22 =>
    (aL 30 N 1 v22).bind fun v23 =>
    (fX12_ofLamp a1 a4 3).bind fun v26 =>
    (fX12_ofLamp a1 a4 5).bind fun v28 =>
    (aL 30 N 1 v28).bind fun v29 =>
    (dv ((v29 - v23) * a3) a2).bind fun v31 =>
    (aS 30 N 1 v26 (v23 + v31)).bind fun M33 =>
    fX12_turn_L49 n M33 a1 a2 a3 (a4 + 1))
def fX12_turn (N : Mem) (a1 : Int32) : Option (Int32 × Mem) :=
  (fX12_at1 a1 221).bind fun v2 =>
  (aL 30 N 1 v2).bind fun v3 =>
  (if v3 ≤ 0 then (
  some N) else (
  (fX12_at1 a1 222).bind fun v20 =>
  (aL 30 N 1 v20).bind fun v21 =>
  (aS 30 N 1 v20 (v21 + 1)).bind fun M23 =>
  (fX12_at1 a1 222).bind fun v26 =>
  (aL 30 M23 1 v26).bind fun v27 =>
  (fX12_turn_L49 5000 M23 a1 v3 v27 0).bind fun M29 =>
  (fX12_at1 a1 221).bind fun v32 =>
  if v27 = v3 then (
  (aS 30 M29 1 v32 0).bind fun M36 =>
  some M36) else (
  (aS 30 M29 1 v32 v3).bind fun M34 =>
  some M34))).bind fun M5 =>
  (aL 30 M5 1 0).bind fun v8 =>
  ob2 (fX12_trip M5 a1 0 12 v8) fun v11 M12 =>
  (aL 30 M12 1 1).bind fun v13 =>
  ob2 (fX12_trip M12 a1 12 15 v13) fun v16 M17 =>
  some (v11 + v16, M17)
def fX12_start_L3 : Nat → Mem → Int32 → Int32 → Int32 → Int32 → Option (Mem)
  | 0, _, _, _, _, _ => none
  | n + 1, N, a1, a2, a3, a4 =>
    (fX12_at1 a1 2).bind fun v2 =>
    (aL 30 N 1 v2).bind fun v3 =>
    if v3 ≤ a4 then (
    some N) else (
    (fX12_ofLamp a1 a4 4).bind fun v7 =>
    (fX12_ofLamp a1 a4 3).bind fun v9 =>
    (aL 30 N 1 v9).bind fun v10 =>
    (aS 30 N 1 v7 v10).bind fun M12 =>
    (fX12_ofLamp a1 a4 5).bind fun v15 =>
    (fX12_ofCue a1 a2).bind fun v17 =>
    (aL 30 M12 1 ((v17 + 1) + a4)).bind fun v18 =>
    (aS 30 M12 1 v15 v18).bind fun M20 =>
    fX12_start_L3 n M20 a1 a2 a3 (a4 + 1))
def fX12_start (N : Mem) (a1 : Int32) (a2 : Int32) (a3 : Int32) : Option Mem :=
  (fX12_start_L3 5000 N a1 a2 a3 0).bind fun M1 =>
  (fX12_at1 a1 221).bind fun v4 =>
  (aS 30 M1 1 v4 a3).bind fun M5 =>
  (fX12_at1 a1 222).bind fun v8 =>
  (aS 30 M5 1 v8 0).bind fun M9 =>
  some M9
def fX12_set (N : Mem) (a1 : Int32) (a2 : Int32) : Option (Int32 × Mem) :=
  (if a1 = 0 then (
  some (500 : Int32)) else (
  if a1 = 1 then (
  some (1000 : Int32)) else (
  some (1 : Int32)))).bind fun v1 =>
  (if a1 = 0 then (
  some (6000 : Int32)) else (
  if a1 = 1 then (
  some (20000 : Int32)) else (
  some (20 : Int32)))).bind fun v4 =>
  (fX12_in a1 0 2).bind fun v8 =>
  if v8 = 0 then (
  some ((-2), N)) else (
  (fX12_in a2 v1 v4).bind fun v11 =>
  if v11 = 0 then (
  some ((-2), N)) else (
  (fX12_know N).bind fun M14 =>
  (aL 30 M14 1 (0 + a1)).bind fun v15 =>
  (aS 30 M14 1 (0 + a1) a2).bind fun M17 =>
  some (v15, M17)))
def fX12_type (N : Mem) (a1 : Int32) (a2 : Int32) (a3 : Int32) : Option (Int32 × Mem) :=
  (fX12_in a1 100 2000).bind fun v2 =>
  if v2 = 0 then (
  some ((-2), N)) else (
  (fX12_in a2 0 20).bind fun v5 =>
  if v5 = 0 then (
  some ((-2), N)) else (
  (fX12_in a3 0 50).bind fun v8 =>
  if v8 = 0 then (
  some ((-2), N)) else (
  (aL 30 N 1 3).bind fun v10 =>
  if v10 = 6 then (
  some ((-4), N)) else (
  (fX12_know N).bind fun M14 =>
  (aL 30 M14 1 3).bind fun v15 =>
  (aS 30 M14 1 (4 + (3 * v15)) a1).bind fun M17 =>
  (aS 30 M17 1 ((4 + (3 * v15)) + 1) a2).bind fun M19 =>
  (aS 30 M19 1 ((4 + (3 * v15)) + 2) a3).bind fun M21 =>
  (aL 30 M21 1 3).bind fun v23 =>
  (aS 30 M21 1 3 (v23 + 1)).bind fun M25 =>
  some (v15, M25)))))
def fX12_days (N : Mem) (a1 : Int32) (a2 : Int32) (a3 : Int32) : Option (Int32 × Mem) :=
  (fX12_isPremiere a1).bind fun v2 =>
  if v2 = 0 then (
  some ((-1), N)) else (
  (fX12_in a2 0 6).bind fun v5 =>
  if v5 = 0 then (
  some ((-2), N)) else (
  (fX12_in a3 a2 6).bind fun v8 =>
  if v8 = 0 then (
  some ((-2), N)) else (
  (fX12_know N).bind fun M11 =>
  (fX12_at1 a1 1).bind fun v13 =>
  (aL 30 M11 1 v13).bind fun v14 =>
  (fX12_at1 a1 0).bind fun v17 =>
  (aL 30 M11 1 v17).bind fun v18 =>
  lt1 ((v14 - v18) + 1) fun v20 =>
  (fX12_at1 a1 0).bind fun v23 =>
  (aS 30 M11 1 v23 a2).bind fun M24 =>
  (fX12_at1 a1 1).bind fun v27 =>
  (aS 30 M24 1 v27 a3).bind fun M28 =>
  some (v20, M28))))
def fX12_hang_L67 : Nat → Mem → Int32 → Int32 → Int32 → Int32 → Int32 → Option (Mem)
  | 0, _, _, _, _, _, _ => none
  | n + 1, N, a1, a2, a3, a4, a5 =>
    if 6 ≤ a5 then (
    some N) else (
    (fX12_ofLamp a1 a4 a5).bind fun v19 =>
    (aS 30 N 1 v19 0).bind fun M20 =>
    fX12_hang_L67 n M20 a1 a2 a3 a4 (a5 + 1))
def fX12_hang_L123 : Nat → Mem → Int32 → Int32 → Int32 → Option (Mem)
  | 0, _, _, _, _ => none
  | n + 1, N, a1, a4, a5 =>
    if 8 ≤ a5 then (
    some N) else (
    (fX12_ofCue a1 a5).bind fun v29 =>
    (aS 30 N 1 ((v29 + 1) + a4) 0).bind fun M30 =>
    fX12_hang_L123 n M30 a1 a4 (a5 + 1))
def fX12_hang (N : Mem) (a1 : Int32) (a2 : Int32) (a3 : Int32) : Option (Int32 × Mem) :=
  (fX12_isPremiere a1).bind fun v2 =>
  if v2 = 0 then (
  some ((-1), N)) else (
  (aL 30 N 1 3).bind fun v4 =>
  (fX12_in a2 0 (v4 - 1)).bind fun v7 =>
  if v7 = 0 then (
  some ((-1), N)) else (
  if a3 = (-6) then (
  (fX12_at1 a1 2).bind fun v11 =>
  (aL 30 N 1 v11).bind fun v12 =>
  if v12 = 12 then (
  some ((-4), N)) else (
  (fX12_know N).bind fun M16 =>
  (fX12_hang_L67 5000 M16 a1 a2 a3 v12 0).bind fun M17 =>
  (fX12_ofLamp a1 v12 0).bind fun v20 =>
  (aS 30 M17 1 v20 a2).bind fun M21 =>
  (fX12_ofLamp a1 v12 1).bind fun v24 =>
  (aS 30 M21 1 v24 a3).bind fun M25 =>
  (fX12_hang_L123 5000 M25 a1 v12 0).bind fun M27 =>
  (fX12_at1 a1 2).bind fun v30 =>
  (aL 30 M27 1 v30).bind fun v31 =>
  (aS 30 M27 1 v30 (v31 + 1)).bind fun M33 =>
  some (v12, M33))) else (
  (fX12_isDimmer a3).bind fun v36 =>
  if v36 = 0 then (
  some ((-1), N)) else (
  (fX12_at1 a1 2).bind fun v39 =>
  (aL 30 N 1 v39).bind fun v40 =>
  if v40 = 12 then (
  some ((-4), N)) else (
  (fX12_know N).bind fun M44 =>
  (fX12_hang_L67 5000 M44 a1 a2 a3 v40 0).bind fun M45 =>
  (fX12_ofLamp a1 v40 0).bind fun v48 =>
  (aS 30 M45 1 v48 a2).bind fun M49 =>
  (fX12_ofLamp a1 v40 1).bind fun v52 =>
  (aS 30 M49 1 v52 a3).bind fun M53 =>
  (fX12_hang_L123 5000 M53 a1 v40 0).bind fun M55 =>
  (fX12_at1 a1 2).bind fun v58 =>
  (aL 30 M55 1 v58).bind fun v59 =>
  (aS 30 M55 1 v58 (v59 + 1)).bind fun M61 =>
  some (v40, M61))))))
def fX12_takeDown_L48 : Nat → Mem → Int32 → Int32 → Int32 → Int32 → Option (Mem)
  | 0, _, _, _, _, _ => none
  | n + 1, N, a1, a2, a3, a4 =>
    (fX12_ofLamp a1 a3 0).bind fun v19 =>
    if v19 ≤ a4 then (
    some N) else (
    (aL 30 N 1 (a4 + 6)).bind fun v21 =>
    (aS 30 N 1 a4 v21).bind fun M23 =>
    fX12_takeDown_L48 n M23 a1 a2 a3 (a4 + 1))
def fX12_takeDown_L95 : Nat → Mem → Int32 → Int32 → Int32 → Int32 → Int32 → Option (Mem)
  | 0, _, _, _, _, _, _ => none
  | n + 1, N, a1, a2, a3, a4, a5 =>
    if a3 ≤ a5 then (
    some N) else (
    (fX12_ofCue a1 a4).bind fun v23 =>
    (fX12_ofCue a1 a4).bind fun v25 =>
    (aL 30 N 1 ((v25 + 2) + a5)).bind fun v26 =>
    (aS 30 N 1 ((v23 + 1) + a5) v26).bind fun M28 =>
    fX12_takeDown_L95 n M28 a1 a2 a3 a4 (a5 + 1))
def fX12_takeDown_L85 : Nat → Mem → Int32 → Int32 → Int32 → Int32 → Option (Mem)
  | 0, _, _, _, _, _ => none
  | n + 1, N, a1, a2, a3, a4 =>
    if 8 ≤ a4 then (
    some N) else (
    (fX12_takeDown_L95 5000 N a1 a2 a3 a4 a2).bind fun M21 =>
    fX12_takeDown_L85 n M21 a1 a2 a3 (a4 + 1))
def fX12_takeDown (N : Mem) (a1 : Int32) (a2 : Int32) : Option (Int32 × Mem) :=
  (fX12_isLamp N a1 a2).bind fun v2 =>
  if v2 = 0 then (
  some ((-1), N)) else (
  (fX12_know N).bind fun M5 =>
  (fX12_at1 a1 2).bind fun v7 =>
  (aL 30 M5 1 v7).bind fun v8 =>
  (aS 30 M5 1 v7 (v8 - 1)).bind fun M10 =>
  (fX12_at1 a1 2).bind fun v13 =>
  (aL 30 M10 1 v13).bind fun v14 =>
  (fX12_ofLamp a1 a2 0).bind fun v17 =>
  (fX12_takeDown_L48 5000 M10 a1 a2 v14 v17).bind fun M18 =>
  (fX12_takeDown_L85 5000 M18 a1 a2 v14 0).bind fun M20 =>
  some (v14, M20))
def fX12_patch (N : Mem) (a1 : Int32) (a2 : Int32) (a3 : Int32) : Option (Int32 × Mem) :=
  (fX12_isLamp N a1 a2).bind fun v2 =>
  if v2 = 0 then (
  some ((-1), N)) else (
  if a3 = (-6) then (
  (fX12_know N).bind fun M6 =>
  (fX12_ofLamp a1 a2 1).bind fun v8 =>
  (aL 30 M6 1 v8).bind fun v9 =>
  (fX12_ofLamp a1 a2 1).bind fun v12 =>
  (aS 30 M6 1 v12 a3).bind fun M13 =>
  some (v9, M13)) else (
  (fX12_isDimmer a3).bind fun v16 =>
  if v16 = 0 then (
  some ((-1), N)) else (
  (fX12_know N).bind fun M19 =>
  (fX12_ofLamp a1 a2 1).bind fun v21 =>
  (aL 30 M19 1 v21).bind fun v22 =>
  (fX12_ofLamp a1 a2 1).bind fun v25 =>
  (aS 30 M19 1 v25 a3).bind fun M26 =>
  some (v22, M26))))
def fX12_feed (N : Mem) (a1 : Int32) (a2 : Int32) (a3 : Int32) : Option (Int32 × Mem) :=
  (fX12_isPremiere a1).bind fun v2 =>
  if v2 = 0 then (
  some ((-1), N)) else (
  (fX12_isDimmer a2).bind fun v5 =>
  if v5 = 0 then (
  some ((-1), N)) else (
  (fX12_in a3 0 2).bind fun v8 =>
  if v8 = 0 then (
  some ((-1), N)) else (
  (fX12_know N).bind fun M11 =>
  (fX12_at1 a1 (75 + a2)).bind fun v13 =>
  (aL 30 M11 1 v13).bind fun v14 =>
  (fX12_at1 a1 (75 + a2)).bind fun v17 =>
  (aS 30 M11 1 v17 a3).bind fun M18 =>
  some (v14, M18))))
def fX12_spread_L15 : Nat → Mem → Int32 → Int32 → Option (Mem)
  | 0, _, _, _ => none
  | n + 1, N, a1, a2 =>
    if 12 ≤ a2 then (
    some N) else (
    (fX12_worst N a1 a2).bind fun v8 =>
    (aS 30 N 7 a2 v8).bind fun M9 =>
    fX12_spread_L15 n M9 a1 (a2 + 1))
def fX12_spread_L76 : Nat → Mem → Int32 → Int32 → Int32 → Int32 → Int32 → Option (Int32)
  | 0, _, _, _, _, _, _ => none
  | n + 1, N, a1, a2, a3, a4, a5 =>
    if 12 ≤ a5 then (
    some a4) else (
    (aL 30 N 7 a5).bind fun v16 =>
    (aL 30 N 7 a4).bind fun v18 =>
    if v16 ≤ v18 then (
    fX12_spread_L76 n N a1 a2 a3 a4 (a5 + 1)) else (
    fX12_spread_L76 n N a1 a2 a3 a5 (a5 + 1)))
def fX12_spread_L64 : Nat → Mem → Int32 → Int32 → Int32 → Option (Int32 × Mem)
  | 0, _, _, _, _ => none
  | n + 1, N, a1, a2, a3 =>
    if 12 ≤ a3 then (
    some (a2, N)) else (
    (fX12_spread_L76 5000 N a1 a2 a3 0 1).bind fun v15 =>
    (aL 30 N 8 1).bind fun v17 =>
    (aL 30 N 8 0).bind fun v19 =>
    (if v19 ≤ v17 then (
    some (0 : Int32)) else (
    some (1 : Int32))).bind fun v21 =>
    (aL 30 N 8 2).bind fun v24 =>
    (aL 30 N 8 v21).bind fun v26 =>
    (if v26 ≤ v24 then (
    some v21) else (
    some (2 : Int32))).bind fun v28 =>
    (aL 30 N 8 v28).bind fun v31 =>
    (aL 30 N 7 v15).bind fun v33 =>
    (aS 30 N 8 v28 (v31 + v33)).bind fun M35 =>
    (fX12_at1 a1 (75 + v15)).bind fun v38 =>
    (aL 30 M35 1 v38).bind fun v39 =>
    (if v39 = v28 then (
    some (0 : Int32)) else (
    some (1 : Int32))).bind fun v41 =>
    lt1 (a2 + v41) fun v44 =>
    (fX12_at1 a1 (75 + v15)).bind fun v47 =>
    (aS 30 M35 1 v47 v28).bind fun M48 =>
    (aS 30 M48 7 v15 (-1)).bind fun M50 =>
    fX12_spread_L64 n M50 a1 v44 (a3 + 1))
def fX12_spread (N : Mem) (a1 : Int32) : Option (Int32 × Mem) :=
  (fX12_isPremiere a1).bind fun v2 =>
  if v2 = 0 then (
  some ((-1), N)) else (
  (fX12_know N).bind fun M5 =>
  (fX12_spread_L15 5000 M5 a1 0).bind fun M6 =>
  (aS 30 M6 8 0 0).bind fun M8 =>
  (aS 30 M8 8 1 0).bind fun M10 =>
  (aS 30 M10 8 2 0).bind fun M12 =>
  ob2 (fX12_spread_L64 5000 M12 a1 0 0) fun v15 M14 =>
  some (v15, M14))
def fX12_atFault (N : Mem) (a1 : Int32) (a2 : Int32) (a3 : Int32) : Option (Int32) :=
  (fX12_isLamp N a1 a2).bind fun v2 =>
  if v2 = 0 then (
  some (-1)) else (
  (fX12_in a3 0 100).bind fun v5 =>
  if v5 = 0 then (
  some (-2)) else (
  some 0))
def fX12_at (N : Mem) (a1 : Int32) (a2 : Int32) (a3 : Int32) : Option (Int32 × Mem) :=
  (fX12_atFault N a1 a2 a3).bind fun v2 =>
  if 0 ≤ v2 then (
  (fX12_know N).bind fun M5 =>
  (fX12_ofLamp a1 a2 2).bind fun v7 =>
  (aL 30 M5 1 v7).bind fun v8 =>
  (fX12_ofLamp a1 a2 2).bind fun v11 =>
  (aS 30 M5 1 v11 a3).bind fun M12 =>
  some (v8, M12)) else (
  some (v2, N))
def fX12_isCue (a0 : Int32) (a1 : Int32) : Option (Int32) :=
  (fX12_isPremiere a0).bind fun v2 =>
  if v2 = 0 then (
  some 0) else (
  (fX12_in a1 0 7).bind fun v5 =>
  if v5 = 0 then (
  some 0) else (
  some 1))
def fX12_recordFault (a1 : Int32) (a2 : Int32) (a3 : Int32) : Option (Int32) :=
  (fX12_isCue a1 a2).bind fun v2 =>
  if v2 = 0 then (
  some (-1)) else (
  (fX12_in a3 1 50).bind fun v5 =>
  if v5 = 0 then (
  some (-2)) else (
  some 0))
def fX12_records_L14 : Nat → Mem → Int32 → Int32 → Int32 → Option (Mem)
  | 0, _, _, _, _ => none
  | n + 1, N, a1, a2, a4 =>
    (fX12_at1 a1 2).bind fun v6 =>
    (aL 30 N 1 v6).bind fun v7 =>
    if v7 ≤ a4 then (
    some N) else (
    (fX12_ofCue a1 a2).bind fun v11 =>
    (fX12_ofLamp a1 a4 2).bind fun v13 =>
    (aL 30 N 1 v13).bind fun v14 =>
    (aS 30 N 1 ((v11 + 1) + a4) v14).bind fun M16 =>
    fX12_records_L14 n M16 a1 a2 (a4 + 1))
def fX12_records_L68 : Nat → Mem → Int32 → Int32 → Int32 → Option (Int32)
  | 0, _, _, _, _ => none
  | n + 1, N, a1, a4, a5 =>
    if 8 ≤ a5 then (
    some a4) else (
    (fX12_ofCue a1 a5).bind fun v9 =>
    (aL 30 N 1 v9).bind fun v10 =>
    if v10 ≤ 0 then (
    lt1 (a4 + 0) fun v13 =>
    fX12_records_L68 n N a1 v13 (a5 + 1)) else (
    lt1 (a4 + 1) fun v15 =>
    fX12_records_L68 n N a1 v15 (a5 + 1)))
def fX12_records (N : Mem) (a1 : Int32) (a2 : Int32) (a3 : Int32) : Option (Int32 × Mem) :=
  (fX12_ofCue a1 a2).bind fun v2 =>
  (aS 30 N 1 v2 a3).bind fun M3 =>
  (fX12_records_L14 5000 M3 a1 a2 0).bind fun M5 =>
  (fX12_records_L68 5000 M5 a1 0 0).bind fun v7 =>
  some (v7, M5)
def fX12_record (N : Mem) (a1 : Int32) (a2 : Int32) (a3 : Int32) : Option (Int32 × Mem) :=
  (fX12_recordFault a1 a2 a3).bind fun v2 =>
  if 0 ≤ v2 then (
  (fX12_know N).bind fun M5 =>
  ob2 (fX12_records M5 a1 a2 a3) fun v7 M8 =>
  some (v7, M8)) else (
  some (v2, N))
def fX12_goFault (N : Mem) (a1 : Int32) (a2 : Int32) : Option (Int32) :=
  (fX12_isCue a1 a2).bind fun v2 =>
  if v2 = 0 then (
  some (-1)) else (
  (fX12_ofCue a1 a2).bind fun v5 =>
  (aL 30 N 1 v5).bind fun v6 =>
  if v6 = 0 then (
  some (-5)) else (
  some 0))
def fX12_go (N : Mem) (a1 : Int32) (a2 : Int32) : Option (Int32 × Mem) :=
  (fX12_goFault N a1 a2).bind fun v2 =>
  if 0 ≤ v2 then (
  (fX12_know N).bind fun M5 =>
  (fX12_ofCue a1 a2).bind fun v7 =>
  (aL 30 M5 1 v7).bind fun v8 =>
  (fX12_start M5 a1 a2 v8).bind fun M11 =>
  (fX12_ofCue a1 a2).bind fun v13 =>
  (aL 30 M11 1 v13).bind fun v14 =>
  some (v14, M11)) else (
  some (v2, N))
def fX12_resets_L4 : Nat → Mem → Int32 → Int32 → Int32 → Option (Int32 × Mem)
  | 0, _, _, _, _ => none
  | n + 1, N, a1, a2, a3 =>
    if 15 ≤ a3 then (
    some (a2, N)) else (
    (fX12_at1 a1 (87 + a3)).bind fun v3 =>
    (aL 30 N 1 v3).bind fun v4 =>
    lt1 (a2 + v4) fun v6 =>
    (fX12_at1 a1 (87 + a3)).bind fun v9 =>
    (aS 30 N 1 v9 0).bind fun M10 =>
    (fX12_at1 a1 (102 + a3)).bind fun v13 =>
    (aS 30 M10 1 v13 0).bind fun M14 =>
    fX12_resets_L4 n M14 a1 v6 (a3 + 1))
def fX12_resets (N : Mem) (a1 : Int32) : Option (Int32 × Mem) :=
  ob2 (fX12_resets_L4 5000 N a1 0 0) fun v2 M1 =>
  some (v2, M1)
def fX12_reset (N : Mem) (a1 : Int32) : Option (Int32 × Mem) :=
  (fX12_isPremiere a1).bind fun v2 =>
  if v2 = 0 then (
  some ((-1), N)) else (
  (fX12_know N).bind fun M5 =>
  ob2 (fX12_resets M5 a1) fun v7 M8 =>
  some (v7, M8))
def fX12_tick_L29 : Nat → Mem → Int32 → Int32 → Int32 → Int32 → Option (Int32 × Mem)
  | 0, _, _, _, _, _ => none
  | n + 1, N, a1, a2, a3, a4 =>
    if 3 ≤ a4 then (
    some (a2, N)) else (
    ob2 (fX12_turn N a4) fun v9 M10 =>
    lt1 (a2 + v9) fun v11 =>
    fX12_tick_L29 n M10 a1 v11 a3 (a4 + 1))
def fX12_tick_L21 : Nat → Mem → Int32 → Int32 → Int32 → Option (Int32 × Mem)
  | 0, _, _, _, _ => none
  | n + 1, N, a1, a2, a3 =>
    if a1 ≤ a3 then (
    some (a2, N)) else (
    ob2 (fX12_tick_L29 5000 N a1 a2 a3 0) fun v8 M7 =>
    fX12_tick_L21 n M7 a1 v8 (a3 + 1))
def fX12_tick (N : Mem) (a1 : Int32) : Option (Int32 × Mem) :=
  (fX12_in a1 1 100).bind fun v2 =>
  if v2 = 0 then (
  some ((-2), N)) else (
  (fX12_know N).bind fun M5 =>
  ob2 (fX12_tick_L21 5000 M5 a1 0 0) fun v7 M6 =>
  some (v7, M6))
def fX12_put_L8 : Nat → Int64 → Int32 → Int32 → Int32 → Option (Int32 × Int32)
  | 0, _, _, _, _ => none
  | n + 1, a1, a3, a4, a5 =>
    if 8 ≤ a5 then (
    some (a3, a4)) else (
    lt1 ((((a1.toUInt64 >>> ((8 * a5).toInt64.toUInt64 &&& Int64.toUInt64 63)).toInt64) &&& 255).toInt32) fun v2 =>
    (if a5 ≤ 0 then (
    some (0 : Int32)) else (
    if (lg_cmp ((a1.toUInt64 >>> ((8 * a5).toInt64.toUInt64 &&& Int64.toUInt64 63)).toInt64) 0) = 0 then (
    some (1 : Int32)) else (
    some (0 : Int32)))).bind fun v4 =>
    (if a4 = 0 then (
    if v4 = 0 then (
    (fX12_in v2 33 126).bind fun v18 =>
    if v18 = 0 then (
    some (1 : Int32)) else (
    some (0 : Int32))) else (
    some (0 : Int32))) else (
    some (1 : Int32))).bind fun v7 =>
    if v4 = 0 then (
    lt1 (a3 + 1) fun v11 =>
    fX12_put_L8 n a1 v11 v7 (a5 + 1)) else (
    lt1 (a3 + 0) fun v13 =>
    fX12_put_L8 n a1 v13 v7 (a5 + 1)))
def fX12_put_L126 : Nat → Mem → Int64 → Int32 → Int32 → Option (Mem)
  | 0, _, _, _, _ => none
  | n + 1, N, a1, a3, a5 =>
    if a3 ≤ a5 then (
    some N) else (
    (gI 12 7 N 0).bind fun v9 =>
    (aS 30 N 6 (((v9 + a3) - 1) - a5) ((((a1.toUInt64 >>> ((8 * a5).toInt64.toUInt64 &&& Int64.toUInt64 63)).toInt64) &&& 255).toInt32)).bind fun M11 =>
    fX12_put_L126 n M11 a1 a3 (a5 + 1))
def fX12_put (N : Mem) (a1 : Int64) : Option (Int32 × Mem) :=
  ob2 (fX12_put_L8 5000 a1 0 0 0) fun v1 v2 =>
  if v2 = 0 then (
  (gI 12 7 N 0).bind fun v5 =>
  if (v5 + v1) ≤ 60 then (
  (fX12_put_L126 5000 N a1 v1 0).bind fun M8 =>
  (gI 12 7 M8 0).bind fun v10 =>
  (pI 12 7 M8 0 (v10 + v1)).bind fun M12 =>
  (gI 12 7 M12 0).bind fun v14 =>
  some (v14, M12)) else (
  some ((-4), N))) else (
  some ((-2), N))
def fX12_wipe (N : Mem) : Option (Int32 × Mem) :=
  (gI 12 7 N 0).bind fun v1 =>
  (pI 12 7 N 0 0).bind fun M3 =>
  some (v1, M3)
def fX12_sign (N : Mem) (a1 : Int32) (a2 : Int32) : Option (Int32 × Mem) :=
  (gI 12 10 N 0).bind fun v1 =>
  (gI 12 7 N 0).bind fun v3 =>
  (if v3 ≤ v1 then (
  some (0 : Int32)) else (
  (gI 12 10 N 0).bind fun v29 =>
  (aL 30 N 6 v29).bind fun v31 =>
  some v31)).bind fun v5 =>
  (gI 12 11 N 0).bind fun v8 =>
  (if v8 = 0 then (
  (fX12_in v5 a1 a2).bind fun v26 =>
  if v26 = 0 then (
  some (1 : Int32)) else (
  some (0 : Int32))) else (
  some (1 : Int32))).bind fun v10 =>
  (pZ 12 11 N 0 v10).bind fun M13 =>
  (gI 12 10 M13 0).bind fun v15 =>
  (gI 12 11 M13 0).bind fun v17 =>
  if v17 = 0 then (
  (pI 12 10 M13 0 (v15 + 1)).bind fun M20 =>
  some (v5, M20)) else (
  (pI 12 10 M13 0 (v15 + 0)).bind fun M22 =>
  some (v5, M22))
def fX12_isNext (N : Mem) (a1 : Int32) (a2 : Int32) : Option (Int32) :=
  (gI 12 11 N 0).bind fun v1 =>
  if v1 = 0 then (
  (gI 12 10 N 0).bind fun v4 =>
  (gI 12 7 N 0).bind fun v6 =>
  if v6 ≤ v4 then (
  some 0) else (
  (gI 12 10 N 0).bind fun v9 =>
  (aL 30 N 6 v9).bind fun v11 =>
  (fX12_in v11 a1 a2).bind fun v14 =>
  if v14 = 0 then (
  some 0) else (
  some 1))) else (
  some 0)
def fX12_number_L14 : Nat → Mem → Int32 → Int32 → Option (Int32 × Mem)
  | 0, _, _, _ => none
  | n + 1, N, a2, a3 =>
    if a3 ≤ 0 then (
    some (a3, N)) else (
    (fX12_isNext N 48 57).bind fun v8 =>
    if v8 = 0 then (
    some (a3, N)) else (
    (gI 12 10 N 0).bind fun v10 =>
    (aL 30 N 6 v10).bind fun v12 =>
    if a2 < (((10 * a3) + v12) - 48) then (
    some (a3, N)) else (
    ob2 (fX12_sign N 48 57) fun v16 M17 =>
    lt1 (((10 * a3) + v16) - 48) fun v18 =>
    fX12_number_L14 n M17 a2 v18)))
def fX12_number (N : Mem) (a1 : Int32) (a2 : Int32) : Option (Int32 × Mem) :=
  ob2 (fX12_sign N (48 + a1) 57) fun v2 M3 =>
  lt1 (v2 - 48) fun v4 =>
  ob2 (fX12_number_L14 5000 M3 a2 v4) fun v7 M6 =>
  some (v7, M6)
def fX12_readLamps_L7 : Nat → Mem → Int32 → Option (Mem)
  | 0, _, _ => none
  | n + 1, N, a1 =>
    if a1 = 0 then (
    some N) else (
    ob2 (fX12_number N 0 11) fun v5 M6 =>
    (fX12_isNext M6 62 62).bind fun v8 =>
    ob2 (if v8 = 0 then (
    some ((0 : Int32), M6)) else (
    ob2 (fX12_sign M6 62 62) fun v41 M42 =>
    some (v41, M42))) fun v9 M10 =>
    ob2 (if v8 = 0 then (
    some (v5, M10)) else (
    ob2 (fX12_number M10 0 11) fun v37 M38 =>
    some (v37, M38))) fun v13 M14 =>
    (gI 12 13 M14 0).bind fun v17 =>
    (aS 30 M14 9 (2 * v17) v5).bind fun M19 =>
    (gI 12 13 M19 0).bind fun v21 =>
    (aS 30 M19 9 ((2 * v21) + 1) v13).bind fun M23 =>
    (gI 12 13 M23 0).bind fun v25 =>
    (pI 12 13 M23 0 (v25 + 1)).bind fun M27 =>
    (fX12_isNext M27 43 43).bind fun v30 =>
    if v30 = 0 then (
    fX12_readLamps_L7 n M27 v30) else (
    ob2 (fX12_sign M27 43 43) fun v33 M34 =>
    fX12_readLamps_L7 n M34 v30))
def fX12_readLamps (N : Mem) : Option Mem :=
  (pI 12 13 N 0 0).bind fun M1 =>
  (fX12_readLamps_L7 5000 M1 1).bind fun M3 =>
  ob2 (fX12_sign M3 64 64) fun v6 M7 =>
  ob2 (fX12_number M7 0 100) fun v9 M10 =>
  (pI 12 15 M10 0 v9).bind fun M11 =>
  some M11
def fX12_order (N : Mem) : Option Mem :=
  (gI 12 10 N 0).bind fun v1 =>
  (gI 12 7 N 0).bind fun v3 =>
  (if v3 ≤ v1 then (
  some (0 : Int32)) else (
  (gI 12 10 N 0).bind fun v69 =>
  (aL 30 N 6 v69).bind fun v71 =>
  some v71)).bind fun v5 =>
  (fX12_in v5 48 57).bind fun v9 =>
  if v9 = 0 then (
  (pI 12 14 N 0 v5).bind fun M11 =>
  (gI 12 11 M11 0).bind fun v13 =>
  (if v13 = 0 then (
  if v5 = 114 then (
  some (0 : Int32)) else (
  if v5 = 103 then (
  some (0 : Int32)) else (
  if v5 = 120 then (
  some (0 : Int32)) else (
  some (1 : Int32))))) else (
  some (1 : Int32))).bind fun v15 =>
  (pZ 12 11 M11 0 v15).bind fun M18 =>
  (gI 12 10 M18 0).bind fun v20 =>
  (gI 12 11 M18 0).bind fun v22 =>
  (if v22 = 0 then (
  some (1 : Int32)) else (
  some (0 : Int32))).bind fun v24 =>
  (pI 12 10 M18 0 (v20 + v24)).bind fun M27 =>
  ob2 (if v5 = 114 then (
  ob2 (fX12_sign M27 48 55) fun v53 M54 =>
  some (v53 - 48, M54)) else (
  if v5 = 103 then (
  ob2 (fX12_sign M27 48 55) fun v57 M58 =>
  some (v57 - 48, M58)) else (
  some ((0 : Int32), M27)))) fun v29 M30 =>
  (pI 12 15 M30 0 v29).bind fun M33 =>
  ob2 (if v5 = 114 then (
  ob2 (fX12_sign M33 47 47) fun v49 M50 =>
  some (v49, M50)) else (
  some ((0 : Int32), M33))) fun v35 M36 =>
  if v5 = 114 then (
  ob2 (fX12_number M36 1 50) fun v43 M44 =>
  (pI 12 16 M44 0 v43).bind fun M45 =>
  some M45) else (
  (pI 12 16 M36 0 0).bind fun M40 =>
  some M40)) else (
  (pI 12 14 N 0 64).bind fun M64 =>
  (fX12_readLamps M64).bind fun M67 =>
  some M67)
def fX12_wants_L50 : Nat → Mem → Int32 → Int32 → Int32 → Int32 → Int32 → Option ((Mem) ⊕ (Int32 × Mem))
  | 0, _, _, _, _, _, _ => none
  | n + 1, N, a1, a2, a3, a4, a5 =>
    if a5 = (a3 + a4) then (
    some (.inl N)) else (
    (fX12_isLamp N a1 a5).bind fun v15 =>
    if v15 = 0 then (
    some (.inr (0, N))) else (
    (fX12_ofLamp a1 a5 2).bind fun v18 =>
    (gI 12 15 N 0).bind fun v19 =>
    (aS 30 N 1 v18 v19).bind fun M21 =>
    lt1 (a5 + a4) fun v23 =>
    fX12_wants_L50 n M21 a1 a2 a3 a4 v23))
def fX12_wants_L2 : Nat → Mem → Int32 → Int32 → Option ((Mem) ⊕ (Int32 × Mem))
  | 0, _, _, _ => none
  | n + 1, N, a1, a2 =>
    (gI 12 13 N 0).bind fun v1 =>
    if v1 ≤ a2 then (
    some (.inl N)) else (
    (aL 30 N 9 ((2 * a2) + 1)).bind fun v4 =>
    (aL 30 N 9 (2 * a2)).bind fun v6 =>
    (if v6 ≤ v4 then (
    some (1 : Int32)) else (
    some (-1 : Int32))).bind fun v8 =>
    (aL 30 N 9 (2 * a2)).bind fun v11 =>
    (fX12_wants_L50 5000 N a1 a2 v4 v8 v11).bind fun z15 =>
    caseS z15 (fun M13 =>
    fX12_wants_L2 n M13 a1 (a2 + 1)) (fun zr => caseP zr fun v17 M18 =>
    some (.inr (v17, M18))))
def fX12_wants (N : Mem) (a1 : Int32) : Option (Int32 × Mem) :=
  (fX12_wants_L2 5000 N a1 0).bind fun z3 =>
  caseS z3 (fun M1 =>
  some (1, M1)) (fun zr => caseP zr fun v5 M6 =>
  (bz v5).bind fun b7 =>
  some (b7, M6))
def fX12_does (N : Mem) (a1 : Int32) : Option (Int32 × Mem) :=
  (gI 12 14 N 0).bind fun v1 =>
  if v1 = 64 then (
  ob2 (fX12_wants N a1) fun v5 M6 =>
  (bz v5).bind fun b7 =>
  some (b7, M6)) else (
  if v1 = 103 then (
  (gI 12 15 N 0).bind fun v10 =>
  (fX12_ofCue a1 v10).bind fun v13 =>
  (aL 30 N 1 v13).bind fun v14 =>
  if v14 ≤ 0 then (
  some (0, N)) else (
  (gI 12 15 N 0).bind fun v17 =>
  (gI 12 15 N 0).bind fun v19 =>
  (fX12_ofCue a1 v19).bind fun v22 =>
  (aL 30 N 1 v22).bind fun v23 =>
  (fX12_start N a1 v17 v23).bind fun M26 =>
  some (1, M26))) else (
  if v1 = 114 then (
  (gI 12 15 N 0).bind fun v28 =>
  (gI 12 16 N 0).bind fun v30 =>
  ob2 (fX12_records N a1 v28 v30) fun v33 M34 =>
  some (1, M34)) else (
  ob2 (fX12_resets N a1) fun v36 M37 =>
  some (1, M37))))
def fX12_goThrough_L15 : Nat → Mem → Int32 → Int32 → Int32 → Int32 → Option (Int32 × Mem)
  | 0, _, _, _, _, _ => none
  | n + 1, N, a1, a2, a3, a4 =>
    if a4 = 0 then (
    some (a3, N)) else (
    (fX12_order N).bind fun M7 =>
    ob2 (if a1 = 0 then (
    some ((0 : Int32), M7)) else (
    ob2 (fX12_does M7 a2) fun v45 M46 =>
    if v45 = 0 then (
    some ((0 : Int32), M46)) else (
    some ((1 : Int32), M46)))) fun v8 M9 =>
    (if v8 = 0 then (
    some (0 : Int32)) else (
    some (1 : Int32))).bind fun v12 =>
    lt1 (a3 + v12) fun v15 =>
    (gI 12 11 M9 0).bind fun v17 =>
    (if v17 = 0 then (
    if v8 = 0 then (
    if a1 = 0 then (
    (gI 12 10 M9 0).bind fun v37 =>
    (gI 12 7 M9 0).bind fun v39 =>
    if v39 ≤ v37 then (
    some (0 : Int32)) else (
    some (1 : Int32))) else (
    some (0 : Int32))) else (
    (gI 12 10 M9 0).bind fun v31 =>
    (gI 12 7 M9 0).bind fun v33 =>
    if v33 ≤ v31 then (
    some (0 : Int32)) else (
    some (1 : Int32)))) else (
    some (0 : Int32))).bind fun v19 =>
    if v19 = 0 then (
    fX12_goThrough_L15 n M9 a1 a2 v15 v19) else (
    ob2 (fX12_sign M9 59 59) fun v24 M25 =>
    (gI 12 11 M25 0).bind fun v26 =>
    if v26 = 0 then (
    fX12_goThrough_L15 n M25 a1 a2 v15 1) else (
    fX12_goThrough_L15 n M25 a1 a2 v15 0)))
def fX12_goThrough (N : Mem) (a1 : Int32) (a2 : Int32) : Option (Int32 × Mem) :=
  (pI 12 10 N 0 0).bind fun M1 =>
  (pZ 12 11 M1 0 0).bind fun M3 =>
  ob2 (fX12_goThrough_L15 5000 M3 a1 a2 0 1) fun v6 M5 =>
  some (v6, M5)
def fX12_fault (N : Mem) : Option (Int32 × Mem) :=
  ob2 (fX12_goThrough N 0 0) fun v2 M3 =>
  (gI 12 11 M3 0).bind fun v4 =>
  if v4 = 0 then (
  some ((-6), M3)) else (
  (gI 12 10 M3 0).bind fun v7 =>
  some (v7, M3))
def fX12_carryOut (N : Mem) (a1 : Int32) : Option (Int32 × Mem) :=
  (fX12_isPremiere a1).bind fun v2 =>
  if v2 = 0 then (
  some ((-1), N)) else (
  ob2 (fX12_goThrough N 0 0) fun v5 M6 =>
  (gI 12 11 M6 0).bind fun v7 =>
  if v7 = 0 then (
  (fX12_know M6).bind fun M11 =>
  ob2 (fX12_goThrough M11 1 a1) fun v13 M14 =>
  (pI 12 7 M14 0 0).bind fun M15 =>
  some (v13, M15)) else (
  some ((-3), M6)))
def fX12_lamp (N : Mem) (a1 : Int32) (a2 : Int32) (a3 : Int32) : Option (Int32) :=
  (fX12_isLamp N a1 a2).bind fun v2 =>
  if v2 = 0 then (
  some (-1)) else (
  if a3 = 4 then (
  (fX12_loadOfLamp N a1 a2).bind fun v13 =>
  some v13) else (
  (fX12_in a3 0 3).bind fun v6 =>
  if v6 = 0 then (
  some (-2)) else (
  (fX12_ofLamp a1 a2 a3).bind fun v9 =>
  (aL 30 N 1 v9).bind fun v10 =>
  some v10)))
def fX12_lampsOn_L5 : Nat → Mem → Int32 → Int32 → Int32 → Int32 → Option (Int32)
  | 0, _, _, _, _, _ => none
  | n + 1, N, a1, a2, a3, a4 =>
    (fX12_at1 a1 2).bind fun v2 =>
    (aL 30 N 1 v2).bind fun v3 =>
    if v3 ≤ a4 then (
    some a3) else (
    (fX12_ofLamp a1 a4 1).bind fun v7 =>
    (aL 30 N 1 v7).bind fun v8 =>
    if v8 = a2 then (
    lt1 (a3 + 1) fun v13 =>
    fX12_lampsOn_L5 n N a1 a2 v13 (a4 + 1)) else (
    lt1 (a3 + 0) fun v11 =>
    fX12_lampsOn_L5 n N a1 a2 v11 (a4 + 1)))
def fX12_lampsOn (N : Mem) (a1 : Int32) (a2 : Int32) : Option (Int32) :=
  (fX12_lampsOn_L5 5000 N a1 a2 0 0).bind fun v1 =>
  some v1
def fX12_dimmer (N : Mem) (a1 : Int32) (a2 : Int32) (a3 : Int32) : Option (Int32) :=
  (fX12_isPremiere a1).bind fun v2 =>
  if v2 = 0 then (
  some (-1)) else (
  (fX12_isDimmer a2).bind fun v5 =>
  if v5 = 0 then (
  some (-1)) else (
  if a3 = 0 then (
  (fX12_at1 a1 (75 + a2)).bind fun v9 =>
  (aL 30 N 1 v9).bind fun v10 =>
  some v10) else (
  if a3 = 1 then (
  (fX12_load N a1 a2).bind fun v14 =>
  some v14) else (
  if a3 = 2 then (
  (fX12_at1 a1 (87 + a2)).bind fun v17 =>
  (aL 30 N 1 v17).bind fun v18 =>
  some v18) else (
  if a3 = 3 then (
  (fX12_at1 a1 (102 + a2)).bind fun v22 =>
  (aL 30 N 1 v22).bind fun v23 =>
  some v23) else (
  if a3 = 4 then (
  (fX12_lampsOn N a1 a2).bind fun v27 =>
  some v27) else (
  if a3 = 5 then (
  (fX12_worst N a1 a2).bind fun v30 =>
  some v30) else (
  some (-2)))))))))
def fX12_dimmersOf_L5 : Nat → Mem → Int32 → Int32 → Int32 → Int32 → Option (Int32)
  | 0, _, _, _, _, _ => none
  | n + 1, N, a1, a2, a3, a4 =>
    if 12 ≤ a4 then (
    some a3) else (
    (fX12_at1 a1 (75 + a4)).bind fun v3 =>
    (aL 30 N 1 v3).bind fun v4 =>
    if v4 = a2 then (
    lt1 (a3 ||| (1 <<< (a4 &&& 31))) fun v9 =>
    fX12_dimmersOf_L5 n N a1 a2 v9 (a4 + 1)) else (
    lt1 (a3 ||| 0) fun v7 =>
    fX12_dimmersOf_L5 n N a1 a2 v7 (a4 + 1)))
def fX12_dimmersOf (N : Mem) (a1 : Int32) (a2 : Int32) : Option (Int32) :=
  (fX12_dimmersOf_L5 5000 N a1 a2 0 0).bind fun v1 =>
  some v1
def fX12_phase (N : Mem) (a1 : Int32) (a2 : Int32) (a3 : Int32) : Option (Int32) :=
  (fX12_isPremiere a1).bind fun v2 =>
  if v2 = 0 then (
  some (-1)) else (
  (fX12_in a2 0 2).bind fun v5 =>
  if v5 = 0 then (
  some (-1)) else (
  if a3 = 0 then (
  (fX12_load N a1 (12 + a2)).bind fun v9 =>
  some v9) else (
  if a3 = 1 then (
  (fX12_at1 a1 (99 + a2)).bind fun v12 =>
  (aL 30 N 1 v12).bind fun v13 =>
  some v13) else (
  if a3 = 2 then (
  (fX12_at1 a1 (114 + a2)).bind fun v17 =>
  (aL 30 N 1 v17).bind fun v18 =>
  some v18) else (
  if a3 = 3 then (
  (fX12_dimmersOf N a1 a2).bind fun v22 =>
  some v22) else (
  if a3 = 4 then (
  (fX12_worst N a1 (12 + a2)).bind fun v25 =>
  some v25) else (
  some (-2))))))))
def fX12_cue (N : Mem) (a1 : Int32) (a2 : Int32) (a3 : Int32) : Option (Int32) :=
  (fX12_isCue a1 a2).bind fun v2 =>
  if v2 = 0 then (
  some (-1)) else (
  (fX12_ofCue a1 a2).bind fun v5 =>
  (aL 30 N 1 v5).bind fun v6 =>
  if a3 = 0 then (
  if v6 ≤ 0 then (
  some 0) else (
  some 1)) else (
  if a3 = 1 then (
  some v6) else (
  if a3 = 2 then (
  (fX12_loadBy N a1 15 a2).bind fun v12 =>
  some v12) else (
  some (-2)))))
def fX12_inCue (N : Mem) (a1 : Int32) (a2 : Int32) (a3 : Int32) : Option (Int32) :=
  (fX12_isCue a1 a2).bind fun v2 =>
  if v2 = 0 then (
  some (-1)) else (
  (fX12_isLamp N a1 a3).bind fun v5 =>
  if v5 = 0 then (
  some (-1)) else (
  (fX12_ofCue a1 a2).bind fun v8 =>
  (aL 30 N 1 v8).bind fun v9 =>
  if v9 = 0 then (
  some (-6)) else (
  (fX12_ofCue a1 a2).bind fun v13 =>
  (aL 30 N 1 ((v13 + 1) + a3)).bind fun v14 =>
  some v14)))
def fX12_loadOf (N : Mem) (a1 : Int32) : Option (Int32) :=
  (fX12_load N a1 12).bind fun v2 =>
  (fX12_load N a1 13).bind fun v4 =>
  (fX12_load N a1 14).bind fun v6 =>
  some ((v2 + v4) + v6)
def fX12_apart_L13 : Nat → Mem → Int32 → Int32 → Int32 → Int32 → Option (Int32 × Int32)
  | 0, _, _, _, _, _ => none
  | n + 1, N, a1, a2, a3, a4 =>
    if 3 ≤ a4 then (
    some (a2, a3)) else (
    (fX12_load N a1 (12 + a4)).bind fun v5 =>
    (if a2 ≤ v5 then (
    some a2) else (
    some v5)).bind fun v6 =>
    if v5 ≤ a3 then (
    fX12_apart_L13 n N a1 v6 a3 (a4 + 1)) else (
    fX12_apart_L13 n N a1 v6 v5 (a4 + 1)))
def fX12_apart (N : Mem) (a1 : Int32) : Option (Int32) :=
  (fX12_load N a1 12).bind fun v2 =>
  ob2 (fX12_apart_L13 5000 N a1 v2 v2 1) fun v3 v4 =>
  some (v4 - v3)
def fX12_tripped_L6 : Nat → Mem → Int32 → Int32 → Int32 → Int32 → Int32 → Option (Int32)
  | 0, _, _, _, _, _, _ => none
  | n + 1, N, a1, a2, a3, a4, a5 =>
    if a3 ≤ a5 then (
    some a4) else (
    (fX12_at1 a1 ((87 + a2) + a5)).bind fun v3 =>
    (aL 30 N 1 v3).bind fun v4 =>
    lt1 (a4 ||| (v4 <<< (a5 &&& 31))) fun v6 =>
    fX12_tripped_L6 n N a1 a2 a3 v6 (a5 + 1))
def fX12_tripped (N : Mem) (a1 : Int32) (a2 : Int32) (a3 : Int32) : Option (Int32) :=
  (fX12_tripped_L6 5000 N a1 a2 a3 0 0).bind fun v1 =>
  some v1
def fX12_recorded_L4 : Nat → Mem → Int32 → Int32 → Int32 → Option (Int32)
  | 0, _, _, _, _ => none
  | n + 1, N, a1, a2, a3 =>
    if 8 ≤ a3 then (
    some a2) else (
    (fX12_ofCue a1 a3).bind fun v3 =>
    (aL 30 N 1 v3).bind fun v4 =>
    if v4 ≤ 0 then (
    lt1 (a2 ||| 0) fun v7 =>
    fX12_recorded_L4 n N a1 v7 (a3 + 1)) else (
    lt1 (a2 ||| (1 <<< (a3 &&& 31))) fun v9 =>
    fX12_recorded_L4 n N a1 v9 (a3 + 1)))
def fX12_recorded (N : Mem) (a1 : Int32) : Option (Int32) :=
  (fX12_recorded_L4 5000 N a1 0 0).bind fun v1 =>
  some v1
def fX12_of (N : Mem) (a1 : Int32) (a2 : Int32) : Option (Int32) :=
  (fX12_isPremiere a1).bind fun v2 =>
  if v2 = 0 then (
  some (-1)) else (
  if a2 = 0 then (
  (fX12_at1 a1 a2).bind fun v6 =>
  (aL 30 N 1 v6).bind fun v7 =>
  some v7) else (
  if a2 = 1 then (
  (fX12_at1 a1 a2).bind fun v11 =>
  (aL 30 N 1 v11).bind fun v12 =>
  some v12) else (
  if a2 = 2 then (
  (fX12_at1 a1 a2).bind fun v16 =>
  (aL 30 N 1 v16).bind fun v17 =>
  some v17) else (
  if a2 = 3 then (
  (fX12_recorded N a1).bind fun v21 =>
  some v21) else (
  if a2 = 4 then (
  (fX12_at1 a1 221).bind fun v24 =>
  (aL 30 N 1 v24).bind fun v25 =>
  if v25 = 0 then (
  some 0) else (
  (fX12_at1 a1 221).bind fun v29 =>
  (aL 30 N 1 v29).bind fun v30 =>
  (fX12_at1 a1 222).bind fun v33 =>
  (aL 30 N 1 v33).bind fun v34 =>
  some (v30 - v34))) else (
  if a2 = 5 then (
  (fX12_loadOf N a1).bind fun v38 =>
  some v38) else (
  if a2 = 6 then (
  (fX12_tripped N a1 0 12).bind fun v41 =>
  some v41) else (
  if a2 = 7 then (
  (fX12_tripped N a1 12 3).bind fun v44 =>
  some v44) else (
  if a2 = 8 then (
  (fX12_apart N a1).bind fun v47 =>
  some v47) else (
  some (-2)))))))))))
def fX12_needed_L14 : Nat → Mem → Int32 → Int32 → Int32 → Int32 → Int32 → Option (Int32)
  | 0, _, _, _, _, _, _ => none
  | n + 1, N, a1, a2, a3, a4, a5 =>
    (fX12_at1 a4 2).bind fun v3 =>
    (aL 30 N 1 v3).bind fun v4 =>
    if v4 ≤ a5 then (
    some a3) else (
    (fX12_at1 a4 0).bind fun v8 =>
    (aL 30 N 1 v8).bind fun v9 =>
    (fX12_at1 a4 1).bind fun v12 =>
    (aL 30 N 1 v12).bind fun v13 =>
    (fX12_in a2 v9 v13).bind fun v16 =>
    if v16 = 0 then (
    some a3) else (
    (fX12_ofLamp a4 a5 0).bind fun v19 =>
    (aL 30 N 1 v19).bind fun v20 =>
    if v20 = a1 then (
    lt1 (a3 + 1) fun v25 =>
    fX12_needed_L14 n N a1 a2 v25 a4 (a5 + 1)) else (
    lt1 (a3 + 0) fun v23 =>
    fX12_needed_L14 n N a1 a2 v23 a4 (a5 + 1))))
def fX12_needed_L5 : Nat → Mem → Int32 → Int32 → Int32 → Int32 → Option (Int32)
  | 0, _, _, _, _, _ => none
  | n + 1, N, a1, a2, a3, a4 =>
    if 3 ≤ a4 then (
    some a3) else (
    (fX12_needed_L14 5000 N a1 a2 a3 a4 0).bind fun v2 =>
    fX12_needed_L5 n N a1 a2 v2 (a4 + 1))
def fX12_needed (N : Mem) (a1 : Int32) (a2 : Int32) : Option (Int32) :=
  (fX12_needed_L5 5000 N a1 a2 0 0).bind fun v1 =>
  some v1
def fX12_hired (N : Mem) (a1 : Int32) (a2 : Int32) (a3 : Int32) : Option (Int32) :=
  (fX12_needed N a1 a2).bind fun v2 =>
  (aL 30 N 1 ((4 + (3 * a1)) + 1)).bind fun v3 =>
  (if v2 ≤ v3 then (
  some (0 : Int32)) else (
  some (v2 - v3))).bind fun v5 =>
  if a3 = 0 then (
  some v2) else (
  if a3 = 1 then (
  some v5) else (
  (aL 30 N 1 ((4 + (3 * a1)) + 2)).bind fun v10 =>
  some (v10 * (v2 - v5))))
def fX12_hire (N : Mem) (a1 : Int32) (a2 : Int32) (a3 : Int32) : Option (Int32) :=
  (aL 30 N 1 3).bind fun v1 =>
  (fX12_in a1 0 (v1 - 1)).bind fun v4 =>
  if v4 = 0 then (
  some (-1)) else (
  (fX12_in a2 0 6).bind fun v7 =>
  if v7 = 0 then (
  some (-2)) else (
  (fX12_in a3 0 2).bind fun v10 =>
  if v10 = 0 then (
  some (-2)) else (
  (fX12_hired N a1 a2 a3).bind fun v13 =>
  some v13)))
def fX12_sum_L4 : Nat → Mem → Int32 → Int32 → Int32 → Option (Int32)
  | 0, _, _, _, _ => none
  | n + 1, N, a1, a2, a3 =>
    (aL 30 N 1 3).bind fun v1 =>
    if (7 * v1) ≤ a3 then (
    some a2) else (
    (dv a3 7).bind fun v4 =>
    (rmd a3 7).bind fun v6 =>
    (fX12_hired N v4 v6 a1).bind fun v9 =>
    lt1 (a2 + v9) fun v10 =>
    fX12_sum_L4 n N a1 v10 (a3 + 1))
def fX12_sum (N : Mem) (a1 : Int32) : Option (Int32) :=
  (fX12_sum_L4 5000 N a1 0 0).bind fun v1 =>
  some v1
def fX12_fullest_L18 : Nat → Mem → Int32 → Int32 → Int32 → Int32 → Int32 → Option (Int32)
  | 0, _, _, _, _, _, _ => none
  | n + 1, N, a1, a2, a3, a4, a5 =>
    (aL 30 N 1 3).bind fun v2 =>
    if v2 ≤ a5 then (
    some a4) else (
    (fX12_needed N a5 a3).bind fun v6 =>
    lt1 (a4 + v6) fun v7 =>
    fX12_fullest_L18 n N a1 a2 a3 v7 (a5 + 1))
def fX12_fullest_L6 : Nat → Mem → Int32 → Int32 → Int32 → Option (Int32)
  | 0, _, _, _, _ => none
  | n + 1, N, a1, a2, a3 =>
    if 7 ≤ a3 then (
    some a1) else (
    (fX12_fullest_L18 5000 N a1 a2 a3 0 0).bind fun v2 =>
    (if v2 ≤ a2 then (
    some a1) else (
    some a3)).bind fun v4 =>
    if v2 ≤ a2 then (
    fX12_fullest_L6 n N v4 a2 (a3 + 1)) else (
    fX12_fullest_L6 n N v4 v2 (a3 + 1)))
def fX12_fullest (N : Mem) : Option (Int32) :=
  (fX12_fullest_L6 5000 N 0 (-1) 0).bind fun v1 =>
  some v1
def fX12_count (N : Mem) (a1 : Int32) : Option (Int32) :=
  if a1 = 0 then (
  (aL 30 N 1 3).bind fun v2 =>
  some v2) else (
  if a1 = 1 then (
  (fX12_sum N 2).bind fun v6 =>
  some v6) else (
  if a1 = 2 then (
  (fX12_sum N 1).bind fun v9 =>
  some v9) else (
  if a1 = 3 then (
  (fX12_fullest N).bind fun v12 =>
  some v12) else (
  if a1 = 4 then (
  (aL 30 N 1 ((0 + a1) - 4)).bind fun v14 =>
  some v14) else (
  if a1 = 5 then (
  (aL 30 N 1 ((0 + a1) - 4)).bind fun v17 =>
  some v17) else (
  if a1 = 6 then (
  (aL 30 N 1 ((0 + a1) - 4)).bind fun v20 =>
  some v20) else (
  if a1 = 7 then (
  (gI 12 7 N 0).bind fun v23 =>
  some v23) else (
  if a1 = 8 then (
  (gI 12 3 N 0).bind fun v26 =>
  some v26) else (
  some (-2))))))))))
def fX12_tryOut_L94 : Nat → Mem → Int32 → Int32 → Int32 → Int32 → Option (Mem)
  | 0, _, _, _, _, _ => none
  | n + 1, N, a1, a3, a4, a6 =>
    if 15 ≤ a6 then (
    some N) else (
    (fX12_load N a1 a6).bind fun v30 =>
    (if 12 ≤ a6 then (
    (gI 12 19 N 0).bind fun v51 =>
    some v51) else (
    (gI 12 19 N 0).bind fun v53 =>
    if v30 ≤ v53 then (
    (gI 12 19 N 0).bind fun v56 =>
    some v56) else (
    some v30))).bind fun v31 =>
    (pI 12 19 N 0 v31).bind fun M34 =>
    if a6 < 12 then (
    (gI 12 20 M34 0).bind fun v37 =>
    (pI 12 20 M34 0 v37).bind fun M39 =>
    fX12_tryOut_L94 n M39 a1 a3 a4 (a6 + 1)) else (
    (gI 12 20 M34 0).bind fun v41 =>
    if v30 ≤ v41 then (
    (gI 12 20 M34 0).bind fun v44 =>
    (pI 12 20 M34 0 v44).bind fun M46 =>
    fX12_tryOut_L94 n M46 a1 a3 a4 (a6 + 1)) else (
    (pI 12 20 M34 0 v30).bind fun M48 =>
    fX12_tryOut_L94 n M48 a1 a3 a4 (a6 + 1))))
def fX12_tryOut_L35 : Nat → Mem → Int32 → Int32 → Int32 → Option (Mem)
  | 0, _, _, _, _ => none
  | n + 1, N, a1, a3, a4 =>
    (aL 30 N 1 2).bind fun v13 =>
    if (a3 + v13) < a4 then (
    some N) else (
    ob2 (fX12_turn N a1) fun v17 M18 =>
    (if v17 ≤ 0 then (
    (gI 12 18 M18 0).bind fun v31 =>
    some v31) else (
    (gI 12 17 M18 0).bind fun v33 =>
    if v33 = 0 then (
    some a4) else (
    (gI 12 18 M18 0).bind fun v36 =>
    some v36))).bind fun v19 =>
    (pI 12 18 M18 0 v19).bind fun M22 =>
    (gI 12 17 M22 0).bind fun v24 =>
    (pI 12 17 M22 0 (v24 + v17)).bind fun M26 =>
    (fX12_tryOut_L94 5000 M26 a1 a3 a4 0).bind fun M28 =>
    fX12_tryOut_L35 n M28 a1 a3 (a4 + 1))
def fX12_tryOut (N : Mem) (a1 : Int32) (a2 : Int32) (a3 : Int32) : Option Mem :=
  (fX12_putAside N).bind fun M2 =>
  (pI 12 17 M2 0 0).bind fun M3 =>
  (pI 12 18 M3 0 (-6)).bind fun M5 =>
  (pI 12 19 M5 0 0).bind fun M7 =>
  (pI 12 20 M7 0 0).bind fun M9 =>
  (fX12_start M9 a1 a2 a3).bind fun M12 =>
  (fX12_tryOut_L35 5000 M12 a1 a3 1).bind fun M13 =>
  (fX12_putBack M13).bind fun M16 =>
  some M16
def fX12_ifGo (N : Mem) (a1 : Int32) (a2 : Int32) (a3 : Int32) : Option (Int32 × Mem) :=
  (fX12_isCue a1 a2).bind fun v2 =>
  if v2 = 0 then (
  some ((-1), N)) else (
  (fX12_in a3 0 3).bind fun v5 =>
  if v5 = 0 then (
  some ((-2), N)) else (
  (fX12_ofCue a1 a2).bind fun v8 =>
  (aL 30 N 1 v8).bind fun v9 =>
  if v9 = 0 then (
  some ((-5), N)) else (
  (fX12_ofCue a1 a2).bind fun v13 =>
  (aL 30 N 1 v13).bind fun v14 =>
  (fX12_tryOut N a1 a2 v14).bind fun M17 =>
  if a3 = 0 then (
  (gI 12 17 M17 0).bind fun v27 =>
  some (v27, M17)) else (
  if a3 = 1 then (
  (gI 12 18 M17 0).bind fun v25 =>
  some (v25, M17)) else (
  if a3 = 2 then (
  (gI 12 19 M17 0).bind fun v23 =>
  some (v23, M17)) else (
  (gI 12 20 M17 0).bind fun v21 =>
  some (v21, M17)))))))
def fX12_safeTicks_L16 : Nat → Mem → Int32 → Int32 → Int32 → Option ((Mem) ⊕ (Int32 × Mem))
  | 0, _, _, _, _ => none
  | n + 1, N, a1, a2, a4 =>
    if 50 < a4 then (
    some (.inl N)) else (
    (fX12_tryOut N a1 a2 a4).bind fun M6 =>
    (gI 12 17 M6 0).bind fun v7 =>
    if v7 = 0 then (
    some (.inr (a4, M6))) else (
    fX12_safeTicks_L16 n M6 a1 a2 (a4 + 1)))
def fX12_safeTicks (N : Mem) (a1 : Int32) (a2 : Int32) : Option (Int32 × Mem) :=
  (fX12_goFault N a1 a2).bind fun v2 =>
  if 0 ≤ v2 then (
  (fX12_safeTicks_L16 5000 N a1 a2 1).bind fun z6 =>
  caseS z6 (fun M4 =>
  some ((-6), M4)) (fun zr => caseP zr fun v8 M9 =>
  some (v8, M9))) else (
  some (v2, N))
def fX12_bestFeed_L67 : Nat → Mem → Int32 → Int32 → Int32 → Int32 → Int32 → Int32 → Int32 → Int32 → Option (Int32)
  | 0, _, _, _, _, _, _, _, _, _ => none
  | n + 1, N, a1, a2, a3, a4, a5, a6, a7, a8 =>
    if 3 ≤ a8 then (
    some a7) else (
    (fX12_worst N a1 (12 + a8)).bind fun v18 =>
    if v18 ≤ a7 then (
    fX12_bestFeed_L67 n N a1 a2 a3 a4 a5 a6 a7 (a8 + 1)) else (
    fX12_bestFeed_L67 n N a1 a2 a3 a4 a5 a6 v18 (a8 + 1)))
def fX12_bestFeed_L40 : Nat → Mem → Int32 → Int32 → Int32 → Int32 → Int32 → Int32 → Option (Int32 × Mem)
  | 0, _, _, _, _, _, _, _ => none
  | n + 1, N, a1, a2, a3, a4, a5, a6 =>
    if 3 ≤ a6 then (
    some (a4, N)) else (
    (fX12_at1 a1 (75 + a2)).bind fun v13 =>
    (aS 30 N 1 v13 a6).bind fun M14 =>
    (fX12_bestFeed_L67 5000 M14 a1 a2 a3 a4 a5 a6 0 0).bind fun v16 =>
    (if a4 = (-6) then (
    some (1 : Int32)) else (
    if a5 ≤ v16 then (
    some (0 : Int32)) else (
    some (1 : Int32)))).bind fun v18 =>
    (if v18 = 0 then (
    some a4) else (
    some a6)).bind fun v21 =>
    if v18 = 0 then (
    fX12_bestFeed_L40 n M14 a1 a2 a3 v21 a5 (a6 + 1)) else (
    fX12_bestFeed_L40 n M14 a1 a2 a3 v21 v16 (a6 + 1)))
def fX12_bestFeed (N : Mem) (a1 : Int32) (a2 : Int32) : Option (Int32 × Mem) :=
  (fX12_isPremiere a1).bind fun v2 =>
  if v2 = 0 then (
  some ((-1), N)) else (
  (fX12_isDimmer a2).bind fun v5 =>
  if v5 = 0 then (
  some ((-1), N)) else (
  (fX12_at1 a1 (75 + a2)).bind fun v8 =>
  (aL 30 N 1 v8).bind fun v9 =>
  ob2 (fX12_bestFeed_L40 5000 N a1 a2 v9 (-6) 0 0) fun v12 M11 =>
  (fX12_at1 a1 (75 + a2)).bind fun v15 =>
  (aS 30 M11 1 v15 v9).bind fun M16 =>
  some (v12, M16)))
def fX12_ifDays (N : Mem) (a1 : Int32) (a2 : Int32) (a3 : Int32) : Option (Int32 × Mem) :=
  (fX12_isPremiere a1).bind fun v2 =>
  if v2 = 0 then (
  some ((-1), N)) else (
  (fX12_in a2 0 6).bind fun v5 =>
  if v5 = 0 then (
  some ((-2), N)) else (
  (fX12_in a3 a2 6).bind fun v8 =>
  if v8 = 0 then (
  some ((-2), N)) else (
  (fX12_at1 a1 0).bind fun v11 =>
  (aL 30 N 1 v11).bind fun v12 =>
  (fX12_at1 a1 1).bind fun v15 =>
  (aL 30 N 1 v15).bind fun v16 =>
  (fX12_at1 a1 0).bind fun v19 =>
  (aS 30 N 1 v19 a2).bind fun M20 =>
  (fX12_at1 a1 1).bind fun v23 =>
  (aS 30 M20 1 v23 a3).bind fun M24 =>
  (fX12_sum M24 1).bind fun v27 =>
  (fX12_at1 a1 0).bind fun v29 =>
  (aS 30 M24 1 v29 v12).bind fun M30 =>
  (fX12_at1 a1 1).bind fun v33 =>
  (aS 30 M30 1 v33 v16).bind fun M34 =>
  some (v27, M34))))
def fX12_lamps (N : Mem) : Option (Int32) :=
  (fX12_at1 0 2).bind fun v2 =>
  (aL 30 N 1 v2).bind fun v3 =>
  (fX12_at1 1 2).bind fun v6 =>
  (aL 30 N 1 v6).bind fun v7 =>
  (fX12_at1 2 2).bind fun v10 =>
  (aL 30 N 1 v10).bind fun v11 =>
  some ((v3 + v7) + v11)
def fX12_undo_L22 : Nat → Mem → Int32 → Option (Mem)
  | 0, _, _ => none
  | n + 1, N, a1 =>
    if 691 ≤ a1 then (
    some N) else (
    (gI 12 3 N 0).bind fun v9 =>
    (aL 30 N 3 ((691 * v9) + a1)).bind fun v11 =>
    (aS 30 N 1 a1 v11).bind fun M13 =>
    fX12_undo_L22 n M13 (a1 + 1))
def fX12_undo (N : Mem) : Option (Int32 × Mem) :=
  (gI 12 3 N 0).bind fun v1 =>
  if v1 = 0 then (
  some ((-5), N)) else (
  (gI 12 3 N 0).bind fun v4 =>
  (pI 12 3 N 0 (v4 - 1)).bind fun M6 =>
  (fX12_undo_L22 5000 M6 0).bind fun M8 =>
  (gI 12 3 M8 0).bind fun v10 =>
  some (v10, M8))
def fX12_save_L14 : Nat → Mem → Int32 → Int32 → Option (Mem)
  | 0, _, _, _ => none
  | n + 1, N, a1, a2 =>
    if 691 ≤ a2 then (
    some N) else (
    (aL 30 N 1 a2).bind fun v5 =>
    (aS 30 N 4 ((691 * a1) + a2) v5).bind fun M7 =>
    fX12_save_L14 n M7 a1 (a2 + 1))
def fX12_save (N : Mem) (a1 : Int32) : Option (Int32 × Mem) :=
  (fX12_in a1 0 1).bind fun v2 =>
  if v2 = 0 then (
  some ((-2), N)) else (
  (fX12_save_L14 5000 N a1 0).bind fun M4 =>
  (zS 31 M4 5 a1 1).bind fun M6 =>
  (fX12_lamps M6).bind fun v9 =>
  some (v9, M6))
def fX12_restore_L30 : Nat → Mem → Int32 → Int32 → Option (Mem)
  | 0, _, _, _ => none
  | n + 1, N, a1, a2 =>
    if 691 ≤ a2 then (
    some N) else (
    (aL 30 N 4 ((691 * a1) + a2)).bind fun v10 =>
    (aS 30 N 1 a2 v10).bind fun M12 =>
    fX12_restore_L30 n M12 a1 (a2 + 1))
def fX12_restore (N : Mem) (a1 : Int32) : Option (Int32 × Mem) :=
  (fX12_in a1 0 1).bind fun v2 =>
  if v2 = 0 then (
  some ((-2), N)) else (
  (aL 31 N 5 a1).bind fun v4 =>
  if v4 = 0 then (
  some ((-5), N)) else (
  (fX12_know N).bind fun M8 =>
  (fX12_restore_L30 5000 M8 a1 0).bind fun M9 =>
  (fX12_lamps M9).bind fun v12 =>
  some (v12, M9)))
