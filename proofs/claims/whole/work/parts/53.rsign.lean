/-! the reference's signs and numbers -/
def PadR (len : Nat) (pd : Nat → Nat) (N : Mem) : Prop := len ≤ 60 ∧ N 0 7 = nI len ∧ ∀ j, j < len → 33 ≤ pd j ∧ pd j ≤ 126 ∧ N 6 j = nI (pd j)
def AtR (len : Nat) (pd : Nat → Nat) (N : Mem) (i : Nat) : Prop := PadR len pd N ∧ N 0 10 = nI i ∧ N 0 11 = 0 ∧ i ≤ len
def WrR (len : Nat) (pd : Nat → Nat) (N : Mem) (i : Nat) : Prop := PadR len pd N ∧ N 0 10 = nI i ∧ N 0 11 = 1 ∧ i ≤ len
def KeepS (N N' : Mem) : Prop := (∀ x, x ≠ 0 → N' x = N x) ∧ ∀ k, k ≠ 10 → k ≠ 11 → N' 0 k = N 0 k
theorem KeepS.rf {N : Mem} : KeepS N N := ⟨fun _ _ => rfl, fun _ _ _ => rfl⟩
theorem KeepS.tr {N1 N2 N3 : Mem} (h1 : KeepS N1 N2) (h2 : KeepS N2 N3) : KeepS N1 N3 := ⟨fun x hx => (h2.1 x hx).trans (h1.1 x hx), fun k a b => (h2.2 k a b).trans (h1.2 k a b)⟩
def sgM (N : Mem) (w i : Nat) : Mem := up2 (up2 N 0 11 (nI w)) 0 10 (nI i)
theorem sgM_keep {N : Mem} {w i : Nat} : KeepS N (sgM N w i) := ⟨fun x hx => by unfold sgM; rw [up2_ne hx, up2_ne hx], fun k a b => by unfold sgM; rw [n0_ne a, n0_ne b]⟩
theorem PadR_k {len : Nat} {pd : Nat → Nat} {N N' : Mem} (h : PadR len pd N) (hk : KeepS N N') : PadR len pd N' := ⟨h.1, by rw [hk.2 7 (by omega) (by omega)]; exact h.2.1, fun j hj => by rw [hk.1 6 (by omega)]; exact h.2.2 j hj⟩
theorem sgM_at {len : Nat} {pd : Nat → Nat} {N : Mem} {i : Nat} (h : PadR len pd N) (hi : i ≤ len) : AtR len pd (sgM N 0 i) i := ⟨PadR_k h sgM_keep, by unfold sgM; rw [n0_eq], by unfold sgM; rw [n0_ne (by omega), n0_eq]; rfl, hi⟩
theorem sgM_wr {len : Nat} {pd : Nat → Nat} {N : Mem} {i : Nat} (h : PadR len pd N) (hi : i ≤ len) : WrR len pd (sgM N 1 i) i := ⟨PadR_k h sgM_keep, by unfold sgM; rw [n0_eq], by unfold sgM; rw [n0_ne (by omega), n0_eq]; rfl, hi⟩
theorem sgHere {len : Nat} {pd : Nat → Nat} {N : Mem} {i : Nat} (h : PadR len pd N) (hi : i ≤ len) (h10 : N 0 10 = nI i) : ((gI 12 10 N 0).bind fun v1 => (gI 12 7 N 0).bind fun v3 => if v3 ≤ v1 then some (0 : Int32) else (gI 12 10 N 0).bind fun v29 => (aL 30 N 6 v29).bind fun v31 => some v31) = some (nI (sg len pd i)) := by
  have h60 := h.1
  rw [n_gI, n_gI, ob_some, ob_some, ob_some, h10, h.2.1]
  unfold sg
  by_cases hl : i < len
  · rw [if_neg (fun q => by have := (nI_leE (by omega) (by omega)).mp q; omega), if_pos hl]
    refine ob_in (aL_ok (n := 60) rfl rfl (by omega) (by omega)) ?_
    rw [(h.2.2 i hl).2.2]
  · rw [if_pos ((nI_leE (by omega) (by omega)).mpr (by omega)), if_neg hl]
    rfl
theorem sg_bd {len : Nat} {pd : Nat → Nat} {N : Mem} {i : Nat} (h : PadR len pd N) : sg len pd i ≤ 126 := by
  unfold sg
  by_cases hl : i < len
  · rw [if_pos hl]
    exact (h.2.2 i hl).2.1
  · rw [if_neg hl]
    omega
theorem inR {a b c : Nat} (ha : a < 2 ^ 31) (hb : b < 2 ^ 31) (hc : c < 2 ^ 31) : fX12_in (nI a) (nI b) (nI c) = some (if b ≤ a ∧ a ≤ c then 1 else 0) := by
  rw [in_ok]
  by_cases h : b ≤ a ∧ a ≤ c
  · rw [if_pos h, if_pos ⟨(nI_leE hb ha).mpr h.1, (nI_leE ha hc).mpr h.2⟩]
  · rw [if_neg h, if_neg (fun z => h ⟨(nI_leE hb ha).mp z.1, (nI_leE ha hc).mp z.2⟩)]
theorem pZ_ok {N : Mem} {k : Nat} {v : Int32} (h : v = 0 ∨ v = 1) : pZ 12 k N 0 v = some (up2 N 0 k v) := if_pos ⟨rfl, h⟩
theorem signR_w {len : Nat} {pd : Nat → Nat} {N : Mem} {i : Nat} {lo hi : Int32} (h : WrR len pd N i) : fX12_sign N lo hi = some (nI (sg len pd i), sgM N 1 i) := by
  obtain ⟨hP, h10, h11, hi⟩ := h
  have hs := sgHere hP hi h10
  unfold fX12_sign
  rw [n_gI, n_gI, ob_some, ob_some] at hs ⊢
  refine ob_in hs ?_
  rw [n_gI, ob_some, h11, if_neg (by decide), ob_some, pZ_ok (Or.inr rfl), ob_some, n_gI, n_gI, ob_some, ob_some, n0_ne (k := 11) (q := 10) (by omega), n0_eq, if_neg (by decide), n_pI, ob_some, h10, Int32.add_zero]
  rfl
theorem signR_ok {len : Nat} {pd : Nat → Nat} {N : Mem} {i lo hi : Nat} (h : AtR len pd N i) (hlo : 1 ≤ lo) (hlo2 : lo ≤ 126) (hhi : hi ≤ 126) : (lo ≤ sg len pd i ∧ sg len pd i ≤ hi → fX12_sign N (nI lo) (nI hi) = some (nI (sg len pd i), sgM N 0 (i + 1)) ∧ i < len) ∧ (¬ (lo ≤ sg len pd i ∧ sg len pd i ≤ hi) → fX12_sign N (nI lo) (nI hi) = some (nI (sg len pd i), sgM N 1 i)) := by
  obtain ⟨hP, h10, h11, hi'⟩ := h
  have hs := sgHere hP hi' h10
  have hb := sg_bd (i := i) hP
  rw [n_gI, n_gI, ob_some, ob_some] at hs
  refine ⟨fun hin => ⟨?_, ?_⟩, fun hin => ?_⟩
  · unfold fX12_sign
    rw [n_gI, n_gI, ob_some, ob_some]
    refine ob_in hs ?_
    rw [n_gI, ob_some, h11, if_pos rfl, inR (by omega) (by omega) (by omega), ob_some, b01, if_pos hin, ob_some, pZ_ok (Or.inl rfl), ob_some, n_gI, n_gI, ob_some, ob_some, n0_ne (k := 11) (q := 10) (by omega), n0_eq, if_pos rfl, n_pI, ob_some, h10, li1, nI_addE]
    rfl
  · unfold sg at hin
    by_cases hl : i < len
    · exact hl
    · rw [if_neg hl] at hin
      omega
  · unfold fX12_sign
    rw [n_gI, n_gI, ob_some, ob_some]
    refine ob_in hs ?_
    rw [n_gI, ob_some, h11, if_pos rfl, inR (by omega) (by omega) (by omega), ob_some, b01, if_neg hin, ob_some, pZ_ok (Or.inr rfl), ob_some, n_gI, n_gI, ob_some, ob_some, n0_ne (k := 11) (q := 10) (by omega), n0_eq, if_neg (by decide), n_pI, ob_some, h10, Int32.add_zero]
    rfl
theorem nextR_w {len : Nat} {pd : Nat → Nat} {N : Mem} {i : Nat} {lo hi : Int32} (h : WrR len pd N i) : fX12_isNext N lo hi = some 0 := by
  unfold fX12_isNext
  rw [n_gI, ob_some, h.2.2.1]
  exact if_neg (by decide)
theorem nextR_ok {len : Nat} {pd : Nat → Nat} {N : Mem} {i lo hi : Nat} (h : AtR len pd N i) (hlo : 1 ≤ lo) (hlo2 : lo ≤ 126) (hhi : hi ≤ 126) : fX12_isNext N (nI lo) (nI hi) = some (if lo ≤ sg len pd i ∧ sg len pd i ≤ hi then 1 else 0) := by
  obtain ⟨hP, h10, h11, hi'⟩ := h
  have hb := sg_bd (i := i) hP
  have h60 := hP.1
  unfold fX12_isNext
  rw [n_gI, n_gI, n_gI, ob_some, ob_some, ob_some, ob_some, h11, if_pos rfl, h10, hP.2.1]
  by_cases hl : i < len
  · have e : sg len pd i = pd i := if_pos hl
    rw [if_neg (fun q => by have := (nI_leE (by omega) (by omega)).mp q; omega)]
    refine ob_in (aL_ok (n := 60) rfl rfl (by omega) (by omega)) ?_
    rw [(hP.2.2 i hl).2.2, e]
    rw [e] at hb
    rw [inR (by omega) (by omega) (by omega), ob_some, b01]
    split <;> rfl
  · have e : sg len pd i = 0 := if_neg hl
    rw [if_pos ((nI_leE (by omega) (by omega)).mpr (by omega)), e, if_neg (by omega)]
