/-! the reference's rows: history, slots, aside -/
theorem sh30 {i : Nat} (h : i = 1 ∨ i = 2 ∨ i = 3 ∨ i = 4 ∨ i = 6 ∨ i = 7 ∨ i = 8 ∨ i = 9) : shp i = 30 := by
  rcases h with rfl | rfl | rfl | rfl | rfl | rfl | rfl | rfl <;> rfl
theorem n_gI {k : Nat} {N : Mem} : gI 12 k N 0 = some (N 0 k) := rfl
theorem n_pI {k : Nat} {N : Mem} {v : Int32} : pI 12 k N 0 v = some (up2 N 0 k v) := rfl
theorem kn11 : ∀ (d k F : Nat) (N : Mem), k + d = 3455 → d < F → fX12_know_L11 F N (nI k) = some (setR N 3 (k) (3455) (fun j => N 3 (691 + j))) := by
  intro d
  induction d with
  | zero =>
    intro k F N hk hF
    obtain ⟨F, rfl⟩ : ∃ F', F = F' + 1 := ⟨F - 1, by omega⟩
    rw [fX12_know_L11, li3455, if_pos ((nI_leE (by omega) (by omega)).mpr (by omega))]
    rw [show k = 3455 by omega, setR_none]
  | succ d ih =>
    intro k F N hk hF
    obtain ⟨F, rfl⟩ : ∃ F', F = F' + 1 := ⟨F - 1, by omega⟩
    rw [fX12_know_L11, li3455, if_neg (fun h => by have := (nI_leE (by omega) (by omega)).mp h; omega)]
    rw [li691, nI_addE]
    refine ob_in (aL_ok (n := 4146) (sh30 (by omega)) rfl (by omega) (by omega)) ?_
    refine ob_in (aS_ok (n := 4146) (sh30 (by omega)) rfl (by omega) (by omega)) ?_
    rw [li1, nI_addE, ih (k + 1) F _ (by omega) (by omega)]
    congr 1
    exact setR_step (by omega) rfl (fun j h1 _ => by rw [up2_ap, if_pos rfl, if_neg (by omega)])

theorem kn52 {v : Nat} (hv : v < 6) : ∀ (d k F : Nat) (N : Mem), k + d = 691 → d < F → N 0 3 = nI v → fX12_know_L52 F N (nI k) = some (setR N 3 (691 * v + k) (691 * v + 691) (fun j => N 1 (j - 691 * v))) := by
  intro d
  induction d with
  | zero =>
    intro k F N hk hF hN
    obtain ⟨F, rfl⟩ : ∃ F', F = F' + 1 := ⟨F - 1, by omega⟩
    rw [fX12_know_L52, li691, if_pos ((nI_leE (by omega) (by omega)).mpr (by omega))]
    rw [show k = 691 by omega, setR_none]
  | succ d ih =>
    intro k F N hk hF hN
    obtain ⟨F, rfl⟩ : ∃ F', F = F' + 1 := ⟨F - 1, by omega⟩
    rw [fX12_know_L52, li691, if_neg (fun h => by have := (nI_leE (by omega) (by omega)).mp h; omega)]
    refine ob_in n_gI ?_
    rw [hN]
    refine ob_in (aL_ok (n := 691) (sh30 (by omega)) rfl (by omega) (by omega)) ?_
    rw [nI_mulE, nI_addE]
    refine ob_in (aS_ok (n := 4146) (sh30 (by omega)) rfl (by omega) (by omega)) ?_
    rw [li1, nI_addE, ih (k + 1) F _ (by omega) (by omega) (by rw [up2_ne (by omega)]; exact hN)]
    congr 1
    exact setR_step (by omega) (by rw [show 691 * v + k - 691 * v = k by omega]) (fun j _ _ => by rw [up2_ne (by omega)])

theorem pa2 : ∀ (d k F : Nat) (N : Mem), k + d = 691 → d < F → fX12_putAside_L2 F N (nI k) = some (setR N 2 (k) (691) (fun j => N 1 j)) := by
  intro d
  induction d with
  | zero =>
    intro k F N hk hF
    obtain ⟨F, rfl⟩ : ∃ F', F = F' + 1 := ⟨F - 1, by omega⟩
    rw [fX12_putAside_L2, li691, if_pos ((nI_leE (by omega) (by omega)).mpr (by omega))]
    rw [show k = 691 by omega, setR_none]
  | succ d ih =>
    intro k F N hk hF
    obtain ⟨F, rfl⟩ : ∃ F', F = F' + 1 := ⟨F - 1, by omega⟩
    rw [fX12_putAside_L2, li691, if_neg (fun h => by have := (nI_leE (by omega) (by omega)).mp h; omega)]
    refine ob_in (aL_ok (n := 691) (sh30 (by omega)) rfl (by omega) (by omega)) ?_
    refine ob_in (aS_ok (n := 691) (sh30 (by omega)) rfl (by omega) (by omega)) ?_
    rw [li1, nI_addE, ih (k + 1) F _ (by omega) (by omega)]
    congr 1
    exact setR_step (by omega) rfl (fun j _ _ => by rw [up2_ne (by omega)])

theorem pb2 : ∀ (d k F : Nat) (N : Mem), k + d = 691 → d < F → fX12_putBack_L2 F N (nI k) = some (setR N 1 (k) (691) (fun j => N 2 j)) := by
  intro d
  induction d with
  | zero =>
    intro k F N hk hF
    obtain ⟨F, rfl⟩ : ∃ F', F = F' + 1 := ⟨F - 1, by omega⟩
    rw [fX12_putBack_L2, li691, if_pos ((nI_leE (by omega) (by omega)).mpr (by omega))]
    rw [show k = 691 by omega, setR_none]
  | succ d ih =>
    intro k F N hk hF
    obtain ⟨F, rfl⟩ : ∃ F', F = F' + 1 := ⟨F - 1, by omega⟩
    rw [fX12_putBack_L2, li691, if_neg (fun h => by have := (nI_leE (by omega) (by omega)).mp h; omega)]
    refine ob_in (aL_ok (n := 691) (sh30 (by omega)) rfl (by omega) (by omega)) ?_
    refine ob_in (aS_ok (n := 691) (sh30 (by omega)) rfl (by omega) (by omega)) ?_
    rw [li1, nI_addE, ih (k + 1) F _ (by omega) (by omega)]
    congr 1
    exact setR_step (by omega) rfl (fun j _ _ => by rw [up2_ne (by omega)])

theorem un22 {v : Nat} (hv : v < 6) : ∀ (d k F : Nat) (N : Mem), k + d = 691 → d < F → N 0 3 = nI v → fX12_undo_L22 F N (nI k) = some (setR N 1 (k) (691) (fun j => N 3 (691 * v + j))) := by
  intro d
  induction d with
  | zero =>
    intro k F N hk hF hN
    obtain ⟨F, rfl⟩ : ∃ F', F = F' + 1 := ⟨F - 1, by omega⟩
    rw [fX12_undo_L22, li691, if_pos ((nI_leE (by omega) (by omega)).mpr (by omega))]
    rw [show k = 691 by omega, setR_none]
  | succ d ih =>
    intro k F N hk hF hN
    obtain ⟨F, rfl⟩ : ∃ F', F = F' + 1 := ⟨F - 1, by omega⟩
    rw [fX12_undo_L22, li691, if_neg (fun h => by have := (nI_leE (by omega) (by omega)).mp h; omega)]
    refine ob_in n_gI ?_
    rw [hN, nI_mulE, nI_addE]
    refine ob_in (aL_ok (n := 4146) (sh30 (by omega)) rfl (by omega) (by omega)) ?_
    refine ob_in (aS_ok (n := 691) (sh30 (by omega)) rfl (by omega) (by omega)) ?_
    rw [li1, nI_addE, ih (k + 1) F _ (by omega) (by omega) (by rw [up2_ne (by omega)]; exact hN)]
    congr 1
    exact setR_step (by omega) rfl (fun j _ _ => by rw [up2_ne (by omega)])

theorem sv14 {v : Nat} (hv : v < 2) : ∀ (d k F : Nat) (N : Mem), k + d = 691 → d < F → fX12_save_L14 F N (nI v) (nI k) = some (setR N 4 (691 * v + k) (691 * v + 691) (fun j => N 1 (j - 691 * v))) := by
  intro d
  induction d with
  | zero =>
    intro k F N hk hF
    obtain ⟨F, rfl⟩ : ∃ F', F = F' + 1 := ⟨F - 1, by omega⟩
    rw [fX12_save_L14, li691, if_pos ((nI_leE (by omega) (by omega)).mpr (by omega))]
    rw [show k = 691 by omega, setR_none]
  | succ d ih =>
    intro k F N hk hF
    obtain ⟨F, rfl⟩ : ∃ F', F = F' + 1 := ⟨F - 1, by omega⟩
    rw [fX12_save_L14, li691, if_neg (fun h => by have := (nI_leE (by omega) (by omega)).mp h; omega)]
    refine ob_in (aL_ok (n := 691) (sh30 (by omega)) rfl (by omega) (by omega)) ?_
    rw [nI_mulE, nI_addE]
    refine ob_in (aS_ok (n := 1382) (sh30 (by omega)) rfl (by omega) (by omega)) ?_
    rw [li1, nI_addE, ih (k + 1) F _ (by omega) (by omega)]
    congr 1
    exact setR_step (by omega) (by rw [show 691 * v + k - 691 * v = k by omega]) (fun j _ _ => by rw [up2_ne (by omega)])

theorem re30 {v : Nat} (hv : v < 2) : ∀ (d k F : Nat) (N : Mem), k + d = 691 → d < F → fX12_restore_L30 F N (nI v) (nI k) = some (setR N 1 (k) (691) (fun j => N 4 (691 * v + j))) := by
  intro d
  induction d with
  | zero =>
    intro k F N hk hF
    obtain ⟨F, rfl⟩ : ∃ F', F = F' + 1 := ⟨F - 1, by omega⟩
    rw [fX12_restore_L30, li691, if_pos ((nI_leE (by omega) (by omega)).mpr (by omega))]
    rw [show k = 691 by omega, setR_none]
  | succ d ih =>
    intro k F N hk hF
    obtain ⟨F, rfl⟩ : ∃ F', F = F' + 1 := ⟨F - 1, by omega⟩
    rw [fX12_restore_L30, li691, if_neg (fun h => by have := (nI_leE (by omega) (by omega)).mp h; omega)]
    rw [nI_mulE, nI_addE]
    refine ob_in (aL_ok (n := 1382) (sh30 (by omega)) rfl (by omega) (by omega)) ?_
    refine ob_in (aS_ok (n := 691) (sh30 (by omega)) rfl (by omega) (by omega)) ?_
    rw [li1, nI_addE, ih (k + 1) F _ (by omega) (by omega)]
    congr 1
    exact setR_step (by omega) rfl (fun j _ _ => by rw [up2_ne (by omega)])

/-- the reference's memory behind know() -/
def knN (N : Mem) (n : Nat) : Mem := if n = 6 then up2 (setR (up2 (setR N 3 0 3455 (fun j => N 3 (691 + j))) 0 3 (nI 5)) 3 (691 * 5 + 0) (691 * 5 + 691) (fun j => N 1 (j - 691 * 5))) 0 3 (nI 6)
  else up2 (setR N 3 (691 * n + 0) (691 * n + 691) (fun j => N 1 (j - 691 * n))) 0 3 (nI (n + 1))
theorem know_ok {N : Mem} {n : Nat} (hn : n ≤ 6) (hN : N 0 3 = nI n) : fX12_know N = some (knN N n) := by
  unfold fX12_know knN
  refine ob_in n_gI ?_
  rw [hN, li6]
  by_cases h6 : n = 6
  · subst h6
    rw [if_pos rfl, if_pos rfl]
    refine ob_in (v := up2 (setR N 3 0 3455 (fun j => N 3 (691 + j))) 0 3 (nI 5)) ?_ ?_
    · refine ob_in (kn11 3455 0 5000 N (by omega) (by omega)) ?_
      refine ob_in n_gI ?_
      refine ob_in n_pI ?_
      rw [setR_other (by omega), hN, li1, nI_subE (by omega)]
    · refine ob_in (kn52 (v := 5) (by omega) 691 0 5000 _ (by omega) (by omega) (by rw [up2_same, if_pos rfl])) ?_
      refine ob_in n_gI ?_
      refine ob_in n_pI ?_
      rw [setR_other (by omega), up2_same, if_pos rfl, li1, nI_addE]
      rfl
  · rw [if_neg (fun h => h6 ((nI_eqE (by omega) (by omega)).mp h)), if_neg h6]
    refine ob_in (v := N) rfl ?_
    refine ob_in (kn52 (v := n) (by omega) 691 0 5000 _ (by omega) (by omega) hN) ?_
    refine ob_in n_gI ?_
    refine ob_in n_pI ?_
    rw [setR_other (by omega), hN, li1, nI_addE]
