/-! the relation of both memories -/
def Hist (M N : Mem) (n : Nat) (h : Nat → Nat) (hs : Nat → SA × PA) : Prop := n ≤ 6 ∧ M 12 1 = nI n ∧ N 0 3 = nI n ∧ (∀ j, j < 6 → 1 ≤ h j ∧ h j ≤ 6 ∧ M 13 j = nI (st (h j) 0)) ∧ (∀ i j, i < 6 → j < 6 → h i = h j → i = j) ∧ ∀ j, j < n → CS M (h j) (hs j).1 (hs j).2 ∧ RS (fun k => N 3 (691 * j + k)) (hs j).1 (hs j).2 ∧ WS1 (hs j).1 (hs j).2
def Slots (M N : Mem) (m : Nat) (sl : Nat → SA × PA) : Prop := m < 4 ∧ M 10 3 = nI m ∧ ∀ j, j < 2 → M 11 j = nI (st (7 + j) 0) ∧ N 5 j = nI (m / 2 ^ j % 2) ∧ (m / 2 ^ j % 2 = 1 → CS M (7 + j) (sl j).1 (sl j).2 ∧ RS (fun k => N 4 (691 * j + k)) (sl j).1 (sl j).2 ∧ WS1 (sl j).1 (sl j).2)
def Padr (M N : Mem) (len : Nat) (pd : Nat → Nat) : Prop := len ≤ 60 ∧ M 15 1 = nI len ∧ N 0 7 = nI len ∧ ∀ j, j < len → 33 ≤ pd j ∧ pd j ≤ 126 ∧ M 16 j = nI (pd j) ∧ N 6 j = nI (pd j)
def Live (M N : Mem) (T : SA) (A : PA) : Prop := CS M 0 T A ∧ RS (N 1) T A ∧ WS1 T A
/-- the rest -/
def Rst (M N : Mem) (n : Nat) : Prop := (∃ h hs, Hist M N n h hs) ∧ (∃ m sl, Slots M N m sl) ∧ ∃ len pd, Padr M N len pd
def Rel (M N : Mem) : Prop := (∃ T A, Live M N T A) ∧ ∃ n, Rst M N n
/-- the class's cells that belong to the rest -/
def KM (x : Nat) : Prop := (10 ≤ x ∧ x ≤ 13) ∨ x = 15 ∨ x = 16 ∨ (41 ≤ x ∧ x < 97) ∨ (166 ≤ x ∧ x < 718)
def Keep (M M' : Mem) : Prop := ∀ x, KM x → M' x = M x
/-- the reference's -/
def KeepN (N N' : Mem) : Prop := N' 0 3 = N 0 3 ∧ N' 0 7 = N 0 7 ∧ N' 3 = N 3 ∧ N' 4 = N 4 ∧ N' 5 = N 5 ∧ N' 6 = N 6
theorem Keep.rf {M : Mem} : Keep M M := fun _ _ => rfl
theorem Keep.tr {M1 M2 M3 : Mem} (h1 : Keep M1 M2) (h2 : Keep M2 M3) : Keep M1 M3 := fun x hx => (h2 x hx).trans (h1 x hx)
theorem KeepN.rf {N : Mem} : KeepN N N := ⟨rfl, rfl, rfl, rfl, rfl, rfl⟩
theorem KeepN.tr {N1 N2 N3 : Mem} (h1 : KeepN N1 N2) (h2 : KeepN N2 N3) : KeepN N1 N3 := ⟨h2.1.trans h1.1, h2.2.1.trans h1.2.1, h2.2.2.1.trans h1.2.2.1, h2.2.2.2.1.trans h1.2.2.2.1, h2.2.2.2.2.1.trans h1.2.2.2.2.1, h2.2.2.2.2.2.trans h1.2.2.2.2.2⟩
theorem Keep.up {M : Mem} {i k : Nat} {v : Int32} (h : ¬ KM i) : Keep M (up2 M i k v) := fun x hx => up2_ne (fun z => h (z ▸ hx))
theorem Keep.set {M : Mem} {i k m : Nat} {f : Nat → Int32} (h : ¬ KM i) : Keep M (setR M i k m f) := fun x hx => setR_other (fun z => h (z ▸ hx))
theorem KM_pq {q o : Nat} (ho : o < 23) (h : q < 3 ∨ q = 27) : ¬ KM (pq q o) := by
  unfold KM pq
  omega
theorem KM_st {o : Nat} (ho : o < 7) : ¬ KM (st 0 o) := by
  unfold KM st
  omega
theorem CS_keep {M M' : Mem} {b : Nat} {T : SA} {A : PA} (hk : Keep M M') (hb : 1 ≤ b) (hb9 : b < 9) (h : CS M b T A) : CS M' b T A :=
  CS_congr h (fun o ho => hk _ (by unfold KM st; omega)) (fun p o hp ho => hk _ (by unfold KM pq; omega))
theorem Hist_keep {M N M' N' : Mem} {n : Nat} {h : Nat → Nat} {hs : Nat → SA × PA} (H : Hist M N n h hs) (hk : Keep M M') (hn : KeepN N N') : Hist M' N' n h hs := by
  obtain ⟨h1, h2, h3, h4, h5, h6⟩ := H
  refine ⟨h1, by rw [hk 12 (by unfold KM; omega), h2], by rw [hn.1, h3], fun j hj => ⟨(h4 j hj).1, (h4 j hj).2.1, by rw [hk 13 (by unfold KM; omega), (h4 j hj).2.2]⟩, h5, fun j hj => ⟨CS_keep hk (h4 j (by omega)).1 (by have := (h4 j (by omega)).2.1; omega) (h6 j hj).1, by rw [hn.2.2.1]; exact (h6 j hj).2.1, (h6 j hj).2.2⟩⟩
theorem Slots_keep {M N M' N' : Mem} {m : Nat} {sl : Nat → SA × PA} (H : Slots M N m sl) (hk : Keep M M') (hn : KeepN N N') : Slots M' N' m sl := by
  obtain ⟨h1, h2, h3⟩ := H
  refine ⟨h1, by rw [hk 10 (by unfold KM; omega), h2], fun j hj => ⟨by rw [hk 11 (by unfold KM; omega), (h3 j hj).1], by rw [hn.2.2.2.2.1, (h3 j hj).2.1], fun hm => ⟨CS_keep hk (by omega) (by omega) ((h3 j hj).2.2 hm).1, by rw [hn.2.2.2.1]; exact ((h3 j hj).2.2 hm).2.1, ((h3 j hj).2.2 hm).2.2⟩⟩⟩
theorem Padr_keep {M N M' N' : Mem} {len : Nat} {pd : Nat → Nat} (H : Padr M N len pd) (hk : Keep M M') (hn : KeepN N N') : Padr M' N' len pd := by
  obtain ⟨h1, h2, h3, h4⟩ := H
  exact ⟨h1, by rw [hk 15 (by unfold KM; omega), h2], by rw [hn.2.1, h3], fun j hj => ⟨(h4 j hj).1, (h4 j hj).2.1, by rw [hk 16 (by unfold KM; omega), (h4 j hj).2.2.1], by rw [hn.2.2.2.2.2, (h4 j hj).2.2.2]⟩⟩
theorem Rst_keep {M N M' N' : Mem} {n : Nat} (H : Rst M N n) (hk : Keep M M') (hn : KeepN N N') : Rst M' N' n := by
  obtain ⟨⟨h, hs, H1⟩, ⟨m, sl, H2⟩, len, pd, H3⟩ := H
  exact ⟨⟨h, hs, Hist_keep H1 hk hn⟩, ⟨m, sl, Slots_keep H2 hk hn⟩, len, pd, Padr_keep H3 hk hn⟩
/-! the history's cells -/
theorem aD_ok {M : Mem} {i n j x : Nat} (hs : shp i = 23) (hl : ln i = n) (hj : j < n) (h2 : n < 2 ^ 31) (hx : M i j = nI x) (hx2 : x < 2 ^ 31) : aD M i (nI j) = some x := by
  unfold aD
  rw [hl, if_pos ⟨hs, oob_nI hj h2⟩, nI_cl (by omega), hx, nI_cl hx2]
theorem aE_ok {M : Mem} {i n j v : Nat} (hs : shp i = 23) (hl : ln i = n) (hj : j < n) (h2 : n < 2 ^ 31) (hv : shp v = 7) : aE M i (nI j) v = some (up2 M i j (nI v)) := by
  unfold aE
  rw [hl, if_pos ⟨hs, oob_nI hj h2, hv⟩, nI_cl (by omega)]
  rfl
theorem st_small {b o : Nat} (hb : b < 9) (ho : o < 7) : st b o < 2 ^ 31 := by
  unfold st
  omega
theorem drop_L {h : Nat → Nat} {a1 : Nat} (hh : ∀ j, j < 6 → h j < 9) : ∀ (d k F : Nat) (M : Mem), k + d = 5 → d < F → (∀ j, k < j → j < 6 → M 13 j = nI (st (h j) 0)) → fX2_dropOldest_L9 F M a1 (nI k) = some (setR M 13 k 5 (fun j => nI (st (h (j + 1)) 0))) := by
  intro d
  induction d with
  | zero =>
    intro k F M hk hF hM
    obtain ⟨F, rfl⟩ : ∃ F', F = F' + 1 := ⟨F - 1, by omega⟩
    rw [fX2_dropOldest_L9, li6, li1, nI_addE, if_pos ((nI_leE (by omega) (by omega)).mpr (by omega))]
    rw [show k = 5 by omega, setR_none]
  | succ d ih =>
    intro k F M hk hF hM
    obtain ⟨F, rfl⟩ : ∃ F', F = F' + 1 := ⟨F - 1, by omega⟩
    rw [fX2_dropOldest_L9, li6, li1, nI_addE, if_neg (fun z => by have := (nI_leE (by omega) (by omega)).mp z; omega)]
    refine ob_in (aD_ok (n := 6) (x := st (h (k + 1)) 0) rfl rfl (by omega) (by omega) (hM (k + 1) (by omega) (by omega)) (st_small (hh _ (by omega)) (by omega))) ?_
    refine ob_in (aE_ok (n := 6) rfl rfl (by omega) (by omega) (by rw [shp_st (hh _ (by omega)) (by omega)]; rfl)) ?_
    rw [ih (k + 1) F _ (by omega) (by omega) (fun j h1 h2 => by rw [up2_ap, if_pos rfl, if_neg (by omega)]; exact hM j (by omega) h2)]
    congr 1
    exact setR_step (by omega) rfl (fun j _ _ => rfl)
theorem drop_ok {h : Nat → Nat} {M : Mem} (hh : ∀ j, j < 6 → h j < 9) (hM : ∀ j, j < 6 → M 13 j = nI (st (h j) 0)) : fX2_dropOldest M = some (up2 (up2 (setR M 13 0 5 (fun j => nI (st (h (j + 1)) 0))) 13 5 (nI (st (h 0) 0))) 12 1 (nI 5)) := by
  unfold fX2_dropOldest
  refine ob_in (aD_ok (n := 6) (j := 0) (x := st (h 0) 0) rfl rfl (by omega) (by omega) (hM 0 (by omega)) (st_small (hh _ (by omega)) (by omega))) ?_
  refine ob_in (drop_L hh 5 0 5000 M (by omega) (by omega) (fun j _ h2 => hM j h2)) ?_
  rw [li6, li1, nI_subE (by omega)]
  refine ob_in (aE_ok (n := 6) rfl rfl (by omega) (by omega) (by rw [shp_st (hh _ (by omega)) (by omega)]; rfl)) ?_
  exact ob_in (pI_ok rfl) rfl
/-- the states' order behind a push -/
def pushH (n : Nat) (h : Nat → Nat) : Nat → Nat := fun j => if n = 6 then (if j < 5 then h (j + 1) else h 0) else h j
def pushS (n : Nat) (hs : Nat → SA × PA) (x : SA × PA) : Nat → SA × PA := fun j => if n = 6 then (if j < 5 then hs (j + 1) else x) else (if j = n then x else hs j)
def pushN (n : Nat) : Nat := if n = 6 then 6 else n + 1
theorem RS_congr {σ σ' : Nat → Int32} {T : SA} {A : PA} (h : RS σ T A) (he : ∀ k, k < 691 → σ' k = σ k) (hA : ∀ p, p < 3 → A p 0 2 ≤ 12) : RS σ' T A := by
  obtain ⟨⟨h1, h2, h3⟩, h4⟩ := h
  refine ⟨⟨fun j hj => by rw [he j (by omega), h1 j hj], by rw [he 3 (by omega), h2], fun t ht => by rw [he _ (by omega), he _ (by omega), he _ (by omega)]; exact h3 t ht⟩, fun p hp => ?_⟩
  have hn := hA p hp
  have hp3 : PB p + 223 ≤ 691 := by unfold PB; omega
  obtain ⟨a1, a2, a3, a4, a5, a6, a7, a8, a9, a10⟩ := h4 p hp
  refine ⟨fun j hj => by rw [he _ (by omega)]; exact a1 j hj, fun i hi => ?_, fun d hd => by rw [he _ (by omega)]; exact a3 d hd, fun d hd => by rw [he _ (by omega)]; exact a4 d hd, fun d hd => by rw [he _ (by omega)]; exact a5 d hd, fun d hd => by rw [he _ (by omega)]; exact a6 d hd, fun d hd => by rw [he _ (by omega)]; exact a7 d hd, fun c hc => ⟨by rw [he _ (by omega)]; exact (a8 c hc).1, fun i hi => by rw [he _ (by omega)]; exact (a8 c hc).2 i hi⟩, by rw [he _ (by omega)]; exact a9, fun z => by rw [he _ (by omega)]; exact a10 z⟩
  rw [he _ (by omega), he _ (by omega), he _ (by omega), he _ (by omega), he _ (by omega), he _ (by omega)]
  exact a2 i hi
theorem push_know {M N : Mem} {T : SA} {A : PA} {n : Nat} (hL : Live M N T A) (hR : Rst M N n) : ∃ M1, fX2_push M 34 = some M1 ∧ fX12_know N = some (knN N n) ∧ Live M1 (knN N n) T A ∧ Rst M1 (knN N n) (pushN n) := by
  obtain ⟨⟨h, hs, h1, h2, h3, h4, h5, h6⟩, ⟨m, sl, H2⟩, len, pd, H3⟩ := hR
  obtain ⟨hC, hRS, hW⟩ := hL
  have hA12 : ∀ p, p < 3 → A p 0 2 ≤ 12 := fun p hp => (hW.2 p hp).1.2.2
  have hh : ∀ j, j < 6 → h j < 9 := fun j hj => by have := (h4 j hj).2.1; omega
  -- the reference
  have N1 : ∀ x, x ≠ 3 → x ≠ 0 → knN N n x = N x := fun x hx hx0 => by
    unfold knN
    split
    · rw [up2_ne hx0, setR_other hx, up2_ne hx0, setR_other hx]
    · rw [up2_ne hx0, setR_other hx]
  have N2 : ∀ k, k ≠ 3 → knN N n 0 k = N 0 k := fun k hk => by
    unfold knN
    split
    · rw [up2_same, if_neg hk, setR_other (by omega), up2_same, if_neg hk, setR_other (by omega)]
    · rw [up2_same, if_neg hk, setR_other (by omega)]
  have N3 : knN N n 0 3 = nI (pushN n) := by
    unfold knN pushN
    split
    · rw [up2_same, if_pos rfl]
    · rw [up2_same, if_pos rfl]
  have N4 : ∀ j, j < pushN n → RS (fun k => knN N n 3 (691 * j + k)) (pushS n hs (T, A) j).1 (pushS n hs (T, A) j).2 ∧ WS1 (pushS n hs (T, A) j).1 (pushS n hs (T, A) j).2 := by
    intro j hj
    unfold pushN at hj
    by_cases h66 : n = 6
    · subst h66
      rw [if_pos rfl] at hj
      by_cases hj5 : j < 5
      · have e : pushS 6 hs (T, A) j = hs (j + 1) := by unfold pushS; rw [if_pos rfl, if_pos hj5]
        rw [e]
        refine ⟨RS_congr (h6 (j + 1) (by omega)).2.1 (fun k hk => ?_) (fun p hp => ((h6 (j + 1) (by omega)).2.2.2 p hp).1.2.2), (h6 (j + 1) (by omega)).2.2⟩
        show knN N 6 3 (691 * j + k) = N 3 (691 * (j + 1) + k)
        unfold knN
        rw [if_pos rfl, up2_ne (by omega), setR_ap, if_neg (by omega), up2_ne (by omega), setR_ap, if_pos ⟨rfl, by omega, by omega⟩]
        exact congrArg (N 3) (by omega)
      · have e : pushS 6 hs (T, A) j = (T, A) := by unfold pushS; rw [if_pos rfl, if_neg hj5]
        rw [e]
        refine ⟨RS_congr hRS (fun k hk => ?_) hA12, hW⟩
        show knN N 6 3 (691 * j + k) = N 1 k
        unfold knN
        rw [if_pos rfl, up2_ne (by omega), setR_ap, if_pos ⟨rfl, by omega, by omega⟩]
        exact congrArg (N 1) (by omega)
    · rw [if_neg h66] at hj
      by_cases hjn : j = n
      · have e : pushS n hs (T, A) j = (T, A) := by unfold pushS; rw [if_neg h66, if_pos hjn]
        rw [e]
        refine ⟨RS_congr hRS (fun k hk => ?_) hA12, hW⟩
        show knN N n 3 (691 * j + k) = N 1 k
        unfold knN
        rw [if_neg h66, up2_ne (by omega), setR_ap, if_pos ⟨rfl, by subst hjn; omega, by subst hjn; omega⟩]
        exact congrArg (N 1) (by subst hjn; omega)
      · have e : pushS n hs (T, A) j = hs j := by unfold pushS; rw [if_neg h66, if_neg hjn]
        rw [e]
        refine ⟨RS_congr (h6 j (by omega)).2.1 (fun k hk => ?_) (fun p hp => ((h6 j (by omega)).2.2.2 p hp).1.2.2), (h6 j (by omega)).2.2⟩
        show knN N n 3 (691 * j + k) = N 3 (691 * j + k)
        unfold knN
        rw [if_neg h66, up2_ne (by omega), setR_ap, if_neg (by omega)]
  -- the class: the row of the states' order
  obtain ⟨Ma, n', e0, e1, e2, e3, e4, e5⟩ : ∃ (Ma : Mem) (n' : Nat), n' < 6 ∧ (gI 2 1 M 12).bind (fun v1 => (if v1 < 6 then some M else (fX2_dropOldest M).bind fun M18 => some M18)) = some Ma ∧ n' + 1 = pushN n ∧ Ma 12 1 = nI n' ∧ (∀ j, j < 6 → Ma 13 j = nI (st (pushH n h j) 0)) ∧ ∀ x, x ≠ 12 → x ≠ 13 → Ma x = M x := by
    by_cases h66 : n = 6
    · subst h66
      refine ⟨up2 (up2 (setR M 13 0 5 (fun j => nI (st (h (j + 1)) 0))) 13 5 (nI (st (h 0) 0))) 12 1 (nI 5), 5, by omega, ?_, rfl, ?_, fun j hj => ?_, fun x hx hx' => ?_⟩
      · refine ob_in (gI_ok rfl) ?_
        rw [h2, li6, if_neg (nI_nlt (by omega) (by omega))]
        exact ob_in (drop_ok hh (fun j hj => (h4 j hj).2.2)) rfl
      · rw [up2_same, if_pos rfl]
      · rw [up2_ne (by omega), up2_same, setR_same]
        unfold pushH
        rw [if_pos rfl]
        by_cases h5' : j < 5
        · rw [if_neg (by omega), if_pos ⟨Nat.zero_le _, h5'⟩, if_pos h5']
        · rw [if_pos (by omega), if_neg h5']
      · rw [up2_ne hx, up2_ne hx', setR_other hx']
    · refine ⟨M, n, by omega, ?_, by unfold pushN; rw [if_neg h66], h2, fun j hj => ?_, fun _ _ _ => rfl⟩
      · refine ob_in (gI_ok rfl) ?_
        rw [h2, li6, if_pos (nI_lt (by omega) (by omega))]
      · unfold pushH
        rw [if_neg h66]
        exact (h4 j hj).2.2
  have g1 : ∀ j, j < 6 → 1 ≤ pushH n h j ∧ pushH n h j ≤ 6 := fun j hj => by
    unfold pushH
    split
    · split
      · exact ⟨(h4 (j + 1) (by omega)).1, (h4 (j + 1) (by omega)).2.1⟩
      · exact ⟨(h4 0 (by omega)).1, (h4 0 (by omega)).2.1⟩
    · exact ⟨(h4 j hj).1, (h4 j hj).2.1⟩
  have g2 : ∀ i j, i < 6 → j < 6 → pushH n h i = pushH n h j → i = j := fun i j hi hj hij => by
    unfold pushH at hij
    split at hij
    · split at hij <;> split at hij
      · have := h5 _ _ (by omega) (by omega) hij
        omega
      · have := h5 _ _ (by omega) (by omega) hij
        omega
      · have := h5 _ _ (by omega) (by omega) hij
        omega
      · omega
    · exact h5 _ _ hi hj hij
  have hb := g1 n' e0
  -- the new state's block
  obtain ⟨Mb, hMb⟩ : ∃ Mb, Mb = cpS Ma (pushH n h n') 0 := ⟨_, rfl⟩
  have hx0 : ∀ x, x < 34 → Mb x = Ma x := fun x hx => by
    rw [hMb]
    exact cpS_ne (fun o ho => by unfold st; omega) (fun p o _ _ => by unfold pq; omega)
  have hpush : fX2_push M 34 = some (up2 Mb 12 1 (nI (n' + 1))) := by
    have e1' := e1
    unfold fX2_push
    obtain ⟨v1, a1, a2⟩ := ob_out e1'
    refine ob_in a1 (ob_in a2 ?_)
    refine ob_in (gI_ok rfl) ?_
    rw [e3]
    refine ob_in (aD_ok (n := 6) (x := st (pushH n h n') 0) rfl rfl (by omega) (by omega) (e4 n' e0) (st_small (by omega) (by omega))) ?_
    refine ob_in (stateCopy_ok (b := pushH n h n') (b' := 0) (by omega) (by omega) (by omega)) ?_
    rw [← hMb]
    refine ob_in (gI_ok rfl) ?_
    refine ob_in (pI_ok rfl) ?_
    rw [hx0 12 (by omega), e3, li1, nI_addE]
  have hC0 : CS Ma 0 T A := CS_congr hC (fun o ho => e5 _ (by unfold st; omega) (by unfold st; omega)) (fun p o _ _ => e5 _ (by unfold pq; omega) (by unfold pq; omega))
  have hup : ∀ x, x ≠ 12 → up2 Mb 12 1 (nI (n' + 1)) x = Mb x := fun x hx => up2_ne hx
  have up12 : ∀ {b : Nat} {T : SA} {A : PA}, CS Mb b T A → CS (up2 Mb 12 1 (nI (n' + 1))) b T A := fun hcs => CS_congr hcs (fun o ho => hup _ (by unfold st; omega)) (fun p o _ _ => hup _ (by unfold pq; omega))
  have oldC : ∀ {b : Nat} {T : SA} {A : PA}, b < 9 → b ≠ pushH n h n' → CS M b T A → CS (up2 Mb 12 1 (nI (n' + 1))) b T A := fun hb9 hne hcs => by
    refine up12 ?_
    rw [hMb]
    exact CS_cpNe hb9 (by omega) hne (CS_congr hcs (fun o ho => e5 _ (by unfold st; omega) (by unfold st; omega)) (fun p o _ _ => e5 _ (by unfold pq; omega) (by unfold pq; omega)))
  refine ⟨_, hpush, know_ok h1 h3, ⟨oldC (by omega) (by omega) hC, RS_congr hRS (fun k _ => by rw [N1 1 (by omega) (by omega)]) hA12, hW⟩, ⟨pushH n h, pushS n hs (T, A), ?_, ?_, N3, fun j hj => ⟨(g1 j hj).1, (g1 j hj).2, ?_⟩, g2, fun j hj => ⟨?_, (N4 j hj).1, (N4 j hj).2⟩⟩, ⟨m, sl, H2.1, ?_, fun j hj => ⟨?_, ?_, fun hm => ⟨?_, ?_, ((H2.2.2 j hj).2.2 hm).2.2⟩⟩⟩, len, pd, H3.1, ?_, ?_, fun j hj => ⟨(H3.2.2.2 j hj).1, (H3.2.2.2 j hj).2.1, ?_, ?_⟩⟩
  · unfold pushN; split <;> omega
  · rw [up2_same, if_pos rfl, e2]
  · rw [hup 13 (by omega), hx0 13 (by omega), e4 j hj]
  · by_cases hjn : j = n'
    · subst hjn
      have e : pushS n hs (T, A) j = (T, A) := by
        unfold pushS
        unfold pushN at e2
        split
        · rename_i h66
          rw [if_pos h66] at e2
          rw [if_neg (by omega)]
        · rename_i h66
          rw [if_neg h66] at e2
          rw [if_pos (by omega)]
      rw [e]
      refine up12 ?_
      rw [hMb]
      exact CS_cp (by omega) hC0
    · have hne : pushH n h j ≠ pushH n h n' := fun z => hjn (g2 j n' (by omega) e0 z)
      by_cases h66 : n = 6
      · subst h66
        have h5' : j < 5 := by have e9 : pushN 6 = 6 := rfl; omega
        have e : pushS 6 hs (T, A) j = hs (j + 1) := by unfold pushS; rw [if_pos rfl, if_pos h5']
        have e' : pushH 6 h j = h (j + 1) := by unfold pushH; rw [if_pos rfl, if_pos h5']
        rw [e]
        rw [e'] at hne ⊢
        exact oldC (by have := (h4 (j + 1) (by omega)).2.1; omega) hne (h6 (j + 1) (by omega)).1
      · have e2' := e2
        unfold pushN at e2'
        rw [if_neg h66] at e2'
        have e : pushS n hs (T, A) j = hs j := by unfold pushS; rw [if_neg h66, if_neg (by omega)]
        have e' : pushH n h j = h j := by unfold pushH; rw [if_neg h66]
        rw [e]
        rw [e'] at hne ⊢
        exact oldC (by have := (h4 j (by omega)).2.1; omega) hne (h6 j (by omega)).1
  · rw [hup 10 (by omega), hx0 10 (by omega), e5 10 (by omega) (by omega), H2.2.1]
  · rw [hup 11 (by omega), hx0 11 (by omega), e5 11 (by omega) (by omega), (H2.2.2 j hj).1]
  · rw [N1 5 (by omega) (by omega), (H2.2.2 j hj).2.1]
  · exact oldC (by omega) (by omega) ((H2.2.2 j hj).2.2 hm).1
  · rw [N1 4 (by omega) (by omega)]
    exact ((H2.2.2 j hj).2.2 hm).2.1
  · rw [hup 15 (by omega), hx0 15 (by omega), e5 15 (by omega) (by omega), H3.2.1]
  · rw [N2 7 (by omega), H3.2.2.1]
  · rw [hup 16 (by omega), hx0 16 (by omega), e5 16 (by omega) (by omega), (H3.2.2.2 j hj).2.2.1]
  · rw [N1 6 (by omega) (by omega), (H3.2.2.2 j hj).2.2.2]
