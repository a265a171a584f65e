/-! the first world: where each cell lies, what the memories hold -/
theorem arrV_cg {c : ClassId} {n : Nat} {F G : Nat → Value} (e : ∀ j, j < n → F j = G j) : arrV c n F = arrV c n G := by
  have h : (fun j : Fin n => F j.val) = fun j => G j.val := funext fun j => e j.val j.isLt
  unfold arrV
  rw [h]
theorem at_Q {D : va_G} {x n : Nat} {c : ClassId} {f g : Nat → Option Nat} {H : Heap} (h : va_at D vwCl (x, RA c n f) H) (e : ∀ j, j < n → f j = g j) : va_at D vwCl (x, RA c n g) H := by
  have h1 : H[x]? = some (vp_cell c (n, .inr (.inr (.inr (.inr f))))) := h
  show H[x]? = some (vp_cell c (n, .inr (.inr (.inr (.inr g)))))
  rw [h1, vp_cell_q, vp_cell_q, arrV_cg (fun j hj => by rw [e j hj])]
def M0 : Mem := fun i k => if i = 11 then nI (st (7 + k) 0) else if i = 13 then nI (st (1 + k) 0) else if 34 ≤ i ∧ i < 97 ∧ (i - 34) % 7 = 1 then sta 0 k else if 97 ≤ i ∧ i < 741 ∧ (i - 97) % 23 = 5 then dphN k else 0
def N0 : Mem := fun i k => if i = 1 then mS 36 k else 0
theorem M0_s {i : Nat} (h : i < 34) (h1 : i ≠ 11) (h2 : i ≠ 13) : M0 i = fun _ => 0 := by
  funext k
  unfold M0
  rw [if_neg h1, if_neg h2, if_neg (by omega), if_neg (by omega)]
theorem M0_pq {q k : Nat} (hq : q < 28) (hk : k < 23) (h5 : k ≠ 5) : M0 (pq q k) = fun _ => 0 := by
  funext j
  unfold M0 pq
  rw [if_neg (by omega), if_neg (by omega), if_neg (by omega), if_neg (by omega)]
theorem M0_pq5 {q : Nat} (hq : q < 28) : M0 (pq q 5) = dphN := by
  funext j
  unfold M0 pq
  rw [if_neg (by omega), if_neg (by omega), if_neg (by omega), if_pos (by omega)]
theorem M0_st {b k : Nat} (hb : b < 9) (hk : k < 7) (h1 : k ≠ 1) : M0 (st b k) = fun _ => 0 := by
  funext j
  unfold M0 st
  rw [if_neg (by omega), if_neg (by omega), if_neg (by omega), if_neg (by omega)]
theorem M0_st1 {b : Nat} (hb : b < 9) : M0 (st b 1) = sta 0 := by
  funext j
  unfold M0 st
  rw [if_neg (by omega), if_neg (by omega), if_pos (by omega)]
theorem N0_n {i : Nat} (h : i ≠ 1) : N0 i = fun _ => 0 := by
  funext k
  exact if_neg h
def aB (b : Nat) : Nat := if b = 0 then 1 else if b < 7 then 3 + 76 * b else 47 + 76 * b
def off (i : Nat) : Nat := if i < 10 then 731 + i else if i < 34 then (if i = 10 then 0 else if i = 11 then 535 else if i = 12 then 77 else if i = 13 then 78 else 522 + i) else if i < 97 then aB ((i - 34) / 7) + (i - 34) % 7 else if i < 718 then aB ((i - 97) / 23 / 3) + 7 + 23 * ((i - 97) / 23 % 3) + (i - 97) % 23 else 556 + (i - 718)
def ad0 (a i : Nat) : Nat := a + off i
theorem off_pq {q k : Nat} (hq : q < 27) (hk : k < 23) : off (pq q k) = aB (q / 3) + 7 + 23 * (q % 3) + k := by
  unfold off pq
  rw [if_neg (by omega), if_neg (by omega), if_neg (by omega), if_pos (by omega), show (97 + 23 * q + k - 97) / 23 = q by omega, show (97 + 23 * q + k - 97) % 23 = k by omega]
theorem off_p27 {k : Nat} (hk : k < 23) : off (pq 27 k) = 556 + k := by
  unfold off pq
  rw [if_neg (by omega), if_neg (by omega), if_neg (by omega), if_neg (by omega)]
  omega
theorem off_st {b k : Nat} (hb : b < 9) (hk : k < 7) : off (st b k) = aB b + k := by
  unfold off st
  rw [if_neg (by omega), if_neg (by omega), if_pos (by omega), show (34 + 7 * b + k - 34) / 7 = b by omega, show (34 + 7 * b + k - 34) % 7 = k by omega]
theorem ad_pq {a q k : Nat} (hq : q < 28) (hk : k < 23) : ad0 a (pq q k) = ad0 a (pq q 0) + k := by
  unfold ad0
  by_cases h : q = 27
  · subst h
    rw [off_p27 hk, off_p27 (by omega)]
    omega
  · rw [off_pq (by omega) hk, off_pq (by omega) (by omega)]
    omega
theorem ad_st {a b k : Nat} (hb : b < 9) (hk : k < 7) : ad0 a (st b k) = ad0 a (st b 0) + k := by
  unfold ad0
  rw [off_st hb hk, off_st hb (by omega)]
  omega
theorem ad_stp {a b j : Nat} (hb : b < 9) (hj : j < 3) : ad0 a (pq (3 * b + j) 0) = ad0 a (st b 0) + (7 + 23 * j) := by
  unfold ad0
  rw [off_st hb (by omega), off_pq (by omega) (by omega), show (3 * b + j) / 3 = b by omega, show (3 * b + j) % 3 = j by omega]
  omega
def stI (b y : Nat) : Nat := if y < 7 then 34 + 7 * b + y else 97 + 23 * (3 * b + (y - 7) / 23) + (y - 7) % 23
def offI (x : Nat) : Nat := if x = 0 then 10 else if x < 77 then stI 0 (x - 1) else if x = 77 then 12 else if x = 78 then 13 else if x < 535 then stI ((x - 79) / 76 + 1) ((x - 79) % 76) else if x = 535 then 11 else if x < 556 then x - 522 else if x < 579 then 718 + (x - 556) else if x < 731 then stI (7 + (x - 579) / 76) ((x - 579) % 76) else x - 731
theorem off_inv20 : ∀ i, i < 28 → ∀ j, j < 28 → 28 * i + j < 741 → offI (off (28 * i + j)) = 28 * i + j ∧ off (28 * i + j) < 741 := by decide +kernel
theorem off_inv {i : Nat} (h : i < 741) : offI (off i) = i ∧ off i < 741 := by
  have h1 := off_inv20 (i / 28) (by omega) (i % 28) (by omega) (by omega)
  rw [Nat.div_add_mod] at h1
  exact h1
theorem ad_inj {a i j : Nat} (hi : i < 741) (hj : j < 741) (h : ad0 a i = ad0 a j) : i = j := by
  unfold ad0 at h
  have h1 : off i = off j := by omega
  rw [← (off_inv hi).1, ← (off_inv hj).1, h1]
theorem at_pr {D : va_G} {a q k : Nat} {cy : Nat → ClassId} {H : Heap} (hq : q < 28) (hk : k < 23) (h : SG D (ad0 a (pq q 0)) (PrL cy (ad0 a (pq q 0))) H) : va_at D vwCl (ad0 a (pq q k), ent (ad0 a) cy M0 N0 (pq q k)) H := by
  rcases (show k = 0 ∨ k = 1 ∨ k = 2 ∨ k = 3 ∨ k = 4 ∨ k = 5 ∨ k = 6 ∨ k = 7 ∨ k = 8 ∨ k = 9 ∨ k = 10 ∨ k = 11 ∨ k = 12 ∨ k = 13 ∨ k = 14 ∨ k = 15 ∨ k = 16 ∨ k = 17 ∨ k = 18 ∨ k = 19 ∨ k = 20 ∨ k = 21 ∨ k = 22 by omega) with rfl | rfl | rfl | rfl | rfl | rfl | rfl | rfl | rfl | rfl | rfl | rfl | rfl | rfl | rfl | rfl | rfl | rfl | rfl | rfl | rfl | rfl | rfl
  · show va_at D vwCl (ad0 a (pq q 0), _) H
    rw [ent_ob (show shp (pq q 0) = 6 by rw [shp_pq hq (by omega)]; rfl) (by omega)]
    have e : obF (ad0 a) M0 N0 (pq q 0) 6 = PrF (ad0 a (pq q 0)) := by
      unfold obF
      simp only [M0_pq hq (k := 0) (by omega) (by omega), show rf (pq q 0) 3 = pq q 1 from rf_pq0 (by omega), show rf (pq q 0) 4 = pq q 2 from rf_pq0 (by omega), show rf (pq q 0) 5 = pq q 3 from rf_pq0 (by omega), show rf (pq q 0) 6 = pq q 4 from rf_pq0 (by omega), show rf (pq q 0) 7 = pq q 5 from rf_pq0 (by omega), show rf (pq q 0) 8 = pq q 6 from rf_pq0 (by omega), show rf (pq q 0) 9 = pq q 7 from rf_pq0 (by omega), show rf (pq q 0) 10 = pq q 16 from rf_pq0 (by omega), show rf (pq q 0) 11 = pq q 19 from rf_pq0 (by omega), show rf (pq q 0) 12 = pq q 21 from rf_pq0 (by omega), ad_pq hq (k := 1) (by omega), ad_pq hq (k := 2) (by omega), ad_pq hq (k := 3) (by omega), ad_pq hq (k := 4) (by omega), ad_pq hq (k := 5) (by omega), ad_pq hq (k := 6) (by omega), ad_pq hq (k := 7) (by omega), ad_pq hq (k := 16) (by omega), ad_pq hq (k := 19) (by omega), ad_pq hq (k := 21) (by omega)]
    rw [e]
    exact h 0 _ rfl
  · rw [ad_pq hq (k := 1) (by omega)]
    rw [ent_ar (show shp (pq q 1) = 20 by rw [shp_pq hq (by omega)]; rfl) (by omega)]
    have e : arE (ad0 a) cy M0 N0 (pq q 1) 20 = .inl (cy 0, 12, .inl (fun _ => 0)) := by
      unfold arE
      rw [M0_pq hq (k := 1) (by omega) (by omega), ln_pq hq (by omega)]
      rfl
    rw [e]
    exact h 1 _ rfl
  · rw [ad_pq hq (k := 2) (by omega)]
    rw [ent_ar (show shp (pq q 2) = 20 by rw [shp_pq hq (by omega)]; rfl) (by omega)]
    have e : arE (ad0 a) cy M0 N0 (pq q 2) 20 = .inl (cy 0, 12, .inl (fun _ => 0)) := by
      unfold arE
      rw [M0_pq hq (k := 2) (by omega) (by omega), ln_pq hq (by omega)]
      rfl
    rw [e]
    exact h 2 _ rfl
  · rw [ad_pq hq (k := 3) (by omega)]
    rw [ent_ar (show shp (pq q 3) = 20 by rw [shp_pq hq (by omega)]; rfl) (by omega)]
    have e : arE (ad0 a) cy M0 N0 (pq q 3) 20 = .inl (cy 0, 12, .inl (fun _ => 0)) := by
      unfold arE
      rw [M0_pq hq (k := 3) (by omega) (by omega), ln_pq hq (by omega)]
      rfl
    rw [e]
    exact h 3 _ rfl
  · rw [ad_pq hq (k := 4) (by omega)]
    rw [ent_ar (show shp (pq q 4) = 20 by rw [shp_pq hq (by omega)]; rfl) (by omega)]
    have e : arE (ad0 a) cy M0 N0 (pq q 4) 20 = .inl (cy 0, 12, .inl (fun _ => 0)) := by
      unfold arE
      rw [M0_pq hq (k := 4) (by omega) (by omega), ln_pq hq (by omega)]
      rfl
    rw [e]
    exact h 4 _ rfl
  · rw [ad_pq hq (k := 5) (by omega)]
    rw [ent_ar (show shp (pq q 5) = 20 by rw [shp_pq hq (by omega)]; rfl) (by omega)]
    have e : arE (ad0 a) cy M0 N0 (pq q 5) 20 = .inl (cy 0, 12, .inl (dphN)) := by
      unfold arE
      rw [M0_pq5 hq, ln_pq hq (by omega)]
      rfl
    rw [e]
    exact h 5 _ rfl
  · rw [ad_pq hq (k := 6) (by omega)]
    rw [ent_ar (show shp (pq q 6) = 20 by rw [shp_pq hq (by omega)]; rfl) (by omega)]
    have e : arE (ad0 a) cy M0 N0 (pq q 6) 20 = .inl (cy 0, 8, .inl (fun _ => 0)) := by
      unfold arE
      rw [M0_pq hq (k := 6) (by omega) (by omega), ln_pq hq (by omega)]
      rfl
    rw [e]
    exact h 6 _ rfl
  · rw [ad_pq hq (k := 7) (by omega)]
    rw [ent_ar (show shp (pq q 7) = 24 by rw [shp_pq hq (by omega)]; rfl) (by omega)]
    have e : arE (ad0 a) cy M0 N0 (pq q 7) 24 = RA (cy 4) 8 (fun j => some (ad0 a (rf (pq q 7) j))) := by
      unfold arE
      rw [ln_pq hq (by omega)]
      rfl
    rw [e]
    refine at_Q (h 7 _ rfl) (fun j hj => ?_)
    rw [if_pos hj, rf_pq7, ad_pq hq (k := 8 + j) (by omega)]
    have e2 : ad0 a (pq q 0) + 7 + 1 + j = ad0 a (pq q 0) + (8 + j) := by omega
    rw [e2]
  · rw [ad_pq hq (k := 8) (by omega)]
    rw [ent_ar (show shp (pq q 8) = 20 by rw [shp_pq hq (by omega)]; rfl) (by omega)]
    have e : arE (ad0 a) cy M0 N0 (pq q 8) 20 = .inl (cy 0, 12, .inl (fun _ => 0)) := by
      unfold arE
      rw [M0_pq hq (k := 8) (by omega) (by omega), ln_pq hq (by omega)]
      rfl
    rw [e]
    exact h 8 _ rfl
  · rw [ad_pq hq (k := 9) (by omega)]
    rw [ent_ar (show shp (pq q 9) = 20 by rw [shp_pq hq (by omega)]; rfl) (by omega)]
    have e : arE (ad0 a) cy M0 N0 (pq q 9) 20 = .inl (cy 0, 12, .inl (fun _ => 0)) := by
      unfold arE
      rw [M0_pq hq (k := 9) (by omega) (by omega), ln_pq hq (by omega)]
      rfl
    rw [e]
    exact h 9 _ rfl
  · rw [ad_pq hq (k := 10) (by omega)]
    rw [ent_ar (show shp (pq q 10) = 20 by rw [shp_pq hq (by omega)]; rfl) (by omega)]
    have e : arE (ad0 a) cy M0 N0 (pq q 10) 20 = .inl (cy 0, 12, .inl (fun _ => 0)) := by
      unfold arE
      rw [M0_pq hq (k := 10) (by omega) (by omega), ln_pq hq (by omega)]
      rfl
    rw [e]
    exact h 10 _ rfl
  · rw [ad_pq hq (k := 11) (by omega)]
    rw [ent_ar (show shp (pq q 11) = 20 by rw [shp_pq hq (by omega)]; rfl) (by omega)]
    have e : arE (ad0 a) cy M0 N0 (pq q 11) 20 = .inl (cy 0, 12, .inl (fun _ => 0)) := by
      unfold arE
      rw [M0_pq hq (k := 11) (by omega) (by omega), ln_pq hq (by omega)]
      rfl
    rw [e]
    exact h 11 _ rfl
  · rw [ad_pq hq (k := 12) (by omega)]
    rw [ent_ar (show shp (pq q 12) = 20 by rw [shp_pq hq (by omega)]; rfl) (by omega)]
    have e : arE (ad0 a) cy M0 N0 (pq q 12) 20 = .inl (cy 0, 12, .inl (fun _ => 0)) := by
      unfold arE
      rw [M0_pq hq (k := 12) (by omega) (by omega), ln_pq hq (by omega)]
      rfl
    rw [e]
    exact h 12 _ rfl
  · rw [ad_pq hq (k := 13) (by omega)]
    rw [ent_ar (show shp (pq q 13) = 20 by rw [shp_pq hq (by omega)]; rfl) (by omega)]
    have e : arE (ad0 a) cy M0 N0 (pq q 13) 20 = .inl (cy 0, 12, .inl (fun _ => 0)) := by
      unfold arE
      rw [M0_pq hq (k := 13) (by omega) (by omega), ln_pq hq (by omega)]
      rfl
    rw [e]
    exact h 13 _ rfl
  · rw [ad_pq hq (k := 14) (by omega)]
    rw [ent_ar (show shp (pq q 14) = 20 by rw [shp_pq hq (by omega)]; rfl) (by omega)]
    have e : arE (ad0 a) cy M0 N0 (pq q 14) 20 = .inl (cy 0, 12, .inl (fun _ => 0)) := by
      unfold arE
      rw [M0_pq hq (k := 14) (by omega) (by omega), ln_pq hq (by omega)]
      rfl
    rw [e]
    exact h 14 _ rfl
  · rw [ad_pq hq (k := 15) (by omega)]
    rw [ent_ar (show shp (pq q 15) = 20 by rw [shp_pq hq (by omega)]; rfl) (by omega)]
    have e : arE (ad0 a) cy M0 N0 (pq q 15) 20 = .inl (cy 0, 12, .inl (fun _ => 0)) := by
      unfold arE
      rw [M0_pq hq (k := 15) (by omega) (by omega), ln_pq hq (by omega)]
      rfl
    rw [e]
    exact h 15 _ rfl
  · rw [ad_pq hq (k := 16) (by omega)]
    rw [ent_ob (show shp (pq q 16) = 1 by rw [shp_pq hq (by omega)]; rfl) (by omega)]
    have e : obF (ad0 a) M0 N0 (pq q 16) 1 = [.int 0, .int 0, .ref (ad0 a (pq q 0) + 16 + 1), .ref (ad0 a (pq q 0) + 16 + 2)] := by
      unfold obF
      simp only [M0_pq hq (k := 16) (by omega) (by omega), rf_pq16a, rf_pq16b, ad_pq hq (k := 17) (by omega), ad_pq hq (k := 18) (by omega)]
    rw [e]
    exact h 16 _ rfl
  · rw [ad_pq hq (k := 17) (by omega)]
    rw [ent_ar (show shp (pq q 17) = 20 by rw [shp_pq hq (by omega)]; rfl) (by omega)]
    have e : arE (ad0 a) cy M0 N0 (pq q 17) 20 = .inl (cy 0, 12, .inl (fun _ => 0)) := by
      unfold arE
      rw [M0_pq hq (k := 17) (by omega) (by omega), ln_pq hq (by omega)]
      rfl
    rw [e]
    exact h 17 _ rfl
  · rw [ad_pq hq (k := 18) (by omega)]
    rw [ent_ar (show shp (pq q 18) = 20 by rw [shp_pq hq (by omega)]; rfl) (by omega)]
    have e : arE (ad0 a) cy M0 N0 (pq q 18) 20 = .inl (cy 0, 12, .inl (fun _ => 0)) := by
      unfold arE
      rw [M0_pq hq (k := 18) (by omega) (by omega), ln_pq hq (by omega)]
      rfl
    rw [e]
    exact h 18 _ rfl
  · rw [ad_pq hq (k := 19) (by omega)]
    rw [ent_ob (show shp (pq q 19) = 0 by rw [shp_pq hq (by omega)]; rfl) (by omega)]
    have e : obF (ad0 a) M0 N0 (pq q 19) 0 = [.ref (ad0 a (pq q 0) + 19 + 1), .int 0] := by
      unfold obF
      simp only [M0_pq hq (k := 19) (by omega) (by omega), rf_pq19, ad_pq hq (k := 20) (by omega)]
    rw [e]
    exact h 19 _ rfl
  · rw [ad_pq hq (k := 20) (by omega)]
    rw [ent_ar (show shp (pq q 20) = 20 by rw [shp_pq hq (by omega)]; rfl) (by omega)]
    have e : arE (ad0 a) cy M0 N0 (pq q 20) 20 = .inl (cy 0, 12, .inl (fun _ => 0)) := by
      unfold arE
      rw [M0_pq hq (k := 20) (by omega) (by omega), ln_pq hq (by omega)]
      rfl
    rw [e]
    exact h 20 _ rfl
  · rw [ad_pq hq (k := 21) (by omega)]
    rw [ent_ob (show shp (pq q 21) = 0 by rw [shp_pq hq (by omega)]; rfl) (by omega)]
    have e : obF (ad0 a) M0 N0 (pq q 21) 0 = [.ref (ad0 a (pq q 0) + 21 + 1), .int 0] := by
      unfold obF
      simp only [M0_pq hq (k := 21) (by omega) (by omega), rf_pq21, ad_pq hq (k := 22) (by omega)]
    rw [e]
    exact h 21 _ rfl
  · rw [ad_pq hq (k := 22) (by omega)]
    rw [ent_ar (show shp (pq q 22) = 20 by rw [shp_pq hq (by omega)]; rfl) (by omega)]
    have e : arE (ad0 a) cy M0 N0 (pq q 22) 20 = .inl (cy 0, 3, .inl (fun _ => 0)) := by
      unfold arE
      rw [M0_pq hq (k := 22) (by omega) (by omega), ln_pq hq (by omega)]
      rfl
    rw [e]
    exact h 22 _ rfl
theorem at_st {D : va_G} {a b k : Nat} {cy : Nat → ClassId} {H : Heap} (hb : b < 9) (hk : k < 7) (h : SG D (ad0 a (st b 0)) (StL cy (ad0 a (st b 0))) H) : va_at D vwCl (ad0 a (st b k), ent (ad0 a) cy M0 N0 (st b k)) H := by
  rcases (show k = 0 ∨ k = 1 ∨ k = 2 ∨ k = 3 ∨ k = 4 ∨ k = 5 ∨ k = 6 by omega) with rfl | rfl | rfl | rfl | rfl | rfl | rfl
  · show va_at D vwCl (ad0 a (st b 0), _) H
    rw [ent_ob (show shp (st b 0) = 7 by rw [shp_st hb (by omega)]; rfl) (by omega)]
    have e : obF (ad0 a) M0 N0 (st b 0) 7 = StF (ad0 a (st b 0)) := by
      unfold obF
      simp only [rf_st00 hb, rf_st01 hb, rf_st02 hb, ad_st hb (k := 1) (by omega), ad_st hb (k := 2) (by omega), ad_st hb (k := 6) (by omega)]
    rw [e]
    exact h 0 _ rfl
  · rw [ad_st hb (k := 1) (by omega)]
    rw [ent_ar (show shp (st b 1) = 20 by rw [shp_st hb (by omega)]; rfl) (by omega)]
    have e : arE (ad0 a) cy M0 N0 (st b 1) 20 = .inl (cy 0, 3, .inl (sta 0)) := by
      unfold arE
      rw [M0_st1 hb, ln_st hb (by omega)]
      rfl
    rw [e]
    exact h 1 _ rfl
  · rw [ad_st hb (k := 2) (by omega)]
    rw [ent_ob (show shp (st b 2) = 9 by rw [shp_st hb (by omega)]; rfl) (by omega)]
    have e : obF (ad0 a) M0 N0 (st b 2) 9 = [.int 0, .ref (ad0 a (st b 0) + 2 + 1), .ref (ad0 a (st b 0) + 2 + 2), .ref (ad0 a (st b 0) + 2 + 3)] := by
      unfold obF
      simp only [M0_st hb (k := 2) (by omega) (by omega), rf_st21 hb, rf_st22 hb, rf_st23 hb, ad_st hb (k := 3) (by omega), ad_st hb (k := 4) (by omega), ad_st hb (k := 5) (by omega)]
    rw [e]
    exact h 2 _ rfl
  · rw [ad_st hb (k := 3) (by omega)]
    rw [ent_ar (show shp (st b 3) = 20 by rw [shp_st hb (by omega)]; rfl) (by omega)]
    have e : arE (ad0 a) cy M0 N0 (st b 3) 20 = .inl (cy 0, 6, .inl (fun _ => 0)) := by
      unfold arE
      rw [M0_st hb (k := 3) (by omega) (by omega), ln_st hb (by omega)]
      rfl
    rw [e]
    exact h 3 _ rfl
  · rw [ad_st hb (k := 4) (by omega)]
    rw [ent_ar (show shp (st b 4) = 20 by rw [shp_st hb (by omega)]; rfl) (by omega)]
    have e : arE (ad0 a) cy M0 N0 (st b 4) 20 = .inl (cy 0, 6, .inl (fun _ => 0)) := by
      unfold arE
      rw [M0_st hb (k := 4) (by omega) (by omega), ln_st hb (by omega)]
      rfl
    rw [e]
    exact h 4 _ rfl
  · rw [ad_st hb (k := 5) (by omega)]
    rw [ent_ar (show shp (st b 5) = 20 by rw [shp_st hb (by omega)]; rfl) (by omega)]
    have e : arE (ad0 a) cy M0 N0 (st b 5) 20 = .inl (cy 0, 6, .inl (fun _ => 0)) := by
      unfold arE
      rw [M0_st hb (k := 5) (by omega) (by omega), ln_st hb (by omega)]
      rfl
    rw [e]
    exact h 5 _ rfl
  · rw [ad_st hb (k := 6) (by omega)]
    rw [ent_ar (show shp (st b 6) = 22 by rw [shp_st hb (by omega)]; rfl) (by omega)]
    have e : arE (ad0 a) cy M0 N0 (st b 6) 22 = RA (cy 2) 3 (fun j => some (ad0 a (rf (st b 6) j))) := by
      unfold arE
      rw [ln_st hb (by omega)]
      rfl
    rw [e]
    refine at_Q (h 6 _ rfl) (fun j hj => ?_)
    rw [rf_st6 hb, ad_stp hb hj]
    rcases (show j = 0 ∨ j = 1 ∨ j = 2 by omega) with rfl | rfl | rfl <;> rfl
theorem sg_stp {D : va_G} {a b j : Nat} {cy : Nat → ClassId} {H : Heap} (hb : b < 9) (hj : j < 3) (h : SG D (ad0 a (st b 0)) (StL cy (ad0 a (st b 0))) H) : SG D (ad0 a (pq (3 * b + j) 0)) (PrL cy (ad0 a (pq (3 * b + j) 0))) H := by
  rw [ad_stp hb hj]
  unfold StL StT at h
  have h0 : SG D (ad0 a (st b 0) + 7) (PrL cy (ad0 a (st b 0) + 7) ++ (PrL cy (ad0 a (st b 0) + 30) ++ PrL cy (ad0 a (st b 0) + 53))) H := SG_r (x := [_, _, _, _, _, _, _]) h
  have h1 : SG D (ad0 a (st b 0) + 7 + 23) (PrL cy (ad0 a (st b 0) + 30) ++ PrL cy (ad0 a (st b 0) + 53)) H := SG_r h0
  have h2 : SG D (ad0 a (st b 0) + 7 + 23 + 23) (PrL cy (ad0 a (st b 0) + 53)) H := SG_r h1
  rcases (show j = 0 ∨ j = 1 ∨ j = 2 by omega) with rfl | rfl | rfl
  · exact SG_l h0
  · exact SG_l h1
  · exact h2
