/-! the law's loop -/
set_option maxHeartbeats 4000000 in
theorem law_loop {p : Program} {l : Launch} {e : Env} {s : State} {m : MethodId} {below : List Frame} {meth : Method} {c : Code} {Q : State → Prop} {G : GD} {b L : Nat} {xs : Nat → Int32} (F : FX p s m #[.ref b] meth c RL cL_law 4 (some .boolean) G) (hX : va_X b L xs s s.heap) (hbl : b < s.heap.size) (hbA : ¬ AG G.2.1 b) (hL : L ≤ 2048)
    (KE : ∀ (M N : Mem) (H : Heap) (locs : List Loc) (ls : Array Slot), ST G M N s H locs → W p l e room_1 s m #[.ref b] below meth c H locs 600000 7302250 Q (F0 m 1278 ls [])) : ∀ (d x : Nat) (M N : Mem) (H : Heap) (locs : List Loc) (ls : Array Slot), L < x + 4 * d + 4 → x ≤ L → ST G M N s H locs → Rel M N → lv_has ls 4 [(0, .ref b), (1, .ref (G.2.1 10)), (2, .ref (G.2.1 0)), (3, .int (nI x))] → W p l e room_1 s m #[.ref b] below meth c H locs 600000 7302250 Q (F0 m 18 ls []) := by
  have hx := F.1
  have hb := F.2.1
  have eL : ∀ y : Nat, y ≤ L → ((Int32.ofNat L - 4 < nI y) ↔ L < y + 4) := fun y hy => by
    rw [Int32.lt_iff_toInt_lt, Int32.toInt_sub, nI_toInt (by omega)]
    have h1 : (Int32.ofNat L).toInt = (L : Int) := nI_toInt (by omega)
    have h4 : (4 : Int32).toInt = 4 := by decide
    rw [h1, h4, Int.bmod_def]
    omega
  have step : ∀ {x : Nat} {M N : Mem} {H : Heap} {locs : List Loc} {ls : Array Slot}, x ≤ L → ST G M N s H locs → lv_has ls 4 [(0, .ref b), (1, .ref (G.2.1 10)), (2, .ref (G.2.1 0)), (3, .int (nI x))] → (¬ L < x + 4 → W p l e room_1 s m #[.ref b] below meth c H locs 600000 7302250 Q (F0 m 26 ls [])) → W p l e room_1 s m #[.ref b] below meth c H locs 600000 7302250 Q (F0 m 18 ls []) := fun {x M N H locs ls} hxL S hl k26 => by
    refine lv_iload_n (pc := 18) hx hb dL_law_18 rfl (lv_at hl 3 rfl) ?_
    refine lv_aload_n (pc := 19) hx hb dL_law_19 rfl (lv_at hl 0 rfl) ?_
    refine va_slen (pc := 20) hx hb hX hbl hbA S.2.2 dL_law_20 ?_
    refine lv_iconst (pc := 21) (v := 4) hx hb dL_law_21 (by decide) ?_
    refine lv_isub (pc := 22) hx hb dL_law_22 ?_
    exact lv_icmp_gt (pc := 23) (tgt := 1278) hx hb dL_law_23 (by decide) (fun _ => KE M N H locs ls S) (fun c1 => k26 (fun z => c1 ((eL x hxL).mpr z)))
  intro d
  induction d with
  | zero =>
    intro x M N H locs ls hd hxL S hR hl
    exact step hxL S hl (fun z => absurd (by omega) z)
  | succ d ih =>
    intro x M N H locs ls hd hxL S hR hl
    refine step hxL S hl (fun z => ?_)
    have C : LC p s m meth c G b L xs x := ⟨F, hX, hbl, hbA, by omega, hL⟩
    have K1 : ∀ (M1 N1 : Mem) (H1 : Heap) (locs1 : List Loc), ST G M1 N1 s H1 locs1 → Rel M1 N1 → W p l e room_1 s m #[.ref b] below meth c H1 locs1 600000 7302250 Q (F0 m 1272 ls []) := fun M1 N1 H1 locs1 S1 hR1 => by
      refine lv_iinc (pc := 1272) (lv' := [(3, .int (nI (x + 4))), (0, .ref b), (1, .ref (G.2.1 10)), (2, .ref (G.2.1 0))]) hx hb dL_law_1272 hl (k := 3) rfl (nI_addE x 4) (by decide) rfl (fun ls hl => ?_)
      refine lv_goto (pc := 1275) (tgt := 18) hx hb dL_law_1275 (by decide) ?_
      exact ih (x + 4) M1 N1 H1 locs1 ls (by omega) (by omega) S1 hR1 (lv_sub hl [1, 2, 3, 0] rfl)
    refine lv_aload_n (pc := 26) hx hb dL_law_26 rfl (lv_at hl 0 rfl) ?_
    refine lv_iload_n (pc := 27) hx hb dL_law_27 rfl (lv_at hl 3 rfl) ?_
    refine va_sld (pc := 28) hx hb hX hbl hbA S.2.2 (i := nI x) (nI_in (by omega) (by omega)) dL_law_28 ?_
    refine lv_bipush (pc := 29) (v := 31) hx hb dL_law_29 (by decide) ?_
    refine lv_iand (pc := 31) hx hb dL_law_31 ?_
    obtain ⟨k, hk, e⟩ := and31 (xs (nI x).toNatClampNeg)
    rw [e]
    rcases (show k = 0 ∨ k = 1 ∨ k = 2 ∨ k = 3 ∨ k = 4 ∨ k = 5 ∨ k = 6 ∨ k = 7 ∨ k = 8 ∨ k = 9 ∨ k = 10 ∨ k = 11 ∨ k = 12 ∨ k = 13 ∨ k = 14 ∨ k = 15 ∨ k = 16 ∨ k = 17 ∨ k = 18 ∨ k = 19 ∨ k = 20 ∨ k = 21 ∨ k = 22 ∨ k = 23 ∨ k = 24 ∨ k = 25 ∨ k = 26 ∨ k = 27 ∨ k = 28 ∨ k = 29 ∨ k = 30 ∨ k = 31 by omega) with rfl | rfl | rfl | rfl | rfl | rfl | rfl | rfl | rfl | rfl | rfl | rfl | rfl | rfl | rfl | rfl | rfl | rfl | rfl | rfl | rfl | rfl | rfl | rfl | rfl | rfl | rfl | rfl | rfl | rfl | rfl | rfl
    · refine lv_tableIn (pc := 32) (tgt := 176) hx hb dL_law_32 (by decide) (by decide) (off := 144) (by rfl) (by decide) ?_
      exact lc_set C S hR hl (fun M1 N1 H1 locs1 S1 hR1 => K1 M1 N1 H1 locs1 S1 hR1)
    · refine lv_tableIn (pc := 32) (tgt := 209) hx hb dL_law_32 (by decide) (by decide) (off := 177) (by rfl) (by decide) ?_
      exact lc_type C S hR hl (fun M1 N1 H1 locs1 S1 hR1 => K1 M1 N1 H1 locs1 S1 hR1)
    · refine lv_tableIn (pc := 32) (tgt := 252) hx hb dL_law_32 (by decide) (by decide) (off := 220) (by rfl) (by decide) ?_
      exact lc_days C S hR hl (fun M1 N1 H1 locs1 S1 hR1 => K1 M1 N1 H1 locs1 S1 hR1)
    · refine lv_tableIn (pc := 32) (tgt := 295) hx hb dL_law_32 (by decide) (by decide) (off := 263) (by rfl) (by decide) ?_
      exact lc_hang C S hR hl (fun M1 N1 H1 locs1 S1 hR1 => K1 M1 N1 H1 locs1 S1 hR1)
    · refine lv_tableIn (pc := 32) (tgt := 338) hx hb dL_law_32 (by decide) (by decide) (off := 306) (by rfl) (by decide) ?_
      exact lc_takeDown C S hR hl (fun M1 N1 H1 locs1 S1 hR1 => K1 M1 N1 H1 locs1 S1 hR1)
    · refine lv_tableIn (pc := 32) (tgt := 371) hx hb dL_law_32 (by decide) (by decide) (off := 339) (by rfl) (by decide) ?_
      exact lc_patch C S hR hl (fun M1 N1 H1 locs1 S1 hR1 => K1 M1 N1 H1 locs1 S1 hR1)
    · refine lv_tableIn (pc := 32) (tgt := 414) hx hb dL_law_32 (by decide) (by decide) (off := 382) (by rfl) (by decide) ?_
      exact lc_feed C S hR hl (fun M1 N1 H1 locs1 S1 hR1 => K1 M1 N1 H1 locs1 S1 hR1)
    · refine lv_tableIn (pc := 32) (tgt := 457) hx hb dL_law_32 (by decide) (by decide) (off := 425) (by rfl) (by decide) ?_
      exact lc_spread C S hR hl (fun M1 N1 H1 locs1 S1 hR1 => K1 M1 N1 H1 locs1 S1 hR1)
    · refine lv_tableIn (pc := 32) (tgt := 480) hx hb dL_law_32 (by decide) (by decide) (off := 448) (by rfl) (by decide) ?_
      exact lc_at C S hR hl (fun M1 N1 H1 locs1 S1 hR1 => K1 M1 N1 H1 locs1 S1 hR1)
    · refine lv_tableIn (pc := 32) (tgt := 523) hx hb dL_law_32 (by decide) (by decide) (off := 491) (by rfl) (by decide) ?_
      exact lc_record C S hR hl (fun M1 N1 H1 locs1 S1 hR1 => K1 M1 N1 H1 locs1 S1 hR1)
    · refine lv_tableIn (pc := 32) (tgt := 566) hx hb dL_law_32 (by decide) (by decide) (off := 534) (by rfl) (by decide) ?_
      exact lc_go C S hR hl (fun M1 N1 H1 locs1 S1 hR1 => K1 M1 N1 H1 locs1 S1 hR1)
    · refine lv_tableIn (pc := 32) (tgt := 599) hx hb dL_law_32 (by decide) (by decide) (off := 567) (by rfl) (by decide) ?_
      exact lc_reset C S hR hl (fun M1 N1 H1 locs1 S1 hR1 => K1 M1 N1 H1 locs1 S1 hR1)
    · refine lv_tableIn (pc := 32) (tgt := 622) hx hb dL_law_32 (by decide) (by decide) (off := 590) (by rfl) (by decide) ?_
      exact lc_tick C S hR hl (fun M1 N1 H1 locs1 S1 hR1 => K1 M1 N1 H1 locs1 S1 hR1)
    · refine lv_tableIn (pc := 32) (tgt := 645) hx hb dL_law_32 (by decide) (by decide) (off := 613) (by rfl) (by decide) ?_
      exact lc_carryOut C S hR hl (fun M1 N1 H1 locs1 S1 hR1 => K1 M1 N1 H1 locs1 S1 hR1)
    · refine lv_tableIn (pc := 32) (tgt := 668) hx hb dL_law_32 (by decide) (by decide) (off := 636) (by rfl) (by decide) ?_
      exact lc_lamp C S hR hl (fun M1 N1 H1 locs1 S1 hR1 => K1 M1 N1 H1 locs1 S1 hR1)
    · refine lv_tableIn (pc := 32) (tgt := 711) hx hb dL_law_32 (by decide) (by decide) (off := 679) (by rfl) (by decide) ?_
      exact lc_dimmer C S hR hl (fun M1 N1 H1 locs1 S1 hR1 => K1 M1 N1 H1 locs1 S1 hR1)
    · refine lv_tableIn (pc := 32) (tgt := 754) hx hb dL_law_32 (by decide) (by decide) (off := 722) (by rfl) (by decide) ?_
      exact lc_phase C S hR hl (fun M1 N1 H1 locs1 S1 hR1 => K1 M1 N1 H1 locs1 S1 hR1)
    · refine lv_tableIn (pc := 32) (tgt := 797) hx hb dL_law_32 (by decide) (by decide) (off := 765) (by rfl) (by decide) ?_
      exact lc_cue C S hR hl (fun M1 N1 H1 locs1 S1 hR1 => K1 M1 N1 H1 locs1 S1 hR1)
    · refine lv_tableIn (pc := 32) (tgt := 840) hx hb dL_law_32 (by decide) (by decide) (off := 808) (by rfl) (by decide) ?_
      exact lc_inCue C S hR hl (fun M1 N1 H1 locs1 S1 hR1 => K1 M1 N1 H1 locs1 S1 hR1)
    · refine lv_tableIn (pc := 32) (tgt := 883) hx hb dL_law_32 (by decide) (by decide) (off := 851) (by rfl) (by decide) ?_
      exact lc_of C S hR hl (fun M1 N1 H1 locs1 S1 hR1 => K1 M1 N1 H1 locs1 S1 hR1)
    · refine lv_tableIn (pc := 32) (tgt := 916) hx hb dL_law_32 (by decide) (by decide) (off := 884) (by rfl) (by decide) ?_
      exact lc_hire C S hR hl (fun M1 N1 H1 locs1 S1 hR1 => K1 M1 N1 H1 locs1 S1 hR1)
    · refine lv_tableIn (pc := 32) (tgt := 959) hx hb dL_law_32 (by decide) (by decide) (off := 927) (by rfl) (by decide) ?_
      exact lc_count C S hR hl (fun M1 N1 H1 locs1 S1 hR1 => K1 M1 N1 H1 locs1 S1 hR1)
    · refine lv_tableIn (pc := 32) (tgt := 982) hx hb dL_law_32 (by decide) (by decide) (off := 950) (by rfl) (by decide) ?_
      exact lc_ifGo C S hR hl (fun M1 N1 H1 locs1 S1 hR1 => K1 M1 N1 H1 locs1 S1 hR1)
    · refine lv_tableIn (pc := 32) (tgt := 1025) hx hb dL_law_32 (by decide) (by decide) (off := 993) (by rfl) (by decide) ?_
      exact lc_safeTicks C S hR hl (fun M1 N1 H1 locs1 S1 hR1 => K1 M1 N1 H1 locs1 S1 hR1)
    · refine lv_tableIn (pc := 32) (tgt := 1058) hx hb dL_law_32 (by decide) (by decide) (off := 1026) (by rfl) (by decide) ?_
      exact lc_bestFeed C S hR hl (fun M1 N1 H1 locs1 S1 hR1 => K1 M1 N1 H1 locs1 S1 hR1)
    · refine lv_tableIn (pc := 32) (tgt := 1091) hx hb dL_law_32 (by decide) (by decide) (off := 1059) (by rfl) (by decide) ?_
      exact lc_ifDays C S hR hl (fun M1 N1 H1 locs1 S1 hR1 => K1 M1 N1 H1 locs1 S1 hR1)
    · refine lv_tableIn (pc := 32) (tgt := 1134) hx hb dL_law_32 (by decide) (by decide) (off := 1102) (by rfl) (by decide) ?_
      exact lc_put C S hR hl (fun M1 N1 H1 locs1 S1 hR1 => K1 M1 N1 H1 locs1 S1 hR1)
    · refine lv_tableIn (pc := 32) (tgt := 1187) hx hb dL_law_32 (by decide) (by decide) (off := 1155) (by rfl) (by decide) ?_
      exact lc_wipe C S hR hl (fun M1 N1 H1 locs1 S1 hR1 => K1 M1 N1 H1 locs1 S1 hR1)
    · refine lv_tableIn (pc := 32) (tgt := 1200) hx hb dL_law_32 (by decide) (by decide) (off := 1168) (by rfl) (by decide) ?_
      exact lc_fault C S hR hl (fun M1 N1 H1 locs1 S1 hR1 => K1 M1 N1 H1 locs1 S1 hR1)
    · refine lv_tableIn (pc := 32) (tgt := 1213) hx hb dL_law_32 (by decide) (by decide) (off := 1181) (by rfl) (by decide) ?_
      exact lc_undo C S hR hl (fun M1 N1 H1 locs1 S1 hR1 => K1 M1 N1 H1 locs1 S1 hR1)
    · refine lv_tableIn (pc := 32) (tgt := 1226) hx hb dL_law_32 (by decide) (by decide) (off := 1194) (by rfl) (by decide) ?_
      exact lc_save C S hR hl (fun M1 N1 H1 locs1 S1 hR1 => K1 M1 N1 H1 locs1 S1 hR1)
    · refine lv_tableIn (pc := 32) (tgt := 1249) hx hb dL_law_32 (by decide) (by decide) (off := 1217) (by rfl) (by decide) ?_
      exact lc_restore C S hR hl (fun M1 N1 H1 locs1 S1 hR1 => K1 M1 N1 H1 locs1 S1 hR1)
