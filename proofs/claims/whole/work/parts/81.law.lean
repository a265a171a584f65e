/-! the law's cases, walked by program -/
set_option maxHeartbeats 4000000 in
theorem lc_phase {p : Program} {l : Launch} {e : Env} {s : State} {m : MethodId} {below : List Frame} {meth : Method} {c : Code} {H : Heap} {locs : List Loc} {Q : State → Prop} {ls : Array Slot} {G : GD} {M N : Mem} {b L x : Nat} {xs : Nat → Int32} (C : LC p s m meth c G b L xs x) (S : ST G M N s H locs) (hR : Rel M N) (hl : lv_has ls 4 [(0, .ref b), (1, .ref (G.2.1 10)), (2, .ref (G.2.1 0)), (3, .int (nI x))]) (K : ∀ (M1 N1 : Mem) (H1 : Heap) (locs1 : List Loc), ST G M1 N1 s H1 locs1 → Rel M1 N1 → W p l e room_1 s m #[.ref b] below meth c H1 locs1 600000 7302250 Q (F0 m 1272 ls [])) : W p l e room_1 s m #[.ref b] below meth c H locs 600000 7302250 Q (F0 m 754 ls []) := by
  have F := C.1
  have hx := F.1
  have hb := F.2.1
  have hown := F.2.2.2.2.1
  have hts := F.2.2.2.2.2.1
  obtain ⟨r, M1, e1, e2, hR1⟩ := op_phase hR ((xs (x + 1))) ((xs (x + 2))) ((xs (x + 3)))
  refine lv_aload_n (pc := 754) hx hb dL_law_754 rfl (lv_at hl 1 rfl) ?_
  refine law_ld (pc := 755) (k := 1) (kf := 1) (lv := []) C S hl (by omega) rfl dL_law_755 dL_law_756 dL_law_757 (by decide) dL_law_758 dL_law_759 ?_
  refine law_ld (pc := 760) (k := 2) (kf := 2) (lv := []) C S hl (by omega) rfl dL_law_760 dL_law_761 dL_law_762 (by decide) dL_law_763 dL_law_764 ?_
  refine law_ld (pc := 765) (k := 3) (kf := 3) (lv := []) C S hl (by omega) rfl dL_law_765 dL_law_766 dL_law_767 (by decide) dL_law_768 dL_law_769 ?_
  refine gc_vI (pc := 770) (i := 10) (ci := 11) (na := 3) (av := [.int (xs (x + 1)), .int (xs (x + 2)), .int (xs (x + 3))]) (rest := []) F S (tX11_phase e1) mfX11_phase rfl (by decide) cl11 w719 ⟨Nat.le_of_ble_eq_true rfl, Nat.le_of_ble_eq_true rfl⟩ ⟨Nat.le_of_ble_eq_true rfl, Nat.le_of_ble_eq_true rfl⟩ rfl hl.1 rfl (Nat.le_of_ble_eq_true rfl) dL_law_770 (fun H locs S => ?_)
  refine lv_aload_n (pc := 773) hx hb dL_law_773 rfl (lv_at hl 2 rfl) ?_
  refine law_ld (pc := 774) (k := 1) (kf := 1) (lv := []) C S hl (by omega) rfl dL_law_774 dL_law_775 dL_law_776 (by decide) dL_law_777 dL_law_778 ?_
  refine law_ld (pc := 779) (k := 2) (kf := 2) (lv := []) C S hl (by omega) rfl dL_law_779 dL_law_780 dL_law_781 (by decide) dL_law_782 dL_law_783 ?_
  refine law_ld (pc := 784) (k := 3) (kf := 3) (lv := []) C S hl (by omega) rfl dL_law_784 dL_law_785 dL_law_786 (by decide) dL_law_787 dL_law_788 ?_
  refine gc_vI (pc := 789) (i := 0) (ci := 12) (na := 3) (av := [.int (xs (x + 1)), .int (xs (x + 2)), .int (xs (x + 3))]) (rest := [.int r]) F S (tX12_phase e2) mfX12_phase rfl (by decide) cl12 w1159 ⟨Nat.le_of_ble_eq_true rfl, Nat.le_of_ble_eq_true rfl⟩ ⟨Nat.le_of_ble_eq_true rfl, Nat.le_of_ble_eq_true rfl⟩ rfl hl.1 rfl (Nat.le_of_ble_eq_true rfl) dL_law_789 (fun H locs S => ?_)
  exact lv_icmp_eq (pc := 792) (tgt := 1272) hx hb dL_law_792 (by decide) (fun _ => K M1 N H locs S hR1) (fun c1 => absurd rfl c1)
set_option maxHeartbeats 4000000 in
theorem lc_cue {p : Program} {l : Launch} {e : Env} {s : State} {m : MethodId} {below : List Frame} {meth : Method} {c : Code} {H : Heap} {locs : List Loc} {Q : State → Prop} {ls : Array Slot} {G : GD} {M N : Mem} {b L x : Nat} {xs : Nat → Int32} (C : LC p s m meth c G b L xs x) (S : ST G M N s H locs) (hR : Rel M N) (hl : lv_has ls 4 [(0, .ref b), (1, .ref (G.2.1 10)), (2, .ref (G.2.1 0)), (3, .int (nI x))]) (K : ∀ (M1 N1 : Mem) (H1 : Heap) (locs1 : List Loc), ST G M1 N1 s H1 locs1 → Rel M1 N1 → W p l e room_1 s m #[.ref b] below meth c H1 locs1 600000 7302250 Q (F0 m 1272 ls [])) : W p l e room_1 s m #[.ref b] below meth c H locs 600000 7302250 Q (F0 m 797 ls []) := by
  have F := C.1
  have hx := F.1
  have hb := F.2.1
  have hown := F.2.2.2.2.1
  have hts := F.2.2.2.2.2.1
  obtain ⟨r, M1, e1, e2, hR1⟩ := op_cue hR ((xs (x + 1))) ((xs (x + 2))) ((xs (x + 3)))
  refine lv_aload_n (pc := 797) hx hb dL_law_797 rfl (lv_at hl 1 rfl) ?_
  refine law_ld (pc := 798) (k := 1) (kf := 1) (lv := []) C S hl (by omega) rfl dL_law_798 dL_law_799 dL_law_800 (by decide) dL_law_801 dL_law_802 ?_
  refine law_ld (pc := 803) (k := 2) (kf := 2) (lv := []) C S hl (by omega) rfl dL_law_803 dL_law_804 dL_law_805 (by decide) dL_law_806 dL_law_807 ?_
  refine law_ld (pc := 808) (k := 3) (kf := 3) (lv := []) C S hl (by omega) rfl dL_law_808 dL_law_809 dL_law_810 (by decide) dL_law_811 dL_law_812 ?_
  refine gc_vI (pc := 813) (i := 10) (ci := 11) (na := 3) (av := [.int (xs (x + 1)), .int (xs (x + 2)), .int (xs (x + 3))]) (rest := []) F S (tX11_cue e1) mfX11_cue rfl (by decide) cl11 w727 ⟨Nat.le_of_ble_eq_true rfl, Nat.le_of_ble_eq_true rfl⟩ ⟨Nat.le_of_ble_eq_true rfl, Nat.le_of_ble_eq_true rfl⟩ rfl hl.1 rfl (Nat.le_of_ble_eq_true rfl) dL_law_813 (fun H locs S => ?_)
  refine lv_aload_n (pc := 816) hx hb dL_law_816 rfl (lv_at hl 2 rfl) ?_
  refine law_ld (pc := 817) (k := 1) (kf := 1) (lv := []) C S hl (by omega) rfl dL_law_817 dL_law_818 dL_law_819 (by decide) dL_law_820 dL_law_821 ?_
  refine law_ld (pc := 822) (k := 2) (kf := 2) (lv := []) C S hl (by omega) rfl dL_law_822 dL_law_823 dL_law_824 (by decide) dL_law_825 dL_law_826 ?_
  refine law_ld (pc := 827) (k := 3) (kf := 3) (lv := []) C S hl (by omega) rfl dL_law_827 dL_law_828 dL_law_829 (by decide) dL_law_830 dL_law_831 ?_
  refine gc_vI (pc := 832) (i := 0) (ci := 12) (na := 3) (av := [.int (xs (x + 1)), .int (xs (x + 2)), .int (xs (x + 3))]) (rest := [.int r]) F S (tX12_cue e2) mfX12_cue rfl (by decide) cl12 w1167 ⟨Nat.le_of_ble_eq_true rfl, Nat.le_of_ble_eq_true rfl⟩ ⟨Nat.le_of_ble_eq_true rfl, Nat.le_of_ble_eq_true rfl⟩ rfl hl.1 rfl (Nat.le_of_ble_eq_true rfl) dL_law_832 (fun H locs S => ?_)
  exact lv_icmp_eq (pc := 835) (tgt := 1272) hx hb dL_law_835 (by decide) (fun _ => K M1 N H locs S hR1) (fun c1 => absurd rfl c1)
set_option maxHeartbeats 4000000 in
theorem lc_inCue {p : Program} {l : Launch} {e : Env} {s : State} {m : MethodId} {below : List Frame} {meth : Method} {c : Code} {H : Heap} {locs : List Loc} {Q : State → Prop} {ls : Array Slot} {G : GD} {M N : Mem} {b L x : Nat} {xs : Nat → Int32} (C : LC p s m meth c G b L xs x) (S : ST G M N s H locs) (hR : Rel M N) (hl : lv_has ls 4 [(0, .ref b), (1, .ref (G.2.1 10)), (2, .ref (G.2.1 0)), (3, .int (nI x))]) (K : ∀ (M1 N1 : Mem) (H1 : Heap) (locs1 : List Loc), ST G M1 N1 s H1 locs1 → Rel M1 N1 → W p l e room_1 s m #[.ref b] below meth c H1 locs1 600000 7302250 Q (F0 m 1272 ls [])) : W p l e room_1 s m #[.ref b] below meth c H locs 600000 7302250 Q (F0 m 840 ls []) := by
  have F := C.1
  have hx := F.1
  have hb := F.2.1
  have hown := F.2.2.2.2.1
  have hts := F.2.2.2.2.2.1
  obtain ⟨r, e1, e2⟩ := op_inCue hR ((xs (x + 1))) ((xs (x + 2))) ((xs (x + 3)))
  refine lv_aload_n (pc := 840) hx hb dL_law_840 rfl (lv_at hl 1 rfl) ?_
  refine law_ld (pc := 841) (k := 1) (kf := 1) (lv := []) C S hl (by omega) rfl dL_law_841 dL_law_842 dL_law_843 (by decide) dL_law_844 dL_law_845 ?_
  refine law_ld (pc := 846) (k := 2) (kf := 2) (lv := []) C S hl (by omega) rfl dL_law_846 dL_law_847 dL_law_848 (by decide) dL_law_849 dL_law_850 ?_
  refine law_ld (pc := 851) (k := 3) (kf := 3) (lv := []) C S hl (by omega) rfl dL_law_851 dL_law_852 dL_law_853 (by decide) dL_law_854 dL_law_855 ?_
  refine gc_vI (pc := 856) (i := 10) (ci := 11) (na := 3) (av := [.int (xs (x + 1)), .int (xs (x + 2)), .int (xs (x + 3))]) (rest := []) F S (tX11_inCue e1) mfX11_inCue rfl (by decide) cl11 w736 ⟨Nat.le_of_ble_eq_true rfl, Nat.le_of_ble_eq_true rfl⟩ ⟨Nat.le_of_ble_eq_true rfl, Nat.le_of_ble_eq_true rfl⟩ rfl hl.1 rfl (Nat.le_of_ble_eq_true rfl) dL_law_856 (fun H locs S => ?_)
  refine lv_aload_n (pc := 859) hx hb dL_law_859 rfl (lv_at hl 2 rfl) ?_
  refine law_ld (pc := 860) (k := 1) (kf := 1) (lv := []) C S hl (by omega) rfl dL_law_860 dL_law_861 dL_law_862 (by decide) dL_law_863 dL_law_864 ?_
  refine law_ld (pc := 865) (k := 2) (kf := 2) (lv := []) C S hl (by omega) rfl dL_law_865 dL_law_866 dL_law_867 (by decide) dL_law_868 dL_law_869 ?_
  refine law_ld (pc := 870) (k := 3) (kf := 3) (lv := []) C S hl (by omega) rfl dL_law_870 dL_law_871 dL_law_872 (by decide) dL_law_873 dL_law_874 ?_
  refine gc_vI (pc := 875) (i := 0) (ci := 12) (na := 3) (av := [.int (xs (x + 1)), .int (xs (x + 2)), .int (xs (x + 3))]) (rest := [.int r]) F S (tX12_inCue e2) mfX12_inCue rfl (by decide) cl12 w1171 ⟨Nat.le_of_ble_eq_true rfl, Nat.le_of_ble_eq_true rfl⟩ ⟨Nat.le_of_ble_eq_true rfl, Nat.le_of_ble_eq_true rfl⟩ rfl hl.1 rfl (Nat.le_of_ble_eq_true rfl) dL_law_875 (fun H locs S => ?_)
  exact lv_icmp_eq (pc := 878) (tgt := 1272) hx hb dL_law_878 (by decide) (fun _ => K M N H locs S hR) (fun c1 => absurd rfl c1)
set_option maxHeartbeats 4000000 in
theorem lc_of {p : Program} {l : Launch} {e : Env} {s : State} {m : MethodId} {below : List Frame} {meth : Method} {c : Code} {H : Heap} {locs : List Loc} {Q : State → Prop} {ls : Array Slot} {G : GD} {M N : Mem} {b L x : Nat} {xs : Nat → Int32} (C : LC p s m meth c G b L xs x) (S : ST G M N s H locs) (hR : Rel M N) (hl : lv_has ls 4 [(0, .ref b), (1, .ref (G.2.1 10)), (2, .ref (G.2.1 0)), (3, .int (nI x))]) (K : ∀ (M1 N1 : Mem) (H1 : Heap) (locs1 : List Loc), ST G M1 N1 s H1 locs1 → Rel M1 N1 → W p l e room_1 s m #[.ref b] below meth c H1 locs1 600000 7302250 Q (F0 m 1272 ls [])) : W p l e room_1 s m #[.ref b] below meth c H locs 600000 7302250 Q (F0 m 883 ls []) := by
  have F := C.1
  have hx := F.1
  have hb := F.2.1
  have hown := F.2.2.2.2.1
  have hts := F.2.2.2.2.2.1
  obtain ⟨r, M1, e1, e2, hR1⟩ := op_of hR ((xs (x + 1))) ((xs (x + 2)))
  refine lv_aload_n (pc := 883) hx hb dL_law_883 rfl (lv_at hl 1 rfl) ?_
  refine law_ld (pc := 884) (k := 1) (kf := 1) (lv := []) C S hl (by omega) rfl dL_law_884 dL_law_885 dL_law_886 (by decide) dL_law_887 dL_law_888 ?_
  refine law_ld (pc := 889) (k := 2) (kf := 2) (lv := []) C S hl (by omega) rfl dL_law_889 dL_law_890 dL_law_891 (by decide) dL_law_892 dL_law_893 ?_
  refine gc_vI (pc := 894) (i := 10) (ci := 11) (na := 2) (av := [.int (xs (x + 1)), .int (xs (x + 2))]) (rest := []) F S (tX11_of e1) mfX11_of rfl (by decide) cl11 w740 ⟨Nat.le_of_ble_eq_true rfl, Nat.le_of_ble_eq_true rfl⟩ ⟨Nat.le_of_ble_eq_true rfl, Nat.le_of_ble_eq_true rfl⟩ rfl hl.1 rfl (Nat.le_of_ble_eq_true rfl) dL_law_894 (fun H locs S => ?_)
  refine lv_aload_n (pc := 897) hx hb dL_law_897 rfl (lv_at hl 2 rfl) ?_
  refine law_ld (pc := 898) (k := 1) (kf := 1) (lv := []) C S hl (by omega) rfl dL_law_898 dL_law_899 dL_law_900 (by decide) dL_law_901 dL_law_902 ?_
  refine law_ld (pc := 903) (k := 2) (kf := 2) (lv := []) C S hl (by omega) rfl dL_law_903 dL_law_904 dL_law_905 (by decide) dL_law_906 dL_law_907 ?_
  refine gc_vI (pc := 908) (i := 0) (ci := 12) (na := 2) (av := [.int (xs (x + 1)), .int (xs (x + 2))]) (rest := [.int r]) F S (tX12_of e2) mfX12_of rfl (by decide) cl12 w1175 ⟨Nat.le_of_ble_eq_true rfl, Nat.le_of_ble_eq_true rfl⟩ ⟨Nat.le_of_ble_eq_true rfl, Nat.le_of_ble_eq_true rfl⟩ rfl hl.1 rfl (Nat.le_of_ble_eq_true rfl) dL_law_908 (fun H locs S => ?_)
  exact lv_icmp_eq (pc := 911) (tgt := 1272) hx hb dL_law_911 (by decide) (fun _ => K M1 N H locs S hR1) (fun c1 => absurd rfl c1)
set_option maxHeartbeats 4000000 in
theorem lc_hire {p : Program} {l : Launch} {e : Env} {s : State} {m : MethodId} {below : List Frame} {meth : Method} {c : Code} {H : Heap} {locs : List Loc} {Q : State → Prop} {ls : Array Slot} {G : GD} {M N : Mem} {b L x : Nat} {xs : Nat → Int32} (C : LC p s m meth c G b L xs x) (S : ST G M N s H locs) (hR : Rel M N) (hl : lv_has ls 4 [(0, .ref b), (1, .ref (G.2.1 10)), (2, .ref (G.2.1 0)), (3, .int (nI x))]) (K : ∀ (M1 N1 : Mem) (H1 : Heap) (locs1 : List Loc), ST G M1 N1 s H1 locs1 → Rel M1 N1 → W p l e room_1 s m #[.ref b] below meth c H1 locs1 600000 7302250 Q (F0 m 1272 ls [])) : W p l e room_1 s m #[.ref b] below meth c H locs 600000 7302250 Q (F0 m 916 ls []) := by
  have F := C.1
  have hx := F.1
  have hb := F.2.1
  have hown := F.2.2.2.2.1
  have hts := F.2.2.2.2.2.1
  obtain ⟨r, e1, e2⟩ := op_hire hR ((xs (x + 1))) ((xs (x + 2))) ((xs (x + 3)))
  refine lv_aload_n (pc := 916) hx hb dL_law_916 rfl (lv_at hl 1 rfl) ?_
  refine law_ld (pc := 917) (k := 1) (kf := 1) (lv := []) C S hl (by omega) rfl dL_law_917 dL_law_918 dL_law_919 (by decide) dL_law_920 dL_law_921 ?_
  refine law_ld (pc := 922) (k := 2) (kf := 2) (lv := []) C S hl (by omega) rfl dL_law_922 dL_law_923 dL_law_924 (by decide) dL_law_925 dL_law_926 ?_
  refine law_ld (pc := 927) (k := 3) (kf := 3) (lv := []) C S hl (by omega) rfl dL_law_927 dL_law_928 dL_law_929 (by decide) dL_law_930 dL_law_931 ?_
  refine gc_vI (pc := 932) (i := 10) (ci := 11) (na := 3) (av := [.int (xs (x + 1)), .int (xs (x + 2)), .int (xs (x + 3))]) (rest := []) F S (tX11_hire e1) mfX11_hire rfl (by decide) cl11 w757 ⟨Nat.le_of_ble_eq_true rfl, Nat.le_of_ble_eq_true rfl⟩ ⟨Nat.le_of_ble_eq_true rfl, Nat.le_of_ble_eq_true rfl⟩ rfl hl.1 rfl (Nat.le_of_ble_eq_true rfl) dL_law_932 (fun H locs S => ?_)
  refine lv_aload_n (pc := 935) hx hb dL_law_935 rfl (lv_at hl 2 rfl) ?_
  refine law_ld (pc := 936) (k := 1) (kf := 1) (lv := []) C S hl (by omega) rfl dL_law_936 dL_law_937 dL_law_938 (by decide) dL_law_939 dL_law_940 ?_
  refine law_ld (pc := 941) (k := 2) (kf := 2) (lv := []) C S hl (by omega) rfl dL_law_941 dL_law_942 dL_law_943 (by decide) dL_law_944 dL_law_945 ?_
  refine law_ld (pc := 946) (k := 3) (kf := 3) (lv := []) C S hl (by omega) rfl dL_law_946 dL_law_947 dL_law_948 (by decide) dL_law_949 dL_law_950 ?_
  refine gc_vI (pc := 951) (i := 0) (ci := 12) (na := 3) (av := [.int (xs (x + 1)), .int (xs (x + 2)), .int (xs (x + 3))]) (rest := [.int r]) F S (tX12_hire e2) mfX12_hire rfl (by decide) cl12 w1195 ⟨Nat.le_of_ble_eq_true rfl, Nat.le_of_ble_eq_true rfl⟩ ⟨Nat.le_of_ble_eq_true rfl, Nat.le_of_ble_eq_true rfl⟩ rfl hl.1 rfl (Nat.le_of_ble_eq_true rfl) dL_law_951 (fun H locs S => ?_)
  exact lv_icmp_eq (pc := 954) (tgt := 1272) hx hb dL_law_954 (by decide) (fun _ => K M N H locs S hR) (fun c1 => absurd rfl c1)
set_option maxHeartbeats 4000000 in
theorem lc_count {p : Program} {l : Launch} {e : Env} {s : State} {m : MethodId} {below : List Frame} {meth : Method} {c : Code} {H : Heap} {locs : List Loc} {Q : State → Prop} {ls : Array Slot} {G : GD} {M N : Mem} {b L x : Nat} {xs : Nat → Int32} (C : LC p s m meth c G b L xs x) (S : ST G M N s H locs) (hR : Rel M N) (hl : lv_has ls 4 [(0, .ref b), (1, .ref (G.2.1 10)), (2, .ref (G.2.1 0)), (3, .int (nI x))]) (K : ∀ (M1 N1 : Mem) (H1 : Heap) (locs1 : List Loc), ST G M1 N1 s H1 locs1 → Rel M1 N1 → W p l e room_1 s m #[.ref b] below meth c H1 locs1 600000 7302250 Q (F0 m 1272 ls [])) : W p l e room_1 s m #[.ref b] below meth c H locs 600000 7302250 Q (F0 m 959 ls []) := by
  have F := C.1
  have hx := F.1
  have hb := F.2.1
  have hown := F.2.2.2.2.1
  have hts := F.2.2.2.2.2.1
  obtain ⟨r, e1, e2⟩ := op_count hR ((xs (x + 1)))
  refine lv_aload_n (pc := 959) hx hb dL_law_959 rfl (lv_at hl 1 rfl) ?_
  refine law_ld (pc := 960) (k := 1) (kf := 1) (lv := []) C S hl (by omega) rfl dL_law_960 dL_law_961 dL_law_962 (by decide) dL_law_963 dL_law_964 ?_
  refine gc_vI (pc := 965) (i := 10) (ci := 11) (na := 1) (av := [.int (xs (x + 1))]) (rest := []) F S (tX11_count e1) mfX11_count rfl (by decide) cl11 w794 ⟨Nat.le_of_ble_eq_true rfl, Nat.le_of_ble_eq_true rfl⟩ ⟨Nat.le_of_ble_eq_true rfl, Nat.le_of_ble_eq_true rfl⟩ rfl hl.1 rfl (Nat.le_of_ble_eq_true rfl) dL_law_965 (fun H locs S => ?_)
  refine lv_aload_n (pc := 968) hx hb dL_law_968 rfl (lv_at hl 2 rfl) ?_
  refine law_ld (pc := 969) (k := 1) (kf := 1) (lv := []) C S hl (by omega) rfl dL_law_969 dL_law_970 dL_law_971 (by decide) dL_law_972 dL_law_973 ?_
  refine gc_vI (pc := 974) (i := 0) (ci := 12) (na := 1) (av := [.int (xs (x + 1))]) (rest := [.int r]) F S (tX12_count e2) mfX12_count rfl (by decide) cl12 w1207 ⟨Nat.le_of_ble_eq_true rfl, Nat.le_of_ble_eq_true rfl⟩ ⟨Nat.le_of_ble_eq_true rfl, Nat.le_of_ble_eq_true rfl⟩ rfl hl.1 rfl (Nat.le_of_ble_eq_true rfl) dL_law_974 (fun H locs S => ?_)
  exact lv_icmp_eq (pc := 977) (tgt := 1272) hx hb dL_law_977 (by decide) (fun _ => K M N H locs S hR) (fun c1 => absurd rfl c1)
set_option maxHeartbeats 4000000 in
theorem lc_ifGo {p : Program} {l : Launch} {e : Env} {s : State} {m : MethodId} {below : List Frame} {meth : Method} {c : Code} {H : Heap} {locs : List Loc} {Q : State → Prop} {ls : Array Slot} {G : GD} {M N : Mem} {b L x : Nat} {xs : Nat → Int32} (C : LC p s m meth c G b L xs x) (S : ST G M N s H locs) (hR : Rel M N) (hl : lv_has ls 4 [(0, .ref b), (1, .ref (G.2.1 10)), (2, .ref (G.2.1 0)), (3, .int (nI x))]) (K : ∀ (M1 N1 : Mem) (H1 : Heap) (locs1 : List Loc), ST G M1 N1 s H1 locs1 → Rel M1 N1 → W p l e room_1 s m #[.ref b] below meth c H1 locs1 600000 7302250 Q (F0 m 1272 ls [])) : W p l e room_1 s m #[.ref b] below meth c H locs 600000 7302250 Q (F0 m 982 ls []) := by
  have F := C.1
  have hx := F.1
  have hb := F.2.1
  have hown := F.2.2.2.2.1
  have hts := F.2.2.2.2.2.1
  obtain ⟨r, M1, N1, e1, e2, hR1⟩ := op_ifGo hR ((xs (x + 1))) ((xs (x + 2))) ((xs (x + 3)))
  refine lv_aload_n (pc := 982) hx hb dL_law_982 rfl (lv_at hl 1 rfl) ?_
  refine law_ld (pc := 983) (k := 1) (kf := 1) (lv := []) C S hl (by omega) rfl dL_law_983 dL_law_984 dL_law_985 (by decide) dL_law_986 dL_law_987 ?_
  refine law_ld (pc := 988) (k := 2) (kf := 2) (lv := []) C S hl (by omega) rfl dL_law_988 dL_law_989 dL_law_990 (by decide) dL_law_991 dL_law_992 ?_
  refine law_ld (pc := 993) (k := 3) (kf := 3) (lv := []) C S hl (by omega) rfl dL_law_993 dL_law_994 dL_law_995 (by decide) dL_law_996 dL_law_997 ?_
  refine gc_vI (pc := 998) (i := 10) (ci := 11) (na := 3) (av := [.int (xs (x + 1)), .int (xs (x + 2)), .int (xs (x + 3))]) (rest := []) F S (tX11_ifGo e1) mfX11_ifGo rfl (by decide) cl11 w816 ⟨Nat.le_of_ble_eq_true rfl, Nat.le_of_ble_eq_true rfl⟩ ⟨Nat.le_of_ble_eq_true rfl, Nat.le_of_ble_eq_true rfl⟩ rfl hl.1 rfl (Nat.le_of_ble_eq_true rfl) dL_law_998 (fun H locs S => ?_)
  refine lv_aload_n (pc := 1001) hx hb dL_law_1001 rfl (lv_at hl 2 rfl) ?_
  refine law_ld (pc := 1002) (k := 1) (kf := 1) (lv := []) C S hl (by omega) rfl dL_law_1002 dL_law_1003 dL_law_1004 (by decide) dL_law_1005 dL_law_1006 ?_
  refine law_ld (pc := 1007) (k := 2) (kf := 2) (lv := []) C S hl (by omega) rfl dL_law_1007 dL_law_1008 dL_law_1009 (by decide) dL_law_1010 dL_law_1011 ?_
  refine law_ld (pc := 1012) (k := 3) (kf := 3) (lv := []) C S hl (by omega) rfl dL_law_1012 dL_law_1013 dL_law_1014 (by decide) dL_law_1015 dL_law_1016 ?_
  refine gc_vI (pc := 1017) (i := 0) (ci := 12) (na := 3) (av := [.int (xs (x + 1)), .int (xs (x + 2)), .int (xs (x + 3))]) (rest := [.int r]) F S (tX12_ifGo e2) mfX12_ifGo rfl (by decide) cl12 w1219 ⟨Nat.le_of_ble_eq_true rfl, Nat.le_of_ble_eq_true rfl⟩ ⟨Nat.le_of_ble_eq_true rfl, Nat.le_of_ble_eq_true rfl⟩ rfl hl.1 rfl (Nat.le_of_ble_eq_true rfl) dL_law_1017 (fun H locs S => ?_)
  exact lv_icmp_eq (pc := 1020) (tgt := 1272) hx hb dL_law_1020 (by decide) (fun _ => K M1 N1 H locs S hR1) (fun c1 => absurd rfl c1)
set_option maxHeartbeats 4000000 in
theorem lc_safeTicks {p : Program} {l : Launch} {e : Env} {s : State} {m : MethodId} {below : List Frame} {meth : Method} {c : Code} {H : Heap} {locs : List Loc} {Q : State → Prop} {ls : Array Slot} {G : GD} {M N : Mem} {b L x : Nat} {xs : Nat → Int32} (C : LC p s m meth c G b L xs x) (S : ST G M N s H locs) (hR : Rel M N) (hl : lv_has ls 4 [(0, .ref b), (1, .ref (G.2.1 10)), (2, .ref (G.2.1 0)), (3, .int (nI x))]) (K : ∀ (M1 N1 : Mem) (H1 : Heap) (locs1 : List Loc), ST G M1 N1 s H1 locs1 → Rel M1 N1 → W p l e room_1 s m #[.ref b] below meth c H1 locs1 600000 7302250 Q (F0 m 1272 ls [])) : W p l e room_1 s m #[.ref b] below meth c H locs 600000 7302250 Q (F0 m 1025 ls []) := by
  have F := C.1
  have hx := F.1
  have hb := F.2.1
  have hown := F.2.2.2.2.1
  have hts := F.2.2.2.2.2.1
  obtain ⟨r, M1, N1, e1, e2, hR1⟩ := op_safeTicks hR ((xs (x + 1))) ((xs (x + 2)))
  refine lv_aload_n (pc := 1025) hx hb dL_law_1025 rfl (lv_at hl 1 rfl) ?_
  refine law_ld (pc := 1026) (k := 1) (kf := 1) (lv := []) C S hl (by omega) rfl dL_law_1026 dL_law_1027 dL_law_1028 (by decide) dL_law_1029 dL_law_1030 ?_
  refine law_ld (pc := 1031) (k := 2) (kf := 2) (lv := []) C S hl (by omega) rfl dL_law_1031 dL_law_1032 dL_law_1033 (by decide) dL_law_1034 dL_law_1035 ?_
  refine gc_vI (pc := 1036) (i := 10) (ci := 11) (na := 2) (av := [.int (xs (x + 1)), .int (xs (x + 2))]) (rest := []) F S (tX11_safeTicks e1) mfX11_safeTicks rfl (by decide) cl11 w834 ⟨Nat.le_of_ble_eq_true rfl, Nat.le_of_ble_eq_true rfl⟩ ⟨Nat.le_of_ble_eq_true rfl, Nat.le_of_ble_eq_true rfl⟩ rfl hl.1 rfl (Nat.le_of_ble_eq_true rfl) dL_law_1036 (fun H locs S => ?_)
  refine lv_aload_n (pc := 1039) hx hb dL_law_1039 rfl (lv_at hl 2 rfl) ?_
  refine law_ld (pc := 1040) (k := 1) (kf := 1) (lv := []) C S hl (by omega) rfl dL_law_1040 dL_law_1041 dL_law_1042 (by decide) dL_law_1043 dL_law_1044 ?_
  refine law_ld (pc := 1045) (k := 2) (kf := 2) (lv := []) C S hl (by omega) rfl dL_law_1045 dL_law_1046 dL_law_1047 (by decide) dL_law_1048 dL_law_1049 ?_
  refine gc_vI (pc := 1050) (i := 0) (ci := 12) (na := 2) (av := [.int (xs (x + 1)), .int (xs (x + 2))]) (rest := [.int r]) F S (tX12_safeTicks e2) mfX12_safeTicks rfl (by decide) cl12 w1235 ⟨Nat.le_of_ble_eq_true rfl, Nat.le_of_ble_eq_true rfl⟩ ⟨Nat.le_of_ble_eq_true rfl, Nat.le_of_ble_eq_true rfl⟩ rfl hl.1 rfl (Nat.le_of_ble_eq_true rfl) dL_law_1050 (fun H locs S => ?_)
  exact lv_icmp_eq (pc := 1053) (tgt := 1272) hx hb dL_law_1053 (by decide) (fun _ => K M1 N1 H locs S hR1) (fun c1 => absurd rfl c1)
set_option maxHeartbeats 4000000 in
theorem lc_bestFeed {p : Program} {l : Launch} {e : Env} {s : State} {m : MethodId} {below : List Frame} {meth : Method} {c : Code} {H : Heap} {locs : List Loc} {Q : State → Prop} {ls : Array Slot} {G : GD} {M N : Mem} {b L x : Nat} {xs : Nat → Int32} (C : LC p s m meth c G b L xs x) (S : ST G M N s H locs) (hR : Rel M N) (hl : lv_has ls 4 [(0, .ref b), (1, .ref (G.2.1 10)), (2, .ref (G.2.1 0)), (3, .int (nI x))]) (K : ∀ (M1 N1 : Mem) (H1 : Heap) (locs1 : List Loc), ST G M1 N1 s H1 locs1 → Rel M1 N1 → W p l e room_1 s m #[.ref b] below meth c H1 locs1 600000 7302250 Q (F0 m 1272 ls [])) : W p l e room_1 s m #[.ref b] below meth c H locs 600000 7302250 Q (F0 m 1058 ls []) := by
  have F := C.1
  have hx := F.1
  have hb := F.2.1
  have hown := F.2.2.2.2.1
  have hts := F.2.2.2.2.2.1
  obtain ⟨r, M1, N1, e1, e2, hR1⟩ := op_bestFeed hR ((xs (x + 1))) ((xs (x + 2)))
  refine lv_aload_n (pc := 1058) hx hb dL_law_1058 rfl (lv_at hl 1 rfl) ?_
  refine law_ld (pc := 1059) (k := 1) (kf := 1) (lv := []) C S hl (by omega) rfl dL_law_1059 dL_law_1060 dL_law_1061 (by decide) dL_law_1062 dL_law_1063 ?_
  refine law_ld (pc := 1064) (k := 2) (kf := 2) (lv := []) C S hl (by omega) rfl dL_law_1064 dL_law_1065 dL_law_1066 (by decide) dL_law_1067 dL_law_1068 ?_
  refine gc_vI (pc := 1069) (i := 10) (ci := 11) (na := 2) (av := [.int (xs (x + 1)), .int (xs (x + 2))]) (rest := []) F S (tX11_bestFeed e1) mfX11_bestFeed rfl (by decide) cl11 w842 ⟨Nat.le_of_ble_eq_true rfl, Nat.le_of_ble_eq_true rfl⟩ ⟨Nat.le_of_ble_eq_true rfl, Nat.le_of_ble_eq_true rfl⟩ rfl hl.1 rfl (Nat.le_of_ble_eq_true rfl) dL_law_1069 (fun H locs S => ?_)
  refine lv_aload_n (pc := 1072) hx hb dL_law_1072 rfl (lv_at hl 2 rfl) ?_
  refine law_ld (pc := 1073) (k := 1) (kf := 1) (lv := []) C S hl (by omega) rfl dL_law_1073 dL_law_1074 dL_law_1075 (by decide) dL_law_1076 dL_law_1077 ?_
  refine law_ld (pc := 1078) (k := 2) (kf := 2) (lv := []) C S hl (by omega) rfl dL_law_1078 dL_law_1079 dL_law_1080 (by decide) dL_law_1081 dL_law_1082 ?_
  refine gc_vI (pc := 1083) (i := 0) (ci := 12) (na := 2) (av := [.int (xs (x + 1)), .int (xs (x + 2))]) (rest := [.int r]) F S (tX12_bestFeed e2) mfX12_bestFeed rfl (by decide) cl12 w1239 ⟨Nat.le_of_ble_eq_true rfl, Nat.le_of_ble_eq_true rfl⟩ ⟨Nat.le_of_ble_eq_true rfl, Nat.le_of_ble_eq_true rfl⟩ rfl hl.1 rfl (Nat.le_of_ble_eq_true rfl) dL_law_1083 (fun H locs S => ?_)
  exact lv_icmp_eq (pc := 1086) (tgt := 1272) hx hb dL_law_1086 (by decide) (fun _ => K M1 N1 H locs S hR1) (fun c1 => absurd rfl c1)
set_option maxHeartbeats 4000000 in
theorem lc_ifDays {p : Program} {l : Launch} {e : Env} {s : State} {m : MethodId} {below : List Frame} {meth : Method} {c : Code} {H : Heap} {locs : List Loc} {Q : State → Prop} {ls : Array Slot} {G : GD} {M N : Mem} {b L x : Nat} {xs : Nat → Int32} (C : LC p s m meth c G b L xs x) (S : ST G M N s H locs) (hR : Rel M N) (hl : lv_has ls 4 [(0, .ref b), (1, .ref (G.2.1 10)), (2, .ref (G.2.1 0)), (3, .int (nI x))]) (K : ∀ (M1 N1 : Mem) (H1 : Heap) (locs1 : List Loc), ST G M1 N1 s H1 locs1 → Rel M1 N1 → W p l e room_1 s m #[.ref b] below meth c H1 locs1 600000 7302250 Q (F0 m 1272 ls [])) : W p l e room_1 s m #[.ref b] below meth c H locs 600000 7302250 Q (F0 m 1091 ls []) := by
  have F := C.1
  have hx := F.1
  have hb := F.2.1
  have hown := F.2.2.2.2.1
  have hts := F.2.2.2.2.2.1
  obtain ⟨r, M1, N1, e1, e2, hR1⟩ := op_ifDays hR ((xs (x + 1))) ((xs (x + 2))) ((xs (x + 3)))
  refine lv_aload_n (pc := 1091) hx hb dL_law_1091 rfl (lv_at hl 1 rfl) ?_
  refine law_ld (pc := 1092) (k := 1) (kf := 1) (lv := []) C S hl (by omega) rfl dL_law_1092 dL_law_1093 dL_law_1094 (by decide) dL_law_1095 dL_law_1096 ?_
  refine law_ld (pc := 1097) (k := 2) (kf := 2) (lv := []) C S hl (by omega) rfl dL_law_1097 dL_law_1098 dL_law_1099 (by decide) dL_law_1100 dL_law_1101 ?_
  refine law_ld (pc := 1102) (k := 3) (kf := 3) (lv := []) C S hl (by omega) rfl dL_law_1102 dL_law_1103 dL_law_1104 (by decide) dL_law_1105 dL_law_1106 ?_
  refine gc_vI (pc := 1107) (i := 10) (ci := 11) (na := 3) (av := [.int (xs (x + 1)), .int (xs (x + 2)), .int (xs (x + 3))]) (rest := []) F S (tX11_ifDays e1) mfX11_ifDays rfl (by decide) cl11 w846 ⟨Nat.le_of_ble_eq_true rfl, Nat.le_of_ble_eq_true rfl⟩ ⟨Nat.le_of_ble_eq_true rfl, Nat.le_of_ble_eq_true rfl⟩ rfl hl.1 rfl (Nat.le_of_ble_eq_true rfl) dL_law_1107 (fun H locs S => ?_)
  refine lv_aload_n (pc := 1110) hx hb dL_law_1110 rfl (lv_at hl 2 rfl) ?_
  refine law_ld (pc := 1111) (k := 1) (kf := 1) (lv := []) C S hl (by omega) rfl dL_law_1111 dL_law_1112 dL_law_1113 (by decide) dL_law_1114 dL_law_1115 ?_
  refine law_ld (pc := 1116) (k := 2) (kf := 2) (lv := []) C S hl (by omega) rfl dL_law_1116 dL_law_1117 dL_law_1118 (by decide) dL_law_1119 dL_law_1120 ?_
  refine law_ld (pc := 1121) (k := 3) (kf := 3) (lv := []) C S hl (by omega) rfl dL_law_1121 dL_law_1122 dL_law_1123 (by decide) dL_law_1124 dL_law_1125 ?_
  refine gc_vI (pc := 1126) (i := 0) (ci := 12) (na := 3) (av := [.int (xs (x + 1)), .int (xs (x + 2)), .int (xs (x + 3))]) (rest := [.int r]) F S (tX12_ifDays e2) mfX12_ifDays rfl (by decide) cl12 w1243 ⟨Nat.le_of_ble_eq_true rfl, Nat.le_of_ble_eq_true rfl⟩ ⟨Nat.le_of_ble_eq_true rfl, Nat.le_of_ble_eq_true rfl⟩ rfl hl.1 rfl (Nat.le_of_ble_eq_true rfl) dL_law_1126 (fun H locs S => ?_)
  exact lv_icmp_eq (pc := 1129) (tgt := 1272) hx hb dL_law_1129 (by decide) (fun _ => K M1 N1 H locs S hR1) (fun c1 => absurd rfl c1)
set_option maxHeartbeats 4000000 in
theorem lc_put {p : Program} {l : Launch} {e : Env} {s : State} {m : MethodId} {below : List Frame} {meth : Method} {c : Code} {H : Heap} {locs : List Loc} {Q : State → Prop} {ls : Array Slot} {G : GD} {M N : Mem} {b L x : Nat} {xs : Nat → Int32} (C : LC p s m meth c G b L xs x) (S : ST G M N s H locs) (hR : Rel M N) (hl : lv_has ls 4 [(0, .ref b), (1, .ref (G.2.1 10)), (2, .ref (G.2.1 0)), (3, .int (nI x))]) (K : ∀ (M1 N1 : Mem) (H1 : Heap) (locs1 : List Loc), ST G M1 N1 s H1 locs1 → Rel M1 N1 → W p l e room_1 s m #[.ref b] below meth c H1 locs1 600000 7302250 Q (F0 m 1272 ls [])) : W p l e room_1 s m #[.ref b] below meth c H locs 600000 7302250 Q (F0 m 1134 ls []) := by
  have F := C.1
  have hx := F.1
  have hb := F.2.1
  have hown := F.2.2.2.2.1
  have hts := F.2.2.2.2.2.1
  obtain ⟨r, M1, N1, e1, e2, hR1⟩ := op_put hR (((((xs (x + 1)).toInt64) <<< ((32 : Int32).toInt64 &&& 63)) ||| (((xs (x + 2)).toInt64) &&& 4294967295)))
  refine lv_aload_n (pc := 1134) hx hb dL_law_1134 rfl (lv_at hl 1 rfl) ?_
  refine law_ld (pc := 1135) (k := 1) (kf := 1) (lv := []) C S hl (by omega) rfl dL_law_1135 dL_law_1136 dL_law_1137 (by decide) dL_law_1138 dL_law_1139 ?_
  refine lv_i2l (pc := 1140) (v := (xs (x + 1)).toInt64) hx hb dL_law_1140 rfl ?_
  refine lv_bipush (pc := 1141) (v := 32) hx hb dL_law_1141 (by decide) ?_
  refine lv_lshl (pc := 1143) (v := ((xs (x + 1)).toInt64) <<< ((32 : Int32).toInt64 &&& 63)) hx hb dL_law_1143 rfl ?_
  refine law_ld (pc := 1144) (k := 2) (kf := 2) (lv := []) C S hl (by omega) rfl dL_law_1144 dL_law_1145 dL_law_1146 (by decide) dL_law_1147 dL_law_1148 ?_
  refine lv_i2l (pc := 1149) (v := (xs (x + 2)).toInt64) hx hb dL_law_1149 rfl ?_
  refine lv_ldc2 (pc := 1150) (v := 4294967295) hx hb hown (hts _ w1263) dL_law_1150 ?_
  refine lv_land (pc := 1153) hx hb dL_law_1153 ?_
  refine lv_lor (pc := 1154) hx hb dL_law_1154 ?_
  refine gc_vI (pc := 1155) (i := 10) (ci := 11) (na := 1) (av := [.long ((((xs (x + 1)).toInt64) <<< ((32 : Int32).toInt64 &&& 63)) ||| (((xs (x + 2)).toInt64) &&& 4294967295))]) (rest := []) F S (tX11_put e1) mfX11_put rfl (by decide) cl11 w850 ⟨Nat.le_of_ble_eq_true rfl, Nat.le_of_ble_eq_true rfl⟩ ⟨Nat.le_of_ble_eq_true rfl, Nat.le_of_ble_eq_true rfl⟩ rfl hl.1 rfl (Nat.le_of_ble_eq_true rfl) dL_law_1155 (fun H locs S => ?_)
  refine lv_aload_n (pc := 1158) hx hb dL_law_1158 rfl (lv_at hl 2 rfl) ?_
  refine law_ld (pc := 1159) (k := 1) (kf := 1) (lv := []) C S hl (by omega) rfl dL_law_1159 dL_law_1160 dL_law_1161 (by decide) dL_law_1162 dL_law_1163 ?_
  refine lv_i2l (pc := 1164) (v := (xs (x + 1)).toInt64) hx hb dL_law_1164 rfl ?_
  refine lv_bipush (pc := 1165) (v := 32) hx hb dL_law_1165 (by decide) ?_
  refine lv_lshl (pc := 1167) (v := ((xs (x + 1)).toInt64) <<< ((32 : Int32).toInt64 &&& 63)) hx hb dL_law_1167 rfl ?_
  refine law_ld (pc := 1168) (k := 2) (kf := 2) (lv := []) C S hl (by omega) rfl dL_law_1168 dL_law_1169 dL_law_1170 (by decide) dL_law_1171 dL_law_1172 ?_
  refine lv_i2l (pc := 1173) (v := (xs (x + 2)).toInt64) hx hb dL_law_1173 rfl ?_
  refine lv_ldc2 (pc := 1174) (v := 4294967295) hx hb hown (hts _ w1263) dL_law_1174 ?_
  refine lv_land (pc := 1177) hx hb dL_law_1177 ?_
  refine lv_lor (pc := 1178) hx hb dL_law_1178 ?_
  refine gc_vI (pc := 1179) (i := 0) (ci := 12) (na := 1) (av := [.long ((((xs (x + 1)).toInt64) <<< ((32 : Int32).toInt64 &&& 63)) ||| (((xs (x + 2)).toInt64) &&& 4294967295))]) (rest := [.int r]) F S (tX12_put e2) mfX12_put rfl (by decide) cl12 w1098 ⟨Nat.le_of_ble_eq_true rfl, Nat.le_of_ble_eq_true rfl⟩ ⟨Nat.le_of_ble_eq_true rfl, Nat.le_of_ble_eq_true rfl⟩ rfl hl.1 rfl (Nat.le_of_ble_eq_true rfl) dL_law_1179 (fun H locs S => ?_)
  exact lv_icmp_eq (pc := 1182) (tgt := 1272) hx hb dL_law_1182 (by decide) (fun _ => K M1 N1 H locs S hR1) (fun c1 => absurd rfl c1)
set_option maxHeartbeats 4000000 in
theorem lc_wipe {p : Program} {l : Launch} {e : Env} {s : State} {m : MethodId} {below : List Frame} {meth : Method} {c : Code} {H : Heap} {locs : List Loc} {Q : State → Prop} {ls : Array Slot} {G : GD} {M N : Mem} {b L x : Nat} {xs : Nat → Int32} (C : LC p s m meth c G b L xs x) (S : ST G M N s H locs) (hR : Rel M N) (hl : lv_has ls 4 [(0, .ref b), (1, .ref (G.2.1 10)), (2, .ref (G.2.1 0)), (3, .int (nI x))]) (K : ∀ (M1 N1 : Mem) (H1 : Heap) (locs1 : List Loc), ST G M1 N1 s H1 locs1 → Rel M1 N1 → W p l e room_1 s m #[.ref b] below meth c H1 locs1 600000 7302250 Q (F0 m 1272 ls [])) : W p l e room_1 s m #[.ref b] below meth c H locs 600000 7302250 Q (F0 m 1187 ls []) := by
  have F := C.1
  have hx := F.1
  have hb := F.2.1
  have hown := F.2.2.2.2.1
  have hts := F.2.2.2.2.2.1
  obtain ⟨r, M1, N1, e1, e2, hR1⟩ := op_wipe hR 
  refine lv_aload_n (pc := 1187) hx hb dL_law_1187 rfl (lv_at hl 1 rfl) ?_
  refine gc_vI (pc := 1188) (i := 10) (ci := 11) (na := 0) (av := []) (rest := []) F S (tX11_wipe e1) mfX11_wipe rfl (by decide) cl11 w864 ⟨Nat.le_of_ble_eq_true rfl, Nat.le_of_ble_eq_true rfl⟩ ⟨Nat.le_of_ble_eq_true rfl, Nat.le_of_ble_eq_true rfl⟩ rfl hl.1 rfl (Nat.le_of_ble_eq_true rfl) dL_law_1188 (fun H locs S => ?_)
  refine lv_aload_n (pc := 1191) hx hb dL_law_1191 rfl (lv_at hl 2 rfl) ?_
  refine gc_vI (pc := 1192) (i := 0) (ci := 12) (na := 0) (av := []) (rest := [.int r]) F S (tX12_wipe e2) mfX12_wipe rfl (by decide) cl12 w1103 ⟨Nat.le_of_ble_eq_true rfl, Nat.le_of_ble_eq_true rfl⟩ ⟨Nat.le_of_ble_eq_true rfl, Nat.le_of_ble_eq_true rfl⟩ rfl hl.1 rfl (Nat.le_of_ble_eq_true rfl) dL_law_1192 (fun H locs S => ?_)
  exact lv_icmp_eq (pc := 1195) (tgt := 1272) hx hb dL_law_1195 (by decide) (fun _ => K M1 N1 H locs S hR1) (fun c1 => absurd rfl c1)
set_option maxHeartbeats 4000000 in
theorem lc_fault {p : Program} {l : Launch} {e : Env} {s : State} {m : MethodId} {below : List Frame} {meth : Method} {c : Code} {H : Heap} {locs : List Loc} {Q : State → Prop} {ls : Array Slot} {G : GD} {M N : Mem} {b L x : Nat} {xs : Nat → Int32} (C : LC p s m meth c G b L xs x) (S : ST G M N s H locs) (hR : Rel M N) (hl : lv_has ls 4 [(0, .ref b), (1, .ref (G.2.1 10)), (2, .ref (G.2.1 0)), (3, .int (nI x))]) (K : ∀ (M1 N1 : Mem) (H1 : Heap) (locs1 : List Loc), ST G M1 N1 s H1 locs1 → Rel M1 N1 → W p l e room_1 s m #[.ref b] below meth c H1 locs1 600000 7302250 Q (F0 m 1272 ls [])) : W p l e room_1 s m #[.ref b] below meth c H locs 600000 7302250 Q (F0 m 1200 ls []) := by
  have F := C.1
  have hx := F.1
  have hb := F.2.1
  have hown := F.2.2.2.2.1
  have hts := F.2.2.2.2.2.1
  obtain ⟨r, M1, N1, e1, e2, hR1⟩ := op_fault hR 
  refine lv_aload_n (pc := 1200) hx hb dL_law_1200 rfl (lv_at hl 1 rfl) ?_
  refine gc_vI (pc := 1201) (i := 10) (ci := 11) (na := 0) (av := []) (rest := []) F S (tX11_fault e1) mfX11_fault rfl (by decide) cl11 w868 ⟨Nat.le_of_ble_eq_true rfl, Nat.le_of_ble_eq_true rfl⟩ ⟨Nat.le_of_ble_eq_true rfl, Nat.le_of_ble_eq_true rfl⟩ rfl hl.1 rfl (Nat.le_of_ble_eq_true rfl) dL_law_1201 (fun H locs S => ?_)
  refine lv_aload_n (pc := 1204) hx hb dL_law_1204 rfl (lv_at hl 2 rfl) ?_
  refine gc_vI (pc := 1205) (i := 0) (ci := 12) (na := 0) (av := []) (rest := [.int r]) F S (tX12_fault e2) mfX12_fault rfl (by decide) cl12 w1107 ⟨Nat.le_of_ble_eq_true rfl, Nat.le_of_ble_eq_true rfl⟩ ⟨Nat.le_of_ble_eq_true rfl, Nat.le_of_ble_eq_true rfl⟩ rfl hl.1 rfl (Nat.le_of_ble_eq_true rfl) dL_law_1205 (fun H locs S => ?_)
  exact lv_icmp_eq (pc := 1208) (tgt := 1272) hx hb dL_law_1208 (by decide) (fun _ => K M1 N1 H locs S hR1) (fun c1 => absurd rfl c1)
set_option maxHeartbeats 4000000 in
theorem lc_undo {p : Program} {l : Launch} {e : Env} {s : State} {m : MethodId} {below : List Frame} {meth : Method} {c : Code} {H : Heap} {locs : List Loc} {Q : State → Prop} {ls : Array Slot} {G : GD} {M N : Mem} {b L x : Nat} {xs : Nat → Int32} (C : LC p s m meth c G b L xs x) (S : ST G M N s H locs) (hR : Rel M N) (hl : lv_has ls 4 [(0, .ref b), (1, .ref (G.2.1 10)), (2, .ref (G.2.1 0)), (3, .int (nI x))]) (K : ∀ (M1 N1 : Mem) (H1 : Heap) (locs1 : List Loc), ST G M1 N1 s H1 locs1 → Rel M1 N1 → W p l e room_1 s m #[.ref b] below meth c H1 locs1 600000 7302250 Q (F0 m 1272 ls [])) : W p l e room_1 s m #[.ref b] below meth c H locs 600000 7302250 Q (F0 m 1213 ls []) := by
  have F := C.1
  have hx := F.1
  have hb := F.2.1
  have hown := F.2.2.2.2.1
  have hts := F.2.2.2.2.2.1
  obtain ⟨r, M1, N1, e1, e2, hR1⟩ := op_undo hR 
  refine lv_aload_n (pc := 1213) hx hb dL_law_1213 rfl (lv_at hl 1 rfl) ?_
  refine gc_vI (pc := 1214) (i := 10) (ci := 11) (na := 0) (av := []) (rest := []) F S (tX11_undo e1) mfX11_undo rfl (by decide) cl11 w872 ⟨Nat.le_of_ble_eq_true rfl, Nat.le_of_ble_eq_true rfl⟩ ⟨Nat.le_of_ble_eq_true rfl, Nat.le_of_ble_eq_true rfl⟩ rfl hl.1 rfl (Nat.le_of_ble_eq_true rfl) dL_law_1214 (fun H locs S => ?_)
  refine lv_aload_n (pc := 1217) hx hb dL_law_1217 rfl (lv_at hl 2 rfl) ?_
  refine gc_vI (pc := 1218) (i := 0) (ci := 12) (na := 0) (av := []) (rest := [.int r]) F S (tX12_undo e2) mfX12_undo rfl (by decide) cl12 w1247 ⟨Nat.le_of_ble_eq_true rfl, Nat.le_of_ble_eq_true rfl⟩ ⟨Nat.le_of_ble_eq_true rfl, Nat.le_of_ble_eq_true rfl⟩ rfl hl.1 rfl (Nat.le_of_ble_eq_true rfl) dL_law_1218 (fun H locs S => ?_)
  exact lv_icmp_eq (pc := 1221) (tgt := 1272) hx hb dL_law_1221 (by decide) (fun _ => K M1 N1 H locs S hR1) (fun c1 => absurd rfl c1)
set_option maxHeartbeats 4000000 in
theorem lc_save {p : Program} {l : Launch} {e : Env} {s : State} {m : MethodId} {below : List Frame} {meth : Method} {c : Code} {H : Heap} {locs : List Loc} {Q : State → Prop} {ls : Array Slot} {G : GD} {M N : Mem} {b L x : Nat} {xs : Nat → Int32} (C : LC p s m meth c G b L xs x) (S : ST G M N s H locs) (hR : Rel M N) (hl : lv_has ls 4 [(0, .ref b), (1, .ref (G.2.1 10)), (2, .ref (G.2.1 0)), (3, .int (nI x))]) (K : ∀ (M1 N1 : Mem) (H1 : Heap) (locs1 : List Loc), ST G M1 N1 s H1 locs1 → Rel M1 N1 → W p l e room_1 s m #[.ref b] below meth c H1 locs1 600000 7302250 Q (F0 m 1272 ls [])) : W p l e room_1 s m #[.ref b] below meth c H locs 600000 7302250 Q (F0 m 1226 ls []) := by
  have F := C.1
  have hx := F.1
  have hb := F.2.1
  have hown := F.2.2.2.2.1
  have hts := F.2.2.2.2.2.1
  obtain ⟨r, M1, N1, e1, e2, hR1⟩ := op_save hR ((xs (x + 1)))
  refine lv_aload_n (pc := 1226) hx hb dL_law_1226 rfl (lv_at hl 1 rfl) ?_
  refine law_ld (pc := 1227) (k := 1) (kf := 1) (lv := []) C S hl (by omega) rfl dL_law_1227 dL_law_1228 dL_law_1229 (by decide) dL_law_1230 dL_law_1231 ?_
  refine gc_vI (pc := 1232) (i := 10) (ci := 11) (na := 1) (av := [.int (xs (x + 1))]) (rest := []) F S (tX11_save e1) mfX11_save rfl (by decide) cl11 w880 ⟨Nat.le_of_ble_eq_true rfl, Nat.le_of_ble_eq_true rfl⟩ ⟨Nat.le_of_ble_eq_true rfl, Nat.le_of_ble_eq_true rfl⟩ rfl hl.1 rfl (Nat.le_of_ble_eq_true rfl) dL_law_1232 (fun H locs S => ?_)
  refine lv_aload_n (pc := 1235) hx hb dL_law_1235 rfl (lv_at hl 2 rfl) ?_
  refine law_ld (pc := 1236) (k := 1) (kf := 1) (lv := []) C S hl (by omega) rfl dL_law_1236 dL_law_1237 dL_law_1238 (by decide) dL_law_1239 dL_law_1240 ?_
  refine gc_vI (pc := 1241) (i := 0) (ci := 12) (na := 1) (av := [.int (xs (x + 1))]) (rest := [.int r]) F S (tX12_save e2) mfX12_save rfl (by decide) cl12 w1251 ⟨Nat.le_of_ble_eq_true rfl, Nat.le_of_ble_eq_true rfl⟩ ⟨Nat.le_of_ble_eq_true rfl, Nat.le_of_ble_eq_true rfl⟩ rfl hl.1 rfl (Nat.le_of_ble_eq_true rfl) dL_law_1241 (fun H locs S => ?_)
  exact lv_icmp_eq (pc := 1244) (tgt := 1272) hx hb dL_law_1244 (by decide) (fun _ => K M1 N1 H locs S hR1) (fun c1 => absurd rfl c1)
set_option maxHeartbeats 4000000 in
theorem lc_restore {p : Program} {l : Launch} {e : Env} {s : State} {m : MethodId} {below : List Frame} {meth : Method} {c : Code} {H : Heap} {locs : List Loc} {Q : State → Prop} {ls : Array Slot} {G : GD} {M N : Mem} {b L x : Nat} {xs : Nat → Int32} (C : LC p s m meth c G b L xs x) (S : ST G M N s H locs) (hR : Rel M N) (hl : lv_has ls 4 [(0, .ref b), (1, .ref (G.2.1 10)), (2, .ref (G.2.1 0)), (3, .int (nI x))]) (K : ∀ (M1 N1 : Mem) (H1 : Heap) (locs1 : List Loc), ST G M1 N1 s H1 locs1 → Rel M1 N1 → W p l e room_1 s m #[.ref b] below meth c H1 locs1 600000 7302250 Q (F0 m 1272 ls [])) : W p l e room_1 s m #[.ref b] below meth c H locs 600000 7302250 Q (F0 m 1249 ls []) := by
  have F := C.1
  have hx := F.1
  have hb := F.2.1
  have hown := F.2.2.2.2.1
  have hts := F.2.2.2.2.2.1
  obtain ⟨r, M1, N1, e1, e2, hR1⟩ := op_restore hR ((xs (x + 1)))
  refine lv_aload_n (pc := 1249) hx hb dL_law_1249 rfl (lv_at hl 1 rfl) ?_
  refine law_ld (pc := 1250) (k := 1) (kf := 1) (lv := []) C S hl (by omega) rfl dL_law_1250 dL_law_1251 dL_law_1252 (by decide) dL_law_1253 dL_law_1254 ?_
  refine gc_vI (pc := 1255) (i := 10) (ci := 11) (na := 1) (av := [.int (xs (x + 1))]) (rest := []) F S (tX11_restore e1) mfX11_restore rfl (by decide) cl11 w889 ⟨Nat.le_of_ble_eq_true rfl, Nat.le_of_ble_eq_true rfl⟩ ⟨Nat.le_of_ble_eq_true rfl, Nat.le_of_ble_eq_true rfl⟩ rfl hl.1 rfl (Nat.le_of_ble_eq_true rfl) dL_law_1255 (fun H locs S => ?_)
  refine lv_aload_n (pc := 1258) hx hb dL_law_1258 rfl (lv_at hl 2 rfl) ?_
  refine law_ld (pc := 1259) (k := 1) (kf := 1) (lv := []) C S hl (by omega) rfl dL_law_1259 dL_law_1260 dL_law_1261 (by decide) dL_law_1262 dL_law_1263 ?_
  refine gc_vI (pc := 1264) (i := 0) (ci := 12) (na := 1) (av := [.int (xs (x + 1))]) (rest := [.int r]) F S (tX12_restore e2) mfX12_restore rfl (by decide) cl12 w1259 ⟨Nat.le_of_ble_eq_true rfl, Nat.le_of_ble_eq_true rfl⟩ ⟨Nat.le_of_ble_eq_true rfl, Nat.le_of_ble_eq_true rfl⟩ rfl hl.1 rfl (Nat.le_of_ble_eq_true rfl) dL_law_1264 (fun H locs S => ?_)
  exact lv_icmp_eq (pc := 1267) (tgt := 1272) hx hb dL_law_1267 (by decide) (fun _ => K M1 N1 H locs S hR1) (fun c1 => absurd rfl c1)
