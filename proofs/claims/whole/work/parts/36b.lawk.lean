/-! ===== the law: cases 2 ===== -/
section LcCase
variable {p : Program} {l : Launch} {e : Env} {s : State} {m : MethodId} {below : List Frame} {meth : Method} {c : Code} {H : Heap} {locs : List Loc} {cells slots : Nat} {Q : State → Prop} {g : zzG} {b L i k pc : Nat} {xs : Nat → Int32} {q q' : Nat → Nat} {ux uy : zzS} {ls : Array Slot} {rest : List Value} {n : Int} {kc : Int32}
set_option maxHeartbeats 4000000 in
set_option maxRecDepth 100000 in
theorem lc_heights (C : lcC g p s m c b L xs) (hL : L ≤ 448) (hi : i + 7 ≤ L) (hV : lcV g s q q' ux uy H locs) (hR : qR ux uy) (hl : lv_has ls 4 [(0, .ref b), (1, .ref (q 0)), (2, .ref (q' 0)), (3, .int (nI i))]) (kk : ∀ (H : Heap) (locs : List Loc) (ux uy : zzS), lcV g s q q' ux uy H locs → qR ux uy → W p l e room_1 s m #[Value.ref b] below meth c H locs 36 700 Q (F0 m 1132 ls [])) : W p l e room_1 s m #[Value.ref b] below meth c H locs 36 700 Q (F0 m 685 ls []) := by
  obtain ⟨hPX, hDX, hPY, hDY, hap, hS⟩ := hV
  have hx := C.1.1.1
  have hb := C.1.1.2.1
  obtain ⟨r, ux', uy', ex, ey, hR'⟩ := e_heights hR (xs (i + 1))
  refine lv_aload_n hx hb dL_law_685 rfl (lv_at hl 1 rfl) ?_
  refine lc_arg C hS (i := i) (k := 1) (kc := (1 : Int32)) (by decide) rfl (by omega) hL (lv_at hl 0 rfl) (lv_at hl 3 rfl) dL_law_686 dL_law_687 dL_law_688 dL_law_689 dL_law_690 ?_
  refine lc_cVi C.1 hPX hDX hPY hap hS (kX4_heights l g q _ ux _ _ ex) gL_law_X4_heights mX4_heights (by decide) ⟨(Nat.le_of_ble_eq_true rfl), (Nat.le_of_ble_eq_true rfl)⟩ 0 rfl rfl rfl rfl (rest := []) rfl hl.1 (Nat.le_of_ble_eq_true rfl) dL_law_691 (fun H locs hPX hDX hPY hap hS => ?_)
  refine lv_aload_n hx hb dL_law_694 rfl (lv_at hl 2 rfl) ?_
  refine lc_arg C hS (i := i) (k := 1) (kc := (1 : Int32)) (by decide) rfl (by omega) hL (lv_at hl 0 rfl) (lv_at hl 3 rfl) dL_law_695 dL_law_696 dL_law_697 dL_law_698 dL_law_699 ?_
  refine lc_cVi C.1 hPY hDY hPX (zz_aps hap) hS (kX5_heights l g q' _ uy _ _ ey) gL_law_X5_heights mX5_heights (by decide) ⟨(Nat.le_of_ble_eq_true rfl), (Nat.le_of_ble_eq_true rfl)⟩ 0 rfl rfl rfl rfl (rest := [.int r]) rfl hl.1 (Nat.le_of_ble_eq_true rfl) dL_law_700 (fun H locs hPY hDY hPX hap hS => ?_)
  refine lv_icmp_eq (tgt := 1132) hx hb dL_law_703 (by decide) (fun _ => ?_) (fun h => absurd rfl h)
  exact kk H locs ux' uy' ⟨hPX, hDX, hPY, hDY, zz_aps hap, hS⟩ hR'
set_option maxHeartbeats 4000000 in
set_option maxRecDepth 100000 in
theorem lc_kinds (C : lcC g p s m c b L xs) (hL : L ≤ 448) (hi : i + 7 ≤ L) (hV : lcV g s q q' ux uy H locs) (hR : qR ux uy) (hl : lv_has ls 4 [(0, .ref b), (1, .ref (q 0)), (2, .ref (q' 0)), (3, .int (nI i))]) (kk : ∀ (H : Heap) (locs : List Loc) (ux uy : zzS), lcV g s q q' ux uy H locs → qR ux uy → W p l e room_1 s m #[Value.ref b] below meth c H locs 36 700 Q (F0 m 1132 ls [])) : W p l e room_1 s m #[Value.ref b] below meth c H locs 36 700 Q (F0 m 708 ls []) := by
  obtain ⟨hPX, hDX, hPY, hDY, hap, hS⟩ := hV
  have hx := C.1.1.1
  have hb := C.1.1.2.1
  obtain ⟨r, ux', uy', ex, ey, hR'⟩ := e_kinds hR (xs (i + 1))
  refine lv_aload_n hx hb dL_law_708 rfl (lv_at hl 1 rfl) ?_
  refine lc_arg C hS (i := i) (k := 1) (kc := (1 : Int32)) (by decide) rfl (by omega) hL (lv_at hl 0 rfl) (lv_at hl 3 rfl) dL_law_709 dL_law_710 dL_law_711 dL_law_712 dL_law_713 ?_
  refine lc_cVi C.1 hPX hDX hPY hap hS (kX4_kinds l g q _ ux _ _ ex) gL_law_X4_kinds mX4_kinds (by decide) ⟨(Nat.le_of_ble_eq_true rfl), (Nat.le_of_ble_eq_true rfl)⟩ 0 rfl rfl rfl rfl (rest := []) rfl hl.1 (Nat.le_of_ble_eq_true rfl) dL_law_714 (fun H locs hPX hDX hPY hap hS => ?_)
  refine lv_aload_n hx hb dL_law_717 rfl (lv_at hl 2 rfl) ?_
  refine lc_arg C hS (i := i) (k := 1) (kc := (1 : Int32)) (by decide) rfl (by omega) hL (lv_at hl 0 rfl) (lv_at hl 3 rfl) dL_law_718 dL_law_719 dL_law_720 dL_law_721 dL_law_722 ?_
  refine lc_cVi C.1 hPY hDY hPX (zz_aps hap) hS (kX5_kinds l g q' _ uy _ _ ey) gL_law_X5_kinds mX5_kinds (by decide) ⟨(Nat.le_of_ble_eq_true rfl), (Nat.le_of_ble_eq_true rfl)⟩ 0 rfl rfl rfl rfl (rest := [.int r]) rfl hl.1 (Nat.le_of_ble_eq_true rfl) dL_law_723 (fun H locs hPY hDY hPX hap hS => ?_)
  refine lv_icmp_eq (tgt := 1132) hx hb dL_law_726 (by decide) (fun _ => ?_) (fun h => absurd rfl h)
  exact kk H locs ux' uy' ⟨hPX, hDX, hPY, hDY, zz_aps hap, hS⟩ hR'
set_option maxHeartbeats 4000000 in
set_option maxRecDepth 100000 in
theorem lc_spans (C : lcC g p s m c b L xs) (hL : L ≤ 448) (hi : i + 7 ≤ L) (hV : lcV g s q q' ux uy H locs) (hR : qR ux uy) (hl : lv_has ls 4 [(0, .ref b), (1, .ref (q 0)), (2, .ref (q' 0)), (3, .int (nI i))]) (kk : ∀ (H : Heap) (locs : List Loc) (ux uy : zzS), lcV g s q q' ux uy H locs → qR ux uy → W p l e room_1 s m #[Value.ref b] below meth c H locs 36 700 Q (F0 m 1132 ls [])) : W p l e room_1 s m #[Value.ref b] below meth c H locs 36 700 Q (F0 m 731 ls []) := by
  obtain ⟨hPX, hDX, hPY, hDY, hap, hS⟩ := hV
  have hx := C.1.1.1
  have hb := C.1.1.2.1
  obtain ⟨r, ux', uy', ex, ey, hR'⟩ := e_spans hR 
  refine lv_aload_n hx hb dL_law_731 rfl (lv_at hl 1 rfl) ?_
  refine lc_cVi C.1 hPX hDX hPY hap hS (kX4_spans l g q _ ux _ ex) gL_law_X4_spans mX4_spans (by decide) ⟨(Nat.le_of_ble_eq_true rfl), (Nat.le_of_ble_eq_true rfl)⟩ 0 rfl rfl rfl rfl (rest := []) rfl hl.1 (Nat.le_of_ble_eq_true rfl) dL_law_732 (fun H locs hPX hDX hPY hap hS => ?_)
  refine lv_aload_n hx hb dL_law_735 rfl (lv_at hl 2 rfl) ?_
  refine lc_cVi C.1 hPY hDY hPX (zz_aps hap) hS (kX5_spans l g q' _ uy _ ey) gL_law_X5_spans mX5_spans (by decide) ⟨(Nat.le_of_ble_eq_true rfl), (Nat.le_of_ble_eq_true rfl)⟩ 0 rfl rfl rfl rfl (rest := [.int r]) rfl hl.1 (Nat.le_of_ble_eq_true rfl) dL_law_736 (fun H locs hPY hDY hPX hap hS => ?_)
  refine lv_icmp_eq (tgt := 1132) hx hb dL_law_739 (by decide) (fun _ => ?_) (fun h => absurd rfl h)
  exact kk H locs ux' uy' ⟨hPX, hDX, hPY, hDY, zz_aps hap, hS⟩ hR'
set_option maxHeartbeats 4000000 in
set_option maxRecDepth 100000 in
theorem lc_odds (C : lcC g p s m c b L xs) (hL : L ≤ 448) (hi : i + 7 ≤ L) (hV : lcV g s q q' ux uy H locs) (hR : qR ux uy) (hl : lv_has ls 4 [(0, .ref b), (1, .ref (q 0)), (2, .ref (q' 0)), (3, .int (nI i))]) (kk : ∀ (H : Heap) (locs : List Loc) (ux uy : zzS), lcV g s q q' ux uy H locs → qR ux uy → W p l e room_1 s m #[Value.ref b] below meth c H locs 36 700 Q (F0 m 1132 ls [])) : W p l e room_1 s m #[Value.ref b] below meth c H locs 36 700 Q (F0 m 744 ls []) := by
  obtain ⟨hPX, hDX, hPY, hDY, hap, hS⟩ := hV
  have hx := C.1.1.1
  have hb := C.1.1.2.1
  obtain ⟨r, ux', uy', ex, ey, hR'⟩ := e_odds hR (xs (i + 1)) (xs (i + 2)) (xs (i + 3))
  refine lv_aload_n hx hb dL_law_744 rfl (lv_at hl 1 rfl) ?_
  refine lc_arg C hS (i := i) (k := 1) (kc := (1 : Int32)) (by decide) rfl (by omega) hL (lv_at hl 0 rfl) (lv_at hl 3 rfl) dL_law_745 dL_law_746 dL_law_747 dL_law_748 dL_law_749 ?_
  refine lc_arg C hS (i := i) (k := 2) (kc := (2 : Int32)) (by decide) rfl (by omega) hL (lv_at hl 0 rfl) (lv_at hl 3 rfl) dL_law_750 dL_law_751 dL_law_752 dL_law_753 dL_law_754 ?_
  refine lc_arg C hS (i := i) (k := 3) (kc := (3 : Int32)) (by decide) rfl (by omega) hL (lv_at hl 0 rfl) (lv_at hl 3 rfl) dL_law_755 dL_law_756 dL_law_757 dL_law_758 dL_law_759 ?_
  refine lc_cVl C.1 hPX hDX hPY hap hS (kX4_odds l g q _ ux _ _ _ _ ex) gL_law_X4_odds mX4_odds (by decide) ⟨(Nat.le_of_ble_eq_true rfl), (Nat.le_of_ble_eq_true rfl)⟩ 0 rfl rfl rfl rfl (rest := []) rfl hl.1 (Nat.le_of_ble_eq_true rfl) dL_law_760 (fun H locs hPX hDX hPY hap hS => ?_)
  refine lv_aload_n hx hb dL_law_763 rfl (lv_at hl 2 rfl) ?_
  refine lc_arg C hS (i := i) (k := 1) (kc := (1 : Int32)) (by decide) rfl (by omega) hL (lv_at hl 0 rfl) (lv_at hl 3 rfl) dL_law_764 dL_law_765 dL_law_766 dL_law_767 dL_law_768 ?_
  refine lc_arg C hS (i := i) (k := 2) (kc := (2 : Int32)) (by decide) rfl (by omega) hL (lv_at hl 0 rfl) (lv_at hl 3 rfl) dL_law_769 dL_law_770 dL_law_771 dL_law_772 dL_law_773 ?_
  refine lc_arg C hS (i := i) (k := 3) (kc := (3 : Int32)) (by decide) rfl (by omega) hL (lv_at hl 0 rfl) (lv_at hl 3 rfl) dL_law_774 dL_law_775 dL_law_776 dL_law_777 dL_law_778 ?_
  refine lc_cVl C.1 hPY hDY hPX (zz_aps hap) hS (kX5_odds l g q' _ uy _ _ _ _ ey) gL_law_X5_odds mX5_odds (by decide) ⟨(Nat.le_of_ble_eq_true rfl), (Nat.le_of_ble_eq_true rfl)⟩ 0 rfl rfl rfl rfl (rest := [.long r]) rfl hl.1 (Nat.le_of_ble_eq_true rfl) dL_law_779 (fun H locs hPY hDY hPX hap hS => ?_)
  refine W.lcmp hx hb dL_law_782 ?_
  refine lv_if_eq (tgt := 1132) hx hb dL_law_783 (by decide) (fun _ => ?_) (fun h => absurd (lc_cmp r) h)
  exact kk H locs ux' uy' ⟨hPX, hDX, hPY, hDY, zz_aps hap, hS⟩ hR'
set_option maxHeartbeats 4000000 in
set_option maxRecDepth 100000 in
theorem lc_sheet (C : lcC g p s m c b L xs) (hL : L ≤ 448) (hi : i + 7 ≤ L) (hV : lcV g s q q' ux uy H locs) (hR : qR ux uy) (hl : lv_has ls 4 [(0, .ref b), (1, .ref (q 0)), (2, .ref (q' 0)), (3, .int (nI i))]) (kk : ∀ (H : Heap) (locs : List Loc) (ux uy : zzS), lcV g s q q' ux uy H locs → qR ux uy → W p l e room_1 s m #[Value.ref b] below meth c H locs 36 700 Q (F0 m 1132 ls [])) : W p l e room_1 s m #[Value.ref b] below meth c H locs 36 700 Q (F0 m 788 ls []) := by
  obtain ⟨hPX, hDX, hPY, hDY, hap, hS⟩ := hV
  have hx := C.1.1.1
  have hb := C.1.1.2.1
  obtain ⟨r, ux', uy', ex, ey, hR'⟩ := e_sheet hR (xs (i + 1)) (xs (i + 2)) (xs (i + 3))
  refine lv_aload_n hx hb dL_law_788 rfl (lv_at hl 1 rfl) ?_
  refine lc_arg C hS (i := i) (k := 1) (kc := (1 : Int32)) (by decide) rfl (by omega) hL (lv_at hl 0 rfl) (lv_at hl 3 rfl) dL_law_789 dL_law_790 dL_law_791 dL_law_792 dL_law_793 ?_
  refine lc_arg C hS (i := i) (k := 2) (kc := (2 : Int32)) (by decide) rfl (by omega) hL (lv_at hl 0 rfl) (lv_at hl 3 rfl) dL_law_794 dL_law_795 dL_law_796 dL_law_797 dL_law_798 ?_
  refine lc_arg C hS (i := i) (k := 3) (kc := (3 : Int32)) (by decide) rfl (by omega) hL (lv_at hl 0 rfl) (lv_at hl 3 rfl) dL_law_799 dL_law_800 dL_law_801 dL_law_802 dL_law_803 ?_
  refine lc_cVi C.1 hPX hDX hPY hap hS (kX4_sheet l g q _ ux _ _ _ _ ex) gL_law_X4_sheet mX4_sheet (by decide) ⟨(Nat.le_of_ble_eq_true rfl), (Nat.le_of_ble_eq_true rfl)⟩ 0 rfl rfl rfl rfl (rest := []) rfl hl.1 (Nat.le_of_ble_eq_true rfl) dL_law_804 (fun H locs hPX hDX hPY hap hS => ?_)
  refine lv_aload_n hx hb dL_law_807 rfl (lv_at hl 2 rfl) ?_
  refine lc_arg C hS (i := i) (k := 1) (kc := (1 : Int32)) (by decide) rfl (by omega) hL (lv_at hl 0 rfl) (lv_at hl 3 rfl) dL_law_808 dL_law_809 dL_law_810 dL_law_811 dL_law_812 ?_
  refine lc_arg C hS (i := i) (k := 2) (kc := (2 : Int32)) (by decide) rfl (by omega) hL (lv_at hl 0 rfl) (lv_at hl 3 rfl) dL_law_813 dL_law_814 dL_law_815 dL_law_816 dL_law_817 ?_
  refine lc_arg C hS (i := i) (k := 3) (kc := (3 : Int32)) (by decide) rfl (by omega) hL (lv_at hl 0 rfl) (lv_at hl 3 rfl) dL_law_818 dL_law_819 dL_law_820 dL_law_821 dL_law_822 ?_
  refine lc_cVi C.1 hPY hDY hPX (zz_aps hap) hS (kX5_sheet l g q' _ uy _ _ _ _ ey) gL_law_X5_sheet mX5_sheet (by decide) ⟨(Nat.le_of_ble_eq_true rfl), (Nat.le_of_ble_eq_true rfl)⟩ 0 rfl rfl rfl rfl (rest := [.int r]) rfl hl.1 (Nat.le_of_ble_eq_true rfl) dL_law_823 (fun H locs hPY hDY hPX hap hS => ?_)
  refine lv_icmp_eq (tgt := 1132) hx hb dL_law_826 (by decide) (fun _ => ?_) (fun h => absurd rfl h)
  exact kk H locs ux' uy' ⟨hPX, hDX, hPY, hDY, zz_aps hap, hS⟩ hR'
set_option maxHeartbeats 4000000 in
set_option maxRecDepth 100000 in
theorem lc_lose (C : lcC g p s m c b L xs) (hL : L ≤ 448) (hi : i + 7 ≤ L) (hV : lcV g s q q' ux uy H locs) (hR : qR ux uy) (hl : lv_has ls 4 [(0, .ref b), (1, .ref (q 0)), (2, .ref (q' 0)), (3, .int (nI i))]) (kk : ∀ (H : Heap) (locs : List Loc) (ux uy : zzS), lcV g s q q' ux uy H locs → qR ux uy → W p l e room_1 s m #[Value.ref b] below meth c H locs 36 700 Q (F0 m 1132 ls [])) : W p l e room_1 s m #[Value.ref b] below meth c H locs 36 700 Q (F0 m 831 ls []) := by
  obtain ⟨hPX, hDX, hPY, hDY, hap, hS⟩ := hV
  have hx := C.1.1.1
  have hb := C.1.1.2.1
  obtain ⟨r, ux', uy', ex, ey, hR'⟩ := e_lose hR (xs (i + 1))
  refine lv_aload_n hx hb dL_law_831 rfl (lv_at hl 1 rfl) ?_
  refine lc_arg C hS (i := i) (k := 1) (kc := (1 : Int32)) (by decide) rfl (by omega) hL (lv_at hl 0 rfl) (lv_at hl 3 rfl) dL_law_832 dL_law_833 dL_law_834 dL_law_835 dL_law_836 ?_
  refine lc_cVi C.1 hPX hDX hPY hap hS (kX4_lose l g q _ ux _ _ ex) gL_law_X4_lose mX4_lose (by decide) ⟨(Nat.le_of_ble_eq_true rfl), (Nat.le_of_ble_eq_true rfl)⟩ 0 rfl rfl rfl rfl (rest := []) rfl hl.1 (Nat.le_of_ble_eq_true rfl) dL_law_837 (fun H locs hPX hDX hPY hap hS => ?_)
  refine lv_aload_n hx hb dL_law_840 rfl (lv_at hl 2 rfl) ?_
  refine lc_arg C hS (i := i) (k := 1) (kc := (1 : Int32)) (by decide) rfl (by omega) hL (lv_at hl 0 rfl) (lv_at hl 3 rfl) dL_law_841 dL_law_842 dL_law_843 dL_law_844 dL_law_845 ?_
  refine lc_cVi C.1 hPY hDY hPX (zz_aps hap) hS (kX5_lose l g q' _ uy _ _ ey) gL_law_X5_lose mX5_lose (by decide) ⟨(Nat.le_of_ble_eq_true rfl), (Nat.le_of_ble_eq_true rfl)⟩ 0 rfl rfl rfl rfl (rest := [.int r]) rfl hl.1 (Nat.le_of_ble_eq_true rfl) dL_law_846 (fun H locs hPY hDY hPX hap hS => ?_)
  refine lv_icmp_eq (tgt := 1132) hx hb dL_law_849 (by decide) (fun _ => ?_) (fun h => absurd rfl h)
  exact kk H locs ux' uy' ⟨hPX, hDX, hPY, hDY, zz_aps hap, hS⟩ hR'
set_option maxHeartbeats 4000000 in
set_option maxRecDepth 100000 in
theorem lc_put (C : lcC g p s m c b L xs) (hL : L ≤ 448) (hi : i + 7 ≤ L) (hV : lcV g s q q' ux uy H locs) (hR : qR ux uy) (hl : lv_has ls 4 [(0, .ref b), (1, .ref (q 0)), (2, .ref (q' 0)), (3, .int (nI i))]) (kk : ∀ (H : Heap) (locs : List Loc) (ux uy : zzS), lcV g s q q' ux uy H locs → qR ux uy → W p l e room_1 s m #[Value.ref b] below meth c H locs 36 700 Q (F0 m 1132 ls [])) : W p l e room_1 s m #[Value.ref b] below meth c H locs 36 700 Q (F0 m 854 ls []) := by
  obtain ⟨hPX, hDX, hPY, hDY, hap, hS⟩ := hV
  have hx := C.1.1.1
  have hb := C.1.1.2.1
  obtain ⟨r, ux', uy', ex, ey, hR'⟩ := e_put hR (xs (i + 1)) (xs (i + 2)) (xs (i + 3))
  refine lv_aload_n hx hb dL_law_854 rfl (lv_at hl 1 rfl) ?_
  refine lc_arg C hS (i := i) (k := 1) (kc := (1 : Int32)) (by decide) rfl (by omega) hL (lv_at hl 0 rfl) (lv_at hl 3 rfl) dL_law_855 dL_law_856 dL_law_857 dL_law_858 dL_law_859 ?_
  refine lc_arg C hS (i := i) (k := 2) (kc := (2 : Int32)) (by decide) rfl (by omega) hL (lv_at hl 0 rfl) (lv_at hl 3 rfl) dL_law_860 dL_law_861 dL_law_862 dL_law_863 dL_law_864 ?_
  refine lc_arg C hS (i := i) (k := 3) (kc := (3 : Int32)) (by decide) rfl (by omega) hL (lv_at hl 0 rfl) (lv_at hl 3 rfl) dL_law_865 dL_law_866 dL_law_867 dL_law_868 dL_law_869 ?_
  refine lc_cVi C.1 hPX hDX hPY hap hS (kX4_put l g q _ ux _ _ _ _ ex) gL_law_X4_put mX4_put (by decide) ⟨(Nat.le_of_ble_eq_true rfl), (Nat.le_of_ble_eq_true rfl)⟩ 0 rfl rfl rfl rfl (rest := []) rfl hl.1 (Nat.le_of_ble_eq_true rfl) dL_law_870 (fun H locs hPX hDX hPY hap hS => ?_)
  refine lv_aload_n hx hb dL_law_873 rfl (lv_at hl 2 rfl) ?_
  refine lc_arg C hS (i := i) (k := 1) (kc := (1 : Int32)) (by decide) rfl (by omega) hL (lv_at hl 0 rfl) (lv_at hl 3 rfl) dL_law_874 dL_law_875 dL_law_876 dL_law_877 dL_law_878 ?_
  refine lc_arg C hS (i := i) (k := 2) (kc := (2 : Int32)) (by decide) rfl (by omega) hL (lv_at hl 0 rfl) (lv_at hl 3 rfl) dL_law_879 dL_law_880 dL_law_881 dL_law_882 dL_law_883 ?_
  refine lc_arg C hS (i := i) (k := 3) (kc := (3 : Int32)) (by decide) rfl (by omega) hL (lv_at hl 0 rfl) (lv_at hl 3 rfl) dL_law_884 dL_law_885 dL_law_886 dL_law_887 dL_law_888 ?_
  refine lc_cVi C.1 hPY hDY hPX (zz_aps hap) hS (kX5_put l g q' _ uy _ _ _ _ ey) gL_law_X5_put mX5_put (by decide) ⟨(Nat.le_of_ble_eq_true rfl), (Nat.le_of_ble_eq_true rfl)⟩ 0 rfl rfl rfl rfl (rest := [.int r]) rfl hl.1 (Nat.le_of_ble_eq_true rfl) dL_law_889 (fun H locs hPY hDY hPX hap hS => ?_)
  refine lv_icmp_eq (tgt := 1132) hx hb dL_law_892 (by decide) (fun _ => ?_) (fun h => absurd rfl h)
  exact kk H locs ux' uy' ⟨hPX, hDX, hPY, hDY, zz_aps hap, hS⟩ hR'
set_option maxHeartbeats 4000000 in
set_option maxRecDepth 100000 in
theorem lc_cell (C : lcC g p s m c b L xs) (hL : L ≤ 448) (hi : i + 7 ≤ L) (hV : lcV g s q q' ux uy H locs) (hR : qR ux uy) (hl : lv_has ls 4 [(0, .ref b), (1, .ref (q 0)), (2, .ref (q' 0)), (3, .int (nI i))]) (kk : ∀ (H : Heap) (locs : List Loc) (ux uy : zzS), lcV g s q q' ux uy H locs → qR ux uy → W p l e room_1 s m #[Value.ref b] below meth c H locs 36 700 Q (F0 m 1132 ls [])) : W p l e room_1 s m #[Value.ref b] below meth c H locs 36 700 Q (F0 m 897 ls []) := by
  obtain ⟨hPX, hDX, hPY, hDY, hap, hS⟩ := hV
  have hx := C.1.1.1
  have hb := C.1.1.2.1
  obtain ⟨r, ux', uy', ex, ey, hR'⟩ := e_cell hR (xs (i + 1)) (xs (i + 2)) (xs (i + 3))
  refine lv_aload_n hx hb dL_law_897 rfl (lv_at hl 1 rfl) ?_
  refine lc_arg C hS (i := i) (k := 1) (kc := (1 : Int32)) (by decide) rfl (by omega) hL (lv_at hl 0 rfl) (lv_at hl 3 rfl) dL_law_898 dL_law_899 dL_law_900 dL_law_901 dL_law_902 ?_
  refine lc_arg C hS (i := i) (k := 2) (kc := (2 : Int32)) (by decide) rfl (by omega) hL (lv_at hl 0 rfl) (lv_at hl 3 rfl) dL_law_903 dL_law_904 dL_law_905 dL_law_906 dL_law_907 ?_
  refine lc_arg C hS (i := i) (k := 3) (kc := (3 : Int32)) (by decide) rfl (by omega) hL (lv_at hl 0 rfl) (lv_at hl 3 rfl) dL_law_908 dL_law_909 dL_law_910 dL_law_911 dL_law_912 ?_
  refine lc_cVl C.1 hPX hDX hPY hap hS (kX4_cell l g q _ ux _ _ _ _ ex) gL_law_X4_cell mX4_cell (by decide) ⟨(Nat.le_of_ble_eq_true rfl), (Nat.le_of_ble_eq_true rfl)⟩ 0 rfl rfl rfl rfl (rest := []) rfl hl.1 (Nat.le_of_ble_eq_true rfl) dL_law_913 (fun H locs hPX hDX hPY hap hS => ?_)
  refine lv_aload_n hx hb dL_law_916 rfl (lv_at hl 2 rfl) ?_
  refine lc_arg C hS (i := i) (k := 1) (kc := (1 : Int32)) (by decide) rfl (by omega) hL (lv_at hl 0 rfl) (lv_at hl 3 rfl) dL_law_917 dL_law_918 dL_law_919 dL_law_920 dL_law_921 ?_
  refine lc_arg C hS (i := i) (k := 2) (kc := (2 : Int32)) (by decide) rfl (by omega) hL (lv_at hl 0 rfl) (lv_at hl 3 rfl) dL_law_922 dL_law_923 dL_law_924 dL_law_925 dL_law_926 ?_
  refine lc_arg C hS (i := i) (k := 3) (kc := (3 : Int32)) (by decide) rfl (by omega) hL (lv_at hl 0 rfl) (lv_at hl 3 rfl) dL_law_927 dL_law_928 dL_law_929 dL_law_930 dL_law_931 ?_
  refine lc_cVl C.1 hPY hDY hPX (zz_aps hap) hS (kX5_cell l g q' _ uy _ _ _ _ ey) gL_law_X5_cell mX5_cell (by decide) ⟨(Nat.le_of_ble_eq_true rfl), (Nat.le_of_ble_eq_true rfl)⟩ 0 rfl rfl rfl rfl (rest := [.long r]) rfl hl.1 (Nat.le_of_ble_eq_true rfl) dL_law_932 (fun H locs hPY hDY hPX hap hS => ?_)
  refine W.lcmp hx hb dL_law_935 ?_
  refine lv_if_eq (tgt := 1132) hx hb dL_law_936 (by decide) (fun _ => ?_) (fun h => absurd (lc_cmp r) h)
  exact kk H locs ux' uy' ⟨hPX, hDX, hPY, hDY, zz_aps hap, hS⟩ hR'
set_option maxHeartbeats 4000000 in
set_option maxRecDepth 100000 in
theorem lc_copy (C : lcC g p s m c b L xs) (hL : L ≤ 448) (hi : i + 7 ≤ L) (hV : lcV g s q q' ux uy H locs) (hR : qR ux uy) (hl : lv_has ls 4 [(0, .ref b), (1, .ref (q 0)), (2, .ref (q' 0)), (3, .int (nI i))]) (kk : ∀ (H : Heap) (locs : List Loc) (ux uy : zzS), lcV g s q q' ux uy H locs → qR ux uy → W p l e room_1 s m #[Value.ref b] below meth c H locs 36 700 Q (F0 m 1132 ls [])) : W p l e room_1 s m #[Value.ref b] below meth c H locs 36 700 Q (F0 m 941 ls []) := by
  obtain ⟨hPX, hDX, hPY, hDY, hap, hS⟩ := hV
  have hx := C.1.1.1
  have hb := C.1.1.2.1
  obtain ⟨r, ux', uy', ex, ey, hR'⟩ := e_copy hR (xs (i + 1)) (xs (i + 2)) (xs (i + 3)) (xs (i + 4)) (xs (i + 5))
  refine lv_aload_n hx hb dL_law_941 rfl (lv_at hl 1 rfl) ?_
  refine lc_arg C hS (i := i) (k := 1) (kc := (1 : Int32)) (by decide) rfl (by omega) hL (lv_at hl 0 rfl) (lv_at hl 3 rfl) dL_law_942 dL_law_943 dL_law_944 dL_law_945 dL_law_946 ?_
  refine lc_arg C hS (i := i) (k := 2) (kc := (2 : Int32)) (by decide) rfl (by omega) hL (lv_at hl 0 rfl) (lv_at hl 3 rfl) dL_law_947 dL_law_948 dL_law_949 dL_law_950 dL_law_951 ?_
  refine lc_arg C hS (i := i) (k := 3) (kc := (3 : Int32)) (by decide) rfl (by omega) hL (lv_at hl 0 rfl) (lv_at hl 3 rfl) dL_law_952 dL_law_953 dL_law_954 dL_law_955 dL_law_956 ?_
  refine lc_arg C hS (i := i) (k := 4) (kc := (4 : Int32)) (by decide) rfl (by omega) hL (lv_at hl 0 rfl) (lv_at hl 3 rfl) dL_law_957 dL_law_958 dL_law_959 dL_law_960 dL_law_961 ?_
  refine lc_arg C hS (i := i) (k := 5) (kc := (5 : Int32)) (by decide) rfl (by omega) hL (lv_at hl 0 rfl) (lv_at hl 3 rfl) dL_law_962 dL_law_963 dL_law_964 dL_law_965 dL_law_966 ?_
  refine lc_cVi C.1 hPX hDX hPY hap hS (kX4_copy l g q _ ux _ _ _ _ _ _ ex) gL_law_X4_copy mX4_copy (by decide) ⟨(Nat.le_of_ble_eq_true rfl), (Nat.le_of_ble_eq_true rfl)⟩ 0 rfl rfl rfl rfl (rest := []) rfl hl.1 (Nat.le_of_ble_eq_true rfl) dL_law_967 (fun H locs hPX hDX hPY hap hS => ?_)
  refine lv_aload_n hx hb dL_law_970 rfl (lv_at hl 2 rfl) ?_
  refine lc_arg C hS (i := i) (k := 1) (kc := (1 : Int32)) (by decide) rfl (by omega) hL (lv_at hl 0 rfl) (lv_at hl 3 rfl) dL_law_971 dL_law_972 dL_law_973 dL_law_974 dL_law_975 ?_
  refine lc_arg C hS (i := i) (k := 2) (kc := (2 : Int32)) (by decide) rfl (by omega) hL (lv_at hl 0 rfl) (lv_at hl 3 rfl) dL_law_976 dL_law_977 dL_law_978 dL_law_979 dL_law_980 ?_
  refine lc_arg C hS (i := i) (k := 3) (kc := (3 : Int32)) (by decide) rfl (by omega) hL (lv_at hl 0 rfl) (lv_at hl 3 rfl) dL_law_981 dL_law_982 dL_law_983 dL_law_984 dL_law_985 ?_
  refine lc_arg C hS (i := i) (k := 4) (kc := (4 : Int32)) (by decide) rfl (by omega) hL (lv_at hl 0 rfl) (lv_at hl 3 rfl) dL_law_986 dL_law_987 dL_law_988 dL_law_989 dL_law_990 ?_
  refine lc_arg C hS (i := i) (k := 5) (kc := (5 : Int32)) (by decide) rfl (by omega) hL (lv_at hl 0 rfl) (lv_at hl 3 rfl) dL_law_991 dL_law_992 dL_law_993 dL_law_994 dL_law_995 ?_
  refine lc_cVi C.1 hPY hDY hPX (zz_aps hap) hS (kX5_copy l g q' _ uy _ _ _ _ _ _ ey) gL_law_X5_copy mX5_copy (by decide) ⟨(Nat.le_of_ble_eq_true rfl), (Nat.le_of_ble_eq_true rfl)⟩ 0 rfl rfl rfl rfl (rest := [.int r]) rfl hl.1 (Nat.le_of_ble_eq_true rfl) dL_law_996 (fun H locs hPY hDY hPX hap hS => ?_)
  refine lv_icmp_eq (tgt := 1132) hx hb dL_law_999 (by decide) (fun _ => ?_) (fun h => absurd rfl h)
  exact kk H locs ux' uy' ⟨hPX, hDX, hPY, hDY, zz_aps hap, hS⟩ hR'
set_option maxHeartbeats 4000000 in
set_option maxRecDepth 100000 in
theorem lc_tell (C : lcC g p s m c b L xs) (hL : L ≤ 448) (hi : i + 7 ≤ L) (hV : lcV g s q q' ux uy H locs) (hR : qR ux uy) (hl : lv_has ls 4 [(0, .ref b), (1, .ref (q 0)), (2, .ref (q' 0)), (3, .int (nI i))]) (kk : ∀ (H : Heap) (locs : List Loc) (ux uy : zzS), lcV g s q q' ux uy H locs → qR ux uy → W p l e room_1 s m #[Value.ref b] below meth c H locs 36 700 Q (F0 m 1132 ls [])) : W p l e room_1 s m #[Value.ref b] below meth c H locs 36 700 Q (F0 m 1004 ls []) := by
  obtain ⟨hPX, hDX, hPY, hDY, hap, hS⟩ := hV
  have hx := C.1.1.1
  have hb := C.1.1.2.1
  obtain ⟨r, ux', uy', ex, ey, hR'⟩ := e_tell hR (xs (i + 1))
  refine lv_aload_n hx hb dL_law_1004 rfl (lv_at hl 1 rfl) ?_
  refine lc_arg C hS (i := i) (k := 1) (kc := (1 : Int32)) (by decide) rfl (by omega) hL (lv_at hl 0 rfl) (lv_at hl 3 rfl) dL_law_1005 dL_law_1006 dL_law_1007 dL_law_1008 dL_law_1009 ?_
  refine lc_cVi C.1 hPX hDX hPY hap hS (kX4_tell l g q _ ux _ _ ex) gL_law_X4_tell mX4_tell (by decide) ⟨(Nat.le_of_ble_eq_true rfl), (Nat.le_of_ble_eq_true rfl)⟩ 0 rfl rfl rfl rfl (rest := []) rfl hl.1 (Nat.le_of_ble_eq_true rfl) dL_law_1010 (fun H locs hPX hDX hPY hap hS => ?_)
  refine lv_aload_n hx hb dL_law_1013 rfl (lv_at hl 2 rfl) ?_
  refine lc_arg C hS (i := i) (k := 1) (kc := (1 : Int32)) (by decide) rfl (by omega) hL (lv_at hl 0 rfl) (lv_at hl 3 rfl) dL_law_1014 dL_law_1015 dL_law_1016 dL_law_1017 dL_law_1018 ?_
  refine lc_cVi C.1 hPY hDY hPX (zz_aps hap) hS (kX5_tell l g q' _ uy _ _ ey) gL_law_X5_tell mX5_tell (by decide) ⟨(Nat.le_of_ble_eq_true rfl), (Nat.le_of_ble_eq_true rfl)⟩ 0 rfl rfl rfl rfl (rest := [.int r]) rfl hl.1 (Nat.le_of_ble_eq_true rfl) dL_law_1019 (fun H locs hPY hDY hPX hap hS => ?_)
  refine lv_icmp_eq (tgt := 1132) hx hb dL_law_1022 (by decide) (fun _ => ?_) (fun h => absurd rfl h)
  exact kk H locs ux' uy' ⟨hPX, hDX, hPY, hDY, zz_aps hap, hS⟩ hR'
set_option maxHeartbeats 4000000 in
set_option maxRecDepth 100000 in
theorem lc_tax (C : lcC g p s m c b L xs) (hL : L ≤ 448) (hi : i + 7 ≤ L) (hV : lcV g s q q' ux uy H locs) (hR : qR ux uy) (hl : lv_has ls 4 [(0, .ref b), (1, .ref (q 0)), (2, .ref (q' 0)), (3, .int (nI i))]) (kk : ∀ (H : Heap) (locs : List Loc) (ux uy : zzS), lcV g s q q' ux uy H locs → qR ux uy → W p l e room_1 s m #[Value.ref b] below meth c H locs 36 700 Q (F0 m 1132 ls [])) : W p l e room_1 s m #[Value.ref b] below meth c H locs 36 700 Q (F0 m 1027 ls []) := by
  obtain ⟨hPX, hDX, hPY, hDY, hap, hS⟩ := hV
  have hx := C.1.1.1
  have hb := C.1.1.2.1
  obtain ⟨r, ux', uy', ex, ey, hR'⟩ := e_tax hR (xs (i + 1))
  refine lv_aload_n hx hb dL_law_1027 rfl (lv_at hl 1 rfl) ?_
  refine lc_arg C hS (i := i) (k := 1) (kc := (1 : Int32)) (by decide) rfl (by omega) hL (lv_at hl 0 rfl) (lv_at hl 3 rfl) dL_law_1028 dL_law_1029 dL_law_1030 dL_law_1031 dL_law_1032 ?_
  refine lc_cVi C.1 hPX hDX hPY hap hS (kX4_tax l g q _ ux _ _ ex) gL_law_X4_tax mX4_tax (by decide) ⟨(Nat.le_of_ble_eq_true rfl), (Nat.le_of_ble_eq_true rfl)⟩ 0 rfl rfl rfl rfl (rest := []) rfl hl.1 (Nat.le_of_ble_eq_true rfl) dL_law_1033 (fun H locs hPX hDX hPY hap hS => ?_)
  refine lv_aload_n hx hb dL_law_1036 rfl (lv_at hl 2 rfl) ?_
  refine lc_arg C hS (i := i) (k := 1) (kc := (1 : Int32)) (by decide) rfl (by omega) hL (lv_at hl 0 rfl) (lv_at hl 3 rfl) dL_law_1037 dL_law_1038 dL_law_1039 dL_law_1040 dL_law_1041 ?_
  refine lc_cVi C.1 hPY hDY hPX (zz_aps hap) hS (kX5_tax l g q' _ uy _ _ ey) gL_law_X5_tax mX5_tax (by decide) ⟨(Nat.le_of_ble_eq_true rfl), (Nat.le_of_ble_eq_true rfl)⟩ 0 rfl rfl rfl rfl (rest := [.int r]) rfl hl.1 (Nat.le_of_ble_eq_true rfl) dL_law_1042 (fun H locs hPY hDY hPX hap hS => ?_)
  refine lv_icmp_eq (tgt := 1132) hx hb dL_law_1045 (by decide) (fun _ => ?_) (fun h => absurd rfl h)
  exact kk H locs ux' uy' ⟨hPX, hDX, hPY, hDY, zz_aps hap, hS⟩ hR'
set_option maxHeartbeats 4000000 in
set_option maxRecDepth 100000 in
theorem lc_as (C : lcC g p s m c b L xs) (hL : L ≤ 448) (hi : i + 7 ≤ L) (hV : lcV g s q q' ux uy H locs) (hR : qR ux uy) (hl : lv_has ls 4 [(0, .ref b), (1, .ref (q 0)), (2, .ref (q' 0)), (3, .int (nI i))]) (kk : ∀ (H : Heap) (locs : List Loc) (ux uy : zzS), lcV g s q q' ux uy H locs → qR ux uy → W p l e room_1 s m #[Value.ref b] below meth c H locs 36 700 Q (F0 m 1132 ls [])) : W p l e room_1 s m #[Value.ref b] below meth c H locs 36 700 Q (F0 m 1050 ls []) := by
  obtain ⟨hPX, hDX, hPY, hDY, hap, hS⟩ := hV
  have hx := C.1.1.1
  have hb := C.1.1.2.1
  obtain ⟨r, ux', uy', ex, ey, hR'⟩ := e_as hR (xs (i + 1)) (xs (i + 2))
  refine lv_aload_n hx hb dL_law_1050 rfl (lv_at hl 1 rfl) ?_
  refine lc_arg C hS (i := i) (k := 1) (kc := (1 : Int32)) (by decide) rfl (by omega) hL (lv_at hl 0 rfl) (lv_at hl 3 rfl) dL_law_1051 dL_law_1052 dL_law_1053 dL_law_1054 dL_law_1055 ?_
  refine lc_arg C hS (i := i) (k := 2) (kc := (2 : Int32)) (by decide) rfl (by omega) hL (lv_at hl 0 rfl) (lv_at hl 3 rfl) dL_law_1056 dL_law_1057 dL_law_1058 dL_law_1059 dL_law_1060 ?_
  refine lc_cVi C.1 hPX hDX hPY hap hS (kX4_as l g q _ ux _ _ _ ex) gL_law_X4_as mX4_as (by decide) ⟨(Nat.le_of_ble_eq_true rfl), (Nat.le_of_ble_eq_true rfl)⟩ 0 rfl rfl rfl rfl (rest := []) rfl hl.1 (Nat.le_of_ble_eq_true rfl) dL_law_1061 (fun H locs hPX hDX hPY hap hS => ?_)
  refine lv_aload_n hx hb dL_law_1064 rfl (lv_at hl 2 rfl) ?_
  refine lc_arg C hS (i := i) (k := 1) (kc := (1 : Int32)) (by decide) rfl (by omega) hL (lv_at hl 0 rfl) (lv_at hl 3 rfl) dL_law_1065 dL_law_1066 dL_law_1067 dL_law_1068 dL_law_1069 ?_
  refine lc_arg C hS (i := i) (k := 2) (kc := (2 : Int32)) (by decide) rfl (by omega) hL (lv_at hl 0 rfl) (lv_at hl 3 rfl) dL_law_1070 dL_law_1071 dL_law_1072 dL_law_1073 dL_law_1074 ?_
  refine lc_cVi C.1 hPY hDY hPX (zz_aps hap) hS (kX5_as l g q' _ uy _ _ _ ey) gL_law_X5_as mX5_as (by decide) ⟨(Nat.le_of_ble_eq_true rfl), (Nat.le_of_ble_eq_true rfl)⟩ 0 rfl rfl rfl rfl (rest := [.int r]) rfl hl.1 (Nat.le_of_ble_eq_true rfl) dL_law_1075 (fun H locs hPY hDY hPX hap hS => ?_)
  refine lv_icmp_eq (tgt := 1132) hx hb dL_law_1078 (by decide) (fun _ => ?_) (fun h => absurd rfl h)
  exact kk H locs ux' uy' ⟨hPX, hDX, hPY, hDY, zz_aps hap, hS⟩ hR'
set_option maxHeartbeats 4000000 in
set_option maxRecDepth 100000 in
theorem lc_trace (C : lcC g p s m c b L xs) (hL : L ≤ 448) (hi : i + 7 ≤ L) (hV : lcV g s q q' ux uy H locs) (hR : qR ux uy) (hl : lv_has ls 4 [(0, .ref b), (1, .ref (q 0)), (2, .ref (q' 0)), (3, .int (nI i))]) (kk : ∀ (H : Heap) (locs : List Loc) (ux uy : zzS), lcV g s q q' ux uy H locs → qR ux uy → W p l e room_1 s m #[Value.ref b] below meth c H locs 36 700 Q (F0 m 1132 ls [])) : W p l e room_1 s m #[Value.ref b] below meth c H locs 36 700 Q (F0 m 1083 ls []) := by
  obtain ⟨hPX, hDX, hPY, hDY, hap, hS⟩ := hV
  have hx := C.1.1.1
  have hb := C.1.1.2.1
  obtain ⟨r, ex, ey⟩ := e_trace hR 
  refine lv_aload_n hx hb dL_law_1083 rfl (lv_at hl 1 rfl) ?_
  refine lc_cVi C.1 hPX hDX hPY hap hS (kX4_trace l g q _ ux _ ex) gL_law_X4_trace mX4_trace (by decide) ⟨(Nat.le_of_ble_eq_true rfl), (Nat.le_of_ble_eq_true rfl)⟩ 0 rfl rfl rfl rfl (rest := []) rfl hl.1 (Nat.le_of_ble_eq_true rfl) dL_law_1084 (fun H locs hPX hDX hPY hap hS => ?_)
  refine lv_aload_n hx hb dL_law_1087 rfl (lv_at hl 2 rfl) ?_
  refine lc_cVi C.1 hPY hDY hPX (zz_aps hap) hS (kX5_trace l g q' _ uy _ ey) gL_law_X5_trace mX5_trace (by decide) ⟨(Nat.le_of_ble_eq_true rfl), (Nat.le_of_ble_eq_true rfl)⟩ 0 rfl rfl rfl rfl (rest := [.int r]) rfl hl.1 (Nat.le_of_ble_eq_true rfl) dL_law_1088 (fun H locs hPY hDY hPX hap hS => ?_)
  refine lv_icmp_eq (tgt := 1132) hx hb dL_law_1091 (by decide) (fun _ => ?_) (fun h => absurd rfl h)
  exact kk H locs ux uy ⟨hPX, hDX, hPY, hDY, zz_aps hap, hS⟩ hR
set_option maxHeartbeats 4000000 in
set_option maxRecDepth 100000 in
theorem lc_fault (C : lcC g p s m c b L xs) (hL : L ≤ 448) (hi : i + 7 ≤ L) (hV : lcV g s q q' ux uy H locs) (hR : qR ux uy) (hl : lv_has ls 4 [(0, .ref b), (1, .ref (q 0)), (2, .ref (q' 0)), (3, .int (nI i))]) (kk : ∀ (H : Heap) (locs : List Loc) (ux uy : zzS), lcV g s q q' ux uy H locs → qR ux uy → W p l e room_1 s m #[Value.ref b] below meth c H locs 36 700 Q (F0 m 1132 ls [])) : W p l e room_1 s m #[Value.ref b] below meth c H locs 36 700 Q (F0 m 1096 ls []) := by
  obtain ⟨hPX, hDX, hPY, hDY, hap, hS⟩ := hV
  have hx := C.1.1.1
  have hb := C.1.1.2.1
  obtain ⟨r, ex, ey⟩ := e_fault hR 
  refine lv_aload_n hx hb dL_law_1096 rfl (lv_at hl 1 rfl) ?_
  refine lc_cVi C.1 hPX hDX hPY hap hS (kX4_fault l g q _ ux _ ex) gL_law_X4_fault mX4_fault (by decide) ⟨(Nat.le_of_ble_eq_true rfl), (Nat.le_of_ble_eq_true rfl)⟩ 0 rfl rfl rfl rfl (rest := []) rfl hl.1 (Nat.le_of_ble_eq_true rfl) dL_law_1097 (fun H locs hPX hDX hPY hap hS => ?_)
  refine lv_aload_n hx hb dL_law_1100 rfl (lv_at hl 2 rfl) ?_
  refine lc_cVi C.1 hPY hDY hPX (zz_aps hap) hS (kX5_fault l g q' _ uy _ ey) gL_law_X5_fault mX5_fault (by decide) ⟨(Nat.le_of_ble_eq_true rfl), (Nat.le_of_ble_eq_true rfl)⟩ 0 rfl rfl rfl rfl (rest := [.int r]) rfl hl.1 (Nat.le_of_ble_eq_true rfl) dL_law_1101 (fun H locs hPY hDY hPX hap hS => ?_)
  refine lv_icmp_eq (tgt := 1132) hx hb dL_law_1104 (by decide) (fun _ => ?_) (fun h => absurd rfl h)
  exact kk H locs ux uy ⟨hPX, hDX, hPY, hDY, zz_aps hap, hS⟩ hR
set_option maxHeartbeats 4000000 in
set_option maxRecDepth 100000 in
theorem lc_many (C : lcC g p s m c b L xs) (hL : L ≤ 448) (hi : i + 7 ≤ L) (hV : lcV g s q q' ux uy H locs) (hR : qR ux uy) (hl : lv_has ls 4 [(0, .ref b), (1, .ref (q 0)), (2, .ref (q' 0)), (3, .int (nI i))]) (kk : ∀ (H : Heap) (locs : List Loc) (ux uy : zzS), lcV g s q q' ux uy H locs → qR ux uy → W p l e room_1 s m #[Value.ref b] below meth c H locs 36 700 Q (F0 m 1132 ls [])) : W p l e room_1 s m #[Value.ref b] below meth c H locs 36 700 Q (F0 m 1109 ls []) := by
  obtain ⟨hPX, hDX, hPY, hDY, hap, hS⟩ := hV
  have hx := C.1.1.1
  have hb := C.1.1.2.1
  obtain ⟨r, ex, ey⟩ := e_many hR (xs (i + 1))
  refine lv_aload_n hx hb dL_law_1109 rfl (lv_at hl 1 rfl) ?_
  refine lc_arg C hS (i := i) (k := 1) (kc := (1 : Int32)) (by decide) rfl (by omega) hL (lv_at hl 0 rfl) (lv_at hl 3 rfl) dL_law_1110 dL_law_1111 dL_law_1112 dL_law_1113 dL_law_1114 ?_
  refine lc_cVi C.1 hPX hDX hPY hap hS (kX4_many l g q _ ux _ _ ex) gL_law_X4_many mX4_many (by decide) ⟨(Nat.le_of_ble_eq_true rfl), (Nat.le_of_ble_eq_true rfl)⟩ 0 rfl rfl rfl rfl (rest := []) rfl hl.1 (Nat.le_of_ble_eq_true rfl) dL_law_1115 (fun H locs hPX hDX hPY hap hS => ?_)
  refine lv_aload_n hx hb dL_law_1118 rfl (lv_at hl 2 rfl) ?_
  refine lc_arg C hS (i := i) (k := 1) (kc := (1 : Int32)) (by decide) rfl (by omega) hL (lv_at hl 0 rfl) (lv_at hl 3 rfl) dL_law_1119 dL_law_1120 dL_law_1121 dL_law_1122 dL_law_1123 ?_
  refine lc_cVi C.1 hPY hDY hPX (zz_aps hap) hS (kX5_many l g q' _ uy _ _ ey) gL_law_X5_many mX5_many (by decide) ⟨(Nat.le_of_ble_eq_true rfl), (Nat.le_of_ble_eq_true rfl)⟩ 0 rfl rfl rfl rfl (rest := [.int r]) rfl hl.1 (Nat.le_of_ble_eq_true rfl) dL_law_1124 (fun H locs hPY hDY hPX hap hS => ?_)
  refine lv_icmp_eq (tgt := 1132) hx hb dL_law_1127 (by decide) (fun _ => ?_) (fun h => absurd rfl h)
  exact kk H locs ux uy ⟨hPX, hDX, hPY, hDY, zz_aps hap, hS⟩ hR
end LcCase
