/-! ===== the law: its loop ===== -/
theorem lc_and0 (a b : Nat) : nI a &&& nI b = nI (a &&& b) := by
  apply Int32.toBitVec_inj.1
  show BitVec.ofNat 32 a &&& BitVec.ofNat 32 b = BitVec.ofNat 32 (a &&& b)
  apply BitVec.eq_of_getLsbD_eq
  intro i hi
  simp [hi]
theorem lc_and1 (k : Nat) : nI k &&& 31 = nI (k % 32) := by
  show nI k &&& nI 31 = _
  rw [lc_and0, show (31 : Nat) = 2 ^ 5 - 1 from rfl, Nat.and_two_pow_sub_one_eq_mod]
theorem lc_and (x : Int32) : ∃ k, k < 32 ∧ x &&& 31 = nI k := by
  have e : x = nI x.toBitVec.toNat := by
    apply Int32.toBitVec_inj.1
    show x.toBitVec = BitVec.ofNat 32 x.toBitVec.toNat
    simp
  refine ⟨x.toBitVec.toNat % 32, Nat.mod_lt _ (by omega), ?_⟩
  rw [← lc_and1, ← e]
theorem lc_ti : ∀ k, k < 32 → (nI k).toInt = (k : Int) := fun k hk => nI_toInt (by omega)
section LcLoop
variable {p : Program} {l : Launch} {e : Env} {s : State} {m : MethodId} {below : List Frame} {meth : Method} {c : Code} {Q : State → Prop} {g : zzG} {b L : Nat} {xs : Nat → Int32} {q q' : Nat → Nat}
set_option maxHeartbeats 4000000 in
set_option maxRecDepth 100000 in
theorem lc_switch (C : lcC g p s m c b L xs) (hL : L ≤ 448) {i : Nat} (hi : i + 7 ≤ L) {H : Heap} {locs : List Loc} {ux uy : zzS} {ls : Array Slot} (hV : lcV g s q q' ux uy H locs) (hR : qR ux uy) (hl : lv_has ls 4 [(0, .ref b), (1, .ref (q 0)), (2, .ref (q' 0)), (3, .int (nI i))]) (kk : ∀ (H : Heap) (locs : List Loc) (ux uy : zzS), lcV g s q q' ux uy H locs → qR ux uy → W p l e room_1 s m #[Value.ref b] below meth c H locs 36 700 Q (F0 m 1132 ls [])) (k : Nat) (hk : k < 32) : W p l e room_1 s m #[Value.ref b] below meth c H locs 36 700 Q (F0 m 33 ls [.int (nI k)]) := by
  have hx := C.1.1.1
  have hb := C.1.1.2.1
  match k, hk with
  | 0, _ => exact lv_tableIn (tgt := 168) hx hb dL_law_33 (by rw [lc_ti _ (by omega)]; decide) (by rw [lc_ti _ (by omega)]; decide) (show _ = some (135 : Int) by rw [lc_ti _ (by omega)]; rfl) (by decide) (lc_field C hL hi hV hR hl kk)
  | 1, _ => exact lv_tableIn (tgt := 221) hx hb dL_law_33 (by rw [lc_ti _ (by omega)]; decide) (by rw [lc_ti _ (by omega)]; decide) (show _ = some (188 : Int) by rw [lc_ti _ (by omega)]; rfl) (by decide) (lc_ofStander C hL hi hV hR hl kk)
  | 2, _ => exact lv_tableIn (tgt := 254) hx hb dL_law_33 (by rw [lc_ti _ (by omega)]; decide) (by rw [lc_ti _ (by omega)]; decide) (show _ = some (221 : Int) by rw [lc_ti _ (by omega)]; rfl) (by decide) (lc_walk C hL hi hV hR hl kk)
  | 3, _ => exact lv_tableIn (tgt := 287) hx hb dL_law_33 (by rw [lc_ti _ (by omega)]; decide) (by rw [lc_ti _ (by omega)]; decide) (show _ = some (254 : Int) by rw [lc_ti _ (by omega)]; rfl) (by decide) (lc_grow C hL hi hV hR hl kk)
  | 4, _ => exact lv_tableIn (tgt := 320) hx hb dL_law_33 (by rw [lc_ti _ (by omega)]; decide) (by rw [lc_ti _ (by omega)]; decide) (show _ = some (287 : Int) by rw [lc_ti _ (by omega)]; rfl) (by decide) (lc_build C hL hi hV hR hl kk)
  | 5, _ => exact lv_tableIn (tgt := 343) hx hb dL_law_33 (by rw [lc_ti _ (by omega)]; decide) (by rw [lc_ti _ (by omega)]; decide) (show _ = some (310 : Int) by rw [lc_ti _ (by omega)]; rfl) (by decide) (lc_shade C hL hi hV hR hl kk)
  | 6, _ => exact lv_tableIn (tgt := 376) hx hb dL_law_33 (by rw [lc_ti _ (by omega)]; decide) (by rw [lc_ti _ (by omega)]; decide) (show _ = some (343 : Int) by rw [lc_ti _ (by omega)]; rfl) (by decide) (lc_hidden C hL hi hV hR hl kk)
  | 7, _ => exact lv_tableIn (tgt := 399) hx hb dL_law_33 (by rw [lc_ti _ (by omega)]; decide) (by rw [lc_ti _ (by omega)]; decide) (show _ = some (366 : Int) by rw [lc_ti _ (by omega)]; rfl) (by decide) (lc_census C hL hi hV hR hl kk)
  | 8, _ => exact lv_tableIn (tgt := 422) hx hb dL_law_33 (by rw [lc_ti _ (by omega)]; decide) (by rw [lc_ti _ (by omega)]; decide) (show _ = some (389 : Int) by rw [lc_ti _ (by omega)]; rfl) (by decide) (lc_runs C hL hi hV hR hl kk)
  | 9, _ => exact lv_tableIn (tgt := 455) hx hb dL_law_33 (by rw [lc_ti _ (by omega)]; decide) (by rw [lc_ti _ (by omega)]; decide) (show _ = some (422 : Int) by rw [lc_ti _ (by omega)]; rfl) (by decide) (lc_fair C hL hi hV hR hl kk)
  | 10, _ => exact lv_tableIn (tgt := 468) hx hb dL_law_33 (by rw [lc_ti _ (by omega)]; decide) (by rw [lc_ti _ (by omega)]; decide) (show _ = some (435 : Int) by rw [lc_ti _ (by omega)]; rfl) (by decide) (lc_walks C hL hi hV hR hl kk)
  | 11, _ => exact lv_tableIn (tgt := 543) hx hb dL_law_33 (by rw [lc_ti _ (by omega)]; decide) (by rw [lc_ti _ (by omega)]; decide) (show _ = some (510 : Int) by rw [lc_ti _ (by omega)]; rfl) (by decide) (lc_pair C hL hi hV hR hl kk)
  | 12, _ => exact lv_tableIn (tgt := 596) hx hb dL_law_33 (by rw [lc_ti _ (by omega)]; decide) (by rw [lc_ti _ (by omega)]; decide) (show _ = some (563 : Int) by rw [lc_ti _ (by omega)]; rfl) (by decide) (lc_send C hL hi hV hR hl kk)
  | 13, _ => exact lv_tableIn (tgt := 629) hx hb dL_law_33 (by rw [lc_ti _ (by omega)]; decide) (by rw [lc_ti _ (by omega)]; decide) (show _ = some (596 : Int) by rw [lc_ti _ (by omega)]; rfl) (by decide) (lc_reading C hL hi hV hR hl kk)
  | 14, _ => exact lv_tableIn (tgt := 662) hx hb dL_law_33 (by rw [lc_ti _ (by omega)]; decide) (by rw [lc_ti _ (by omega)]; decide) (show _ = some (629 : Int) by rw [lc_ti _ (by omega)]; rfl) (by decide) (lc_back C hL hi hV hR hl kk)
  | 15, _ => exact lv_tableIn (tgt := 685) hx hb dL_law_33 (by rw [lc_ti _ (by omega)]; decide) (by rw [lc_ti _ (by omega)]; decide) (show _ = some (652 : Int) by rw [lc_ti _ (by omega)]; rfl) (by decide) (lc_heights C hL hi hV hR hl kk)
  | 16, _ => exact lv_tableIn (tgt := 708) hx hb dL_law_33 (by rw [lc_ti _ (by omega)]; decide) (by rw [lc_ti _ (by omega)]; decide) (show _ = some (675 : Int) by rw [lc_ti _ (by omega)]; rfl) (by decide) (lc_kinds C hL hi hV hR hl kk)
  | 17, _ => exact lv_tableIn (tgt := 731) hx hb dL_law_33 (by rw [lc_ti _ (by omega)]; decide) (by rw [lc_ti _ (by omega)]; decide) (show _ = some (698 : Int) by rw [lc_ti _ (by omega)]; rfl) (by decide) (lc_spans C hL hi hV hR hl kk)
  | 18, _ => exact lv_tableIn (tgt := 744) hx hb dL_law_33 (by rw [lc_ti _ (by omega)]; decide) (by rw [lc_ti _ (by omega)]; decide) (show _ = some (711 : Int) by rw [lc_ti _ (by omega)]; rfl) (by decide) (lc_odds C hL hi hV hR hl kk)
  | 19, _ => exact lv_tableIn (tgt := 788) hx hb dL_law_33 (by rw [lc_ti _ (by omega)]; decide) (by rw [lc_ti _ (by omega)]; decide) (show _ = some (755 : Int) by rw [lc_ti _ (by omega)]; rfl) (by decide) (lc_sheet C hL hi hV hR hl kk)
  | 20, _ => exact lv_tableIn (tgt := 831) hx hb dL_law_33 (by rw [lc_ti _ (by omega)]; decide) (by rw [lc_ti _ (by omega)]; decide) (show _ = some (798 : Int) by rw [lc_ti _ (by omega)]; rfl) (by decide) (lc_lose C hL hi hV hR hl kk)
  | 21, _ => exact lv_tableIn (tgt := 854) hx hb dL_law_33 (by rw [lc_ti _ (by omega)]; decide) (by rw [lc_ti _ (by omega)]; decide) (show _ = some (821 : Int) by rw [lc_ti _ (by omega)]; rfl) (by decide) (lc_put C hL hi hV hR hl kk)
  | 22, _ => exact lv_tableIn (tgt := 897) hx hb dL_law_33 (by rw [lc_ti _ (by omega)]; decide) (by rw [lc_ti _ (by omega)]; decide) (show _ = some (864 : Int) by rw [lc_ti _ (by omega)]; rfl) (by decide) (lc_cell C hL hi hV hR hl kk)
  | 23, _ => exact lv_tableIn (tgt := 941) hx hb dL_law_33 (by rw [lc_ti _ (by omega)]; decide) (by rw [lc_ti _ (by omega)]; decide) (show _ = some (908 : Int) by rw [lc_ti _ (by omega)]; rfl) (by decide) (lc_copy C hL hi hV hR hl kk)
  | 24, _ => exact lv_tableIn (tgt := 1004) hx hb dL_law_33 (by rw [lc_ti _ (by omega)]; decide) (by rw [lc_ti _ (by omega)]; decide) (show _ = some (971 : Int) by rw [lc_ti _ (by omega)]; rfl) (by decide) (lc_tell C hL hi hV hR hl kk)
  | 25, _ => exact lv_tableIn (tgt := 1027) hx hb dL_law_33 (by rw [lc_ti _ (by omega)]; decide) (by rw [lc_ti _ (by omega)]; decide) (show _ = some (994 : Int) by rw [lc_ti _ (by omega)]; rfl) (by decide) (lc_tax C hL hi hV hR hl kk)
  | 26, _ => exact lv_tableIn (tgt := 1050) hx hb dL_law_33 (by rw [lc_ti _ (by omega)]; decide) (by rw [lc_ti _ (by omega)]; decide) (show _ = some (1017 : Int) by rw [lc_ti _ (by omega)]; rfl) (by decide) (lc_as C hL hi hV hR hl kk)
  | 27, _ => exact lv_tableIn (tgt := 1083) hx hb dL_law_33 (by rw [lc_ti _ (by omega)]; decide) (by rw [lc_ti _ (by omega)]; decide) (show _ = some (1050 : Int) by rw [lc_ti _ (by omega)]; rfl) (by decide) (lc_trace C hL hi hV hR hl kk)
  | 28, _ => exact lv_tableIn (tgt := 1096) hx hb dL_law_33 (by rw [lc_ti _ (by omega)]; decide) (by rw [lc_ti _ (by omega)]; decide) (show _ = some (1063 : Int) by rw [lc_ti _ (by omega)]; rfl) (by decide) (lc_fault C hL hi hV hR hl kk)
  | 29, _ => exact lv_tableIn (tgt := 1109) hx hb dL_law_33 (by rw [lc_ti _ (by omega)]; decide) (by rw [lc_ti _ (by omega)]; decide) (show _ = some (1076 : Int) by rw [lc_ti _ (by omega)]; rfl) (by decide) (lc_many C hL hi hV hR hl kk)
  | 30, _ => exact lv_tableOut (tgt := 1132) hx hb dL_law_33 (by rw [lc_ti _ (by omega)]; decide) (by decide) (kk H locs ux uy hV hR)
  | 31, _ => exact lv_tableOut (tgt := 1132) hx hb dL_law_33 (by rw [lc_ti _ (by omega)]; decide) (by decide) (kk H locs ux uy hV hR)
  | k + 32, h => exact absurd h (by omega)
set_option maxHeartbeats 4000000 in
theorem lc_loop (hL : L ≤ 448) (C0 : lw_At p s m meth c b L xs) (C : lcC g p s m c b L xs) : ∀ (n i : Nat), i ≤ L + 7 → L + 8 ≤ i + n → ∀ (H : Heap) (locs : List Loc) (ux uy : zzS) (ls : Array Slot), lcV g s q q' ux uy H locs → qR ux uy → lv_has ls 4 [(0, .ref b), (1, .ref (q 0)), (2, .ref (q' 0)), (3, .int (nI i))] → W p l e room_1 s m #[Value.ref b] below meth c H locs 36 700 (lw_Z below #[Value.ref b] s) (F0 m 18 ls []) := by
  have hx := C.1.1.1
  have hb := C.1.1.2.1
  have hX := C.2.1
  have hbl := C.2.2
  have hbA : ¬ (fun q : Nat => s.heap.size ≤ q) b := Nat.not_le.mpr hbl
  intro n
  induction n with
  | zero =>
    intro i h1 h2
    exact absurd h2 (by omega)
  | succ n ih =>
    intro i hi hin H locs ux uy ls hV hR hl
    have hS := hV.2.2.2.2.2
    refine lv_iload_n hx hb dL_law_18 rfl (lv_at hl 3 rfl) ?_
    refine lv_aload_n hx hb dL_law_19 rfl (lv_at hl 0 rfl) ?_
    refine va_slen hx hb hX hbl hbA hS dL_law_20 ?_
    refine lv_bipush (v := (7 : Int32)) hx hb dL_law_21 (by decide) ?_
    refine lv_isub hx hb dL_law_23 ?_
    have ht : (Int32.ofNat L - (7 : Int32)).toInt = (L : Int) - 7 := pk_sub_toInt (a := L) (b := 7) (by omega) (by decide)
    have hti : (nI i).toInt = (i : Int) := nI_toInt (by omega)
    refine lv_icmp_gt (tgt := 1138) hx hb dL_law_24 (by decide) (fun cg => ?_) (fun cg => ?_)
    · refine lv_iconst (v := 1) hx hb dL_law_1138 (by decide) ?_
      refine va_forget (fun q hq => hS.2.2 q hq) ?_
      refine W.widen (k := 600000) (n := 7302250) (Nat.le_of_ble_eq_true rfl) (Nat.le_of_ble_eq_true rfl) ?_
      exact lw_ret hx hb C0.2.2.1 C0.2.2.2.2.2.2.2.2.1 dL_law_1139
    · rw [Int32.lt_iff_toInt_lt, ht, hti] at cg
      have hi7 : i + 7 ≤ L := by omega
      refine lv_aload_n hx hb dL_law_27 rfl (lv_at hl 0 rfl) ?_
      refine lv_iload_n hx hb dL_law_28 rfl (lv_at hl 3 rfl) ?_
      refine va_sld hx hb hX hbl hbA hS (lc_in (by omega) hL) dL_law_29 ?_
      refine lv_bipush (v := (31 : Int32)) hx hb dL_law_30 (by decide) ?_
      refine lv_iand hx hb dL_law_32 ?_
      obtain ⟨k, hk, ek⟩ := lc_and (xs (nI i).toNatClampNeg)
      rw [ek]
      refine lc_switch C hL hi7 hV hR hl (fun H locs ux uy hV hR => ?_) k hk
      refine lv_iinc (v := nI (i + 7)) (lv' := [(3, .int (nI (i + 7))), (0, .ref b), (1, .ref (q 0)), (2, .ref (q' 0))]) hx hb dL_law_1132 hl (k := 3) rfl (nI_add i 7) (by decide) rfl (fun ls hl => ?_)
      refine lv_goto (tgt := 18) hx hb dL_law_1135 (by decide) ?_
      exact ih (i + 7) (by omega) (by omega) H locs ux uy ls hV hR (lv_sub hl [1, 2, 3, 0] rfl)
end LcLoop
