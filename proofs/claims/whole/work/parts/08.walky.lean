abbrev rX5_fails : Room := ({ frames := 0, cells := 0, slots := 0, locals := 0 })
theorem mX5_fails : zzM yX5_fails wsX5_fails cX5_fails 2 (some .int) RX5 1 := ⟨⟨_, rfl⟩, by decide +kernel⟩
def fX5_fails (u : zzS) (p0 : Int32) : Option (Int32 × zzS) := (some (((-10 : Int32) - p0), (zzi u 0 p0)))
set_option maxHeartbeats 4000000 in
set_option maxRecDepth 100000 in
theorem kX5_fails (l : Launch) (g : zzG) (q : Nat → Nat) (sz : Nat) (u : zzS) (p0 : Int32) (x : Int32 × zzS) (hf : fX5_fails u p0 = some x) : zzI l g yX5_fails wsX5_fails rX5_fails [.ref (q 0), .int p0] (zzY g q u) (zzY g q x.2) sz x.1 := by
  refine zz_mi (cc := cX5_fails) (mL := 2) (own := RX5) (fun x : Int32 × zzS => x.1) (fun x : Int32 × zzS => (zzY g q x.2)) x (by decide) rfl rfl (Nat.le_of_ble_eq_true rfl) ?_
  intro p e s m below meth c A Q ls C ret hP hD hS hl
  have hl : lv_has ls 2 [(0, .ref (q 0)), (1, .int p0)] := hl
  have hx := C.1.1
  have hb := C.1.2.1
  have hml := C.1.2.2.1
  have hown := C.1.2.2.2.1
  have hts := C.1.2.2.2.2
  have hK := C.2.1
  have iX5 : ∀ w ∈ wsX50, w ∈ wsX5_fails := fun _ h => List.mem_cons_of_mem _ (List.mem_append_right _ h)
  unfold fX5_fails at hf
  refine lv_aload_n hx hb dX5_fails_0 rfl (lv_at hl 0 rfl) ?_
  refine lv_iload_n hx hb dX5_fails_1 rfl (lv_at hl 1 rfl) ?_
  refine va_put (D := g.1) (ci := 5) (v := .int p0) (ty := .int) (C := RX5) (T := TX5) (N := 29) hx hb hts iX5 tyX5 tyX5_ok nmX5 hown hK hP hD hS 0 rfl rfl 0 (by decide) (zz_mem hts 1 rfl) (fun _ h9 => h9) rfl (tyX5_ok 0 (by decide)) rfl rfl (Nat.le_of_ble_eq_true rfl) dX5_fails_2 (fun H locs hP hD hS => ?_)
  have hP : va_P g.1 vwCl (zzY g q (zzi u 0 p0)) H := Eq.mp (congrArg (fun w => va_P g.1 vwCl w H) (zyo_0_0 g q u p0)) hP
  have hD : va_D A (zzY g q (zzi u 0 p0)) := Eq.mp (congrArg (va_D A) (zyo_0_0 g q u p0)) hD
  refine lv_bipush (v := (-10 : Int32)) hx hb dX5_fails_5 (by decide) ?_
  refine lv_iload_n hx hb dX5_fails_7 rfl (lv_at hl 1 rfl) ?_
  refine lv_isub hx hb dX5_fails_8 ?_
  exact ret _ _ _ _ (((-10 : Int32) - p0), (zzi u 0 p0)) hf dX5_fails_9 hP hD hS
abbrev rX5_lost : Room := ({ frames := 0, cells := 0, slots := 0, locals := 0 })
theorem mX5_lost : zzM yX5_lost wsX5_lost cX5_lost 2 (some .long) RX5 1 := ⟨⟨_, rfl⟩, by decide +kernel⟩
def fX5_lost (u : zzS) (p0 : Int32) : Option (Int64 × zzS) := (some (((-9223372036854775808) : Int64), (zzi u 0 p0)))
set_option maxHeartbeats 4000000 in
set_option maxRecDepth 100000 in
theorem kX5_lost (l : Launch) (g : zzG) (q : Nat → Nat) (sz : Nat) (u : zzS) (p0 : Int32) (x : Int64 × zzS) (hf : fX5_lost u p0 = some x) : zzL l g yX5_lost wsX5_lost rX5_lost [.ref (q 0), .int p0] (zzY g q u) (zzY g q x.2) sz x.1 := by
  refine zz_ml (cc := cX5_lost) (mL := 2) (own := RX5) (fun x : Int64 × zzS => x.1) (fun x : Int64 × zzS => (zzY g q x.2)) x (by decide) rfl rfl (Nat.le_of_ble_eq_true rfl) ?_
  intro p e s m below meth c A Q ls C ret hP hD hS hl
  have hl : lv_has ls 2 [(0, .ref (q 0)), (1, .int p0)] := hl
  have hx := C.1.1
  have hb := C.1.2.1
  have hml := C.1.2.2.1
  have hown := C.1.2.2.2.1
  have hts := C.1.2.2.2.2
  have hK := C.2.1
  have iX5 : ∀ w ∈ wsX50, w ∈ wsX5_lost := fun _ h => List.mem_cons_of_mem _ (List.mem_append_right _ h)
  unfold fX5_lost at hf
  refine lv_aload_n hx hb dX5_lost_0 rfl (lv_at hl 0 rfl) ?_
  refine lv_iload_n hx hb dX5_lost_1 rfl (lv_at hl 1 rfl) ?_
  refine va_put (D := g.1) (ci := 5) (v := .int p0) (ty := .int) (C := RX5) (T := TX5) (N := 29) hx hb hts iX5 tyX5 tyX5_ok nmX5 hown hK hP hD hS 0 rfl rfl 0 (by decide) (zz_mem hts 1 rfl) (fun _ h9 => h9) rfl (tyX5_ok 0 (by decide)) rfl rfl (Nat.le_of_ble_eq_true rfl) dX5_lost_2 (fun H locs hP hD hS => ?_)
  have hP : va_P g.1 vwCl (zzY g q (zzi u 0 p0)) H := Eq.mp (congrArg (fun w => va_P g.1 vwCl w H) (zyo_0_0 g q u p0)) hP
  have hD : va_D A (zzY g q (zzi u 0 p0)) := Eq.mp (congrArg (va_D A) (zyo_0_0 g q u p0)) hD
  refine lv_ldc2 (v := ((-9223372036854775808) : Int64)) hx hb hown (zz_mem hts 2 rfl) dX5_lost_5 ?_
  exact ret _ _ _ _ (((-9223372036854775808) : Int64), (zzi u 0 p0)) hf dX5_lost_8 hP hD hS
abbrev rX5_within : Room := ({ frames := 0, cells := 0, slots := 0, locals := 0 })
theorem mX5_within : zzM yX5_within wsX5_within cX5_within 3 (some .boolean) RX5 3 := ⟨⟨_, rfl⟩, by decide +kernel⟩
def fX5_within (p0 : Int32) (p1 : Int32) (p2 : Int32) : Option Int32 := (if p0 < p1 then (some (0 : Int32)) else (if p2 < p0 then (some (0 : Int32)) else (some (1 : Int32))))
set_option maxHeartbeats 4000000 in
set_option maxRecDepth 100000 in
theorem kX5_within (l : Launch) (g : zzG) (w : va_W) (sz : Nat)  (p0 : Int32) (p1 : Int32) (p2 : Int32) (x : Int32) (hf : fX5_within p0 p1 p2 = some x) : zzZ l g yX5_within wsX5_within rX5_within [.int p0, .int p1, .int p2] w w sz x := by
  refine zz_mz (cc := cX5_within) (mL := 3) (own := RX5) (fun x : Int32 => x) (fun x : Int32 => w) x (by decide) rfl rfl (Nat.le_of_ble_eq_true rfl) ?_
  intro p e s m below meth c A Q ls C ret hP hD hS hl
  have hl : lv_has ls 3 [(0, .int p0), (1, .int p1), (2, .int p2)] := hl
  have hx := C.1.1
  have hb := C.1.2.1
  have hml := C.1.2.2.1
  have hown := C.1.2.2.2.1
  have hts := C.1.2.2.2.2
  have hK := C.2.1
  unfold fX5_within at hf
  refine lv_iload_n hx hb dX5_within_0 rfl (lv_at hl 0 rfl) ?_
  refine lv_iload_n hx hb dX5_within_1 rfl (lv_at hl 1 rfl) ?_
  refine lv_icmp_lt (tgt := 14) hx hb dX5_within_2 (by decide) (fun c1 => ?_) (fun c1 => ?_)
  · have hf := zz_t c1 hf
    refine lv_iconst (v := (0 : Int32)) hx hb dX5_within_14 (by decide) ?_
    exact ret _ _ _ _ (0 : Int32) hf dX5_within_15 zz_n0 hP hD hS
  · have hf := zz_f c1 hf
    refine lv_iload_n hx hb dX5_within_5 rfl (lv_at hl 0 rfl) ?_
    refine lv_iload_n hx hb dX5_within_6 rfl (lv_at hl 2 rfl) ?_
    refine lv_icmp_gt (tgt := 14) hx hb dX5_within_7 (by decide) (fun c2 => ?_) (fun c2 => ?_)
    · have hf := zz_t c2 hf
      refine lv_iconst (v := (0 : Int32)) hx hb dX5_within_14 (by decide) ?_
      exact ret _ _ _ _ (0 : Int32) hf dX5_within_15 zz_n0 hP hD hS
    · have hf := zz_f c2 hf
      refine lv_iconst (v := (1 : Int32)) hx hb dX5_within_10 (by decide) ?_
      refine lv_goto (tgt := 15) hx hb dX5_within_11 (by decide) ?_
      exact ret _ _ _ _ (1 : Int32) hf dX5_within_15 zz_n1 hP hD hS
abbrev rX5_isSheet : Room := ({ frames := 1, cells := 0, slots := 0, locals := 22 })
theorem mX5_isSheet : zzM yX5_isSheet wsX5_isSheet cX5_isSheet 1 (some .boolean) RX5 1 := ⟨⟨_, rfl⟩, by decide +kernel⟩
def fX5_isSheet (p0 : Int32) : Option Int32 := ((fX5_within p0 (0 : Int32) (3 : Int32)).bind (fun r1 => (some r1)))
set_option maxHeartbeats 4000000 in
set_option maxRecDepth 100000 in
theorem kX5_isSheet (l : Launch) (g : zzG) (w : va_W) (sz : Nat)  (p0 : Int32) (x : Int32) (hf : fX5_isSheet p0 = some x) : zzZ l g yX5_isSheet wsX5_isSheet rX5_isSheet [.int p0] w w sz x := by
  refine zz_mz (cc := cX5_isSheet) (mL := 1) (own := RX5) (fun x : Int32 => x) (fun x : Int32 => w) x (by decide) rfl rfl (Nat.le_of_ble_eq_true rfl) ?_
  intro p e s m below meth c A Q ls C ret hP hD hS hl
  have hl : lv_has ls 1 [(0, .int p0)] := hl
  have hx := C.1.1
  have hb := C.1.2.1
  have hml := C.1.2.2.1
  have hown := C.1.2.2.2.1
  have hts := C.1.2.2.2.2
  have hK := C.2.1
  unfold fX5_isSheet at hf
  refine lv_iload_n hx hb dX5_isSheet_0 rfl (lv_at hl 0 rfl) ?_
  refine lv_iconst (v := (0 : Int32)) hx hb dX5_isSheet_1 (by decide) ?_
  refine lv_iconst (v := (3 : Int32)) hx hb dX5_isSheet_2 (by decide) ?_
  obtain ⟨r1, hc1, hf⟩ := zz_bs hf
  refine zz_cSz C hP hD hS (kX5_within l g w _ p0 (0 : Int32) (3 : Int32) r1 hc1) gX5_isSheet_X5_within mX5_within (by decide) ⟨Nat.zero_le _, Nat.zero_le _⟩ rfl (rest := []) rfl hl.1 (Nat.le_of_ble_eq_true rfl) dX5_isSheet_3 (fun hz1 H locs hP hD hS => ?_)
  exact ret _ _ _ _ r1 hf dX5_isSheet_6 hz1 hP hD hS
abbrev rX5_isSort : Room := ({ frames := 1, cells := 0, slots := 0, locals := 22 })
theorem mX5_isSort : zzM yX5_isSort wsX5_isSort cX5_isSort 1 (some .boolean) RX5 1 := ⟨⟨_, rfl⟩, by decide +kernel⟩
def fX5_isSort (p0 : Int32) : Option Int32 := ((fX5_within p0 (0 : Int32) (2 : Int32)).bind (fun r1 => (some r1)))
set_option maxHeartbeats 4000000 in
set_option maxRecDepth 100000 in
theorem kX5_isSort (l : Launch) (g : zzG) (w : va_W) (sz : Nat)  (p0 : Int32) (x : Int32) (hf : fX5_isSort p0 = some x) : zzZ l g yX5_isSort wsX5_isSort rX5_isSort [.int p0] w w sz x := by
  refine zz_mz (cc := cX5_isSort) (mL := 1) (own := RX5) (fun x : Int32 => x) (fun x : Int32 => w) x (by decide) rfl rfl (Nat.le_of_ble_eq_true rfl) ?_
  intro p e s m below meth c A Q ls C ret hP hD hS hl
  have hl : lv_has ls 1 [(0, .int p0)] := hl
  have hx := C.1.1
  have hb := C.1.2.1
  have hml := C.1.2.2.1
  have hown := C.1.2.2.2.1
  have hts := C.1.2.2.2.2
  have hK := C.2.1
  unfold fX5_isSort at hf
  refine lv_iload_n hx hb dX5_isSort_0 rfl (lv_at hl 0 rfl) ?_
  refine lv_iconst (v := (0 : Int32)) hx hb dX5_isSort_1 (by decide) ?_
  refine lv_iconst (v := (2 : Int32)) hx hb dX5_isSort_2 (by decide) ?_
  obtain ⟨r1, hc1, hf⟩ := zz_bs hf
  refine zz_cSz C hP hD hS (kX5_within l g w _ p0 (0 : Int32) (2 : Int32) r1 hc1) gX5_isSort_X5_within mX5_within (by decide) ⟨Nat.zero_le _, Nat.zero_le _⟩ rfl (rest := []) rfl hl.1 (Nat.le_of_ble_eq_true rfl) dX5_isSort_3 (fun hz1 H locs hP hD hS => ?_)
  exact ret _ _ _ _ r1 hf dX5_isSort_6 hz1 hP hD hS
abbrev rX5_against : Room := ({ frames := 0, cells := 0, slots := 0, locals := 0 })
theorem mX5_against : zzM yX5_against wsX5_against cX5_against 5 (some .int) RX5 4 := ⟨⟨_, rfl⟩, by decide +kernel⟩
def fX5_against (u : zzS) (p0 : Int32) (p1 : Int32) (p2 : Int32) (p3 : Int32) : Option Int32 := (zzga (u.2 2) 4 p0 (fun x2 => (if x2 = (-9 : Int32) then (zzga (u.2 2) 4 p0 (fun x5 => (if x5 = (-9 : Int32) then (some (1 : Int32)) else (if (0 : Int32) ≤ p3 then (if p2 < 0 then (some (3 : Int32)) else (zzga (u.2 3) 4 p0 (fun x10 => (if x10 < p2 then (some (3 : Int32)) else (zzga (u.2 3) 4 p0 (fun x13 => (if p3 ≤ (x13 - p2) then (some (0 : Int32)) else (some (3 : Int32))))))))) else (some (4 : Int32)))))) else (zzga (u.2 2) 4 p0 (fun x16 => (if x16 = p1 then (zzga (u.2 2) 4 p0 (fun x19 => (if x19 = (-9 : Int32) then (some (1 : Int32)) else (if (0 : Int32) ≤ p3 then (if p2 < 0 then (some (3 : Int32)) else (zzga (u.2 3) 4 p0 (fun x24 => (if x24 < p2 then (some (3 : Int32)) else (zzga (u.2 3) 4 p0 (fun x27 => (if p3 ≤ (x27 - p2) then (some (0 : Int32)) else (some (3 : Int32))))))))) else (some (4 : Int32)))))) else (some (2 : Int32))))))))
set_option maxHeartbeats 4000000 in
set_option maxRecDepth 100000 in
theorem kX5_against (l : Launch) (g : zzG) (q : Nat → Nat) (sz : Nat) (u : zzS) (p0 : Int32) (p1 : Int32) (p2 : Int32) (p3 : Int32) (x : Int32) (hf : fX5_against u p0 p1 p2 p3 = some x) : zzI l g yX5_against wsX5_against rX5_against [.ref (q 0), .int p0, .int p1, .int p2, .int p3] (zzY g q u) (zzY g q u) sz x := by
  refine zz_mi (cc := cX5_against) (mL := 5) (own := RX5) (fun x : Int32 => x) (fun x : Int32 => (zzY g q u)) x (by decide) rfl rfl (Nat.le_of_ble_eq_true rfl) ?_
  intro p e s m below meth c A Q ls C ret hP hD hS hl
  have hl : lv_has ls 5 [(0, .ref (q 0)), (1, .int p0), (2, .int p1), (3, .int p2), (4, .int p3)] := hl
  have hx := C.1.1
  have hb := C.1.2.1
  have hml := C.1.2.2.1
  have hown := C.1.2.2.2.1
  have hts := C.1.2.2.2.2
  have hK := C.2.1
  have iX5 : ∀ w ∈ wsX50, w ∈ wsX5_against := fun _ h => List.mem_cons_of_mem _ (List.mem_append_right _ h)
  unfold fX5_against at hf
  refine lv_aload_n hx hb dX5_against_0 rfl (lv_at hl 0 rfl) ?_
  refine va_get (D := g.1) (ci := 5) (v := .ref (q 2)) (C := RX5) (T := TX5) (N := 29) hx hb hts iX5 hown hK hP 0 rfl rfl 2 (by decide) (zz_mem hts 1 rfl) (fun _ h9 => h9) rfl dX5_against_1 ?_
  refine lv_iload_n hx hb dX5_against_4 rfl (lv_at hl 1 rfl) ?_
  obtain ⟨x2, h1, ex2, hf⟩ := zz_gx hf
  refine zz_iald hx hb hK hP 1 0 rfl rfl h1 ex2 dX5_against_5 ?_
  refine lv_bipush (v := (-9 : Int32)) hx hb dX5_against_6 (by decide) ?_
  refine lv_icmp_eq (tgt := 23) hx hb dX5_against_8 (by decide) (fun c3 => ?_) (fun c3 => ?_)
  · have hf := zz_t c3 hf
    refine lv_aload_n hx hb dX5_against_23 rfl (lv_at hl 0 rfl) ?_
    refine va_get (D := g.1) (ci := 5) (v := .ref (q 2)) (C := RX5) (T := TX5) (N := 29) hx hb hts iX5 hown hK hP 0 rfl rfl 2 (by decide) (zz_mem hts 1 rfl) (fun _ h9 => h9) rfl dX5_against_24 ?_
    refine lv_iload_n hx hb dX5_against_27 rfl (lv_at hl 1 rfl) ?_
    obtain ⟨x5, h4, ex5, hf⟩ := zz_gx hf
    refine zz_iald hx hb hK hP 1 0 rfl rfl h4 ex5 dX5_against_28 ?_
    refine lv_bipush (v := (-9 : Int32)) hx hb dX5_against_29 (by decide) ?_
    refine lv_icmp_ne (tgt := 36) hx hb dX5_against_31 (by decide) (fun c6 => ?_) (fun c6 => ?_)
    · have hf := zz_f c6 hf
      refine lv_iload hx hb dX5_against_36 (lv_at hl 4 rfl) ?_
      refine lv_if_ge (tgt := 43) hx hb dX5_against_38 (by decide) (fun c7 => ?_) (fun c7 => ?_)
      · have hf := zz_t c7 hf
        refine lv_iload_n hx hb dX5_against_43 rfl (lv_at hl 3 rfl) ?_
        refine lv_if_lt (tgt := 70) hx hb dX5_against_44 (by decide) (fun c8 => ?_) (fun c8 => ?_)
        · have hf := zz_t c8 hf
          refine lv_iconst (v := (3 : Int32)) hx hb dX5_against_70 (by decide) ?_
          refine lv_goto (tgt := 75) hx hb dX5_against_71 (by decide) ?_
          exact ret _ _ _ _ (3 : Int32) hf dX5_against_75 hP hD hS
        · have hf := zz_f c8 hf
          refine lv_iload_n hx hb dX5_against_47 rfl (lv_at hl 3 rfl) ?_
          refine lv_aload_n hx hb dX5_against_48 rfl (lv_at hl 0 rfl) ?_
          refine va_get (D := g.1) (ci := 5) (v := .ref (q 3)) (C := RX5) (T := TX5) (N := 29) hx hb hts iX5 hown hK hP 0 rfl rfl 3 (by decide) (zz_mem hts 2 rfl) (fun _ h9 => h9) rfl dX5_against_49 ?_
          refine lv_iload_n hx hb dX5_against_52 rfl (lv_at hl 1 rfl) ?_
          obtain ⟨x10, h9, ex10, hf⟩ := zz_gx hf
          refine zz_iald hx hb hK hP 2 0 rfl rfl h9 ex10 dX5_against_53 ?_
          refine lv_icmp_gt (tgt := 70) hx hb dX5_against_54 (by decide) (fun c11 => ?_) (fun c11 => ?_)
          · have hf := zz_t c11 hf
            refine lv_iconst (v := (3 : Int32)) hx hb dX5_against_70 (by decide) ?_
            refine lv_goto (tgt := 75) hx hb dX5_against_71 (by decide) ?_
            exact ret _ _ _ _ (3 : Int32) hf dX5_against_75 hP hD hS
          · have hf := zz_f c11 hf
            refine lv_iload hx hb dX5_against_57 (lv_at hl 4 rfl) ?_
            refine lv_aload_n hx hb dX5_against_59 rfl (lv_at hl 0 rfl) ?_
            refine va_get (D := g.1) (ci := 5) (v := .ref (q 3)) (C := RX5) (T := TX5) (N := 29) hx hb hts iX5 hown hK hP 0 rfl rfl 3 (by decide) (zz_mem hts 2 rfl) (fun _ h9 => h9) rfl dX5_against_60 ?_
            refine lv_iload_n hx hb dX5_against_63 rfl (lv_at hl 1 rfl) ?_
            obtain ⟨x13, h12, ex13, hf⟩ := zz_gx hf
            refine zz_iald hx hb hK hP 2 0 rfl rfl h12 ex13 dX5_against_64 ?_
            refine lv_iload_n hx hb dX5_against_65 rfl (lv_at hl 3 rfl) ?_
            refine lv_isub hx hb dX5_against_66 ?_
            refine lv_icmp_le (tgt := 74) hx hb dX5_against_67 (by decide) (fun c14 => ?_) (fun c14 => ?_)
            · have hf := zz_t c14 hf
              refine lv_iconst (v := (0 : Int32)) hx hb dX5_against_74 (by decide) ?_
              exact ret _ _ _ _ (0 : Int32) hf dX5_against_75 hP hD hS
            · have hf := zz_f c14 hf
              refine lv_iconst (v := (3 : Int32)) hx hb dX5_against_70 (by decide) ?_
              refine lv_goto (tgt := 75) hx hb dX5_against_71 (by decide) ?_
              exact ret _ _ _ _ (3 : Int32) hf dX5_against_75 hP hD hS
      · have hf := zz_f c7 hf
        refine lv_iconst (v := (4 : Int32)) hx hb dX5_against_41 (by decide) ?_
        exact ret _ _ _ _ (4 : Int32) hf dX5_against_42 hP hD hS
    · have hf := zz_t c6 hf
      refine lv_iconst (v := (1 : Int32)) hx hb dX5_against_34 (by decide) ?_
      exact ret _ _ _ _ (1 : Int32) hf dX5_against_35 hP hD hS
  · have hf := zz_f c3 hf
    refine lv_aload_n hx hb dX5_against_11 rfl (lv_at hl 0 rfl) ?_
    refine va_get (D := g.1) (ci := 5) (v := .ref (q 2)) (C := RX5) (T := TX5) (N := 29) hx hb hts iX5 hown hK hP 0 rfl rfl 2 (by decide) (zz_mem hts 1 rfl) (fun _ h9 => h9) rfl dX5_against_12 ?_
    refine lv_iload_n hx hb dX5_against_15 rfl (lv_at hl 1 rfl) ?_
    obtain ⟨x16, h15, ex16, hf⟩ := zz_gx hf
    refine zz_iald hx hb hK hP 1 0 rfl rfl h15 ex16 dX5_against_16 ?_
    refine lv_iload_n hx hb dX5_against_17 rfl (lv_at hl 2 rfl) ?_
    refine lv_icmp_eq (tgt := 23) hx hb dX5_against_18 (by decide) (fun c17 => ?_) (fun c17 => ?_)
    · have hf := zz_t c17 hf
      refine lv_aload_n hx hb dX5_against_23 rfl (lv_at hl 0 rfl) ?_
      refine va_get (D := g.1) (ci := 5) (v := .ref (q 2)) (C := RX5) (T := TX5) (N := 29) hx hb hts iX5 hown hK hP 0 rfl rfl 2 (by decide) (zz_mem hts 1 rfl) (fun _ h9 => h9) rfl dX5_against_24 ?_
      refine lv_iload_n hx hb dX5_against_27 rfl (lv_at hl 1 rfl) ?_
      obtain ⟨x19, h18, ex19, hf⟩ := zz_gx hf
      refine zz_iald hx hb hK hP 1 0 rfl rfl h18 ex19 dX5_against_28 ?_
      refine lv_bipush (v := (-9 : Int32)) hx hb dX5_against_29 (by decide) ?_
      refine lv_icmp_ne (tgt := 36) hx hb dX5_against_31 (by decide) (fun c20 => ?_) (fun c20 => ?_)
      · have hf := zz_f c20 hf
        refine lv_iload hx hb dX5_against_36 (lv_at hl 4 rfl) ?_
        refine lv_if_ge (tgt := 43) hx hb dX5_against_38 (by decide) (fun c21 => ?_) (fun c21 => ?_)
        · have hf := zz_t c21 hf
          refine lv_iload_n hx hb dX5_against_43 rfl (lv_at hl 3 rfl) ?_
          refine lv_if_lt (tgt := 70) hx hb dX5_against_44 (by decide) (fun c22 => ?_) (fun c22 => ?_)
          · have hf := zz_t c22 hf
            refine lv_iconst (v := (3 : Int32)) hx hb dX5_against_70 (by decide) ?_
            refine lv_goto (tgt := 75) hx hb dX5_against_71 (by decide) ?_
            exact ret _ _ _ _ (3 : Int32) hf dX5_against_75 hP hD hS
          · have hf := zz_f c22 hf
            refine lv_iload_n hx hb dX5_against_47 rfl (lv_at hl 3 rfl) ?_
            refine lv_aload_n hx hb dX5_against_48 rfl (lv_at hl 0 rfl) ?_
            refine va_get (D := g.1) (ci := 5) (v := .ref (q 3)) (C := RX5) (T := TX5) (N := 29) hx hb hts iX5 hown hK hP 0 rfl rfl 3 (by decide) (zz_mem hts 2 rfl) (fun _ h9 => h9) rfl dX5_against_49 ?_
            refine lv_iload_n hx hb dX5_against_52 rfl (lv_at hl 1 rfl) ?_
            obtain ⟨x24, h23, ex24, hf⟩ := zz_gx hf
            refine zz_iald hx hb hK hP 2 0 rfl rfl h23 ex24 dX5_against_53 ?_
            refine lv_icmp_gt (tgt := 70) hx hb dX5_against_54 (by decide) (fun c25 => ?_) (fun c25 => ?_)
            · have hf := zz_t c25 hf
              refine lv_iconst (v := (3 : Int32)) hx hb dX5_against_70 (by decide) ?_
              refine lv_goto (tgt := 75) hx hb dX5_against_71 (by decide) ?_
              exact ret _ _ _ _ (3 : Int32) hf dX5_against_75 hP hD hS
            · have hf := zz_f c25 hf
              refine lv_iload hx hb dX5_against_57 (lv_at hl 4 rfl) ?_
              refine lv_aload_n hx hb dX5_against_59 rfl (lv_at hl 0 rfl) ?_
              refine va_get (D := g.1) (ci := 5) (v := .ref (q 3)) (C := RX5) (T := TX5) (N := 29) hx hb hts iX5 hown hK hP 0 rfl rfl 3 (by decide) (zz_mem hts 2 rfl) (fun _ h9 => h9) rfl dX5_against_60 ?_
              refine lv_iload_n hx hb dX5_against_63 rfl (lv_at hl 1 rfl) ?_
              obtain ⟨x27, h26, ex27, hf⟩ := zz_gx hf
              refine zz_iald hx hb hK hP 2 0 rfl rfl h26 ex27 dX5_against_64 ?_
              refine lv_iload_n hx hb dX5_against_65 rfl (lv_at hl 3 rfl) ?_
              refine lv_isub hx hb dX5_against_66 ?_
              refine lv_icmp_le (tgt := 74) hx hb dX5_against_67 (by decide) (fun c28 => ?_) (fun c28 => ?_)
              · have hf := zz_t c28 hf
                refine lv_iconst (v := (0 : Int32)) hx hb dX5_against_74 (by decide) ?_
                exact ret _ _ _ _ (0 : Int32) hf dX5_against_75 hP hD hS
              · have hf := zz_f c28 hf
                refine lv_iconst (v := (3 : Int32)) hx hb dX5_against_70 (by decide) ?_
                refine lv_goto (tgt := 75) hx hb dX5_against_71 (by decide) ?_
                exact ret _ _ _ _ (3 : Int32) hf dX5_against_75 hP hD hS
        · have hf := zz_f c21 hf
          refine lv_iconst (v := (4 : Int32)) hx hb dX5_against_41 (by decide) ?_
          exact ret _ _ _ _ (4 : Int32) hf dX5_against_42 hP hD hS
      · have hf := zz_t c20 hf
        refine lv_iconst (v := (1 : Int32)) hx hb dX5_against_34 (by decide) ?_
        exact ret _ _ _ _ (1 : Int32) hf dX5_against_35 hP hD hS
    · have hf := zz_f c17 hf
      refine lv_iconst (v := (2 : Int32)) hx hb dX5_against_21 (by decide) ?_
      exact ret _ _ _ _ (2 : Int32) hf dX5_against_22 hP hD hS
abbrev rX5_isStander : Room := ({ frames := 0, cells := 0, slots := 0, locals := 0 })
theorem mX5_isStander : zzM yX5_isStander wsX5_isStander cX5_isStander 2 (some .boolean) RX5 1 := ⟨⟨_, rfl⟩, by decide +kernel⟩
def fX5_isStander (u : zzS) (p0 : Int32) : Option Int32 := (if p0 < 0 then (some (0 : Int32)) else (if (u.1 5) ≤ p0 then (some (0 : Int32)) else (some (1 : Int32))))
set_option maxHeartbeats 4000000 in
set_option maxRecDepth 100000 in
theorem kX5_isStander (l : Launch) (g : zzG) (q : Nat → Nat) (sz : Nat) (u : zzS) (p0 : Int32) (x : Int32) (hf : fX5_isStander u p0 = some x) : zzZ l g yX5_isStander wsX5_isStander rX5_isStander [.ref (q 0), .int p0] (zzY g q u) (zzY g q u) sz x := by
  refine zz_mz (cc := cX5_isStander) (mL := 2) (own := RX5) (fun x : Int32 => x) (fun x : Int32 => (zzY g q u)) x (by decide) rfl rfl (Nat.le_of_ble_eq_true rfl) ?_
  intro p e s m below meth c A Q ls C ret hP hD hS hl
  have hl : lv_has ls 2 [(0, .ref (q 0)), (1, .int p0)] := hl
  have hx := C.1.1
  have hb := C.1.2.1
  have hml := C.1.2.2.1
  have hown := C.1.2.2.2.1
  have hts := C.1.2.2.2.2
  have hK := C.2.1
  have iX5 : ∀ w ∈ wsX50, w ∈ wsX5_isStander := fun _ h => List.mem_cons_of_mem _ (List.mem_append_right _ h)
  unfold fX5_isStander at hf
  refine lv_iload_n hx hb dX5_isStander_0 rfl (lv_at hl 1 rfl) ?_
  refine lv_if_lt (tgt := 16) hx hb dX5_isStander_1 (by decide) (fun c1 => ?_) (fun c1 => ?_)
  · have hf := zz_t c1 hf
    refine lv_iconst (v := (0 : Int32)) hx hb dX5_isStander_16 (by decide) ?_
    exact ret _ _ _ _ (0 : Int32) hf dX5_isStander_17 zz_n0 hP hD hS
  · have hf := zz_f c1 hf
    refine lv_iload_n hx hb dX5_isStander_4 rfl (lv_at hl 1 rfl) ?_
    refine lv_aload_n hx hb dX5_isStander_5 rfl (lv_at hl 0 rfl) ?_
    refine va_get (D := g.1) (ci := 5) (v := .int (u.1 5)) (C := RX5) (T := TX5) (N := 29) hx hb hts iX5 hown hK hP 0 rfl rfl 5 (by decide) (zz_mem hts 1 rfl) (fun _ h9 => h9) rfl dX5_isStander_6 ?_
    refine lv_icmp_ge (tgt := 16) hx hb dX5_isStander_9 (by decide) (fun c2 => ?_) (fun c2 => ?_)
    · have hf := zz_t c2 hf
      refine lv_iconst (v := (0 : Int32)) hx hb dX5_isStander_16 (by decide) ?_
      exact ret _ _ _ _ (0 : Int32) hf dX5_isStander_17 zz_n0 hP hD hS
    · have hf := zz_f c2 hf
      refine lv_iconst (v := (1 : Int32)) hx hb dX5_isStander_12 (by decide) ?_
      refine lv_goto (tgt := 17) hx hb dX5_isStander_13 (by decide) ?_
      exact ret _ _ _ _ (1 : Int32) hf dX5_isStander_17 zz_n1 hP hD hS
abbrev rX5_isDigit : Room := ({ frames := 1, cells := 0, slots := 0, locals := 22 })
theorem mX5_isDigit : zzM yX5_isDigit wsX5_isDigit cX5_isDigit 1 (some .boolean) RX5 1 := ⟨⟨_, rfl⟩, by decide +kernel⟩
def fX5_isDigit (p0 : Int32) : Option Int32 := ((fX5_within p0 (0 : Int32) (9 : Int32)).bind (fun r1 => (some r1)))
set_option maxHeartbeats 4000000 in
set_option maxRecDepth 100000 in
theorem kX5_isDigit (l : Launch) (g : zzG) (w : va_W) (sz : Nat)  (p0 : Int32) (x : Int32) (hf : fX5_isDigit p0 = some x) : zzZ l g yX5_isDigit wsX5_isDigit rX5_isDigit [.int p0] w w sz x := by
  refine zz_mz (cc := cX5_isDigit) (mL := 1) (own := RX5) (fun x : Int32 => x) (fun x : Int32 => w) x (by decide) rfl rfl (Nat.le_of_ble_eq_true rfl) ?_
  intro p e s m below meth c A Q ls C ret hP hD hS hl
  have hl : lv_has ls 1 [(0, .int p0)] := hl
  have hx := C.1.1
  have hb := C.1.2.1
  have hml := C.1.2.2.1
  have hown := C.1.2.2.2.1
  have hts := C.1.2.2.2.2
  have hK := C.2.1
  unfold fX5_isDigit at hf
  refine lv_iload_n hx hb dX5_isDigit_0 rfl (lv_at hl 0 rfl) ?_
  refine lv_iconst (v := (0 : Int32)) hx hb dX5_isDigit_1 (by decide) ?_
  refine lv_bipush (v := (9 : Int32)) hx hb dX5_isDigit_2 (by decide) ?_
  obtain ⟨r1, hc1, hf⟩ := zz_bs hf
  refine zz_cSz C hP hD hS (kX5_within l g w _ p0 (0 : Int32) (9 : Int32) r1 hc1) gX5_isDigit_X5_within mX5_within (by decide) ⟨Nat.zero_le _, Nat.zero_le _⟩ rfl (rest := []) rfl hl.1 (Nat.le_of_ble_eq_true rfl) dX5_isDigit_4 (fun hz1 H locs hP hD hS => ?_)
  exact ret _ _ _ _ r1 hf dX5_isDigit_7 hz1 hP hD hS
abbrev rX5_isSun : Room := ({ frames := 1, cells := 0, slots := 0, locals := 22 })
theorem mX5_isSun : zzM yX5_isSun wsX5_isSun cX5_isSun 1 (some .boolean) RX5 1 := ⟨⟨_, rfl⟩, by decide +kernel⟩
def fX5_isSun (p0 : Int32) : Option Int32 := ((fX5_within p0 (1 : Int32) (3 : Int32)).bind (fun r1 => (some r1)))
set_option maxHeartbeats 4000000 in
set_option maxRecDepth 100000 in
theorem kX5_isSun (l : Launch) (g : zzG) (w : va_W) (sz : Nat)  (p0 : Int32) (x : Int32) (hf : fX5_isSun p0 = some x) : zzZ l g yX5_isSun wsX5_isSun rX5_isSun [.int p0] w w sz x := by
  refine zz_mz (cc := cX5_isSun) (mL := 1) (own := RX5) (fun x : Int32 => x) (fun x : Int32 => w) x (by decide) rfl rfl (Nat.le_of_ble_eq_true rfl) ?_
  intro p e s m below meth c A Q ls C ret hP hD hS hl
  have hl : lv_has ls 1 [(0, .int p0)] := hl
  have hx := C.1.1
  have hb := C.1.2.1
  have hml := C.1.2.2.1
  have hown := C.1.2.2.2.1
  have hts := C.1.2.2.2.2
  have hK := C.2.1
  unfold fX5_isSun at hf
  refine lv_iload_n hx hb dX5_isSun_0 rfl (lv_at hl 0 rfl) ?_
  refine lv_iconst (v := (1 : Int32)) hx hb dX5_isSun_1 (by decide) ?_
  refine lv_iconst (v := (3 : Int32)) hx hb dX5_isSun_2 (by decide) ?_
  obtain ⟨r1, hc1, hf⟩ := zz_bs hf
  refine zz_cSz C hP hD hS (kX5_within l g w _ p0 (1 : Int32) (3 : Int32) r1 hc1) gX5_isSun_X5_within mX5_within (by decide) ⟨Nat.zero_le _, Nat.zero_le _⟩ rfl (rest := []) rfl hl.1 (Nat.le_of_ble_eq_true rfl) dX5_isSun_3 (fun hz1 H locs hP hD hS => ?_)
  exact ret _ _ _ _ r1 hf dX5_isSun_6 hz1 hP hD hS
abbrev rX5_digit : Room := ({ frames := 1, cells := 0, slots := 0, locals := 22 })
theorem mX5_digit : zzM yX5_digit wsX5_digit cX5_digit 3 (some .int) RX5 2 := ⟨⟨_, rfl⟩, by decide +kernel⟩
def fX5_digit (u : zzS) (p0 : Int32) (p1 : Int32) : Option (Int32 × zzS) := (if p0 ≤ (u.1 12) then (some ((-9 : Int32), u)) else (zzga (u.2 4) 240 (u.1 12) (fun x3 => ((fX5_within x3 ((48 : Int32) + p1) (57 : Int32)).bind (fun r4 => (if r4 = 0 then (some ((-9 : Int32), u)) else (zzga ((zzi u 12 ((u.1 12) + (1 : Int32))).2 4) 240 (((zzi u 12 ((u.1 12) + (1 : Int32))).1 12) - (1 : Int32)) (fun x7 => (some ((x7 - (48 : Int32)), (zzi u 12 ((u.1 12) + (1 : Int32)))))))))))))
set_option maxHeartbeats 4000000 in
set_option maxRecDepth 100000 in
theorem kX5_digit (l : Launch) (g : zzG) (q : Nat → Nat) (sz : Nat) (u : zzS) (p0 : Int32) (p1 : Int32) (x : Int32 × zzS) (hf : fX5_digit u p0 p1 = some x) : zzI l g yX5_digit wsX5_digit rX5_digit [.ref (q 0), .int p0, .int p1] (zzY g q u) (zzY g q x.2) sz x.1 := by
  refine zz_mi (cc := cX5_digit) (mL := 3) (own := RX5) (fun x : Int32 × zzS => x.1) (fun x : Int32 × zzS => (zzY g q x.2)) x (by decide) rfl rfl (Nat.le_of_ble_eq_true rfl) ?_
  intro p e s m below meth c A Q ls C ret hP hD hS hl
  have hl : lv_has ls 3 [(0, .ref (q 0)), (1, .int p0), (2, .int p1)] := hl
  have hx := C.1.1
  have hb := C.1.2.1
  have hml := C.1.2.2.1
  have hown := C.1.2.2.2.1
  have hts := C.1.2.2.2.2
  have hK := C.2.1
  have iX5 : ∀ w ∈ wsX50, w ∈ wsX5_digit := fun _ h => List.mem_cons_of_mem _ (List.mem_append_right _ h)
  unfold fX5_digit at hf
  refine lv_aload_n hx hb dX5_digit_0 rfl (lv_at hl 0 rfl) ?_
  refine va_get (D := g.1) (ci := 5) (v := .int (u.1 12)) (C := RX5) (T := TX5) (N := 29) hx hb hts iX5 hown hK hP 0 rfl rfl 12 (by decide) (zz_mem hts 1 rfl) (fun _ h9 => h9) rfl dX5_digit_1 ?_
  refine lv_iload_n hx hb dX5_digit_4 rfl (lv_at hl 1 rfl) ?_
  refine lv_icmp_ge (tgt := 29) hx hb dX5_digit_5 (by decide) (fun c1 => ?_) (fun c1 => ?_)
  · have hf := zz_t c1 hf
    refine lv_bipush (v := (-9 : Int32)) hx hb dX5_digit_29 (by decide) ?_
    exact ret _ _ _ _ ((-9 : Int32), u) hf dX5_digit_31 hP hD hS
  · have hf := zz_f c1 hf
    refine lv_aload_n hx hb dX5_digit_8 rfl (lv_at hl 0 rfl) ?_
    refine va_get (D := g.1) (ci := 5) (v := .ref (q 4)) (C := RX5) (T := TX5) (N := 29) hx hb hts iX5 hown hK hP 0 rfl rfl 4 (by decide) (zz_mem hts 2 rfl) (fun _ h9 => h9) rfl dX5_digit_9 ?_
    refine lv_aload_n hx hb dX5_digit_12 rfl (lv_at hl 0 rfl) ?_
    refine va_get (D := g.1) (ci := 5) (v := .int (u.1 12)) (C := RX5) (T := TX5) (N := 29) hx hb hts iX5 hown hK hP 0 rfl rfl 12 (by decide) (zz_mem hts 1 rfl) (fun _ h9 => h9) rfl dX5_digit_13 ?_
    obtain ⟨x3, h2, ex3, hf⟩ := zz_gx hf
    refine zz_iald hx hb hK hP 3 0 rfl rfl h2 ex3 dX5_digit_16 ?_
    refine lv_bipush (v := (48 : Int32)) hx hb dX5_digit_17 (by decide) ?_
    refine lv_iload_n hx hb dX5_digit_19 rfl (lv_at hl 2 rfl) ?_
    refine lv_iadd hx hb dX5_digit_20 ?_
    refine lv_bipush (v := (57 : Int32)) hx hb dX5_digit_21 (by decide) ?_
    obtain ⟨r4, hc4, hf⟩ := zz_bs hf
    refine zz_cSz C hP hD hS (kX5_within l g (zzY g q u) _ x3 ((48 : Int32) + p1) (57 : Int32) r4 hc4) gX5_digit_X5_within mX5_within (by decide) ⟨Nat.zero_le _, Nat.zero_le _⟩ rfl (rest := []) rfl hl.1 (Nat.le_of_ble_eq_true rfl) dX5_digit_23 (fun hz4 H locs hP hD hS => ?_)
    refine lv_if_ne (tgt := 32) hx hb dX5_digit_26 (by decide) (fun c5 => ?_) (fun c5 => ?_)
    · have hf := zz_f c5 hf
      refine lv_aload_n hx hb dX5_digit_32 rfl (lv_at hl 0 rfl) ?_
      refine lv_dup hx hb dX5_digit_33 rfl ?_
      refine va_get (D := g.1) (ci := 5) (v := .int (u.1 12)) (C := RX5) (T := TX5) (N := 29) hx hb hts iX5 hown hK hP 0 rfl rfl 12 (by decide) (zz_mem hts 1 rfl) (fun _ h9 => h9) rfl dX5_digit_34 ?_
      refine lv_iconst (v := (1 : Int32)) hx hb dX5_digit_37 (by decide) ?_
      refine lv_iadd hx hb dX5_digit_38 ?_
      refine va_put (D := g.1) (ci := 5) (v := .int ((u.1 12) + (1 : Int32))) (ty := .int) (C := RX5) (T := TX5) (N := 29) hx hb hts iX5 tyX5 tyX5_ok nmX5 hown hK hP hD hS 0 rfl rfl 12 (by decide) (zz_mem hts 1 rfl) (fun _ h9 => h9) rfl (tyX5_ok 12 (by decide)) rfl rfl (Nat.le_of_ble_eq_true rfl) dX5_digit_39 (fun H locs hP hD hS => ?_)
      have hP : va_P g.1 vwCl (zzY g q (zzi u 12 ((u.1 12) + (1 : Int32)))) H := Eq.mp (congrArg (fun w => va_P g.1 vwCl w H) (zyo_0_12 g q u ((u.1 12) + (1 : Int32)))) hP
      have hD : va_D A (zzY g q (zzi u 12 ((u.1 12) + (1 : Int32)))) := Eq.mp (congrArg (va_D A) (zyo_0_12 g q u ((u.1 12) + (1 : Int32)))) hD
      refine lv_aload_n hx hb dX5_digit_42 rfl (lv_at hl 0 rfl) ?_
      refine va_get (D := g.1) (ci := 5) (v := .ref (q 4)) (C := RX5) (T := TX5) (N := 29) hx hb hts iX5 hown hK hP 0 rfl rfl 4 (by decide) (zz_mem hts 2 rfl) (fun _ h9 => h9) rfl dX5_digit_43 ?_
      refine lv_aload_n hx hb dX5_digit_46 rfl (lv_at hl 0 rfl) ?_
      refine va_get (D := g.1) (ci := 5) (v := .int ((zzi u 12 ((u.1 12) + (1 : Int32))).1 12)) (C := RX5) (T := TX5) (N := 29) hx hb hts iX5 hown hK hP 0 rfl rfl 12 (by decide) (zz_mem hts 1 rfl) (fun _ h9 => h9) rfl dX5_digit_47 ?_
      refine lv_iconst (v := (1 : Int32)) hx hb dX5_digit_50 (by decide) ?_
      refine lv_isub hx hb dX5_digit_51 ?_
      obtain ⟨x7, h6, ex7, hf⟩ := zz_gx hf
      refine zz_iald hx hb hK hP 3 0 rfl rfl h6 ex7 dX5_digit_52 ?_
      refine lv_bipush (v := (48 : Int32)) hx hb dX5_digit_53 (by decide) ?_
      refine lv_isub hx hb dX5_digit_55 ?_
      exact ret _ _ _ _ ((x7 - (48 : Int32)), (zzi u 12 ((u.1 12) + (1 : Int32)))) hf dX5_digit_56 hP hD hS
    · have hf := zz_t c5 hf
      refine lv_bipush (v := (-9 : Int32)) hx hb dX5_digit_29 (by decide) ?_
      exact ret _ _ _ _ ((-9 : Int32), u) hf dX5_digit_31 hP hD hS
abbrev rX5_isSign : Room := ({ frames := 0, cells := 0, slots := 0, locals := 0 })
theorem mX5_isSign : zzM yX5_isSign wsX5_isSign cX5_isSign 3 (some .boolean) RX5 2 := ⟨⟨_, rfl⟩, by decide +kernel⟩
def fX5_isSign (u : zzS) (p0 : Int32) (p1 : Int32) : Option (Int32 × zzS) := (if p0 ≤ (u.1 12) then (some ((0 : Int32), u)) else (zzga (u.2 4) 240 (u.1 12) (fun x3 => (if x3 = p1 then (some ((1 : Int32), (zzi u 12 ((u.1 12) + (1 : Int32))))) else (some ((0 : Int32), u))))))
set_option maxHeartbeats 4000000 in
set_option maxRecDepth 100000 in
theorem kX5_isSign (l : Launch) (g : zzG) (q : Nat → Nat) (sz : Nat) (u : zzS) (p0 : Int32) (p1 : Int32) (x : Int32 × zzS) (hf : fX5_isSign u p0 p1 = some x) : zzZ l g yX5_isSign wsX5_isSign rX5_isSign [.ref (q 0), .int p0, .int p1] (zzY g q u) (zzY g q x.2) sz x.1 := by
  refine zz_mz (cc := cX5_isSign) (mL := 3) (own := RX5) (fun x : Int32 × zzS => x.1) (fun x : Int32 × zzS => (zzY g q x.2)) x (by decide) rfl rfl (Nat.le_of_ble_eq_true rfl) ?_
  intro p e s m below meth c A Q ls C ret hP hD hS hl
  have hl : lv_has ls 3 [(0, .ref (q 0)), (1, .int p0), (2, .int p1)] := hl
  have hx := C.1.1
  have hb := C.1.2.1
  have hml := C.1.2.2.1
  have hown := C.1.2.2.2.1
  have hts := C.1.2.2.2.2
  have hK := C.2.1
  have iX5 : ∀ w ∈ wsX50, w ∈ wsX5_isSign := fun _ h => List.mem_cons_of_mem _ (List.mem_append_right _ h)
  unfold fX5_isSign at hf
  refine lv_aload_n hx hb dX5_isSign_0 rfl (lv_at hl 0 rfl) ?_
  refine va_get (D := g.1) (ci := 5) (v := .int (u.1 12)) (C := RX5) (T := TX5) (N := 29) hx hb hts iX5 hown hK hP 0 rfl rfl 12 (by decide) (zz_mem hts 1 rfl) (fun _ h9 => h9) rfl dX5_isSign_1 ?_
  refine lv_iload_n hx hb dX5_isSign_4 rfl (lv_at hl 1 rfl) ?_
  refine lv_icmp_ge (tgt := 21) hx hb dX5_isSign_5 (by decide) (fun c1 => ?_) (fun c1 => ?_)
  · have hf := zz_t c1 hf
    refine lv_iconst (v := (0 : Int32)) hx hb dX5_isSign_21 (by decide) ?_
    exact ret _ _ _ _ ((0 : Int32), u) hf dX5_isSign_22 zz_n0 hP hD hS
  · have hf := zz_f c1 hf
    refine lv_aload_n hx hb dX5_isSign_8 rfl (lv_at hl 0 rfl) ?_
    refine va_get (D := g.1) (ci := 5) (v := .ref (q 4)) (C := RX5) (T := TX5) (N := 29) hx hb hts iX5 hown hK hP 0 rfl rfl 4 (by decide) (zz_mem hts 2 rfl) (fun _ h9 => h9) rfl dX5_isSign_9 ?_
    refine lv_aload_n hx hb dX5_isSign_12 rfl (lv_at hl 0 rfl) ?_
    refine va_get (D := g.1) (ci := 5) (v := .int (u.1 12)) (C := RX5) (T := TX5) (N := 29) hx hb hts iX5 hown hK hP 0 rfl rfl 12 (by decide) (zz_mem hts 1 rfl) (fun _ h9 => h9) rfl dX5_isSign_13 ?_
    obtain ⟨x3, h2, ex3, hf⟩ := zz_gx hf
    refine zz_iald hx hb hK hP 3 0 rfl rfl h2 ex3 dX5_isSign_16 ?_
    refine lv_iload_n hx hb dX5_isSign_17 rfl (lv_at hl 2 rfl) ?_
    refine lv_icmp_eq (tgt := 23) hx hb dX5_isSign_18 (by decide) (fun c4 => ?_) (fun c4 => ?_)
    · have hf := zz_t c4 hf
      refine lv_aload_n hx hb dX5_isSign_23 rfl (lv_at hl 0 rfl) ?_
      refine lv_dup hx hb dX5_isSign_24 rfl ?_
      refine va_get (D := g.1) (ci := 5) (v := .int (u.1 12)) (C := RX5) (T := TX5) (N := 29) hx hb hts iX5 hown hK hP 0 rfl rfl 12 (by decide) (zz_mem hts 1 rfl) (fun _ h9 => h9) rfl dX5_isSign_25 ?_
      refine lv_iconst (v := (1 : Int32)) hx hb dX5_isSign_28 (by decide) ?_
      refine lv_iadd hx hb dX5_isSign_29 ?_
      refine va_put (D := g.1) (ci := 5) (v := .int ((u.1 12) + (1 : Int32))) (ty := .int) (C := RX5) (T := TX5) (N := 29) hx hb hts iX5 tyX5 tyX5_ok nmX5 hown hK hP hD hS 0 rfl rfl 12 (by decide) (zz_mem hts 1 rfl) (fun _ h9 => h9) rfl (tyX5_ok 12 (by decide)) rfl rfl (Nat.le_of_ble_eq_true rfl) dX5_isSign_30 (fun H locs hP hD hS => ?_)
      have hP : va_P g.1 vwCl (zzY g q (zzi u 12 ((u.1 12) + (1 : Int32)))) H := Eq.mp (congrArg (fun w => va_P g.1 vwCl w H) (zyo_0_12 g q u ((u.1 12) + (1 : Int32)))) hP
      have hD : va_D A (zzY g q (zzi u 12 ((u.1 12) + (1 : Int32)))) := Eq.mp (congrArg (va_D A) (zyo_0_12 g q u ((u.1 12) + (1 : Int32)))) hD
      refine lv_iconst (v := (1 : Int32)) hx hb dX5_isSign_33 (by decide) ?_
      exact ret _ _ _ _ ((1 : Int32), (zzi u 12 ((u.1 12) + (1 : Int32)))) hf dX5_isSign_34 zz_n1 hP hD hS
    · have hf := zz_f c4 hf
      refine lv_iconst (v := (0 : Int32)) hx hb dX5_isSign_21 (by decide) ?_
      exact ret _ _ _ _ ((0 : Int32), u) hf dX5_isSign_22 zz_n0 hP hD hS
abbrev rX5_readStander : Room := ({ frames := 2, cells := 0, slots := 0, locals := 44 })
theorem mX5_readStander : zzM yX5_readStander wsX5_readStander cX5_readStander 3 (some .boolean) RX5 1 := ⟨⟨_, rfl⟩, by decide +kernel⟩
def sX5_readStander_62 (p0 : Int32) (v6 : Int32 × Int32 × zzS) : Option (Int32 × zzS) := (zzpa 5 v6.2.1 (zzga ((zza v6.2.2 16 v6.2.1.toNatClampNeg v6.1).2 16) 5 ((zza v6.2.2 16 v6.2.1.toNatClampNeg v6.1).1 15) (fun x9 => (if x9 = (-9 : Int32) then (some ((0 : Int32), (zza v6.2.2 16 v6.2.1.toNatClampNeg v6.1))) else ((fX5_digit (zzi (zza v6.2.2 16 v6.2.1.toNatClampNeg v6.1) 12 (((zza v6.2.2 16 v6.2.1.toNatClampNeg v6.1).1 12) + (1 : Int32))) p0 (0 : Int32)).bind (fun r11 => (zzpa 5 ((zzi (zza v6.2.2 16 v6.2.1.toNatClampNeg v6.1) 12 (((zza v6.2.2 16 v6.2.1.toNatClampNeg v6.1).1 12) + (1 : Int32))).1 15) (zzga ((zza r11.2 17 ((zzi (zza v6.2.2 16 v6.2.1.toNatClampNeg v6.1) 12 (((zza v6.2.2 16 v6.2.1.toNatClampNeg v6.1).1 12) + (1 : Int32))).1 15).toNatClampNeg r11.1).2 17) 5 ((zza r11.2 17 ((zzi (zza v6.2.2 16 v6.2.1.toNatClampNeg v6.1) 12 (((zza v6.2.2 16 v6.2.1.toNatClampNeg v6.1).1 12) + (1 : Int32))).1 15).toNatClampNeg r11.1).1 15) (fun x14 => (if x14 = (-9 : Int32) then (some ((0 : Int32), (zza r11.2 17 ((zzi (zza v6.2.2 16 v6.2.1.toNatClampNeg v6.1) 12 (((zza v6.2.2 16 v6.2.1.toNatClampNeg v6.1).1 12) + (1 : Int32))).1 15).toNatClampNeg r11.1))) else ((fX5_digit (zza r11.2 17 ((zzi (zza v6.2.2 16 v6.2.1.toNatClampNeg v6.1) 12 (((zza v6.2.2 16 v6.2.1.toNatClampNeg v6.1).1 12) + (1 : Int32))).1 15).toNatClampNeg r11.1) p0 (0 : Int32)).bind (fun r16 => (zzpa 5 ((zza r11.2 17 ((zzi (zza v6.2.2 16 v6.2.1.toNatClampNeg v6.1) 12 (((zza v6.2.2 16 v6.2.1.toNatClampNeg v6.1).1 12) + (1 : Int32))).1 15).toNatClampNeg r11.1).1 15) (zzga ((zzi (zza r16.2 18 ((zza r11.2 17 ((zzi (zza v6.2.2 16 v6.2.1.toNatClampNeg v6.1) 12 (((zza v6.2.2 16 v6.2.1.toNatClampNeg v6.1).1 12) + (1 : Int32))).1 15).toNatClampNeg r11.1).1 15).toNatClampNeg r16.1) 15 (((zza r16.2 18 ((zza r11.2 17 ((zzi (zza v6.2.2 16 v6.2.1.toNatClampNeg v6.1) 12 (((zza v6.2.2 16 v6.2.1.toNatClampNeg v6.1).1 12) + (1 : Int32))).1 15).toNatClampNeg r11.1).1 15).toNatClampNeg r16.1).1 15) + (1 : Int32))).2 18) 5 (((zzi (zza r16.2 18 ((zza r11.2 17 ((zzi (zza v6.2.2 16 v6.2.1.toNatClampNeg v6.1) 12 (((zza v6.2.2 16 v6.2.1.toNatClampNeg v6.1).1 12) + (1 : Int32))).1 15).toNatClampNeg r11.1).1 15).toNatClampNeg r16.1) 15 (((zza r16.2 18 ((zza r11.2 17 ((zzi (zza v6.2.2 16 v6.2.1.toNatClampNeg v6.1) 12 (((zza v6.2.2 16 v6.2.1.toNatClampNeg v6.1).1 12) + (1 : Int32))).1 15).toNatClampNeg r11.1).1 15).toNatClampNeg r16.1).1 15) + (1 : Int32))).1 15) - (1 : Int32)) (fun x19 => (if x19 = (-9 : Int32) then (some ((0 : Int32), (zzi (zza r16.2 18 ((zza r11.2 17 ((zzi (zza v6.2.2 16 v6.2.1.toNatClampNeg v6.1) 12 (((zza v6.2.2 16 v6.2.1.toNatClampNeg v6.1).1 12) + (1 : Int32))).1 15).toNatClampNeg r11.1).1 15).toNatClampNeg r16.1) 15 (((zza r16.2 18 ((zza r11.2 17 ((zzi (zza v6.2.2 16 v6.2.1.toNatClampNeg v6.1) 12 (((zza v6.2.2 16 v6.2.1.toNatClampNeg v6.1).1 12) + (1 : Int32))).1 15).toNatClampNeg r11.1).1 15).toNatClampNeg r16.1).1 15) + (1 : Int32))))) else (some ((1 : Int32), (zzi (zza r16.2 18 ((zza r11.2 17 ((zzi (zza v6.2.2 16 v6.2.1.toNatClampNeg v6.1) 12 (((zza v6.2.2 16 v6.2.1.toNatClampNeg v6.1).1 12) + (1 : Int32))).1 15).toNatClampNeg r11.1).1 15).toNatClampNeg r16.1) 15 (((zza r16.2 18 ((zza r11.2 17 ((zzi (zza v6.2.2 16 v6.2.1.toNatClampNeg v6.1) 12 (((zza v6.2.2 16 v6.2.1.toNatClampNeg v6.1).1 12) + (1 : Int32))).1 15).toNatClampNeg r11.1).1 15).toNatClampNeg r16.1).1 15) + (1 : Int32)))))))))))))))))))))
set_option maxHeartbeats 4000000 in
set_option maxRecDepth 100000 in
theorem wX5_readStander_62 (l : Launch) (g : zzG) (q : Nat → Nat) (p0 : Int32) (x : Int32 × zzS) {p : Program} {e : Env} {s : State} {m : MethodId} {below : List Frame} {meth : Method} {c : Code} {A : Nat → Prop} {Q : State → Prop} (C : zzC g p s m ([.ref (q 0), .int p0] : List Value).toArray c cX5_readStander 3 RX5 wsX5_readStander A) (ret : zzRZ l g rX5_readStander cX5_readStander [.ref (q 0), .int p0] (fun x : Int32 × zzS => x.1) (fun x : Int32 × zzS => (zzY g q x.2)) x p e s m below meth c A Q)  (v6 : Int32 × Int32 × zzS) (hf : sX5_readStander_62 p0 v6 = some x) (H : Heap) (locs : List Loc) (ls : Array Slot) (hP : va_P g.1 vwCl (zzY g q v6.2.2) H) (hD : va_D A (zzY g q v6.2.2)) (hS : va_S A s.heap H locs) (hl : lv_has ls 3 [(0, .ref (q 0)), (1, .int p0)]) : W p l e rX5_readStander s m ([.ref (q 0), .int p0] : List Value).toArray below meth c H locs 0 0 Q (F0 m 62 ls [.int (v6.1), .int (v6.2.1), .ref (q 16)]) := by
  have hx := C.1.1
  have hb := C.1.2.1
  have hml := C.1.2.2.1
  have hown := C.1.2.2.2.1
  have hts := C.1.2.2.2.2
  have hK := C.2.1
  have iX5 : ∀ w ∈ wsX50, w ∈ wsX5_readStander := fun _ h => List.mem_cons_of_mem _ (List.mem_append_right _ h)
  unfold sX5_readStander_62 at hf
  obtain ⟨h7, hf⟩ := zz_pa hf
  refine va_iast hx hb hK hP hD hS 7 0 rfl rfl h7 dX5_readStander_62 (fun H locs hP hD hS => ?_)
  have hP : va_P g.1 vwCl (zzY g q (zza v6.2.2 16 v6.2.1.toNatClampNeg v6.1)) H := Eq.mp (congrArg (fun w => va_P g.1 vwCl w H) (zya_7 g q v6.2.2 (upd (v6.2.2.2 16) v6.2.1.toNatClampNeg v6.1))) hP
  have hD : va_D A (zzY g q (zza v6.2.2 16 v6.2.1.toNatClampNeg v6.1)) := Eq.mp (congrArg (va_D A) (zya_7 g q v6.2.2 (upd (v6.2.2.2 16) v6.2.1.toNatClampNeg v6.1))) hD
  refine lv_aload_n hx hb dX5_readStander_63 rfl (lv_at hl 0 rfl) ?_
  refine va_get (D := g.1) (ci := 5) (v := .ref (q 16)) (C := RX5) (T := TX5) (N := 29) hx hb hts iX5 hown hK hP 0 rfl rfl 16 (by decide) (zz_mem hts 3 rfl) (fun _ h9 => h9) rfl dX5_readStander_64 ?_
  refine lv_aload_n hx hb dX5_readStander_67 rfl (lv_at hl 0 rfl) ?_
  refine va_get (D := g.1) (ci := 5) (v := .int ((zza v6.2.2 16 v6.2.1.toNatClampNeg v6.1).1 15)) (C := RX5) (T := TX5) (N := 29) hx hb hts iX5 hown hK hP 0 rfl rfl 15 (by decide) (zz_mem hts 4 rfl) (fun _ h9 => h9) rfl dX5_readStander_68 ?_
  obtain ⟨x9, h8, ex9, hf⟩ := zz_gx hf
  refine zz_iald hx hb hK hP 7 0 rfl rfl h8 ex9 dX5_readStander_71 ?_
  refine lv_bipush (v := (-9 : Int32)) hx hb dX5_readStander_72 (by decide) ?_
  refine lv_icmp_ne (tgt := 79) hx hb dX5_readStander_74 (by decide) (fun c10 => ?_) (fun c10 => ?_)
  · have hf := zz_f c10 hf
    refine lv_aload_n hx hb dX5_readStander_79 rfl (lv_at hl 0 rfl) ?_
    refine lv_dup hx hb dX5_readStander_80 rfl ?_
    refine va_get (D := g.1) (ci := 5) (v := .int ((zza v6.2.2 16 v6.2.1.toNatClampNeg v6.1).1 12)) (C := RX5) (T := TX5) (N := 29) hx hb hts iX5 hown hK hP 0 rfl rfl 12 (by decide) (zz_mem hts 1 rfl) (fun _ h9 => h9) rfl dX5_readStander_81 ?_
    refine lv_iconst (v := (1 : Int32)) hx hb dX5_readStander_84 (by decide) ?_
    refine lv_iadd hx hb dX5_readStander_85 ?_
    refine va_put (D := g.1) (ci := 5) (v := .int (((zza v6.2.2 16 v6.2.1.toNatClampNeg v6.1).1 12) + (1 : Int32))) (ty := .int) (C := RX5) (T := TX5) (N := 29) hx hb hts iX5 tyX5 tyX5_ok nmX5 hown hK hP hD hS 0 rfl rfl 12 (by decide) (zz_mem hts 1 rfl) (fun _ h9 => h9) rfl (tyX5_ok 12 (by decide)) rfl rfl (Nat.le_of_ble_eq_true rfl) dX5_readStander_86 (fun H locs hP hD hS => ?_)
    have hP : va_P g.1 vwCl (zzY g q (zzi (zza v6.2.2 16 v6.2.1.toNatClampNeg v6.1) 12 (((zza v6.2.2 16 v6.2.1.toNatClampNeg v6.1).1 12) + (1 : Int32)))) H := Eq.mp (congrArg (fun w => va_P g.1 vwCl w H) (zyo_0_12 g q (zza v6.2.2 16 v6.2.1.toNatClampNeg v6.1) (((zza v6.2.2 16 v6.2.1.toNatClampNeg v6.1).1 12) + (1 : Int32)))) hP
    have hD : va_D A (zzY g q (zzi (zza v6.2.2 16 v6.2.1.toNatClampNeg v6.1) 12 (((zza v6.2.2 16 v6.2.1.toNatClampNeg v6.1).1 12) + (1 : Int32)))) := Eq.mp (congrArg (va_D A) (zyo_0_12 g q (zza v6.2.2 16 v6.2.1.toNatClampNeg v6.1) (((zza v6.2.2 16 v6.2.1.toNatClampNeg v6.1).1 12) + (1 : Int32)))) hD
    refine lv_aload_n hx hb dX5_readStander_89 rfl (lv_at hl 0 rfl) ?_
    refine va_get (D := g.1) (ci := 5) (v := .ref (q 17)) (C := RX5) (T := TX5) (N := 29) hx hb hts iX5 hown hK hP 0 rfl rfl 17 (by decide) (zz_mem hts 5 rfl) (fun _ h9 => h9) rfl dX5_readStander_90 ?_
    refine lv_aload_n hx hb dX5_readStander_93 rfl (lv_at hl 0 rfl) ?_
    refine va_get (D := g.1) (ci := 5) (v := .int ((zzi (zza v6.2.2 16 v6.2.1.toNatClampNeg v6.1) 12 (((zza v6.2.2 16 v6.2.1.toNatClampNeg v6.1).1 12) + (1 : Int32))).1 15)) (C := RX5) (T := TX5) (N := 29) hx hb hts iX5 hown hK hP 0 rfl rfl 15 (by decide) (zz_mem hts 4 rfl) (fun _ h9 => h9) rfl dX5_readStander_94 ?_
    refine lv_aload_n hx hb dX5_readStander_97 rfl (lv_at hl 0 rfl) ?_
    refine lv_iload_n hx hb dX5_readStander_98 rfl (lv_at hl 1 rfl) ?_
    refine lv_iconst (v := (0 : Int32)) hx hb dX5_readStander_99 (by decide) ?_
    obtain ⟨r11, hc11, hf⟩ := zz_bs hf
    refine zz_cVi C hP hD hS (kX5_digit l g q _ (zzi (zza v6.2.2 16 v6.2.1.toNatClampNeg v6.1) 12 (((zza v6.2.2 16 v6.2.1.toNatClampNeg v6.1).1 12) + (1 : Int32))) p0 (0 : Int32) r11 hc11) gX5_readStander_X5_digit mX5_digit (by decide) ⟨Nat.zero_le _, Nat.zero_le _⟩ 0 rfl rfl rfl rfl (rest := [.int ((zzi (zza v6.2.2 16 v6.2.1.toNatClampNeg v6.1) 12 (((zza v6.2.2 16 v6.2.1.toNatClampNeg v6.1).1 12) + (1 : Int32))).1 15), .ref (q 17)]) rfl hl.1 (Nat.le_of_ble_eq_true rfl) dX5_readStander_100 (fun H locs hP hD hS => ?_)
    obtain ⟨h12, hf⟩ := zz_pa hf
    refine va_iast hx hb hK hP hD hS 8 0 rfl rfl h12 dX5_readStander_103 (fun H locs hP hD hS => ?_)
    have hP : va_P g.1 vwCl (zzY g q (zza r11.2 17 ((zzi (zza v6.2.2 16 v6.2.1.toNatClampNeg v6.1) 12 (((zza v6.2.2 16 v6.2.1.toNatClampNeg v6.1).1 12) + (1 : Int32))).1 15).toNatClampNeg r11.1)) H := Eq.mp (congrArg (fun w => va_P g.1 vwCl w H) (zya_8 g q r11.2 (upd (r11.2.2 17) ((zzi (zza v6.2.2 16 v6.2.1.toNatClampNeg v6.1) 12 (((zza v6.2.2 16 v6.2.1.toNatClampNeg v6.1).1 12) + (1 : Int32))).1 15).toNatClampNeg r11.1))) hP
    have hD : va_D A (zzY g q (zza r11.2 17 ((zzi (zza v6.2.2 16 v6.2.1.toNatClampNeg v6.1) 12 (((zza v6.2.2 16 v6.2.1.toNatClampNeg v6.1).1 12) + (1 : Int32))).1 15).toNatClampNeg r11.1)) := Eq.mp (congrArg (va_D A) (zya_8 g q r11.2 (upd (r11.2.2 17) ((zzi (zza v6.2.2 16 v6.2.1.toNatClampNeg v6.1) 12 (((zza v6.2.2 16 v6.2.1.toNatClampNeg v6.1).1 12) + (1 : Int32))).1 15).toNatClampNeg r11.1))) hD
    refine lv_aload_n hx hb dX5_readStander_104 rfl (lv_at hl 0 rfl) ?_
    refine va_get (D := g.1) (ci := 5) (v := .ref (q 17)) (C := RX5) (T := TX5) (N := 29) hx hb hts iX5 hown hK hP 0 rfl rfl 17 (by decide) (zz_mem hts 5 rfl) (fun _ h9 => h9) rfl dX5_readStander_105 ?_
    refine lv_aload_n hx hb dX5_readStander_108 rfl (lv_at hl 0 rfl) ?_
    refine va_get (D := g.1) (ci := 5) (v := .int ((zza r11.2 17 ((zzi (zza v6.2.2 16 v6.2.1.toNatClampNeg v6.1) 12 (((zza v6.2.2 16 v6.2.1.toNatClampNeg v6.1).1 12) + (1 : Int32))).1 15).toNatClampNeg r11.1).1 15)) (C := RX5) (T := TX5) (N := 29) hx hb hts iX5 hown hK hP 0 rfl rfl 15 (by decide) (zz_mem hts 4 rfl) (fun _ h9 => h9) rfl dX5_readStander_109 ?_
    obtain ⟨x14, h13, ex14, hf⟩ := zz_gx hf
    refine zz_iald hx hb hK hP 8 0 rfl rfl h13 ex14 dX5_readStander_112 ?_
    refine lv_bipush (v := (-9 : Int32)) hx hb dX5_readStander_113 (by decide) ?_
    refine lv_icmp_ne (tgt := 120) hx hb dX5_readStander_115 (by decide) (fun c15 => ?_) (fun c15 => ?_)
    · have hf := zz_f c15 hf
      refine lv_aload_n hx hb dX5_readStander_120 rfl (lv_at hl 0 rfl) ?_
      refine va_get (D := g.1) (ci := 5) (v := .ref (q 18)) (C := RX5) (T := TX5) (N := 29) hx hb hts iX5 hown hK hP 0 rfl rfl 18 (by decide) (zz_mem hts 6 rfl) (fun _ h9 => h9) rfl dX5_readStander_121 ?_
      refine lv_aload_n hx hb dX5_readStander_124 rfl (lv_at hl 0 rfl) ?_
      refine va_get (D := g.1) (ci := 5) (v := .int ((zza r11.2 17 ((zzi (zza v6.2.2 16 v6.2.1.toNatClampNeg v6.1) 12 (((zza v6.2.2 16 v6.2.1.toNatClampNeg v6.1).1 12) + (1 : Int32))).1 15).toNatClampNeg r11.1).1 15)) (C := RX5) (T := TX5) (N := 29) hx hb hts iX5 hown hK hP 0 rfl rfl 15 (by decide) (zz_mem hts 4 rfl) (fun _ h9 => h9) rfl dX5_readStander_125 ?_
      refine lv_aload_n hx hb dX5_readStander_128 rfl (lv_at hl 0 rfl) ?_
      refine lv_iload_n hx hb dX5_readStander_129 rfl (lv_at hl 1 rfl) ?_
      refine lv_iconst (v := (0 : Int32)) hx hb dX5_readStander_130 (by decide) ?_
      obtain ⟨r16, hc16, hf⟩ := zz_bs hf
      refine zz_cVi C hP hD hS (kX5_digit l g q _ (zza r11.2 17 ((zzi (zza v6.2.2 16 v6.2.1.toNatClampNeg v6.1) 12 (((zza v6.2.2 16 v6.2.1.toNatClampNeg v6.1).1 12) + (1 : Int32))).1 15).toNatClampNeg r11.1) p0 (0 : Int32) r16 hc16) gX5_readStander_X5_digit mX5_digit (by decide) ⟨Nat.zero_le _, Nat.zero_le _⟩ 0 rfl rfl rfl rfl (rest := [.int ((zza r11.2 17 ((zzi (zza v6.2.2 16 v6.2.1.toNatClampNeg v6.1) 12 (((zza v6.2.2 16 v6.2.1.toNatClampNeg v6.1).1 12) + (1 : Int32))).1 15).toNatClampNeg r11.1).1 15), .ref (q 18)]) rfl hl.1 (Nat.le_of_ble_eq_true rfl) dX5_readStander_131 (fun H locs hP hD hS => ?_)
      obtain ⟨h17, hf⟩ := zz_pa hf
      refine va_iast hx hb hK hP hD hS 9 0 rfl rfl h17 dX5_readStander_134 (fun H locs hP hD hS => ?_)
      have hP : va_P g.1 vwCl (zzY g q (zza r16.2 18 ((zza r11.2 17 ((zzi (zza v6.2.2 16 v6.2.1.toNatClampNeg v6.1) 12 (((zza v6.2.2 16 v6.2.1.toNatClampNeg v6.1).1 12) + (1 : Int32))).1 15).toNatClampNeg r11.1).1 15).toNatClampNeg r16.1)) H := Eq.mp (congrArg (fun w => va_P g.1 vwCl w H) (zya_9 g q r16.2 (upd (r16.2.2 18) ((zza r11.2 17 ((zzi (zza v6.2.2 16 v6.2.1.toNatClampNeg v6.1) 12 (((zza v6.2.2 16 v6.2.1.toNatClampNeg v6.1).1 12) + (1 : Int32))).1 15).toNatClampNeg r11.1).1 15).toNatClampNeg r16.1))) hP
      have hD : va_D A (zzY g q (zza r16.2 18 ((zza r11.2 17 ((zzi (zza v6.2.2 16 v6.2.1.toNatClampNeg v6.1) 12 (((zza v6.2.2 16 v6.2.1.toNatClampNeg v6.1).1 12) + (1 : Int32))).1 15).toNatClampNeg r11.1).1 15).toNatClampNeg r16.1)) := Eq.mp (congrArg (va_D A) (zya_9 g q r16.2 (upd (r16.2.2 18) ((zza r11.2 17 ((zzi (zza v6.2.2 16 v6.2.1.toNatClampNeg v6.1) 12 (((zza v6.2.2 16 v6.2.1.toNatClampNeg v6.1).1 12) + (1 : Int32))).1 15).toNatClampNeg r11.1).1 15).toNatClampNeg r16.1))) hD
      refine lv_aload_n hx hb dX5_readStander_135 rfl (lv_at hl 0 rfl) ?_
      refine lv_dup hx hb dX5_readStander_136 rfl ?_
      refine va_get (D := g.1) (ci := 5) (v := .int ((zza r16.2 18 ((zza r11.2 17 ((zzi (zza v6.2.2 16 v6.2.1.toNatClampNeg v6.1) 12 (((zza v6.2.2 16 v6.2.1.toNatClampNeg v6.1).1 12) + (1 : Int32))).1 15).toNatClampNeg r11.1).1 15).toNatClampNeg r16.1).1 15)) (C := RX5) (T := TX5) (N := 29) hx hb hts iX5 hown hK hP 0 rfl rfl 15 (by decide) (zz_mem hts 4 rfl) (fun _ h9 => h9) rfl dX5_readStander_137 ?_
      refine lv_iconst (v := (1 : Int32)) hx hb dX5_readStander_140 (by decide) ?_
      refine lv_iadd hx hb dX5_readStander_141 ?_
      refine va_put (D := g.1) (ci := 5) (v := .int (((zza r16.2 18 ((zza r11.2 17 ((zzi (zza v6.2.2 16 v6.2.1.toNatClampNeg v6.1) 12 (((zza v6.2.2 16 v6.2.1.toNatClampNeg v6.1).1 12) + (1 : Int32))).1 15).toNatClampNeg r11.1).1 15).toNatClampNeg r16.1).1 15) + (1 : Int32))) (ty := .int) (C := RX5) (T := TX5) (N := 29) hx hb hts iX5 tyX5 tyX5_ok nmX5 hown hK hP hD hS 0 rfl rfl 15 (by decide) (zz_mem hts 4 rfl) (fun _ h9 => h9) rfl (tyX5_ok 15 (by decide)) rfl rfl (Nat.le_of_ble_eq_true rfl) dX5_readStander_142 (fun H locs hP hD hS => ?_)
      have hP : va_P g.1 vwCl (zzY g q (zzi (zza r16.2 18 ((zza r11.2 17 ((zzi (zza v6.2.2 16 v6.2.1.toNatClampNeg v6.1) 12 (((zza v6.2.2 16 v6.2.1.toNatClampNeg v6.1).1 12) + (1 : Int32))).1 15).toNatClampNeg r11.1).1 15).toNatClampNeg r16.1) 15 (((zza r16.2 18 ((zza r11.2 17 ((zzi (zza v6.2.2 16 v6.2.1.toNatClampNeg v6.1) 12 (((zza v6.2.2 16 v6.2.1.toNatClampNeg v6.1).1 12) + (1 : Int32))).1 15).toNatClampNeg r11.1).1 15).toNatClampNeg r16.1).1 15) + (1 : Int32)))) H := Eq.mp (congrArg (fun w => va_P g.1 vwCl w H) (zyo_0_15 g q (zza r16.2 18 ((zza r11.2 17 ((zzi (zza v6.2.2 16 v6.2.1.toNatClampNeg v6.1) 12 (((zza v6.2.2 16 v6.2.1.toNatClampNeg v6.1).1 12) + (1 : Int32))).1 15).toNatClampNeg r11.1).1 15).toNatClampNeg r16.1) (((zza r16.2 18 ((zza r11.2 17 ((zzi (zza v6.2.2 16 v6.2.1.toNatClampNeg v6.1) 12 (((zza v6.2.2 16 v6.2.1.toNatClampNeg v6.1).1 12) + (1 : Int32))).1 15).toNatClampNeg r11.1).1 15).toNatClampNeg r16.1).1 15) + (1 : Int32)))) hP
      have hD : va_D A (zzY g q (zzi (zza r16.2 18 ((zza r11.2 17 ((zzi (zza v6.2.2 16 v6.2.1.toNatClampNeg v6.1) 12 (((zza v6.2.2 16 v6.2.1.toNatClampNeg v6.1).1 12) + (1 : Int32))).1 15).toNatClampNeg r11.1).1 15).toNatClampNeg r16.1) 15 (((zza r16.2 18 ((zza r11.2 17 ((zzi (zza v6.2.2 16 v6.2.1.toNatClampNeg v6.1) 12 (((zza v6.2.2 16 v6.2.1.toNatClampNeg v6.1).1 12) + (1 : Int32))).1 15).toNatClampNeg r11.1).1 15).toNatClampNeg r16.1).1 15) + (1 : Int32)))) := Eq.mp (congrArg (va_D A) (zyo_0_15 g q (zza r16.2 18 ((zza r11.2 17 ((zzi (zza v6.2.2 16 v6.2.1.toNatClampNeg v6.1) 12 (((zza v6.2.2 16 v6.2.1.toNatClampNeg v6.1).1 12) + (1 : Int32))).1 15).toNatClampNeg r11.1).1 15).toNatClampNeg r16.1) (((zza r16.2 18 ((zza r11.2 17 ((zzi (zza v6.2.2 16 v6.2.1.toNatClampNeg v6.1) 12 (((zza v6.2.2 16 v6.2.1.toNatClampNeg v6.1).1 12) + (1 : Int32))).1 15).toNatClampNeg r11.1).1 15).toNatClampNeg r16.1).1 15) + (1 : Int32)))) hD
      refine lv_aload_n hx hb dX5_readStander_145 rfl (lv_at hl 0 rfl) ?_
      refine va_get (D := g.1) (ci := 5) (v := .ref (q 18)) (C := RX5) (T := TX5) (N := 29) hx hb hts iX5 hown hK hP 0 rfl rfl 18 (by decide) (zz_mem hts 6 rfl) (fun _ h9 => h9) rfl dX5_readStander_146 ?_
      refine lv_aload_n hx hb dX5_readStander_149 rfl (lv_at hl 0 rfl) ?_
      refine va_get (D := g.1) (ci := 5) (v := .int ((zzi (zza r16.2 18 ((zza r11.2 17 ((zzi (zza v6.2.2 16 v6.2.1.toNatClampNeg v6.1) 12 (((zza v6.2.2 16 v6.2.1.toNatClampNeg v6.1).1 12) + (1 : Int32))).1 15).toNatClampNeg r11.1).1 15).toNatClampNeg r16.1) 15 (((zza r16.2 18 ((zza r11.2 17 ((zzi (zza v6.2.2 16 v6.2.1.toNatClampNeg v6.1) 12 (((zza v6.2.2 16 v6.2.1.toNatClampNeg v6.1).1 12) + (1 : Int32))).1 15).toNatClampNeg r11.1).1 15).toNatClampNeg r16.1).1 15) + (1 : Int32))).1 15)) (C := RX5) (T := TX5) (N := 29) hx hb hts iX5 hown hK hP 0 rfl rfl 15 (by decide) (zz_mem hts 4 rfl) (fun _ h9 => h9) rfl dX5_readStander_150 ?_
      refine lv_iconst (v := (1 : Int32)) hx hb dX5_readStander_153 (by decide) ?_
      refine lv_isub hx hb dX5_readStander_154 ?_
      obtain ⟨x19, h18, ex19, hf⟩ := zz_gx hf
      refine zz_iald hx hb hK hP 9 0 rfl rfl h18 ex19 dX5_readStander_155 ?_
      refine lv_bipush (v := (-9 : Int32)) hx hb dX5_readStander_156 (by decide) ?_
      refine lv_icmp_eq (tgt := 165) hx hb dX5_readStander_158 (by decide) (fun c20 => ?_) (fun c20 => ?_)
      · have hf := zz_t c20 hf
        refine lv_iconst (v := (0 : Int32)) hx hb dX5_readStander_165 (by decide) ?_
        exact ret _ _ _ _ ((0 : Int32), (zzi (zza r16.2 18 ((zza r11.2 17 ((zzi (zza v6.2.2 16 v6.2.1.toNatClampNeg v6.1) 12 (((zza v6.2.2 16 v6.2.1.toNatClampNeg v6.1).1 12) + (1 : Int32))).1 15).toNatClampNeg r11.1).1 15).toNatClampNeg r16.1) 15 (((zza r16.2 18 ((zza r11.2 17 ((zzi (zza v6.2.2 16 v6.2.1.toNatClampNeg v6.1) 12 (((zza v6.2.2 16 v6.2.1.toNatClampNeg v6.1).1 12) + (1 : Int32))).1 15).toNatClampNeg r11.1).1 15).toNatClampNeg r16.1).1 15) + (1 : Int32)))) hf dX5_readStander_166 zz_n0 hP hD hS
      · have hf := zz_f c20 hf
        refine lv_iconst (v := (1 : Int32)) hx hb dX5_readStander_161 (by decide) ?_
        refine lv_goto (tgt := 166) hx hb dX5_readStander_162 (by decide) ?_
        exact ret _ _ _ _ ((1 : Int32), (zzi (zza r16.2 18 ((zza r11.2 17 ((zzi (zza v6.2.2 16 v6.2.1.toNatClampNeg v6.1) 12 (((zza v6.2.2 16 v6.2.1.toNatClampNeg v6.1).1 12) + (1 : Int32))).1 15).toNatClampNeg r11.1).1 15).toNatClampNeg r16.1) 15 (((zza r16.2 18 ((zza r11.2 17 ((zzi (zza v6.2.2 16 v6.2.1.toNatClampNeg v6.1) 12 (((zza v6.2.2 16 v6.2.1.toNatClampNeg v6.1).1 12) + (1 : Int32))).1 15).toNatClampNeg r11.1).1 15).toNatClampNeg r16.1).1 15) + (1 : Int32)))) hf dX5_readStander_166 zz_n1 hP hD hS
    · have hf := zz_t c15 hf
      refine lv_iconst (v := (0 : Int32)) hx hb dX5_readStander_118 (by decide) ?_
      exact ret _ _ _ _ ((0 : Int32), (zza r11.2 17 ((zzi (zza v6.2.2 16 v6.2.1.toNatClampNeg v6.1) 12 (((zza v6.2.2 16 v6.2.1.toNatClampNeg v6.1).1 12) + (1 : Int32))).1 15).toNatClampNeg r11.1)) hf dX5_readStander_119 zz_n0 hP hD hS
  · have hf := zz_t c10 hf
    refine lv_iconst (v := (0 : Int32)) hx hb dX5_readStander_77 (by decide) ?_
    exact ret _ _ _ _ ((0 : Int32), (zza v6.2.2 16 v6.2.1.toNatClampNeg v6.1)) hf dX5_readStander_78 zz_n0 hP hD hS
def sX5_readStander_21 (p0 : Int32) (v2 : Int32 × zzS) : Option (Int32 × zzS) := (if v2.1 = (115 : Int32) then (sX5_readStander_62 p0 ((0 : Int32), (v2.2.1 15), v2.2)) else (if v2.1 = (114 : Int32) then (sX5_readStander_62 p0 ((1 : Int32), (v2.2.1 15), v2.2)) else (if v2.1 = (112 : Int32) then (sX5_readStander_62 p0 ((2 : Int32), (v2.2.1 15), v2.2)) else (sX5_readStander_62 p0 ((-9 : Int32), (v2.2.1 15), v2.2)))))
set_option maxHeartbeats 4000000 in
set_option maxRecDepth 100000 in
theorem wX5_readStander_21 (l : Launch) (g : zzG) (q : Nat → Nat) (p0 : Int32) (x : Int32 × zzS) {p : Program} {e : Env} {s : State} {m : MethodId} {below : List Frame} {meth : Method} {c : Code} {A : Nat → Prop} {Q : State → Prop} (C : zzC g p s m ([.ref (q 0), .int p0] : List Value).toArray c cX5_readStander 3 RX5 wsX5_readStander A) (ret : zzRZ l g rX5_readStander cX5_readStander [.ref (q 0), .int p0] (fun x : Int32 × zzS => x.1) (fun x : Int32 × zzS => (zzY g q x.2)) x p e s m below meth c A Q)  (v2 : Int32 × zzS) (hf : sX5_readStander_21 p0 v2 = some x) (H : Heap) (locs : List Loc) (ls : Array Slot) (hP : va_P g.1 vwCl (zzY g q v2.2) H) (hD : va_D A (zzY g q v2.2)) (hS : va_S A s.heap H locs) (hl : lv_has ls 3 [(0, .ref (q 0)), (1, .int p0)]) : W p l e rX5_readStander s m ([.ref (q 0), .int p0] : List Value).toArray below meth c H locs 0 0 Q (F0 m 21 ls [.int (v2.1)]) := by
  have hx := C.1.1
  have hb := C.1.2.1
  have hml := C.1.2.2.1
  have hown := C.1.2.2.2.1
  have hts := C.1.2.2.2.2
  have hK := C.2.1
  have iX5 : ∀ w ∈ wsX50, w ∈ wsX5_readStander := fun _ h => List.mem_cons_of_mem _ (List.mem_append_right _ h)
  unfold sX5_readStander_21 at hf
  refine lv_istore_n (lv' := [(2, .int (v2.1)), (0, .ref (q 0)), (1, .int p0)]) hx hb dX5_readStander_21 rfl hl (by decide) rfl (fun ls hl => ?_)
  refine lv_aload_n hx hb dX5_readStander_22 rfl (lv_at hl 1 rfl) ?_
  refine va_get (D := g.1) (ci := 5) (v := .ref (q 16)) (C := RX5) (T := TX5) (N := 29) hx hb hts iX5 hown hK hP 0 rfl rfl 16 (by decide) (zz_mem hts 3 rfl) (fun _ h9 => h9) rfl dX5_readStander_23 ?_
  refine lv_aload_n hx hb dX5_readStander_26 rfl (lv_at hl 1 rfl) ?_
  refine va_get (D := g.1) (ci := 5) (v := .int (v2.2.1 15)) (C := RX5) (T := TX5) (N := 29) hx hb hts iX5 hown hK hP 0 rfl rfl 15 (by decide) (zz_mem hts 4 rfl) (fun _ h9 => h9) rfl dX5_readStander_27 ?_
  refine lv_iload_n hx hb dX5_readStander_30 rfl (lv_at hl 0 rfl) ?_
  refine lv_bipush (v := (115 : Int32)) hx hb dX5_readStander_31 (by decide) ?_
  refine lv_icmp_ne (tgt := 40) hx hb dX5_readStander_33 (by decide) (fun c3 => ?_) (fun c3 => ?_)
  · have hf := zz_f c3 hf
    refine lv_iload_n hx hb dX5_readStander_40 rfl (lv_at hl 0 rfl) ?_
    refine lv_bipush (v := (114 : Int32)) hx hb dX5_readStander_41 (by decide) ?_
    refine lv_icmp_ne (tgt := 50) hx hb dX5_readStander_43 (by decide) (fun c4 => ?_) (fun c4 => ?_)
    · have hf := zz_f c4 hf
      refine lv_iload_n hx hb dX5_readStander_50 rfl (lv_at hl 0 rfl) ?_
      refine lv_bipush (v := (112 : Int32)) hx hb dX5_readStander_51 (by decide) ?_
      refine lv_icmp_ne (tgt := 60) hx hb dX5_readStander_53 (by decide) (fun c5 => ?_) (fun c5 => ?_)
      · have hf := zz_f c5 hf
        refine lv_bipush (v := (-9 : Int32)) hx hb dX5_readStander_60 (by decide) ?_
        exact wX5_readStander_62 l g q p0 x C ret  ((-9 : Int32), (v2.2.1 15), v2.2) hf _ _ _ hP hD hS (lv_sub hl [1, 2] rfl)
      · have hf := zz_t c5 hf
        refine lv_iconst (v := (2 : Int32)) hx hb dX5_readStander_56 (by decide) ?_
        refine lv_goto (tgt := 62) hx hb dX5_readStander_57 (by decide) ?_
        exact wX5_readStander_62 l g q p0 x C ret  ((2 : Int32), (v2.2.1 15), v2.2) hf _ _ _ hP hD hS (lv_sub hl [1, 2] rfl)
    · have hf := zz_t c4 hf
      refine lv_iconst (v := (1 : Int32)) hx hb dX5_readStander_46 (by decide) ?_
      refine lv_goto (tgt := 62) hx hb dX5_readStander_47 (by decide) ?_
      exact wX5_readStander_62 l g q p0 x C ret  ((1 : Int32), (v2.2.1 15), v2.2) hf _ _ _ hP hD hS (lv_sub hl [1, 2] rfl)
  · have hf := zz_t c3 hf
    refine lv_iconst (v := (0 : Int32)) hx hb dX5_readStander_36 (by decide) ?_
    refine lv_goto (tgt := 62) hx hb dX5_readStander_37 (by decide) ?_
    exact wX5_readStander_62 l g q p0 x C ret  ((0 : Int32), (v2.2.1 15), v2.2) hf _ _ _ hP hD hS (lv_sub hl [1, 2] rfl)
def fX5_readStander (u : zzS) (p0 : Int32) : Option (Int32 × zzS) := (if p0 ≤ (u.1 12) then (sX5_readStander_21 p0 ((0 : Int32), u)) else (zzga (u.2 4) 240 (u.1 12) (fun x22 => (sX5_readStander_21 p0 (x22, u)))))
set_option maxHeartbeats 4000000 in
set_option maxRecDepth 100000 in
theorem kX5_readStander (l : Launch) (g : zzG) (q : Nat → Nat) (sz : Nat) (u : zzS) (p0 : Int32) (x : Int32 × zzS) (hf : fX5_readStander u p0 = some x) : zzZ l g yX5_readStander wsX5_readStander rX5_readStander [.ref (q 0), .int p0] (zzY g q u) (zzY g q x.2) sz x.1 := by
  refine zz_mz (cc := cX5_readStander) (mL := 3) (own := RX5) (fun x : Int32 × zzS => x.1) (fun x : Int32 × zzS => (zzY g q x.2)) x (by decide) rfl rfl (Nat.le_of_ble_eq_true rfl) ?_
  intro p e s m below meth c A Q ls C ret hP hD hS hl
  have hl : lv_has ls 3 [(0, .ref (q 0)), (1, .int p0)] := hl
  have hx := C.1.1
  have hb := C.1.2.1
  have hml := C.1.2.2.1
  have hown := C.1.2.2.2.1
  have hts := C.1.2.2.2.2
  have hK := C.2.1
  have iX5 : ∀ w ∈ wsX50, w ∈ wsX5_readStander := fun _ h => List.mem_cons_of_mem _ (List.mem_append_right _ h)
  unfold fX5_readStander at hf
  refine lv_aload_n hx hb dX5_readStander_0 rfl (lv_at hl 0 rfl) ?_
  refine va_get (D := g.1) (ci := 5) (v := .int (u.1 12)) (C := RX5) (T := TX5) (N := 29) hx hb hts iX5 hown hK hP 0 rfl rfl 12 (by decide) (zz_mem hts 1 rfl) (fun _ h9 => h9) rfl dX5_readStander_1 ?_
  refine lv_iload_n hx hb dX5_readStander_4 rfl (lv_at hl 1 rfl) ?_
  refine lv_icmp_ge (tgt := 20) hx hb dX5_readStander_5 (by decide) (fun c1 => ?_) (fun c1 => ?_)
  · have hf := zz_t c1 hf
    refine lv_iconst (v := (0 : Int32)) hx hb dX5_readStander_20 (by decide) ?_
    exact wX5_readStander_21 l g q p0 x C ret  ((0 : Int32), u) hf _ _ _ hP hD hS (lv_sub hl [0, 1] rfl)
  · have hf := zz_f c1 hf
    refine lv_aload_n hx hb dX5_readStander_8 rfl (lv_at hl 0 rfl) ?_
    refine va_get (D := g.1) (ci := 5) (v := .ref (q 4)) (C := RX5) (T := TX5) (N := 29) hx hb hts iX5 hown hK hP 0 rfl rfl 4 (by decide) (zz_mem hts 2 rfl) (fun _ h9 => h9) rfl dX5_readStander_9 ?_
    refine lv_aload_n hx hb dX5_readStander_12 rfl (lv_at hl 0 rfl) ?_
    refine va_get (D := g.1) (ci := 5) (v := .int (u.1 12)) (C := RX5) (T := TX5) (N := 29) hx hb hts iX5 hown hK hP 0 rfl rfl 12 (by decide) (zz_mem hts 1 rfl) (fun _ h9 => h9) rfl dX5_readStander_13 ?_
    obtain ⟨x22, h21, ex22, hf⟩ := zz_gx hf
    refine zz_iald hx hb hK hP 3 0 rfl rfl h21 ex22 dX5_readStander_16 ?_
    refine lv_goto (tgt := 21) hx hb dX5_readStander_17 (by decide) ?_
    exact wX5_readStander_21 l g q p0 x C ret  (x22, u) hf _ _ _ hP hD hS (lv_sub hl [0, 1] rfl)
abbrev rX5_readField : Room := ({ frames := 3, cells := 0, slots := 0, locals := 66 })
theorem mX5_readField : zzM yX5_readField wsX5_readField cX5_readField 2 (some .boolean) RX5 1 := ⟨⟨_, rfl⟩, by decide +kernel⟩
def sX5_readField_59 (p0 : Int32) : (zzS) → ((zzS) → Option (Int32 × zzS)) → Option (Int32 × zzS) := fun v7 rec8 => (if (v7.1 15) = 0 then ((fX5_isSign v7 p0 (59 : Int32)).bind (fun r11 => (if r11.1 = 0 then (some ((0 : Int32), r11.2)) else ((fX5_readStander r11.2 p0).bind (fun r13 => (if r13.1 = 0 then (some ((0 : Int32), r13.2)) else (rec8 (r13.2)))))))) else (if (5 : Int32) ≤ (v7.1 15) then (if (v7.1 12) = p0 then (some ((1 : Int32), v7)) else (some ((0 : Int32), v7))) else (if p0 ≤ (v7.1 12) then (if (v7.1 12) = p0 then (some ((1 : Int32), v7)) else (some ((0 : Int32), v7))) else ((fX5_isSign v7 p0 (59 : Int32)).bind (fun r19 => (if r19.1 = 0 then (some ((0 : Int32), r19.2)) else ((fX5_readStander r19.2 p0).bind (fun r21 => (if r21.1 = 0 then (some ((0 : Int32), r21.2)) else (rec8 (r21.2)))))))))))
set_option maxHeartbeats 4000000 in
set_option maxRecDepth 100000 in
theorem wX5_readField_59 (l : Launch) (g : zzG) (q : Nat → Nat) (p0 : Int32) (x : Int32 × zzS) {p : Program} {e : Env} {s : State} {m : MethodId} {below : List Frame} {meth : Method} {c : Code} {A : Nat → Prop} {Q : State → Prop} (C : zzC g p s m ([.ref (q 0), .int p0] : List Value).toArray c cX5_readField 2 RX5 wsX5_readField A) (ret : zzRZ l g rX5_readField cX5_readField [.ref (q 0), .int p0] (fun x : Int32 × zzS => x.1) (fun x : Int32 × zzS => (zzY g q x.2)) x p e s m below meth c A Q)  (n : Nat) (v7 : zzS) (hf : zzlp (sX5_readField_59 p0) n v7 = some x) : ∀ (H : Heap) (locs : List Loc) (ls : Array Slot), va_P g.1 vwCl (zzY g q v7) H → va_D A (zzY g q v7) → va_S A s.heap H locs → lv_has ls 2 [(0, .ref (q 0)), (1, .int p0)] → W p l e rX5_readField s m ([.ref (q 0), .int p0] : List Value).toArray below meth c H locs 0 0 Q (F0 m 59 ls []) := by
  have hx := C.1.1
  have hb := C.1.2.1
  have hml := C.1.2.2.1
  have hown := C.1.2.2.2.1
  have hts := C.1.2.2.2.2
  have hK := C.2.1
  have iX5 : ∀ w ∈ wsX50, w ∈ wsX5_readField := fun _ h => List.mem_cons_of_mem _ (List.mem_append_right _ h)
  refine zz_lp (P := fun (v7 : zzS) => ∀ (H : Heap) (locs : List Loc) (ls : Array Slot), va_P g.1 vwCl (zzY g q v7) H → va_D A (zzY g q v7) → va_S A s.heap H locs → lv_has ls 2 [(0, .ref (q 0)), (1, .int p0)] → W p l e rX5_readField s m ([.ref (q 0), .int p0] : List Value).toArray below meth c H locs 0 0 Q (F0 m 59 ls [])) (fun v7 rec8 ih9 hf H locs ls hP hD hS hl => ?_) n v7 hf
  unfold sX5_readField_59 at hf
  refine lv_aload_n hx hb dX5_readField_59 rfl (lv_at hl 0 rfl) ?_
  refine va_get (D := g.1) (ci := 5) (v := .int (v7.1 15)) (C := RX5) (T := TX5) (N := 29) hx hb hts iX5 hown hK hP 0 rfl rfl 15 (by decide) (zz_mem hts 1 rfl) (fun _ h9 => h9) rfl dX5_readField_60 ?_
  refine lv_if_eq (tgt := 82) hx hb dX5_readField_63 (by decide) (fun c10 => ?_) (fun c10 => ?_)
  · have hf := zz_t c10 hf
    refine lv_aload_n hx hb dX5_readField_82 rfl (lv_at hl 0 rfl) ?_
    refine lv_iload_n hx hb dX5_readField_83 rfl (lv_at hl 1 rfl) ?_
    refine lv_bipush (v := (59 : Int32)) hx hb dX5_readField_84 (by decide) ?_
    obtain ⟨r11, hc11, hf⟩ := zz_bs hf
    refine zz_cVz C hP hD hS (kX5_isSign l g q _ v7 p0 (59 : Int32) r11 hc11) gX5_readField_X5_isSign mX5_isSign (by decide) ⟨Nat.zero_le _, Nat.zero_le _⟩ 0 rfl rfl rfl rfl (rest := []) rfl hl.1 (Nat.le_of_ble_eq_true rfl) dX5_readField_86 (fun hz11 H locs hP hD hS => ?_)
    refine lv_if_eq (tgt := 100) hx hb dX5_readField_89 (by decide) (fun c12 => ?_) (fun c12 => ?_)
    · have hf := zz_t c12 hf
      refine lv_iconst (v := (0 : Int32)) hx hb dX5_readField_100 (by decide) ?_
      exact ret _ _ _ _ ((0 : Int32), r11.2) hf dX5_readField_101 zz_n0 hP hD hS
    · have hf := zz_f c12 hf
      refine lv_aload_n hx hb dX5_readField_92 rfl (lv_at hl 0 rfl) ?_
      refine lv_iload_n hx hb dX5_readField_93 rfl (lv_at hl 1 rfl) ?_
      obtain ⟨r13, hc13, hf⟩ := zz_bs hf
      refine zz_cVz C hP hD hS (kX5_readStander l g q _ r11.2 p0 r13 hc13) gX5_readField_X5_readStander mX5_readStander (by decide) ⟨Nat.zero_le _, Nat.zero_le _⟩ 0 rfl rfl rfl rfl (rest := []) rfl hl.1 (Nat.le_of_ble_eq_true rfl) dX5_readField_94 (fun hz13 H locs hP hD hS => ?_)
      refine lv_if_ne (tgt := 59) hx hb dX5_readField_97 (by decide) (fun c14 => ?_) (fun c14 => ?_)
      · have hf := zz_f c14 hf
        exact ih9 _ hf _ _ _ hP hD hS (lv_sub hl [0, 1] rfl)
      · have hf := zz_t c14 hf
        refine lv_iconst (v := (0 : Int32)) hx hb dX5_readField_100 (by decide) ?_
        exact ret _ _ _ _ ((0 : Int32), r13.2) hf dX5_readField_101 zz_n0 hP hD hS
  · have hf := zz_f c10 hf
    refine lv_aload_n hx hb dX5_readField_66 rfl (lv_at hl 0 rfl) ?_
    refine va_get (D := g.1) (ci := 5) (v := .int (v7.1 15)) (C := RX5) (T := TX5) (N := 29) hx hb hts iX5 hown hK hP 0 rfl rfl 15 (by decide) (zz_mem hts 1 rfl) (fun _ h9 => h9) rfl dX5_readField_67 ?_
    refine lv_iconst (v := (5 : Int32)) hx hb dX5_readField_70 (by decide) ?_
    refine lv_icmp_ge (tgt := 102) hx hb dX5_readField_71 (by decide) (fun c15 => ?_) (fun c15 => ?_)
    · have hf := zz_t c15 hf
      refine lv_aload_n hx hb dX5_readField_102 rfl (lv_at hl 0 rfl) ?_
      refine va_get (D := g.1) (ci := 5) (v := .int (v7.1 12)) (C := RX5) (T := TX5) (N := 29) hx hb hts iX5 hown hK hP 0 rfl rfl 12 (by decide) (zz_mem hts 4 rfl) (fun _ h9 => h9) rfl dX5_readField_103 ?_
      refine lv_iload_n hx hb dX5_readField_106 rfl (lv_at hl 1 rfl) ?_
      refine lv_icmp_ne (tgt := 114) hx hb dX5_readField_107 (by decide) (fun c16 => ?_) (fun c16 => ?_)
      · have hf := zz_f c16 hf
        refine lv_iconst (v := (0 : Int32)) hx hb dX5_readField_114 (by decide) ?_
        exact ret _ _ _ _ ((0 : Int32), v7) hf dX5_readField_115 zz_n0 hP hD hS
      · have hf := zz_t c16 hf
        refine lv_iconst (v := (1 : Int32)) hx hb dX5_readField_110 (by decide) ?_
        refine lv_goto (tgt := 115) hx hb dX5_readField_111 (by decide) ?_
        exact ret _ _ _ _ ((1 : Int32), v7) hf dX5_readField_115 zz_n1 hP hD hS
    · have hf := zz_f c15 hf
      refine lv_aload_n hx hb dX5_readField_74 rfl (lv_at hl 0 rfl) ?_
      refine va_get (D := g.1) (ci := 5) (v := .int (v7.1 12)) (C := RX5) (T := TX5) (N := 29) hx hb hts iX5 hown hK hP 0 rfl rfl 12 (by decide) (zz_mem hts 4 rfl) (fun _ h9 => h9) rfl dX5_readField_75 ?_
      refine lv_iload_n hx hb dX5_readField_78 rfl (lv_at hl 1 rfl) ?_
      refine lv_icmp_ge (tgt := 102) hx hb dX5_readField_79 (by decide) (fun c17 => ?_) (fun c17 => ?_)
      · have hf := zz_t c17 hf
        refine lv_aload_n hx hb dX5_readField_102 rfl (lv_at hl 0 rfl) ?_
        refine va_get (D := g.1) (ci := 5) (v := .int (v7.1 12)) (C := RX5) (T := TX5) (N := 29) hx hb hts iX5 hown hK hP 0 rfl rfl 12 (by decide) (zz_mem hts 4 rfl) (fun _ h9 => h9) rfl dX5_readField_103 ?_
        refine lv_iload_n hx hb dX5_readField_106 rfl (lv_at hl 1 rfl) ?_
        refine lv_icmp_ne (tgt := 114) hx hb dX5_readField_107 (by decide) (fun c18 => ?_) (fun c18 => ?_)
        · have hf := zz_f c18 hf
          refine lv_iconst (v := (0 : Int32)) hx hb dX5_readField_114 (by decide) ?_
          exact ret _ _ _ _ ((0 : Int32), v7) hf dX5_readField_115 zz_n0 hP hD hS
        · have hf := zz_t c18 hf
          refine lv_iconst (v := (1 : Int32)) hx hb dX5_readField_110 (by decide) ?_
          refine lv_goto (tgt := 115) hx hb dX5_readField_111 (by decide) ?_
          exact ret _ _ _ _ ((1 : Int32), v7) hf dX5_readField_115 zz_n1 hP hD hS
      · have hf := zz_f c17 hf
        refine lv_aload_n hx hb dX5_readField_82 rfl (lv_at hl 0 rfl) ?_
        refine lv_iload_n hx hb dX5_readField_83 rfl (lv_at hl 1 rfl) ?_
        refine lv_bipush (v := (59 : Int32)) hx hb dX5_readField_84 (by decide) ?_
        obtain ⟨r19, hc19, hf⟩ := zz_bs hf
        refine zz_cVz C hP hD hS (kX5_isSign l g q _ v7 p0 (59 : Int32) r19 hc19) gX5_readField_X5_isSign mX5_isSign (by decide) ⟨Nat.zero_le _, Nat.zero_le _⟩ 0 rfl rfl rfl rfl (rest := []) rfl hl.1 (Nat.le_of_ble_eq_true rfl) dX5_readField_86 (fun hz19 H locs hP hD hS => ?_)
        refine lv_if_eq (tgt := 100) hx hb dX5_readField_89 (by decide) (fun c20 => ?_) (fun c20 => ?_)
        · have hf := zz_t c20 hf
          refine lv_iconst (v := (0 : Int32)) hx hb dX5_readField_100 (by decide) ?_
          exact ret _ _ _ _ ((0 : Int32), r19.2) hf dX5_readField_101 zz_n0 hP hD hS
        · have hf := zz_f c20 hf
          refine lv_aload_n hx hb dX5_readField_92 rfl (lv_at hl 0 rfl) ?_
          refine lv_iload_n hx hb dX5_readField_93 rfl (lv_at hl 1 rfl) ?_
          obtain ⟨r21, hc21, hf⟩ := zz_bs hf
          refine zz_cVz C hP hD hS (kX5_readStander l g q _ r19.2 p0 r21 hc21) gX5_readField_X5_readStander mX5_readStander (by decide) ⟨Nat.zero_le _, Nat.zero_le _⟩ 0 rfl rfl rfl rfl (rest := []) rfl hl.1 (Nat.le_of_ble_eq_true rfl) dX5_readField_94 (fun hz21 H locs hP hD hS => ?_)
          refine lv_if_ne (tgt := 59) hx hb dX5_readField_97 (by decide) (fun c22 => ?_) (fun c22 => ?_)
          · have hf := zz_f c22 hf
            exact ih9 _ hf _ _ _ hP hD hS (lv_sub hl [0, 1] rfl)
          · have hf := zz_t c22 hf
            refine lv_iconst (v := (0 : Int32)) hx hb dX5_readField_100 (by decide) ?_
            exact ret _ _ _ _ ((0 : Int32), r21.2) hf dX5_readField_101 zz_n0 hP hD hS
def fX5_readField (u : zzS) (p0 : Int32) : Option (Int32 × zzS) := ((fX5_isSign (zzi u 15 (0 : Int32)) p0 (102 : Int32)).bind (fun r1 => (if r1.1 = 0 then (some ((0 : Int32), r1.2)) else ((fX5_digit r1.2 p0 (1 : Int32)).bind (fun r3 => (if ((zzi r3.2 13 r3.1).1 13) = (-9 : Int32) then (some ((0 : Int32), (zzi r3.2 13 r3.1))) else ((fX5_digit (zzi r3.2 13 r3.1) p0 (0 : Int32)).bind (fun r5 => (if ((zzi r5.2 14 r5.1).1 14) = (-9 : Int32) then (some ((0 : Int32), (zzi r5.2 14 r5.1))) else (zzlp (sX5_readField_59 p0) zzFU ((zzi r5.2 14 r5.1))))))))))))
set_option maxHeartbeats 4000000 in
set_option maxRecDepth 100000 in
theorem kX5_readField (l : Launch) (g : zzG) (q : Nat → Nat) (sz : Nat) (u : zzS) (p0 : Int32) (x : Int32 × zzS) (hf : fX5_readField u p0 = some x) : zzZ l g yX5_readField wsX5_readField rX5_readField [.ref (q 0), .int p0] (zzY g q u) (zzY g q x.2) sz x.1 := by
  refine zz_mz (cc := cX5_readField) (mL := 2) (own := RX5) (fun x : Int32 × zzS => x.1) (fun x : Int32 × zzS => (zzY g q x.2)) x (by decide) rfl rfl (Nat.le_of_ble_eq_true rfl) ?_
  intro p e s m below meth c A Q ls C ret hP hD hS hl
  have hl : lv_has ls 2 [(0, .ref (q 0)), (1, .int p0)] := hl
  have hx := C.1.1
  have hb := C.1.2.1
  have hml := C.1.2.2.1
  have hown := C.1.2.2.2.1
  have hts := C.1.2.2.2.2
  have hK := C.2.1
  have iX5 : ∀ w ∈ wsX50, w ∈ wsX5_readField := fun _ h => List.mem_cons_of_mem _ (List.mem_append_right _ h)
  unfold fX5_readField at hf
  refine lv_aload_n hx hb dX5_readField_0 rfl (lv_at hl 0 rfl) ?_
  refine lv_iconst (v := (0 : Int32)) hx hb dX5_readField_1 (by decide) ?_
  refine va_put (D := g.1) (ci := 5) (v := .int (0 : Int32)) (ty := .int) (C := RX5) (T := TX5) (N := 29) hx hb hts iX5 tyX5 tyX5_ok nmX5 hown hK hP hD hS 0 rfl rfl 15 (by decide) (zz_mem hts 1 rfl) (fun _ h9 => h9) rfl (tyX5_ok 15 (by decide)) rfl rfl (Nat.le_of_ble_eq_true rfl) dX5_readField_2 (fun H locs hP hD hS => ?_)
  have hP : va_P g.1 vwCl (zzY g q (zzi u 15 (0 : Int32))) H := Eq.mp (congrArg (fun w => va_P g.1 vwCl w H) (zyo_0_15 g q u (0 : Int32))) hP
  have hD : va_D A (zzY g q (zzi u 15 (0 : Int32))) := Eq.mp (congrArg (va_D A) (zyo_0_15 g q u (0 : Int32))) hD
  refine lv_aload_n hx hb dX5_readField_5 rfl (lv_at hl 0 rfl) ?_
  refine lv_iload_n hx hb dX5_readField_6 rfl (lv_at hl 1 rfl) ?_
  refine lv_bipush (v := (102 : Int32)) hx hb dX5_readField_7 (by decide) ?_
  obtain ⟨r1, hc1, hf⟩ := zz_bs hf
  refine zz_cVz C hP hD hS (kX5_isSign l g q _ (zzi u 15 (0 : Int32)) p0 (102 : Int32) r1 hc1) gX5_readField_X5_isSign mX5_isSign (by decide) ⟨Nat.zero_le _, Nat.zero_le _⟩ 0 rfl rfl rfl rfl (rest := []) rfl hl.1 (Nat.le_of_ble_eq_true rfl) dX5_readField_9 (fun hz1 H locs hP hD hS => ?_)
  refine lv_if_ne (tgt := 17) hx hb dX5_readField_12 (by decide) (fun c2 => ?_) (fun c2 => ?_)
  · have hf := zz_f c2 hf
    refine lv_aload_n hx hb dX5_readField_17 rfl (lv_at hl 0 rfl) ?_
    refine lv_aload_n hx hb dX5_readField_18 rfl (lv_at hl 0 rfl) ?_
    refine lv_iload_n hx hb dX5_readField_19 rfl (lv_at hl 1 rfl) ?_
    refine lv_iconst (v := (1 : Int32)) hx hb dX5_readField_20 (by decide) ?_
    obtain ⟨r3, hc3, hf⟩ := zz_bs hf
    refine zz_cVi C hP hD hS (kX5_digit l g q _ r1.2 p0 (1 : Int32) r3 hc3) gX5_readField_X5_digit mX5_digit (by decide) ⟨Nat.zero_le _, Nat.zero_le _⟩ 0 rfl rfl rfl rfl (rest := [.ref (q 0)]) rfl hl.1 (Nat.le_of_ble_eq_true rfl) dX5_readField_21 (fun H locs hP hD hS => ?_)
    refine va_put (D := g.1) (ci := 5) (v := .int (r3.1)) (ty := .int) (C := RX5) (T := TX5) (N := 29) hx hb hts iX5 tyX5 tyX5_ok nmX5 hown hK hP hD hS 0 rfl rfl 13 (by decide) (zz_mem hts 2 rfl) (fun _ h9 => h9) rfl (tyX5_ok 13 (by decide)) rfl rfl (Nat.le_of_ble_eq_true rfl) dX5_readField_24 (fun H locs hP hD hS => ?_)
    have hP : va_P g.1 vwCl (zzY g q (zzi r3.2 13 r3.1)) H := Eq.mp (congrArg (fun w => va_P g.1 vwCl w H) (zyo_0_13 g q r3.2 r3.1)) hP
    have hD : va_D A (zzY g q (zzi r3.2 13 r3.1)) := Eq.mp (congrArg (va_D A) (zyo_0_13 g q r3.2 r3.1)) hD
    refine lv_aload_n hx hb dX5_readField_27 rfl (lv_at hl 0 rfl) ?_
    refine va_get (D := g.1) (ci := 5) (v := .int ((zzi r3.2 13 r3.1).1 13)) (C := RX5) (T := TX5) (N := 29) hx hb hts iX5 hown hK hP 0 rfl rfl 13 (by decide) (zz_mem hts 2 rfl) (fun _ h9 => h9) rfl dX5_readField_28 ?_
    refine lv_bipush (v := (-9 : Int32)) hx hb dX5_readField_31 (by decide) ?_
    refine lv_icmp_ne (tgt := 38) hx hb dX5_readField_33 (by decide) (fun c4 => ?_) (fun c4 => ?_)
    · have hf := zz_f c4 hf
      refine lv_aload_n hx hb dX5_readField_38 rfl (lv_at hl 0 rfl) ?_
      refine lv_aload_n hx hb dX5_readField_39 rfl (lv_at hl 0 rfl) ?_
      refine lv_iload_n hx hb dX5_readField_40 rfl (lv_at hl 1 rfl) ?_
      refine lv_iconst (v := (0 : Int32)) hx hb dX5_readField_41 (by decide) ?_
      obtain ⟨r5, hc5, hf⟩ := zz_bs hf
      refine zz_cVi C hP hD hS (kX5_digit l g q _ (zzi r3.2 13 r3.1) p0 (0 : Int32) r5 hc5) gX5_readField_X5_digit mX5_digit (by decide) ⟨Nat.zero_le _, Nat.zero_le _⟩ 0 rfl rfl rfl rfl (rest := [.ref (q 0)]) rfl hl.1 (Nat.le_of_ble_eq_true rfl) dX5_readField_42 (fun H locs hP hD hS => ?_)
      refine va_put (D := g.1) (ci := 5) (v := .int (r5.1)) (ty := .int) (C := RX5) (T := TX5) (N := 29) hx hb hts iX5 tyX5 tyX5_ok nmX5 hown hK hP hD hS 0 rfl rfl 14 (by decide) (zz_mem hts 3 rfl) (fun _ h9 => h9) rfl (tyX5_ok 14 (by decide)) rfl rfl (Nat.le_of_ble_eq_true rfl) dX5_readField_45 (fun H locs hP hD hS => ?_)
      have hP : va_P g.1 vwCl (zzY g q (zzi r5.2 14 r5.1)) H := Eq.mp (congrArg (fun w => va_P g.1 vwCl w H) (zyo_0_14 g q r5.2 r5.1)) hP
      have hD : va_D A (zzY g q (zzi r5.2 14 r5.1)) := Eq.mp (congrArg (va_D A) (zyo_0_14 g q r5.2 r5.1)) hD
      refine lv_aload_n hx hb dX5_readField_48 rfl (lv_at hl 0 rfl) ?_
      refine va_get (D := g.1) (ci := 5) (v := .int ((zzi r5.2 14 r5.1).1 14)) (C := RX5) (T := TX5) (N := 29) hx hb hts iX5 hown hK hP 0 rfl rfl 14 (by decide) (zz_mem hts 3 rfl) (fun _ h9 => h9) rfl dX5_readField_49 ?_
      refine lv_bipush (v := (-9 : Int32)) hx hb dX5_readField_52 (by decide) ?_
      refine lv_icmp_ne (tgt := 59) hx hb dX5_readField_54 (by decide) (fun c6 => ?_) (fun c6 => ?_)
      · have hf := zz_f c6 hf
        exact wX5_readField_59 l g q p0 x C ret  _ _ hf _ _ _ hP hD hS (lv_sub hl [0, 1] rfl)
      · have hf := zz_t c6 hf
        refine lv_iconst (v := (0 : Int32)) hx hb dX5_readField_57 (by decide) ?_
        exact ret _ _ _ _ ((0 : Int32), (zzi r5.2 14 r5.1)) hf dX5_readField_58 zz_n0 hP hD hS
    · have hf := zz_t c4 hf
      refine lv_iconst (v := (0 : Int32)) hx hb dX5_readField_36 (by decide) ?_
      exact ret _ _ _ _ ((0 : Int32), (zzi r3.2 13 r3.1)) hf dX5_readField_37 zz_n0 hP hD hS
  · have hf := zz_t c2 hf
    refine lv_iconst (v := (0 : Int32)) hx hb dX5_readField_15 (by decide) ?_
    exact ret _ _ _ _ ((0 : Int32), r1.2) hf dX5_readField_16 zz_n0 hP hD hS
abbrev rX5_field : Room := ({ frames := 4, cells := 0, slots := 0, locals := 87 })
theorem mX5_field : zzM yX5_field wsX5_field cX5_field 8 (some .int) RX5 4 := ⟨⟨_, rfl⟩, by decide +kernel⟩
def sX5_field_111 (p0 : Int32) (p1 : Int32) (p2 : Int32) (p3 : Int32) : (Int32 × zzS) → ((Int32 × zzS) → Option (Int32 × zzS)) → Option (Int32 × zzS) := fun v9 rec10 => (if (v9.2.1 5) ≤ v9.1 then (some (((zzi v9.2 26 (0 : Int32)).1 5), (zzi v9.2 26 (0 : Int32)))) else (zzga (v9.2.2 16) 5 v9.1 (fun x14 => (zzpa 5 v9.1 (zzga ((zza v9.2 8 v9.1.toNatClampNeg x14).2 17) 5 v9.1 (fun x17 => (zzpa 5 v9.1 (zzga ((zza (zza v9.2 8 v9.1.toNatClampNeg x14) 9 v9.1.toNatClampNeg x17).2 18) 5 v9.1 (fun x20 => (zzpa 5 v9.1 (rec10 ((v9.1 + (1 : Int32)), (zza (zza (zza v9.2 8 v9.1.toNatClampNeg x14) 9 v9.1.toNatClampNeg x17) 10 v9.1.toNatClampNeg x20)))))))))))))
set_option maxHeartbeats 4000000 in
set_option maxRecDepth 100000 in
theorem wX5_field_111 (l : Launch) (g : zzG) (q : Nat → Nat) (p0 : Int32) (p1 : Int32) (p2 : Int32) (p3 : Int32) (x : Int32 × zzS) {p : Program} {e : Env} {s : State} {m : MethodId} {below : List Frame} {meth : Method} {c : Code} {A : Nat → Prop} {Q : State → Prop} (C : zzC g p s m ([.ref (q 0), .int p0, .int p1, .int p2, .int p3] : List Value).toArray c cX5_field 8 RX5 wsX5_field A) (ret : zzRI l g rX5_field cX5_field [.ref (q 0), .int p0, .int p1, .int p2, .int p3] (fun x : Int32 × zzS => x.1) (fun x : Int32 × zzS => (zzY g q x.2)) x p e s m below meth c A Q)  (n : Nat) (v9 : Int32 × zzS) (hf : zzlp (sX5_field_111 p0 p1 p2 p3) n v9 = some x) : ∀ (H : Heap) (locs : List Loc) (ls : Array Slot), va_P g.1 vwCl (zzY g q v9.2) H → va_D A (zzY g q v9.2) → va_S A s.heap H locs → lv_has ls 8 [(0, .ref (q 0)), (7, .int (v9.1))] → W p l e rX5_field s m ([.ref (q 0), .int p0, .int p1, .int p2, .int p3] : List Value).toArray below meth c H locs 0 0 Q (F0 m 111 ls []) := by
  have hx := C.1.1
  have hb := C.1.2.1
  have hml := C.1.2.2.1
  have hown := C.1.2.2.2.1
  have hts := C.1.2.2.2.2
  have hK := C.2.1
  have iX5 : ∀ w ∈ wsX50, w ∈ wsX5_field := fun _ h => List.mem_cons_of_mem _ (List.mem_append_right _ h)
  refine zz_lp (P := fun (v9 : Int32 × zzS) => ∀ (H : Heap) (locs : List Loc) (ls : Array Slot), va_P g.1 vwCl (zzY g q v9.2) H → va_D A (zzY g q v9.2) → va_S A s.heap H locs → lv_has ls 8 [(0, .ref (q 0)), (7, .int (v9.1))] → W p l e rX5_field s m ([.ref (q 0), .int p0, .int p1, .int p2, .int p3] : List Value).toArray below meth c H locs 0 0 Q (F0 m 111 ls [])) (fun v9 rec10 ih11 hf H locs ls hP hD hS hl => ?_) n v9 hf
  unfold sX5_field_111 at hf
  refine lv_iload hx hb dX5_field_111 (lv_at hl 1 rfl) ?_
  refine lv_aload_n hx hb dX5_field_113 rfl (lv_at hl 0 rfl) ?_
  refine va_get (D := g.1) (ci := 5) (v := .int (v9.2.1 5)) (C := RX5) (T := TX5) (N := 29) hx hb hts iX5 hown hK hP 0 rfl rfl 5 (by decide) (zz_mem hts 8 rfl) (fun _ h9 => h9) rfl dX5_field_114 ?_
  refine lv_icmp_ge (tgt := 168) hx hb dX5_field_117 (by decide) (fun c12 => ?_) (fun c12 => ?_)
  · have hf := zz_t c12 hf
    refine lv_aload_n hx hb dX5_field_168 rfl (lv_at hl 0 rfl) ?_
    refine lv_iconst (v := (0 : Int32)) hx hb dX5_field_169 (by decide) ?_
    refine va_put (D := g.1) (ci := 5) (v := .int (0 : Int32)) (ty := .int) (C := RX5) (T := TX5) (N := 29) hx hb hts iX5 tyX5 tyX5_ok nmX5 hown hK hP hD hS 0 rfl rfl 26 (by decide) (zz_mem hts 15 rfl) (fun _ h9 => h9) rfl (tyX5_ok 26 (by decide)) rfl rfl (Nat.le_of_ble_eq_true rfl) dX5_field_170 (fun H locs hP hD hS => ?_)
    have hP : va_P g.1 vwCl (zzY g q (zzi v9.2 26 (0 : Int32))) H := Eq.mp (congrArg (fun w => va_P g.1 vwCl w H) (zyo_0_26 g q v9.2 (0 : Int32))) hP
    have hD : va_D A (zzY g q (zzi v9.2 26 (0 : Int32))) := Eq.mp (congrArg (va_D A) (zyo_0_26 g q v9.2 (0 : Int32))) hD
    refine lv_aload_n hx hb dX5_field_173 rfl (lv_at hl 0 rfl) ?_
    refine va_get (D := g.1) (ci := 5) (v := .int ((zzi v9.2 26 (0 : Int32)).1 5)) (C := RX5) (T := TX5) (N := 29) hx hb hts iX5 hown hK hP 0 rfl rfl 5 (by decide) (zz_mem hts 8 rfl) (fun _ h9 => h9) rfl dX5_field_174 ?_
    exact ret _ _ _ _ (((zzi v9.2 26 (0 : Int32)).1 5), (zzi v9.2 26 (0 : Int32))) hf dX5_field_177 hP hD hS
  · have hf := zz_f c12 hf
    refine lv_aload_n hx hb dX5_field_120 rfl (lv_at hl 0 rfl) ?_
    refine va_get (D := g.1) (ci := 5) (v := .ref (q 8)) (C := RX5) (T := TX5) (N := 29) hx hb hts iX5 hown hK hP 0 rfl rfl 8 (by decide) (zz_mem hts 9 rfl) (fun _ h9 => h9) rfl dX5_field_121 ?_
    refine lv_iload hx hb dX5_field_124 (lv_at hl 1 rfl) ?_
    refine lv_aload_n hx hb dX5_field_126 rfl (lv_at hl 0 rfl) ?_
    refine va_get (D := g.1) (ci := 5) (v := .ref (q 16)) (C := RX5) (T := TX5) (N := 29) hx hb hts iX5 hown hK hP 0 rfl rfl 16 (by decide) (zz_mem hts 10 rfl) (fun _ h9 => h9) rfl dX5_field_127 ?_
    refine lv_iload hx hb dX5_field_130 (lv_at hl 1 rfl) ?_
    obtain ⟨x14, h13, ex14, hf⟩ := zz_gx hf
    refine zz_iald hx hb hK hP 7 0 rfl rfl h13 ex14 dX5_field_132 ?_
    obtain ⟨h15, hf⟩ := zz_pa hf
    refine va_iast hx hb hK hP hD hS 4 0 rfl rfl h15 dX5_field_133 (fun H locs hP hD hS => ?_)
    have hP : va_P g.1 vwCl (zzY g q (zza v9.2 8 v9.1.toNatClampNeg x14)) H := Eq.mp (congrArg (fun w => va_P g.1 vwCl w H) (zya_4 g q v9.2 (upd (v9.2.2 8) v9.1.toNatClampNeg x14))) hP
    have hD : va_D A (zzY g q (zza v9.2 8 v9.1.toNatClampNeg x14)) := Eq.mp (congrArg (va_D A) (zya_4 g q v9.2 (upd (v9.2.2 8) v9.1.toNatClampNeg x14))) hD
    refine lv_aload_n hx hb dX5_field_134 rfl (lv_at hl 0 rfl) ?_
    refine va_get (D := g.1) (ci := 5) (v := .ref (q 9)) (C := RX5) (T := TX5) (N := 29) hx hb hts iX5 hown hK hP 0 rfl rfl 9 (by decide) (zz_mem hts 11 rfl) (fun _ h9 => h9) rfl dX5_field_135 ?_
    refine lv_iload hx hb dX5_field_138 (lv_at hl 1 rfl) ?_
    refine lv_aload_n hx hb dX5_field_140 rfl (lv_at hl 0 rfl) ?_
    refine va_get (D := g.1) (ci := 5) (v := .ref (q 17)) (C := RX5) (T := TX5) (N := 29) hx hb hts iX5 hown hK hP 0 rfl rfl 17 (by decide) (zz_mem hts 12 rfl) (fun _ h9 => h9) rfl dX5_field_141 ?_
    refine lv_iload hx hb dX5_field_144 (lv_at hl 1 rfl) ?_
    obtain ⟨x17, h16, ex17, hf⟩ := zz_gx hf
    refine zz_iald hx hb hK hP 8 0 rfl rfl h16 ex17 dX5_field_146 ?_
    obtain ⟨h18, hf⟩ := zz_pa hf
    refine va_iast hx hb hK hP hD hS 5 0 rfl rfl h18 dX5_field_147 (fun H locs hP hD hS => ?_)
    have hP : va_P g.1 vwCl (zzY g q (zza (zza v9.2 8 v9.1.toNatClampNeg x14) 9 v9.1.toNatClampNeg x17)) H := Eq.mp (congrArg (fun w => va_P g.1 vwCl w H) (zya_5 g q (zza v9.2 8 v9.1.toNatClampNeg x14) (upd ((zza v9.2 8 v9.1.toNatClampNeg x14).2 9) v9.1.toNatClampNeg x17))) hP
    have hD : va_D A (zzY g q (zza (zza v9.2 8 v9.1.toNatClampNeg x14) 9 v9.1.toNatClampNeg x17)) := Eq.mp (congrArg (va_D A) (zya_5 g q (zza v9.2 8 v9.1.toNatClampNeg x14) (upd ((zza v9.2 8 v9.1.toNatClampNeg x14).2 9) v9.1.toNatClampNeg x17))) hD
    refine lv_aload_n hx hb dX5_field_148 rfl (lv_at hl 0 rfl) ?_
    refine va_get (D := g.1) (ci := 5) (v := .ref (q 10)) (C := RX5) (T := TX5) (N := 29) hx hb hts iX5 hown hK hP 0 rfl rfl 10 (by decide) (zz_mem hts 13 rfl) (fun _ h9 => h9) rfl dX5_field_149 ?_
    refine lv_iload hx hb dX5_field_152 (lv_at hl 1 rfl) ?_
    refine lv_aload_n hx hb dX5_field_154 rfl (lv_at hl 0 rfl) ?_
    refine va_get (D := g.1) (ci := 5) (v := .ref (q 18)) (C := RX5) (T := TX5) (N := 29) hx hb hts iX5 hown hK hP 0 rfl rfl 18 (by decide) (zz_mem hts 14 rfl) (fun _ h9 => h9) rfl dX5_field_155 ?_
    refine lv_iload hx hb dX5_field_158 (lv_at hl 1 rfl) ?_
    obtain ⟨x20, h19, ex20, hf⟩ := zz_gx hf
    refine zz_iald hx hb hK hP 9 0 rfl rfl h19 ex20 dX5_field_160 ?_
    obtain ⟨h21, hf⟩ := zz_pa hf
    refine va_iast hx hb hK hP hD hS 6 0 rfl rfl h21 dX5_field_161 (fun H locs hP hD hS => ?_)
    have hP : va_P g.1 vwCl (zzY g q (zza (zza (zza v9.2 8 v9.1.toNatClampNeg x14) 9 v9.1.toNatClampNeg x17) 10 v9.1.toNatClampNeg x20)) H := Eq.mp (congrArg (fun w => va_P g.1 vwCl w H) (zya_6 g q (zza (zza v9.2 8 v9.1.toNatClampNeg x14) 9 v9.1.toNatClampNeg x17) (upd ((zza (zza v9.2 8 v9.1.toNatClampNeg x14) 9 v9.1.toNatClampNeg x17).2 10) v9.1.toNatClampNeg x20))) hP
    have hD : va_D A (zzY g q (zza (zza (zza v9.2 8 v9.1.toNatClampNeg x14) 9 v9.1.toNatClampNeg x17) 10 v9.1.toNatClampNeg x20)) := Eq.mp (congrArg (va_D A) (zya_6 g q (zza (zza v9.2 8 v9.1.toNatClampNeg x14) 9 v9.1.toNatClampNeg x17) (upd ((zza (zza v9.2 8 v9.1.toNatClampNeg x14) 9 v9.1.toNatClampNeg x17).2 10) v9.1.toNatClampNeg x20))) hD
    refine lv_iinc (v := (v9.1 + (1 : Int32))) (lv' := [(7, .int (v9.1 + (1 : Int32))), (0, .ref (q 0))]) hx hb dX5_field_162 hl (k := 1) rfl rfl (by decide) rfl (fun ls hl => ?_)
    refine lv_goto (tgt := 111) hx hb dX5_field_165 (by decide) ?_
    exact ih11 _ hf _ _ _ hP hD hS (lv_sub hl [1, 0] rfl)
def fX5_field (u : zzS) (p0 : Int32) (p1 : Int32) (p2 : Int32) (p3 : Int32) : Option (Int32 × zzS) := ((fX5_isSheet p0).bind (fun r1 => (if r1 = 0 then (some ((-1 : Int32), (zzi u 0 (0 : Int32)))) else ((fX5_isSort p1).bind (fun r3 => (if r3 = 0 then (some ((-2 : Int32), (zzi u 0 (0 : Int32)))) else ((fX5_against (zzi u 0 (0 : Int32)) p0 p1 p2 p3).bind (fun r5 => (if r5 = 0 then ((fX5_readField (zzi (zzi u 0 (0 : Int32)) 12 (((60 : Int32) * p0) + p2)) ((((60 : Int32) * p0) + p2) + p3)).bind (fun r7 => (if r7.1 = 0 then (some (((-100 : Int32) - ((r7.2.1 12) - (((60 : Int32) * p0) + p2))), r7.2)) else (zzlp (sX5_field_111 p0 p1 p2 p3) zzFU ((0 : Int32), (zzi (zzi (zzi r7.2 6 (r7.2.1 13)) 7 ((zzi r7.2 6 (r7.2.1 13)).1 14)) 5 ((zzi (zzi r7.2 6 (r7.2.1 13)) 7 ((zzi r7.2 6 (r7.2.1 13)).1 14)).1 15))))))) else ((fX5_fails (zzi u 0 (0 : Int32)) r5).bind (fun r22 => (some (r22.1, r22.2)))))))))))))
set_option maxHeartbeats 4000000 in
set_option maxRecDepth 100000 in
theorem kX5_field (l : Launch) (g : zzG) (q : Nat → Nat) (sz : Nat) (u : zzS) (p0 : Int32) (p1 : Int32) (p2 : Int32) (p3 : Int32) (x : Int32 × zzS) (hf : fX5_field u p0 p1 p2 p3 = some x) : zzI l g yX5_field wsX5_field rX5_field [.ref (q 0), .int p0, .int p1, .int p2, .int p3] (zzY g q u) (zzY g q x.2) sz x.1 := by
  refine zz_mi (cc := cX5_field) (mL := 8) (own := RX5) (fun x : Int32 × zzS => x.1) (fun x : Int32 × zzS => (zzY g q x.2)) x (by decide) rfl rfl (Nat.le_of_ble_eq_true rfl) ?_
  intro p e s m below meth c A Q ls C ret hP hD hS hl
  have hl : lv_has ls 8 [(0, .ref (q 0)), (1, .int p0), (2, .int p1), (3, .int p2), (4, .int p3)] := hl
  have hx := C.1.1
  have hb := C.1.2.1
  have hml := C.1.2.2.1
  have hown := C.1.2.2.2.1
  have hts := C.1.2.2.2.2
  have hK := C.2.1
  have iX5 : ∀ w ∈ wsX50, w ∈ wsX5_field := fun _ h => List.mem_cons_of_mem _ (List.mem_append_right _ h)
  unfold fX5_field at hf
  refine lv_aload_n hx hb dX5_field_0 rfl (lv_at hl 0 rfl) ?_
  refine lv_iconst (v := (0 : Int32)) hx hb dX5_field_1 (by decide) ?_
  refine va_put (D := g.1) (ci := 5) (v := .int (0 : Int32)) (ty := .int) (C := RX5) (T := TX5) (N := 29) hx hb hts iX5 tyX5 tyX5_ok nmX5 hown hK hP hD hS 0 rfl rfl 0 (by decide) (zz_mem hts 1 rfl) (fun _ h9 => h9) rfl (tyX5_ok 0 (by decide)) rfl rfl (Nat.le_of_ble_eq_true rfl) dX5_field_2 (fun H locs hP hD hS => ?_)
  have hP : va_P g.1 vwCl (zzY g q (zzi u 0 (0 : Int32))) H := Eq.mp (congrArg (fun w => va_P g.1 vwCl w H) (zyo_0_0 g q u (0 : Int32))) hP
  have hD : va_D A (zzY g q (zzi u 0 (0 : Int32))) := Eq.mp (congrArg (va_D A) (zyo_0_0 g q u (0 : Int32))) hD
  refine lv_iload_n hx hb dX5_field_5 rfl (lv_at hl 1 rfl) ?_
  obtain ⟨r1, hc1, hf⟩ := zz_bs hf
  refine zz_cSz C hP hD hS (kX5_isSheet l g (zzY g q (zzi u 0 (0 : Int32))) _ p0 r1 hc1) gX5_field_X5_isSheet mX5_isSheet (by decide) ⟨Nat.zero_le _, Nat.zero_le _⟩ rfl (rest := []) rfl hl.1 (Nat.le_of_ble_eq_true rfl) dX5_field_6 (fun hz1 H locs hP hD hS => ?_)
  refine lv_if_ne (tgt := 14) hx hb dX5_field_9 (by decide) (fun c2 => ?_) (fun c2 => ?_)
  · have hf := zz_f c2 hf
    refine lv_iload_n hx hb dX5_field_14 rfl (lv_at hl 2 rfl) ?_
    obtain ⟨r3, hc3, hf⟩ := zz_bs hf
    refine zz_cSz C hP hD hS (kX5_isSort l g (zzY g q (zzi u 0 (0 : Int32))) _ p1 r3 hc3) gX5_field_X5_isSort mX5_isSort (by decide) ⟨Nat.zero_le _, Nat.zero_le _⟩ rfl (rest := []) rfl hl.1 (Nat.le_of_ble_eq_true rfl) dX5_field_15 (fun hz3 H locs hP hD hS => ?_)
    refine lv_if_ne (tgt := 24) hx hb dX5_field_18 (by decide) (fun c4 => ?_) (fun c4 => ?_)
    · have hf := zz_f c4 hf
      refine lv_aload_n hx hb dX5_field_24 rfl (lv_at hl 0 rfl) ?_
      refine lv_iload_n hx hb dX5_field_25 rfl (lv_at hl 1 rfl) ?_
      refine lv_iload_n hx hb dX5_field_26 rfl (lv_at hl 2 rfl) ?_
      refine lv_iload_n hx hb dX5_field_27 rfl (lv_at hl 3 rfl) ?_
      refine lv_iload hx hb dX5_field_28 (lv_at hl 4 rfl) ?_
      obtain ⟨r5, hc5, hf⟩ := zz_bs hf
      refine zz_cVi C hP hD hS (kX5_against l g q _ (zzi u 0 (0 : Int32)) p0 p1 p2 p3 r5 hc5) gX5_field_X5_against mX5_against (by decide) ⟨Nat.zero_le _, Nat.zero_le _⟩ 0 rfl rfl rfl rfl (rest := []) rfl hl.1 (Nat.le_of_ble_eq_true rfl) dX5_field_30 (fun H locs hP hD hS => ?_)
      refine lv_istore (lv' := [(5, .int r5), (0, .ref (q 0)), (1, .int p0), (2, .int p1), (3, .int p2), (4, .int p3)]) hx hb dX5_field_33 hl (by decide) rfl (fun ls hl => ?_)
      refine lv_iload hx hb dX5_field_35 (lv_at hl 0 rfl) ?_
      refine lv_if_eq (tgt := 47) hx hb dX5_field_37 (by decide) (fun c6 => ?_) (fun c6 => ?_)
      · have hf := zz_t c6 hf
        refine lv_bipush (v := (60 : Int32)) hx hb dX5_field_47 (by decide) ?_
        refine lv_iload_n hx hb dX5_field_49 rfl (lv_at hl 2 rfl) ?_
        refine lv_imul hx hb dX5_field_50 ?_
        refine lv_iload_n hx hb dX5_field_51 rfl (lv_at hl 4 rfl) ?_
        refine lv_iadd hx hb dX5_field_52 ?_
        refine lv_istore (lv' := [(6, .int (((60 : Int32) * p0) + p2)), (5, .int r5), (0, .ref (q 0)), (1, .int p0), (2, .int p1), (3, .int p2), (4, .int p3)]) hx hb dX5_field_53 hl (by decide) rfl (fun ls hl => ?_)
        refine lv_aload_n hx hb dX5_field_55 rfl (lv_at hl 2 rfl) ?_
        refine lv_iload hx hb dX5_field_56 (lv_at hl 0 rfl) ?_
        refine va_put (D := g.1) (ci := 5) (v := .int (((60 : Int32) * p0) + p2)) (ty := .int) (C := RX5) (T := TX5) (N := 29) hx hb hts iX5 tyX5 tyX5_ok nmX5 hown hK hP hD hS 0 rfl rfl 12 (by decide) (zz_mem hts 2 rfl) (fun _ h9 => h9) rfl (tyX5_ok 12 (by decide)) rfl rfl (Nat.le_of_ble_eq_true rfl) dX5_field_58 (fun H locs hP hD hS => ?_)
        have hP : va_P g.1 vwCl (zzY g q (zzi (zzi u 0 (0 : Int32)) 12 (((60 : Int32) * p0) + p2))) H := Eq.mp (congrArg (fun w => va_P g.1 vwCl w H) (zyo_0_12 g q (zzi u 0 (0 : Int32)) (((60 : Int32) * p0) + p2))) hP
        have hD : va_D A (zzY g q (zzi (zzi u 0 (0 : Int32)) 12 (((60 : Int32) * p0) + p2))) := Eq.mp (congrArg (va_D A) (zyo_0_12 g q (zzi u 0 (0 : Int32)) (((60 : Int32) * p0) + p2))) hD
        refine lv_aload_n hx hb dX5_field_61 rfl (lv_at hl 2 rfl) ?_
        refine lv_iload hx hb dX5_field_62 (lv_at hl 0 rfl) ?_
        refine lv_iload hx hb dX5_field_64 (lv_at hl 6 rfl) ?_
        refine lv_iadd hx hb dX5_field_66 ?_
        obtain ⟨r7, hc7, hf⟩ := zz_bs hf
        refine zz_cVz C hP hD hS (kX5_readField l g q _ (zzi (zzi u 0 (0 : Int32)) 12 (((60 : Int32) * p0) + p2)) ((((60 : Int32) * p0) + p2) + p3) r7 hc7) gX5_field_X5_readField mX5_readField (by decide) ⟨Nat.zero_le _, Nat.zero_le _⟩ 0 rfl rfl rfl rfl (rest := []) rfl hl.1 (Nat.le_of_ble_eq_true rfl) dX5_field_67 (fun hz7 H locs hP hD hS => ?_)
        refine lv_if_ne (tgt := 84) hx hb dX5_field_70 (by decide) (fun c8 => ?_) (fun c8 => ?_)
        · have hf := zz_f c8 hf
          refine lv_aload_n hx hb dX5_field_84 rfl (lv_at hl 2 rfl) ?_
          refine lv_aload_n hx hb dX5_field_85 rfl (lv_at hl 2 rfl) ?_
          refine va_get (D := g.1) (ci := 5) (v := .int (r7.2.1 13)) (C := RX5) (T := TX5) (N := 29) hx hb hts iX5 hown hK hP 0 rfl rfl 13 (by decide) (zz_mem hts 3 rfl) (fun _ h9 => h9) rfl dX5_field_86 ?_
          refine va_put (D := g.1) (ci := 5) (v := .int (r7.2.1 13)) (ty := .int) (C := RX5) (T := TX5) (N := 29) hx hb hts iX5 tyX5 tyX5_ok nmX5 hown hK hP hD hS 0 rfl rfl 6 (by decide) (zz_mem hts 4 rfl) (fun _ h9 => h9) rfl (tyX5_ok 6 (by decide)) rfl rfl (Nat.le_of_ble_eq_true rfl) dX5_field_89 (fun H locs hP hD hS => ?_)
          have hP : va_P g.1 vwCl (zzY g q (zzi r7.2 6 (r7.2.1 13))) H := Eq.mp (congrArg (fun w => va_P g.1 vwCl w H) (zyo_0_6 g q r7.2 (r7.2.1 13))) hP
          have hD : va_D A (zzY g q (zzi r7.2 6 (r7.2.1 13))) := Eq.mp (congrArg (va_D A) (zyo_0_6 g q r7.2 (r7.2.1 13))) hD
          refine lv_aload_n hx hb dX5_field_92 rfl (lv_at hl 2 rfl) ?_
          refine lv_aload_n hx hb dX5_field_93 rfl (lv_at hl 2 rfl) ?_
          refine va_get (D := g.1) (ci := 5) (v := .int ((zzi r7.2 6 (r7.2.1 13)).1 14)) (C := RX5) (T := TX5) (N := 29) hx hb hts iX5 hown hK hP 0 rfl rfl 14 (by decide) (zz_mem hts 5 rfl) (fun _ h9 => h9) rfl dX5_field_94 ?_
          refine va_put (D := g.1) (ci := 5) (v := .int ((zzi r7.2 6 (r7.2.1 13)).1 14)) (ty := .int) (C := RX5) (T := TX5) (N := 29) hx hb hts iX5 tyX5 tyX5_ok nmX5 hown hK hP hD hS 0 rfl rfl 7 (by decide) (zz_mem hts 6 rfl) (fun _ h9 => h9) rfl (tyX5_ok 7 (by decide)) rfl rfl (Nat.le_of_ble_eq_true rfl) dX5_field_97 (fun H locs hP hD hS => ?_)
          have hP : va_P g.1 vwCl (zzY g q (zzi (zzi r7.2 6 (r7.2.1 13)) 7 ((zzi r7.2 6 (r7.2.1 13)).1 14))) H := Eq.mp (congrArg (fun w => va_P g.1 vwCl w H) (zyo_0_7 g q (zzi r7.2 6 (r7.2.1 13)) ((zzi r7.2 6 (r7.2.1 13)).1 14))) hP
          have hD : va_D A (zzY g q (zzi (zzi r7.2 6 (r7.2.1 13)) 7 ((zzi r7.2 6 (r7.2.1 13)).1 14))) := Eq.mp (congrArg (va_D A) (zyo_0_7 g q (zzi r7.2 6 (r7.2.1 13)) ((zzi r7.2 6 (r7.2.1 13)).1 14))) hD
          refine lv_aload_n hx hb dX5_field_100 rfl (lv_at hl 2 rfl) ?_
          refine lv_aload_n hx hb dX5_field_101 rfl (lv_at hl 2 rfl) ?_
          refine va_get (D := g.1) (ci := 5) (v := .int ((zzi (zzi r7.2 6 (r7.2.1 13)) 7 ((zzi r7.2 6 (r7.2.1 13)).1 14)).1 15)) (C := RX5) (T := TX5) (N := 29) hx hb hts iX5 hown hK hP 0 rfl rfl 15 (by decide) (zz_mem hts 7 rfl) (fun _ h9 => h9) rfl dX5_field_102 ?_
          refine va_put (D := g.1) (ci := 5) (v := .int ((zzi (zzi r7.2 6 (r7.2.1 13)) 7 ((zzi r7.2 6 (r7.2.1 13)).1 14)).1 15)) (ty := .int) (C := RX5) (T := TX5) (N := 29) hx hb hts iX5 tyX5 tyX5_ok nmX5 hown hK hP hD hS 0 rfl rfl 5 (by decide) (zz_mem hts 8 rfl) (fun _ h9 => h9) rfl (tyX5_ok 5 (by decide)) rfl rfl (Nat.le_of_ble_eq_true rfl) dX5_field_105 (fun H locs hP hD hS => ?_)
          have hP : va_P g.1 vwCl (zzY g q (zzi (zzi (zzi r7.2 6 (r7.2.1 13)) 7 ((zzi r7.2 6 (r7.2.1 13)).1 14)) 5 ((zzi (zzi r7.2 6 (r7.2.1 13)) 7 ((zzi r7.2 6 (r7.2.1 13)).1 14)).1 15))) H := Eq.mp (congrArg (fun w => va_P g.1 vwCl w H) (zyo_0_5 g q (zzi (zzi r7.2 6 (r7.2.1 13)) 7 ((zzi r7.2 6 (r7.2.1 13)).1 14)) ((zzi (zzi r7.2 6 (r7.2.1 13)) 7 ((zzi r7.2 6 (r7.2.1 13)).1 14)).1 15))) hP
          have hD : va_D A (zzY g q (zzi (zzi (zzi r7.2 6 (r7.2.1 13)) 7 ((zzi r7.2 6 (r7.2.1 13)).1 14)) 5 ((zzi (zzi r7.2 6 (r7.2.1 13)) 7 ((zzi r7.2 6 (r7.2.1 13)).1 14)).1 15))) := Eq.mp (congrArg (va_D A) (zyo_0_5 g q (zzi (zzi r7.2 6 (r7.2.1 13)) 7 ((zzi r7.2 6 (r7.2.1 13)).1 14)) ((zzi (zzi r7.2 6 (r7.2.1 13)) 7 ((zzi r7.2 6 (r7.2.1 13)).1 14)).1 15))) hD
          refine lv_iconst (v := (0 : Int32)) hx hb dX5_field_108 (by decide) ?_
          refine lv_istore (lv' := [(7, .int (0 : Int32)), (6, .int (((60 : Int32) * p0) + p2)), (5, .int r5), (0, .ref (q 0)), (1, .int p0), (2, .int p1), (3, .int p2), (4, .int p3)]) hx hb dX5_field_109 hl (by decide) rfl (fun ls hl => ?_)
          exact wX5_field_111 l g q p0 p1 p2 p3 x C ret  _ _ hf _ _ _ hP hD hS (lv_sub hl [3, 0] rfl)
        · have hf := zz_t c8 hf
          refine lv_bipush (v := (-100 : Int32)) hx hb dX5_field_73 (by decide) ?_
          refine lv_aload_n hx hb dX5_field_75 rfl (lv_at hl 2 rfl) ?_
          refine va_get (D := g.1) (ci := 5) (v := .int (r7.2.1 12)) (C := RX5) (T := TX5) (N := 29) hx hb hts iX5 hown hK hP 0 rfl rfl 12 (by decide) (zz_mem hts 2 rfl) (fun _ h9 => h9) rfl dX5_field_76 ?_
          refine lv_iload hx hb dX5_field_79 (lv_at hl 0 rfl) ?_
          refine lv_isub hx hb dX5_field_81 ?_
          refine lv_isub hx hb dX5_field_82 ?_
          exact ret _ _ _ _ (((-100 : Int32) - ((r7.2.1 12) - (((60 : Int32) * p0) + p2))), r7.2) hf dX5_field_83 hP hD hS
      · have hf := zz_f c6 hf
        refine lv_aload_n hx hb dX5_field_40 rfl (lv_at hl 1 rfl) ?_
        refine lv_iload hx hb dX5_field_41 (lv_at hl 0 rfl) ?_
        obtain ⟨r22, hc22, hf⟩ := zz_bs hf
        refine zz_cVi C hP hD hS (kX5_fails l g q _ (zzi u 0 (0 : Int32)) r5 r22 hc22) gX5_field_X5_fails mX5_fails (by decide) ⟨Nat.zero_le _, Nat.zero_le _⟩ 0 rfl rfl rfl rfl (rest := []) rfl hl.1 (Nat.le_of_ble_eq_true rfl) dX5_field_43 (fun H locs hP hD hS => ?_)
        exact ret _ _ _ _ (r22.1, r22.2) hf dX5_field_46 hP hD hS
    · have hf := zz_t c4 hf
      refine lv_bipush (v := (-2 : Int32)) hx hb dX5_field_21 (by decide) ?_
      exact ret _ _ _ _ ((-2 : Int32), (zzi u 0 (0 : Int32))) hf dX5_field_23 hP hD hS
  · have hf := zz_t c2 hf
    refine lv_iconst (v := (-1 : Int32)) hx hb dX5_field_12 (by decide) ?_
    exact ret _ _ _ _ ((-1 : Int32), (zzi u 0 (0 : Int32))) hf dX5_field_13 hP hD hS
abbrev rX5_shadeOf : Room := ({ frames := 0, cells := 0, slots := 0, locals := 0 })
theorem mX5_shadeOf : zzM yX5_shadeOf wsX5_shadeOf cX5_shadeOf 4 (some .int) RX5 2 := ⟨⟨_, rfl⟩, by decide +kernel⟩
def fX5_shadeOf (u : zzS) (p0 : Int32) (p1 : Int32) : Option Int32 := (zzga (u.2 10) 5 p0 (fun x2 => (zzga (u.2 8) 5 p0 (fun x4 => (if x4 = (1 : Int32) then (if (x2 * p1) ≤ 0 then (some (0 : Int32)) else (some ((x2 * p1) - (1 : Int32)))) else (zzga (u.2 8) 5 p0 (fun x7 => (if x7 = 0 then (some (x2 * p1)) else (some ((x2 * p1) / (2 : Int32)))))))))))
set_option maxHeartbeats 4000000 in
set_option maxRecDepth 100000 in
theorem kX5_shadeOf (l : Launch) (g : zzG) (q : Nat → Nat) (sz : Nat) (u : zzS) (p0 : Int32) (p1 : Int32) (x : Int32) (hf : fX5_shadeOf u p0 p1 = some x) : zzI l g yX5_shadeOf wsX5_shadeOf rX5_shadeOf [.ref (q 0), .int p0, .int p1] (zzY g q u) (zzY g q u) sz x := by
  refine zz_mi (cc := cX5_shadeOf) (mL := 4) (own := RX5) (fun x : Int32 => x) (fun x : Int32 => (zzY g q u)) x (by decide) rfl rfl (Nat.le_of_ble_eq_true rfl) ?_
  intro p e s m below meth c A Q ls C ret hP hD hS hl
  have hl : lv_has ls 4 [(0, .ref (q 0)), (1, .int p0), (2, .int p1)] := hl
  have hx := C.1.1
  have hb := C.1.2.1
  have hml := C.1.2.2.1
  have hown := C.1.2.2.2.1
  have hts := C.1.2.2.2.2
  have hK := C.2.1
  have iX5 : ∀ w ∈ wsX50, w ∈ wsX5_shadeOf := fun _ h => List.mem_cons_of_mem _ (List.mem_append_right _ h)
  unfold fX5_shadeOf at hf
  refine lv_aload_n hx hb dX5_shadeOf_0 rfl (lv_at hl 0 rfl) ?_
  refine va_get (D := g.1) (ci := 5) (v := .ref (q 10)) (C := RX5) (T := TX5) (N := 29) hx hb hts iX5 hown hK hP 0 rfl rfl 10 (by decide) (zz_mem hts 1 rfl) (fun _ h9 => h9) rfl dX5_shadeOf_1 ?_
  refine lv_iload_n hx hb dX5_shadeOf_4 rfl (lv_at hl 1 rfl) ?_
  obtain ⟨x2, h1, ex2, hf⟩ := zz_gx hf
  refine zz_iald hx hb hK hP 6 0 rfl rfl h1 ex2 dX5_shadeOf_5 ?_
  refine lv_iload_n hx hb dX5_shadeOf_6 rfl (lv_at hl 2 rfl) ?_
  refine lv_imul hx hb dX5_shadeOf_7 ?_
  refine lv_istore_n (lv' := [(3, .int (x2 * p1)), (0, .ref (q 0)), (1, .int p0), (2, .int p1)]) hx hb dX5_shadeOf_8 rfl hl (by decide) rfl (fun ls hl => ?_)
  refine lv_aload_n hx hb dX5_shadeOf_9 rfl (lv_at hl 1 rfl) ?_
  refine va_get (D := g.1) (ci := 5) (v := .ref (q 8)) (C := RX5) (T := TX5) (N := 29) hx hb hts iX5 hown hK hP 0 rfl rfl 8 (by decide) (zz_mem hts 2 rfl) (fun _ h9 => h9) rfl dX5_shadeOf_10 ?_
  refine lv_iload_n hx hb dX5_shadeOf_13 rfl (lv_at hl 2 rfl) ?_
  obtain ⟨x4, h3, ex4, hf⟩ := zz_gx hf
  refine zz_iald hx hb hK hP 4 0 rfl rfl h3 ex4 dX5_shadeOf_14 ?_
  refine lv_iconst (v := (1 : Int32)) hx hb dX5_shadeOf_15 (by decide) ?_
  refine lv_icmp_ne (tgt := 31) hx hb dX5_shadeOf_16 (by decide) (fun c5 => ?_) (fun c5 => ?_)
  · have hf := zz_f c5 hf
    refine lv_aload_n hx hb dX5_shadeOf_31 rfl (lv_at hl 1 rfl) ?_
    refine va_get (D := g.1) (ci := 5) (v := .ref (q 8)) (C := RX5) (T := TX5) (N := 29) hx hb hts iX5 hown hK hP 0 rfl rfl 8 (by decide) (zz_mem hts 2 rfl) (fun _ h9 => h9) rfl dX5_shadeOf_32 ?_
    refine lv_iload_n hx hb dX5_shadeOf_35 rfl (lv_at hl 2 rfl) ?_
    obtain ⟨x7, h6, ex7, hf⟩ := zz_gx hf
    refine zz_iald hx hb hK hP 4 0 rfl rfl h6 ex7 dX5_shadeOf_36 ?_
    refine lv_if_ne (tgt := 44) hx hb dX5_shadeOf_37 (by decide) (fun c8 => ?_) (fun c8 => ?_)
    · have hf := zz_f c8 hf
      refine lv_iload_n hx hb dX5_shadeOf_44 rfl (lv_at hl 0 rfl) ?_
      refine lv_iconst (v := (2 : Int32)) hx hb dX5_shadeOf_45 (by decide) ?_
      have h9 : ¬ (2 : Int32) = 0 := by decide
      refine lv_idiv hx hb dX5_shadeOf_46 h9 ?_
      exact ret _ _ _ _ ((x2 * p1) / (2 : Int32)) hf dX5_shadeOf_47 hP hD hS
    · have hf := zz_t c8 hf
      refine lv_iload_n hx hb dX5_shadeOf_40 rfl (lv_at hl 0 rfl) ?_
      refine lv_goto (tgt := 47) hx hb dX5_shadeOf_41 (by decide) ?_
      exact ret _ _ _ _ (x2 * p1) hf dX5_shadeOf_47 hP hD hS
  · have hf := zz_t c5 hf
    refine lv_iload_n hx hb dX5_shadeOf_19 rfl (lv_at hl 0 rfl) ?_
    refine lv_if_le (tgt := 29) hx hb dX5_shadeOf_20 (by decide) (fun c10 => ?_) (fun c10 => ?_)
    · have hf := zz_t c10 hf
      refine lv_iconst (v := (0 : Int32)) hx hb dX5_shadeOf_29 (by decide) ?_
      exact ret _ _ _ _ (0 : Int32) hf dX5_shadeOf_30 hP hD hS
    · have hf := zz_f c10 hf
      refine lv_iload_n hx hb dX5_shadeOf_23 rfl (lv_at hl 0 rfl) ?_
      refine lv_iconst (v := (1 : Int32)) hx hb dX5_shadeOf_24 (by decide) ?_
      refine lv_isub hx hb dX5_shadeOf_25 ?_
      refine lv_goto (tgt := 30) hx hb dX5_shadeOf_26 (by decide) ?_
      exact ret _ _ _ _ ((x2 * p1) - (1 : Int32)) hf dX5_shadeOf_30 hP hD hS
abbrev rX5_ofStander : Room := ({ frames := 1, cells := 0, slots := 0, locals := 21 })
theorem mX5_ofStander : zzM yX5_ofStander wsX5_ofStander cX5_ofStander 3 (some .int) RX5 2 := ⟨⟨_, rfl⟩, by decide +kernel⟩
def fX5_ofStander (u : zzS) (p0 : Int32) (p1 : Int32) : Option Int32 := ((fX5_isStander u p0).bind (fun r1 => (if r1 = 0 then (some (-1 : Int32)) else (if p1 = 0 then (zzga (u.2 8) 5 p0 (fun x11 => (some x11))) else (if p1 = (1 : Int32) then (zzga (u.2 9) 5 p0 (fun x9 => (some x9))) else (if p1 = (2 : Int32) then (zzga (u.2 10) 5 p0 (fun x7 => (some x7))) else (some (-2 : Int32))))))))
set_option maxHeartbeats 4000000 in
set_option maxRecDepth 100000 in
theorem kX5_ofStander (l : Launch) (g : zzG) (q : Nat → Nat) (sz : Nat) (u : zzS) (p0 : Int32) (p1 : Int32) (x : Int32) (hf : fX5_ofStander u p0 p1 = some x) : zzI l g yX5_ofStander wsX5_ofStander rX5_ofStander [.ref (q 0), .int p0, .int p1] (zzY g q u) (zzY g q u) sz x := by
  refine zz_mi (cc := cX5_ofStander) (mL := 3) (own := RX5) (fun x : Int32 => x) (fun x : Int32 => (zzY g q u)) x (by decide) rfl rfl (Nat.le_of_ble_eq_true rfl) ?_
  intro p e s m below meth c A Q ls C ret hP hD hS hl
  have hl : lv_has ls 3 [(0, .ref (q 0)), (1, .int p0), (2, .int p1)] := hl
  have hx := C.1.1
  have hb := C.1.2.1
  have hml := C.1.2.2.1
  have hown := C.1.2.2.2.1
  have hts := C.1.2.2.2.2
  have hK := C.2.1
  have iX5 : ∀ w ∈ wsX50, w ∈ wsX5_ofStander := fun _ h => List.mem_cons_of_mem _ (List.mem_append_right _ h)
  unfold fX5_ofStander at hf
  refine lv_aload_n hx hb dX5_ofStander_0 rfl (lv_at hl 0 rfl) ?_
  refine lv_iload_n hx hb dX5_ofStander_1 rfl (lv_at hl 1 rfl) ?_
  obtain ⟨r1, hc1, hf⟩ := zz_bs hf
  refine zz_cVz C hP hD hS (kX5_isStander l g q _ u p0 r1 hc1) gX5_ofStander_X5_isStander mX5_isStander (by decide) ⟨Nat.zero_le _, Nat.zero_le _⟩ 0 rfl rfl rfl rfl (rest := []) rfl hl.1 (Nat.le_of_ble_eq_true rfl) dX5_ofStander_2 (fun hz1 H locs hP hD hS => ?_)
  refine lv_if_ne (tgt := 10) hx hb dX5_ofStander_5 (by decide) (fun c2 => ?_) (fun c2 => ?_)
  · have hf := zz_f c2 hf
    refine lv_iload_n hx hb dX5_ofStander_10 rfl (lv_at hl 2 rfl) ?_
    refine lv_if_ne (tgt := 23) hx hb dX5_ofStander_11 (by decide) (fun c3 => ?_) (fun c3 => ?_)
    · have hf := zz_f c3 hf
      refine lv_iload_n hx hb dX5_ofStander_23 rfl (lv_at hl 2 rfl) ?_
      refine lv_iconst (v := (1 : Int32)) hx hb dX5_ofStander_24 (by decide) ?_
      refine lv_icmp_ne (tgt := 37) hx hb dX5_ofStander_25 (by decide) (fun c4 => ?_) (fun c4 => ?_)
      · have hf := zz_f c4 hf
        refine lv_iload_n hx hb dX5_ofStander_37 rfl (lv_at hl 2 rfl) ?_
        refine lv_iconst (v := (2 : Int32)) hx hb dX5_ofStander_38 (by decide) ?_
        refine lv_icmp_ne (tgt := 51) hx hb dX5_ofStander_39 (by decide) (fun c5 => ?_) (fun c5 => ?_)
        · have hf := zz_f c5 hf
          refine lv_bipush (v := (-2 : Int32)) hx hb dX5_ofStander_51 (by decide) ?_
          exact ret _ _ _ _ (-2 : Int32) hf dX5_ofStander_53 hP hD hS
        · have hf := zz_t c5 hf
          refine lv_aload_n hx hb dX5_ofStander_42 rfl (lv_at hl 0 rfl) ?_
          refine va_get (D := g.1) (ci := 5) (v := .ref (q 10)) (C := RX5) (T := TX5) (N := 29) hx hb hts iX5 hown hK hP 0 rfl rfl 10 (by decide) (zz_mem hts 3 rfl) (fun _ h9 => h9) rfl dX5_ofStander_43 ?_
          refine lv_iload_n hx hb dX5_ofStander_46 rfl (lv_at hl 1 rfl) ?_
          obtain ⟨x7, h6, ex7, hf⟩ := zz_gx hf
          refine zz_iald hx hb hK hP 6 0 rfl rfl h6 ex7 dX5_ofStander_47 ?_
          refine lv_goto (tgt := 53) hx hb dX5_ofStander_48 (by decide) ?_
          exact ret _ _ _ _ x7 hf dX5_ofStander_53 hP hD hS
      · have hf := zz_t c4 hf
        refine lv_aload_n hx hb dX5_ofStander_28 rfl (lv_at hl 0 rfl) ?_
        refine va_get (D := g.1) (ci := 5) (v := .ref (q 9)) (C := RX5) (T := TX5) (N := 29) hx hb hts iX5 hown hK hP 0 rfl rfl 9 (by decide) (zz_mem hts 2 rfl) (fun _ h9 => h9) rfl dX5_ofStander_29 ?_
        refine lv_iload_n hx hb dX5_ofStander_32 rfl (lv_at hl 1 rfl) ?_
        obtain ⟨x9, h8, ex9, hf⟩ := zz_gx hf
        refine zz_iald hx hb hK hP 5 0 rfl rfl h8 ex9 dX5_ofStander_33 ?_
        refine lv_goto (tgt := 53) hx hb dX5_ofStander_34 (by decide) ?_
        exact ret _ _ _ _ x9 hf dX5_ofStander_53 hP hD hS
    · have hf := zz_t c3 hf
      refine lv_aload_n hx hb dX5_ofStander_14 rfl (lv_at hl 0 rfl) ?_
      refine va_get (D := g.1) (ci := 5) (v := .ref (q 8)) (C := RX5) (T := TX5) (N := 29) hx hb hts iX5 hown hK hP 0 rfl rfl 8 (by decide) (zz_mem hts 1 rfl) (fun _ h9 => h9) rfl dX5_ofStander_15 ?_
      refine lv_iload_n hx hb dX5_ofStander_18 rfl (lv_at hl 1 rfl) ?_
      obtain ⟨x11, h10, ex11, hf⟩ := zz_gx hf
      refine zz_iald hx hb hK hP 4 0 rfl rfl h10 ex11 dX5_ofStander_19 ?_
      refine lv_goto (tgt := 53) hx hb dX5_ofStander_20 (by decide) ?_
      exact ret _ _ _ _ x11 hf dX5_ofStander_53 hP hD hS
  · have hf := zz_t c2 hf
    refine lv_iconst (v := (-1 : Int32)) hx hb dX5_ofStander_8 (by decide) ?_
    exact ret _ _ _ _ (-1 : Int32) hf dX5_ofStander_9 hP hD hS
abbrev rX5_walk : Room := ({ frames := 2, cells := 0, slots := 0, locals := 42 })
theorem mX5_walk : zzM yX5_walk wsX5_walk cX5_walk 4 (some .int) RX5 2 := ⟨⟨_, rfl⟩, by decide +kernel⟩
def fX5_walk (u : zzS) (p0 : Int32) (p1 : Int32) : Option (Int32 × zzS) := ((fX5_isStander u p0).bind (fun r1 => (if r1 = 0 then (some ((-1 : Int32), u)) else ((fX5_isDigit p1).bind (fun r3 => (if r3 = 0 then (some ((-2 : Int32), u)) else (zzga (u.2 9) 5 p0 (fun x6 => (zzpa 5 p0 (some (x6, (zza u 9 p0.toNatClampNeg p1))))))))))))
set_option maxHeartbeats 4000000 in
set_option maxRecDepth 100000 in
theorem kX5_walk (l : Launch) (g : zzG) (q : Nat → Nat) (sz : Nat) (u : zzS) (p0 : Int32) (p1 : Int32) (x : Int32 × zzS) (hf : fX5_walk u p0 p1 = some x) : zzI l g yX5_walk wsX5_walk rX5_walk [.ref (q 0), .int p0, .int p1] (zzY g q u) (zzY g q x.2) sz x.1 := by
  refine zz_mi (cc := cX5_walk) (mL := 4) (own := RX5) (fun x : Int32 × zzS => x.1) (fun x : Int32 × zzS => (zzY g q x.2)) x (by decide) rfl rfl (Nat.le_of_ble_eq_true rfl) ?_
  intro p e s m below meth c A Q ls C ret hP hD hS hl
  have hl : lv_has ls 4 [(0, .ref (q 0)), (1, .int p0), (2, .int p1)] := hl
  have hx := C.1.1
  have hb := C.1.2.1
  have hml := C.1.2.2.1
  have hown := C.1.2.2.2.1
  have hts := C.1.2.2.2.2
  have hK := C.2.1
  have iX5 : ∀ w ∈ wsX50, w ∈ wsX5_walk := fun _ h => List.mem_cons_of_mem _ (List.mem_append_right _ h)
  unfold fX5_walk at hf
  refine lv_aload_n hx hb dX5_walk_0 rfl (lv_at hl 0 rfl) ?_
  refine lv_iload_n hx hb dX5_walk_1 rfl (lv_at hl 1 rfl) ?_
  obtain ⟨r1, hc1, hf⟩ := zz_bs hf
  refine zz_cVz C hP hD hS (kX5_isStander l g q _ u p0 r1 hc1) gX5_walk_X5_isStander mX5_isStander (by decide) ⟨Nat.zero_le _, Nat.zero_le _⟩ 0 rfl rfl rfl rfl (rest := []) rfl hl.1 (Nat.le_of_ble_eq_true rfl) dX5_walk_2 (fun hz1 H locs hP hD hS => ?_)
  refine lv_if_ne (tgt := 10) hx hb dX5_walk_5 (by decide) (fun c2 => ?_) (fun c2 => ?_)
  · have hf := zz_f c2 hf
    refine lv_iload_n hx hb dX5_walk_10 rfl (lv_at hl 2 rfl) ?_
    obtain ⟨r3, hc3, hf⟩ := zz_bs hf
    refine zz_cSz C hP hD hS (kX5_isDigit l g (zzY g q u) _ p1 r3 hc3) gX5_walk_X5_isDigit mX5_isDigit (by decide) ⟨Nat.zero_le _, Nat.zero_le _⟩ rfl (rest := []) rfl hl.1 (Nat.le_of_ble_eq_true rfl) dX5_walk_11 (fun hz3 H locs hP hD hS => ?_)
    refine lv_if_ne (tgt := 20) hx hb dX5_walk_14 (by decide) (fun c4 => ?_) (fun c4 => ?_)
    · have hf := zz_f c4 hf
      refine lv_aload_n hx hb dX5_walk_20 rfl (lv_at hl 0 rfl) ?_
      refine va_get (D := g.1) (ci := 5) (v := .ref (q 9)) (C := RX5) (T := TX5) (N := 29) hx hb hts iX5 hown hK hP 0 rfl rfl 9 (by decide) (zz_mem hts 1 rfl) (fun _ h9 => h9) rfl dX5_walk_21 ?_
      refine lv_iload_n hx hb dX5_walk_24 rfl (lv_at hl 1 rfl) ?_
      obtain ⟨x6, h5, ex6, hf⟩ := zz_gx hf
      refine zz_iald hx hb hK hP 5 0 rfl rfl h5 ex6 dX5_walk_25 ?_
      refine lv_istore_n (lv' := [(3, .int x6), (0, .ref (q 0)), (1, .int p0), (2, .int p1)]) hx hb dX5_walk_26 rfl hl (by decide) rfl (fun ls hl => ?_)
      refine lv_aload_n hx hb dX5_walk_27 rfl (lv_at hl 1 rfl) ?_
      refine va_get (D := g.1) (ci := 5) (v := .ref (q 9)) (C := RX5) (T := TX5) (N := 29) hx hb hts iX5 hown hK hP 0 rfl rfl 9 (by decide) (zz_mem hts 1 rfl) (fun _ h9 => h9) rfl dX5_walk_28 ?_
      refine lv_iload_n hx hb dX5_walk_31 rfl (lv_at hl 2 rfl) ?_
      refine lv_iload_n hx hb dX5_walk_32 rfl (lv_at hl 3 rfl) ?_
      obtain ⟨h7, hf⟩ := zz_pa hf
      refine va_iast hx hb hK hP hD hS 5 0 rfl rfl h7 dX5_walk_33 (fun H locs hP hD hS => ?_)
      have hP : va_P g.1 vwCl (zzY g q (zza u 9 p0.toNatClampNeg p1)) H := Eq.mp (congrArg (fun w => va_P g.1 vwCl w H) (zya_5 g q u (upd (u.2 9) p0.toNatClampNeg p1))) hP
      have hD : va_D A (zzY g q (zza u 9 p0.toNatClampNeg p1)) := Eq.mp (congrArg (va_D A) (zya_5 g q u (upd (u.2 9) p0.toNatClampNeg p1))) hD
      refine lv_iload_n hx hb dX5_walk_34 rfl (lv_at hl 0 rfl) ?_
      exact ret _ _ _ _ (x6, (zza u 9 p0.toNatClampNeg p1)) hf dX5_walk_35 hP hD hS
    · have hf := zz_t c4 hf
      refine lv_bipush (v := (-2 : Int32)) hx hb dX5_walk_17 (by decide) ?_
      exact ret _ _ _ _ ((-2 : Int32), u) hf dX5_walk_19 hP hD hS
  · have hf := zz_t c2 hf
    refine lv_iconst (v := (-1 : Int32)) hx hb dX5_walk_8 (by decide) ?_
    exact ret _ _ _ _ ((-1 : Int32), u) hf dX5_walk_9 hP hD hS
abbrev rX5_grow : Room := ({ frames := 2, cells := 0, slots := 0, locals := 42 })
theorem mX5_grow : zzM yX5_grow wsX5_grow cX5_grow 4 (some .int) RX5 2 := ⟨⟨_, rfl⟩, by decide +kernel⟩
def fX5_grow (u : zzS) (p0 : Int32) (p1 : Int32) : Option (Int32 × zzS) := ((fX5_isStander u p0).bind (fun r1 => (if r1 = 0 then (some ((-1 : Int32), u)) else ((fX5_isDigit p1).bind (fun r3 => (if r3 = 0 then (some ((-2 : Int32), u)) else (zzga (u.2 10) 5 p0 (fun x6 => (zzpa 5 p0 (some (x6, (zza u 10 p0.toNatClampNeg p1))))))))))))
set_option maxHeartbeats 4000000 in
set_option maxRecDepth 100000 in
theorem kX5_grow (l : Launch) (g : zzG) (q : Nat → Nat) (sz : Nat) (u : zzS) (p0 : Int32) (p1 : Int32) (x : Int32 × zzS) (hf : fX5_grow u p0 p1 = some x) : zzI l g yX5_grow wsX5_grow rX5_grow [.ref (q 0), .int p0, .int p1] (zzY g q u) (zzY g q x.2) sz x.1 := by
  refine zz_mi (cc := cX5_grow) (mL := 4) (own := RX5) (fun x : Int32 × zzS => x.1) (fun x : Int32 × zzS => (zzY g q x.2)) x (by decide) rfl rfl (Nat.le_of_ble_eq_true rfl) ?_
  intro p e s m below meth c A Q ls C ret hP hD hS hl
  have hl : lv_has ls 4 [(0, .ref (q 0)), (1, .int p0), (2, .int p1)] := hl
  have hx := C.1.1
  have hb := C.1.2.1
  have hml := C.1.2.2.1
  have hown := C.1.2.2.2.1
  have hts := C.1.2.2.2.2
  have hK := C.2.1
  have iX5 : ∀ w ∈ wsX50, w ∈ wsX5_grow := fun _ h => List.mem_cons_of_mem _ (List.mem_append_right _ h)
  unfold fX5_grow at hf
  refine lv_aload_n hx hb dX5_grow_0 rfl (lv_at hl 0 rfl) ?_
  refine lv_iload_n hx hb dX5_grow_1 rfl (lv_at hl 1 rfl) ?_
  obtain ⟨r1, hc1, hf⟩ := zz_bs hf
  refine zz_cVz C hP hD hS (kX5_isStander l g q _ u p0 r1 hc1) gX5_grow_X5_isStander mX5_isStander (by decide) ⟨Nat.zero_le _, Nat.zero_le _⟩ 0 rfl rfl rfl rfl (rest := []) rfl hl.1 (Nat.le_of_ble_eq_true rfl) dX5_grow_2 (fun hz1 H locs hP hD hS => ?_)
  refine lv_if_ne (tgt := 10) hx hb dX5_grow_5 (by decide) (fun c2 => ?_) (fun c2 => ?_)
  · have hf := zz_f c2 hf
    refine lv_iload_n hx hb dX5_grow_10 rfl (lv_at hl 2 rfl) ?_
    obtain ⟨r3, hc3, hf⟩ := zz_bs hf
    refine zz_cSz C hP hD hS (kX5_isDigit l g (zzY g q u) _ p1 r3 hc3) gX5_grow_X5_isDigit mX5_isDigit (by decide) ⟨Nat.zero_le _, Nat.zero_le _⟩ rfl (rest := []) rfl hl.1 (Nat.le_of_ble_eq_true rfl) dX5_grow_11 (fun hz3 H locs hP hD hS => ?_)
    refine lv_if_ne (tgt := 20) hx hb dX5_grow_14 (by decide) (fun c4 => ?_) (fun c4 => ?_)
    · have hf := zz_f c4 hf
      refine lv_aload_n hx hb dX5_grow_20 rfl (lv_at hl 0 rfl) ?_
      refine va_get (D := g.1) (ci := 5) (v := .ref (q 10)) (C := RX5) (T := TX5) (N := 29) hx hb hts iX5 hown hK hP 0 rfl rfl 10 (by decide) (zz_mem hts 1 rfl) (fun _ h9 => h9) rfl dX5_grow_21 ?_
      refine lv_iload_n hx hb dX5_grow_24 rfl (lv_at hl 1 rfl) ?_
      obtain ⟨x6, h5, ex6, hf⟩ := zz_gx hf
      refine zz_iald hx hb hK hP 6 0 rfl rfl h5 ex6 dX5_grow_25 ?_
      refine lv_istore_n (lv' := [(3, .int x6), (0, .ref (q 0)), (1, .int p0), (2, .int p1)]) hx hb dX5_grow_26 rfl hl (by decide) rfl (fun ls hl => ?_)
      refine lv_aload_n hx hb dX5_grow_27 rfl (lv_at hl 1 rfl) ?_
      refine va_get (D := g.1) (ci := 5) (v := .ref (q 10)) (C := RX5) (T := TX5) (N := 29) hx hb hts iX5 hown hK hP 0 rfl rfl 10 (by decide) (zz_mem hts 1 rfl) (fun _ h9 => h9) rfl dX5_grow_28 ?_
      refine lv_iload_n hx hb dX5_grow_31 rfl (lv_at hl 2 rfl) ?_
      refine lv_iload_n hx hb dX5_grow_32 rfl (lv_at hl 3 rfl) ?_
      obtain ⟨h7, hf⟩ := zz_pa hf
      refine va_iast hx hb hK hP hD hS 6 0 rfl rfl h7 dX5_grow_33 (fun H locs hP hD hS => ?_)
      have hP : va_P g.1 vwCl (zzY g q (zza u 10 p0.toNatClampNeg p1)) H := Eq.mp (congrArg (fun w => va_P g.1 vwCl w H) (zya_6 g q u (upd (u.2 10) p0.toNatClampNeg p1))) hP
      have hD : va_D A (zzY g q (zza u 10 p0.toNatClampNeg p1)) := Eq.mp (congrArg (va_D A) (zya_6 g q u (upd (u.2 10) p0.toNatClampNeg p1))) hD
      refine lv_iload_n hx hb dX5_grow_34 rfl (lv_at hl 0 rfl) ?_
      exact ret _ _ _ _ (x6, (zza u 10 p0.toNatClampNeg p1)) hf dX5_grow_35 hP hD hS
    · have hf := zz_t c4 hf
      refine lv_bipush (v := (-2 : Int32)) hx hb dX5_grow_17 (by decide) ?_
      exact ret _ _ _ _ ((-2 : Int32), u) hf dX5_grow_19 hP hD hS
  · have hf := zz_t c2 hf
    refine lv_iconst (v := (-1 : Int32)) hx hb dX5_grow_8 (by decide) ?_
    exact ret _ _ _ _ ((-1 : Int32), u) hf dX5_grow_9 hP hD hS
abbrev rX5_build : Room := ({ frames := 2, cells := 0, slots := 0, locals := 42 })
theorem mX5_build : zzM yX5_build wsX5_build cX5_build 3 (some .int) RX5 1 := ⟨⟨_, rfl⟩, by decide +kernel⟩
def fX5_build (u : zzS) (p0 : Int32) : Option (Int32 × zzS) := ((fX5_isDigit p0).bind (fun r1 => (if r1 = 0 then (some ((-2 : Int32), u)) else (if (u.1 5) = 0 then (some ((-3 : Int32), u)) else (some ((u.1 7), (zzi u 7 p0)))))))
set_option maxHeartbeats 4000000 in
set_option maxRecDepth 100000 in
theorem kX5_build (l : Launch) (g : zzG) (q : Nat → Nat) (sz : Nat) (u : zzS) (p0 : Int32) (x : Int32 × zzS) (hf : fX5_build u p0 = some x) : zzI l g yX5_build wsX5_build rX5_build [.ref (q 0), .int p0] (zzY g q u) (zzY g q x.2) sz x.1 := by
  refine zz_mi (cc := cX5_build) (mL := 3) (own := RX5) (fun x : Int32 × zzS => x.1) (fun x : Int32 × zzS => (zzY g q x.2)) x (by decide) rfl rfl (Nat.le_of_ble_eq_true rfl) ?_
  intro p e s m below meth c A Q ls C ret hP hD hS hl
  have hl : lv_has ls 3 [(0, .ref (q 0)), (1, .int p0)] := hl
  have hx := C.1.1
  have hb := C.1.2.1
  have hml := C.1.2.2.1
  have hown := C.1.2.2.2.1
  have hts := C.1.2.2.2.2
  have hK := C.2.1
  have iX5 : ∀ w ∈ wsX50, w ∈ wsX5_build := fun _ h => List.mem_cons_of_mem _ (List.mem_append_right _ h)
  unfold fX5_build at hf
  refine lv_iload_n hx hb dX5_build_0 rfl (lv_at hl 1 rfl) ?_
  obtain ⟨r1, hc1, hf⟩ := zz_bs hf
  refine zz_cSz C hP hD hS (kX5_isDigit l g (zzY g q u) _ p0 r1 hc1) gX5_build_X5_isDigit mX5_isDigit (by decide) ⟨Nat.zero_le _, Nat.zero_le _⟩ rfl (rest := []) rfl hl.1 (Nat.le_of_ble_eq_true rfl) dX5_build_1 (fun hz1 H locs hP hD hS => ?_)
  refine lv_if_ne (tgt := 10) hx hb dX5_build_4 (by decide) (fun c2 => ?_) (fun c2 => ?_)
  · have hf := zz_f c2 hf
    refine lv_aload_n hx hb dX5_build_10 rfl (lv_at hl 0 rfl) ?_
    refine va_get (D := g.1) (ci := 5) (v := .int (u.1 5)) (C := RX5) (T := TX5) (N := 29) hx hb hts iX5 hown hK hP 0 rfl rfl 5 (by decide) (zz_mem hts 1 rfl) (fun _ h9 => h9) rfl dX5_build_11 ?_
    refine lv_if_ne (tgt := 20) hx hb dX5_build_14 (by decide) (fun c3 => ?_) (fun c3 => ?_)
    · have hf := zz_f c3 hf
      refine lv_aload_n hx hb dX5_build_20 rfl (lv_at hl 0 rfl) ?_
      refine va_get (D := g.1) (ci := 5) (v := .int (u.1 7)) (C := RX5) (T := TX5) (N := 29) hx hb hts iX5 hown hK hP 0 rfl rfl 7 (by decide) (zz_mem hts 2 rfl) (fun _ h9 => h9) rfl dX5_build_21 ?_
      refine lv_istore_n (lv' := [(2, .int (u.1 7)), (0, .ref (q 0)), (1, .int p0)]) hx hb dX5_build_24 rfl hl (by decide) rfl (fun ls hl => ?_)
      refine lv_aload_n hx hb dX5_build_25 rfl (lv_at hl 1 rfl) ?_
      refine lv_iload_n hx hb dX5_build_26 rfl (lv_at hl 2 rfl) ?_
      refine va_put (D := g.1) (ci := 5) (v := .int p0) (ty := .int) (C := RX5) (T := TX5) (N := 29) hx hb hts iX5 tyX5 tyX5_ok nmX5 hown hK hP hD hS 0 rfl rfl 7 (by decide) (zz_mem hts 2 rfl) (fun _ h9 => h9) rfl (tyX5_ok 7 (by decide)) rfl rfl (Nat.le_of_ble_eq_true rfl) dX5_build_27 (fun H locs hP hD hS => ?_)
      have hP : va_P g.1 vwCl (zzY g q (zzi u 7 p0)) H := Eq.mp (congrArg (fun w => va_P g.1 vwCl w H) (zyo_0_7 g q u p0)) hP
      have hD : va_D A (zzY g q (zzi u 7 p0)) := Eq.mp (congrArg (va_D A) (zyo_0_7 g q u p0)) hD
      refine lv_iload_n hx hb dX5_build_30 rfl (lv_at hl 0 rfl) ?_
      exact ret _ _ _ _ ((u.1 7), (zzi u 7 p0)) hf dX5_build_31 hP hD hS
    · have hf := zz_t c3 hf
      refine lv_bipush (v := (-3 : Int32)) hx hb dX5_build_17 (by decide) ?_
      exact ret _ _ _ _ ((-3 : Int32), u) hf dX5_build_19 hP hD hS
  · have hf := zz_t c2 hf
    refine lv_bipush (v := (-2 : Int32)) hx hb dX5_build_7 (by decide) ?_
    exact ret _ _ _ _ ((-2 : Int32), u) hf dX5_build_9 hP hD hS
abbrev rX5_shade : Room := ({ frames := 2, cells := 0, slots := 0, locals := 42 })
theorem mX5_shade : zzM yX5_shade wsX5_shade cX5_shade 3 (some .int) RX5 2 := ⟨⟨_, rfl⟩, by decide +kernel⟩
def fX5_shade (u : zzS) (p0 : Int32) (p1 : Int32) : Option Int32 := ((fX5_isStander u p0).bind (fun r1 => (if r1 = 0 then (some (-1 : Int32)) else ((fX5_isSun p1).bind (fun r3 => (if r3 = 0 then (some (-2 : Int32)) else ((fX5_shadeOf u p0 p1).bind (fun r5 => (some r5)))))))))
set_option maxHeartbeats 4000000 in
set_option maxRecDepth 100000 in
theorem kX5_shade (l : Launch) (g : zzG) (q : Nat → Nat) (sz : Nat) (u : zzS) (p0 : Int32) (p1 : Int32) (x : Int32) (hf : fX5_shade u p0 p1 = some x) : zzI l g yX5_shade wsX5_shade rX5_shade [.ref (q 0), .int p0, .int p1] (zzY g q u) (zzY g q u) sz x := by
  refine zz_mi (cc := cX5_shade) (mL := 3) (own := RX5) (fun x : Int32 => x) (fun x : Int32 => (zzY g q u)) x (by decide) rfl rfl (Nat.le_of_ble_eq_true rfl) ?_
  intro p e s m below meth c A Q ls C ret hP hD hS hl
  have hl : lv_has ls 3 [(0, .ref (q 0)), (1, .int p0), (2, .int p1)] := hl
  have hx := C.1.1
  have hb := C.1.2.1
  have hml := C.1.2.2.1
  have hown := C.1.2.2.2.1
  have hts := C.1.2.2.2.2
  have hK := C.2.1
  have iX5 : ∀ w ∈ wsX50, w ∈ wsX5_shade := fun _ h => List.mem_cons_of_mem _ (List.mem_append_right _ h)
  unfold fX5_shade at hf
  refine lv_aload_n hx hb dX5_shade_0 rfl (lv_at hl 0 rfl) ?_
  refine lv_iload_n hx hb dX5_shade_1 rfl (lv_at hl 1 rfl) ?_
  obtain ⟨r1, hc1, hf⟩ := zz_bs hf
  refine zz_cVz C hP hD hS (kX5_isStander l g q _ u p0 r1 hc1) gX5_shade_X5_isStander mX5_isStander (by decide) ⟨Nat.zero_le _, Nat.zero_le _⟩ 0 rfl rfl rfl rfl (rest := []) rfl hl.1 (Nat.le_of_ble_eq_true rfl) dX5_shade_2 (fun hz1 H locs hP hD hS => ?_)
  refine lv_if_ne (tgt := 10) hx hb dX5_shade_5 (by decide) (fun c2 => ?_) (fun c2 => ?_)
  · have hf := zz_f c2 hf
    refine lv_iload_n hx hb dX5_shade_10 rfl (lv_at hl 2 rfl) ?_
    obtain ⟨r3, hc3, hf⟩ := zz_bs hf
    refine zz_cSz C hP hD hS (kX5_isSun l g (zzY g q u) _ p1 r3 hc3) gX5_shade_X5_isSun mX5_isSun (by decide) ⟨Nat.zero_le _, Nat.zero_le _⟩ rfl (rest := []) rfl hl.1 (Nat.le_of_ble_eq_true rfl) dX5_shade_11 (fun hz3 H locs hP hD hS => ?_)
    refine lv_if_eq (tgt := 26) hx hb dX5_shade_14 (by decide) (fun c4 => ?_) (fun c4 => ?_)
    · have hf := zz_t c4 hf
      refine lv_bipush (v := (-2 : Int32)) hx hb dX5_shade_26 (by decide) ?_
      exact ret _ _ _ _ (-2 : Int32) hf dX5_shade_28 hP hD hS
    · have hf := zz_f c4 hf
      refine lv_aload_n hx hb dX5_shade_17 rfl (lv_at hl 0 rfl) ?_
      refine lv_iload_n hx hb dX5_shade_18 rfl (lv_at hl 1 rfl) ?_
      refine lv_iload_n hx hb dX5_shade_19 rfl (lv_at hl 2 rfl) ?_
      obtain ⟨r5, hc5, hf⟩ := zz_bs hf
      refine zz_cVi C hP hD hS (kX5_shadeOf l g q _ u p0 p1 r5 hc5) gX5_shade_X5_shadeOf mX5_shadeOf (by decide) ⟨Nat.zero_le _, Nat.zero_le _⟩ 0 rfl rfl rfl rfl (rest := []) rfl hl.1 (Nat.le_of_ble_eq_true rfl) dX5_shade_20 (fun H locs hP hD hS => ?_)
      refine lv_goto (tgt := 28) hx hb dX5_shade_23 (by decide) ?_
      exact ret _ _ _ _ r5 hf dX5_shade_28 hP hD hS
  · have hf := zz_t c2 hf
    refine lv_iconst (v := (-1 : Int32)) hx hb dX5_shade_8 (by decide) ?_
    exact ret _ _ _ _ (-1 : Int32) hf dX5_shade_9 hP hD hS
abbrev rX5_isHidden : Room := ({ frames := 0, cells := 0, slots := 0, locals := 0 })
theorem mX5_isHidden : zzM yX5_isHidden wsX5_isHidden cX5_isHidden 3 (some .boolean) RX5 2 := ⟨⟨_, rfl⟩, by decide +kernel⟩
def fX5_isHidden (u : zzS) (p0 : Int32) (p1 : Int32) : Option Int32 := (zzga (u.2 9) 5 p0 (fun x2 => (if ((u.1 7) * p1) ≤ x2 then (some (0 : Int32)) else (some (1 : Int32)))))
set_option maxHeartbeats 4000000 in
set_option maxRecDepth 100000 in
theorem kX5_isHidden (l : Launch) (g : zzG) (q : Nat → Nat) (sz : Nat) (u : zzS) (p0 : Int32) (p1 : Int32) (x : Int32) (hf : fX5_isHidden u p0 p1 = some x) : zzZ l g yX5_isHidden wsX5_isHidden rX5_isHidden [.ref (q 0), .int p0, .int p1] (zzY g q u) (zzY g q u) sz x := by
  refine zz_mz (cc := cX5_isHidden) (mL := 3) (own := RX5) (fun x : Int32 => x) (fun x : Int32 => (zzY g q u)) x (by decide) rfl rfl (Nat.le_of_ble_eq_true rfl) ?_
  intro p e s m below meth c A Q ls C ret hP hD hS hl
  have hl : lv_has ls 3 [(0, .ref (q 0)), (1, .int p0), (2, .int p1)] := hl
  have hx := C.1.1
  have hb := C.1.2.1
  have hml := C.1.2.2.1
  have hown := C.1.2.2.2.1
  have hts := C.1.2.2.2.2
  have hK := C.2.1
  have iX5 : ∀ w ∈ wsX50, w ∈ wsX5_isHidden := fun _ h => List.mem_cons_of_mem _ (List.mem_append_right _ h)
  unfold fX5_isHidden at hf
  refine lv_aload_n hx hb dX5_isHidden_0 rfl (lv_at hl 0 rfl) ?_
  refine va_get (D := g.1) (ci := 5) (v := .ref (q 9)) (C := RX5) (T := TX5) (N := 29) hx hb hts iX5 hown hK hP 0 rfl rfl 9 (by decide) (zz_mem hts 1 rfl) (fun _ h9 => h9) rfl dX5_isHidden_1 ?_
  refine lv_iload_n hx hb dX5_isHidden_4 rfl (lv_at hl 1 rfl) ?_
  obtain ⟨x2, h1, ex2, hf⟩ := zz_gx hf
  refine zz_iald hx hb hK hP 5 0 rfl rfl h1 ex2 dX5_isHidden_5 ?_
  refine lv_aload_n hx hb dX5_isHidden_6 rfl (lv_at hl 0 rfl) ?_
  refine va_get (D := g.1) (ci := 5) (v := .int (u.1 7)) (C := RX5) (T := TX5) (N := 29) hx hb hts iX5 hown hK hP 0 rfl rfl 7 (by decide) (zz_mem hts 2 rfl) (fun _ h9 => h9) rfl dX5_isHidden_7 ?_
  refine lv_iload_n hx hb dX5_isHidden_10 rfl (lv_at hl 2 rfl) ?_
  refine lv_imul hx hb dX5_isHidden_11 ?_
  refine lv_icmp_ge (tgt := 19) hx hb dX5_isHidden_12 (by decide) (fun c3 => ?_) (fun c3 => ?_)
  · have hf := zz_t c3 hf
    refine lv_iconst (v := (0 : Int32)) hx hb dX5_isHidden_19 (by decide) ?_
    exact ret _ _ _ _ (0 : Int32) hf dX5_isHidden_20 zz_n0 hP hD hS
  · have hf := zz_f c3 hf
    refine lv_iconst (v := (1 : Int32)) hx hb dX5_isHidden_15 (by decide) ?_
    refine lv_goto (tgt := 20) hx hb dX5_isHidden_16 (by decide) ?_
    exact ret _ _ _ _ (1 : Int32) hf dX5_isHidden_20 zz_n1 hP hD hS
abbrev rX5_darken : Room := ({ frames := 1, cells := 0, slots := 0, locals := 23 })
theorem mX5_darken : zzM yX5_darken wsX5_darken cX5_darken 5 none RX5 1 := ⟨⟨_, rfl⟩, by decide +kernel⟩
def sX5_darken_65 (p0 : Int32) (rec6 : (Int32 × zzS) → Option zzS) (v10 : Int32 × Int32 × zzS) : (Int32 × zzS) → ((Int32 × zzS) → Option zzS) → Option zzS := fun v13 rec14 => (if v10.2.1 = 0 then (rec6 ((v10.1 + (1 : Int32)), v13.2)) else (zzga (v13.2.2 9) 5 v10.1 (fun x18 => ((fX5_shadeOf v13.2 v10.1 p0).bind (fun r19 => (if (x18 + r19) < v13.1 then (rec6 ((v10.1 + (1 : Int32)), v13.2)) else (zzpa 40 v13.1 (rec14 ((v13.1 + (1 : Int32)), (zza v13.2 19 v13.1.toNatClampNeg (vp_nar .boolean (1 : Int32))))))))))))
set_option maxHeartbeats 4000000 in
set_option maxRecDepth 100000 in
theorem wX5_darken_65 (l : Launch) (g : zzG) (q : Nat → Nat) (p0 : Int32) (rec6 : (Int32 × zzS) → Option zzS) (v10 : Int32 × Int32 × zzS) (x : zzS) {p : Program} {e : Env} {s : State} {m : MethodId} {below : List Frame} {meth : Method} {c : Code} {A : Nat → Prop} {Q : State → Prop} (C : zzC g p s m ([.ref (q 0), .int p0] : List Value).toArray c cX5_darken 5 RX5 wsX5_darken A) (ret : zzRV l g rX5_darken cX5_darken [.ref (q 0), .int p0] (fun x : zzS => (zzY g q x)) x p e s m below meth c A Q) (ih7 : ∀ (vv : Int32 × zzS), rec6 vv = some x → ∀ (H : Heap) (locs : List Loc) (ls : Array Slot), va_P g.1 vwCl (zzY g q vv.2) H → va_D A (zzY g q vv.2) → va_S A s.heap H locs → lv_has ls 5 [(0, .ref (q 0)), (1, .int p0), (2, .int (vv.1))] → W p l e rX5_darken s m ([.ref (q 0), .int p0] : List Value).toArray below meth c H locs 0 0 Q (F0 m 23 ls [])) (n : Nat) (v13 : Int32 × zzS) (hf : zzlp (sX5_darken_65 p0 rec6 v10) n v13 = some x) : ∀ (H : Heap) (locs : List Loc) (ls : Array Slot), va_P g.1 vwCl (zzY g q v13.2) H → va_D A (zzY g q v13.2) → va_S A s.heap H locs → lv_has ls 5 [(0, .ref (q 0)), (1, .int p0), (2, .int (v10.1)), (3, .int (v10.2.1)), (4, .int (v13.1))] → W p l e rX5_darken s m ([.ref (q 0), .int p0] : List Value).toArray below meth c H locs 0 0 Q (F0 m 65 ls []) := by
  have hx := C.1.1
  have hb := C.1.2.1
  have hml := C.1.2.2.1
  have hown := C.1.2.2.2.1
  have hts := C.1.2.2.2.2
  have hK := C.2.1
  have iX5 : ∀ w ∈ wsX50, w ∈ wsX5_darken := fun _ h => List.mem_cons_of_mem _ (List.mem_append_right _ h)
  refine zz_lp (P := fun (v13 : Int32 × zzS) => ∀ (H : Heap) (locs : List Loc) (ls : Array Slot), va_P g.1 vwCl (zzY g q v13.2) H → va_D A (zzY g q v13.2) → va_S A s.heap H locs → lv_has ls 5 [(0, .ref (q 0)), (1, .int p0), (2, .int (v10.1)), (3, .int (v10.2.1)), (4, .int (v13.1))] → W p l e rX5_darken s m ([.ref (q 0), .int p0] : List Value).toArray below meth c H locs 0 0 Q (F0 m 65 ls [])) (fun v13 rec14 ih15 hf H locs ls hP hD hS hl => ?_) n v13 hf
  unfold sX5_darken_65 at hf
  refine lv_iload_n hx hb dX5_darken_65 rfl (lv_at hl 3 rfl) ?_
  refine lv_if_eq (tgt := 101) hx hb dX5_darken_66 (by decide) (fun c16 => ?_) (fun c16 => ?_)
  · have hf := zz_t c16 hf
    refine lv_iinc (v := (v10.1 + (1 : Int32))) (lv' := [(2, .int (v10.1 + (1 : Int32))), (0, .ref (q 0)), (1, .int p0), (3, .int (v10.2.1)), (4, .int (v13.1))]) hx hb dX5_darken_101 hl (k := 2) rfl rfl (by decide) rfl (fun ls hl => ?_)
    refine lv_goto (tgt := 23) hx hb dX5_darken_104 (by decide) ?_
    exact ih7 _ hf _ _ _ hP hD hS (lv_sub hl [1, 2, 0] rfl)
  · have hf := zz_f c16 hf
    refine lv_iload hx hb dX5_darken_69 (lv_at hl 4 rfl) ?_
    refine lv_aload_n hx hb dX5_darken_71 rfl (lv_at hl 0 rfl) ?_
    refine va_get (D := g.1) (ci := 5) (v := .ref (q 9)) (C := RX5) (T := TX5) (N := 29) hx hb hts iX5 hown hK hP 0 rfl rfl 9 (by decide) (zz_mem hts 4 rfl) (fun _ h9 => h9) rfl dX5_darken_72 ?_
    refine lv_iload_n hx hb dX5_darken_75 rfl (lv_at hl 2 rfl) ?_
    obtain ⟨x18, h17, ex18, hf⟩ := zz_gx hf
    refine zz_iald hx hb hK hP 5 0 rfl rfl h17 ex18 dX5_darken_76 ?_
    refine lv_aload_n hx hb dX5_darken_77 rfl (lv_at hl 0 rfl) ?_
    refine lv_iload_n hx hb dX5_darken_78 rfl (lv_at hl 2 rfl) ?_
    refine lv_iload_n hx hb dX5_darken_79 rfl (lv_at hl 1 rfl) ?_
    obtain ⟨r19, hc19, hf⟩ := zz_bs hf
    refine zz_cVi C hP hD hS (kX5_shadeOf l g q _ v13.2 v10.1 p0 r19 hc19) gX5_darken_X5_shadeOf mX5_shadeOf (by decide) ⟨Nat.zero_le _, Nat.zero_le _⟩ 0 rfl rfl rfl rfl (rest := [.int x18, .int (v13.1)]) rfl hl.1 (Nat.le_of_ble_eq_true rfl) dX5_darken_80 (fun H locs hP hD hS => ?_)
    refine lv_iadd hx hb dX5_darken_83 ?_
    refine lv_icmp_gt (tgt := 101) hx hb dX5_darken_84 (by decide) (fun c20 => ?_) (fun c20 => ?_)
    · have hf := zz_t c20 hf
      refine lv_iinc (v := (v10.1 + (1 : Int32))) (lv' := [(2, .int (v10.1 + (1 : Int32))), (0, .ref (q 0)), (1, .int p0), (3, .int (v10.2.1)), (4, .int (v13.1))]) hx hb dX5_darken_101 hl (k := 2) rfl rfl (by decide) rfl (fun ls hl => ?_)
      refine lv_goto (tgt := 23) hx hb dX5_darken_104 (by decide) ?_
      exact ih7 _ hf _ _ _ hP hD hS (lv_sub hl [1, 2, 0] rfl)
    · have hf := zz_f c20 hf
      refine lv_aload_n hx hb dX5_darken_87 rfl (lv_at hl 0 rfl) ?_
      refine va_get (D := g.1) (ci := 5) (v := .ref (q 19)) (C := RX5) (T := TX5) (N := 29) hx hb hts iX5 hown hK hP 0 rfl rfl 19 (by decide) (zz_mem hts 1 rfl) (fun _ h9 => h9) rfl dX5_darken_88 ?_
      refine lv_iload hx hb dX5_darken_91 (lv_at hl 4 rfl) ?_
      refine lv_iconst (v := (1 : Int32)) hx hb dX5_darken_93 (by decide) ?_
      obtain ⟨h21, hf⟩ := zz_pa hf
      refine va_zast hx hb hK hP hD hS 10 1 rfl rfl h21 dX5_darken_94 (fun H locs hP hD hS => ?_)
      have hP : va_P g.1 vwCl (zzY g q (zza v13.2 19 v13.1.toNatClampNeg (vp_nar .boolean (1 : Int32)))) H := Eq.mp (congrArg (fun w => va_P g.1 vwCl w H) (zya_10 g q v13.2 (upd (v13.2.2 19) v13.1.toNatClampNeg (vp_nar .boolean (1 : Int32))))) hP
      have hD : va_D A (zzY g q (zza v13.2 19 v13.1.toNatClampNeg (vp_nar .boolean (1 : Int32)))) := Eq.mp (congrArg (va_D A) (zya_10 g q v13.2 (upd (v13.2.2 19) v13.1.toNatClampNeg (vp_nar .boolean (1 : Int32))))) hD
      refine lv_iinc (v := (v13.1 + (1 : Int32))) (lv' := [(4, .int (v13.1 + (1 : Int32))), (0, .ref (q 0)), (1, .int p0), (2, .int (v10.1)), (3, .int (v10.2.1))]) hx hb dX5_darken_95 hl (k := 4) rfl rfl (by decide) rfl (fun ls hl => ?_)
      refine lv_goto (tgt := 65) hx hb dX5_darken_98 (by decide) ?_
      exact ih15 _ hf _ _ _ hP hD hS (lv_sub hl [1, 2, 3, 4, 0] rfl)
def sX5_darken_56 (p0 : Int32) (rec6 : (Int32 × zzS) → Option zzS) (v10 : Int32 × Int32 × zzS) : Option zzS := (zzga (v10.2.2.2 9) 5 v10.1 (fun x12 => (zzlp (sX5_darken_65 p0 rec6 v10) zzFU (x12, v10.2.2))))
set_option maxHeartbeats 4000000 in
set_option maxRecDepth 100000 in
theorem wX5_darken_56 (l : Launch) (g : zzG) (q : Nat → Nat) (p0 : Int32) (rec6 : (Int32 × zzS) → Option zzS) (x : zzS) {p : Program} {e : Env} {s : State} {m : MethodId} {below : List Frame} {meth : Method} {c : Code} {A : Nat → Prop} {Q : State → Prop} (C : zzC g p s m ([.ref (q 0), .int p0] : List Value).toArray c cX5_darken 5 RX5 wsX5_darken A) (ret : zzRV l g rX5_darken cX5_darken [.ref (q 0), .int p0] (fun x : zzS => (zzY g q x)) x p e s m below meth c A Q) (ih7 : ∀ (vv : Int32 × zzS), rec6 vv = some x → ∀ (H : Heap) (locs : List Loc) (ls : Array Slot), va_P g.1 vwCl (zzY g q vv.2) H → va_D A (zzY g q vv.2) → va_S A s.heap H locs → lv_has ls 5 [(0, .ref (q 0)), (1, .int p0), (2, .int (vv.1))] → W p l e rX5_darken s m ([.ref (q 0), .int p0] : List Value).toArray below meth c H locs 0 0 Q (F0 m 23 ls [])) (v10 : Int32 × Int32 × zzS) (hf : sX5_darken_56 p0 rec6 v10 = some x) (H : Heap) (locs : List Loc) (ls : Array Slot) (hP : va_P g.1 vwCl (zzY g q v10.2.2) H) (hD : va_D A (zzY g q v10.2.2)) (hS : va_S A s.heap H locs) (hl : lv_has ls 5 [(0, .ref (q 0)), (1, .int p0), (2, .int (v10.1))]) : W p l e rX5_darken s m ([.ref (q 0), .int p0] : List Value).toArray below meth c H locs 0 0 Q (F0 m 56 ls [.int (v10.2.1)]) := by
  have hx := C.1.1
  have hb := C.1.2.1
  have hml := C.1.2.2.1
  have hown := C.1.2.2.2.1
  have hts := C.1.2.2.2.2
  have hK := C.2.1
  have iX5 : ∀ w ∈ wsX50, w ∈ wsX5_darken := fun _ h => List.mem_cons_of_mem _ (List.mem_append_right _ h)
  unfold sX5_darken_56 at hf
  refine lv_istore_n (lv' := [(3, .int (v10.2.1)), (0, .ref (q 0)), (1, .int p0), (2, .int (v10.1))]) hx hb dX5_darken_56 rfl hl (by decide) rfl (fun ls hl => ?_)
  refine lv_aload_n hx hb dX5_darken_57 rfl (lv_at hl 1 rfl) ?_
  refine va_get (D := g.1) (ci := 5) (v := .ref (q 9)) (C := RX5) (T := TX5) (N := 29) hx hb hts iX5 hown hK hP 0 rfl rfl 9 (by decide) (zz_mem hts 4 rfl) (fun _ h9 => h9) rfl dX5_darken_58 ?_
  refine lv_iload_n hx hb dX5_darken_61 rfl (lv_at hl 3 rfl) ?_
  obtain ⟨x12, h11, ex12, hf⟩ := zz_gx hf
  refine zz_iald hx hb hK hP 5 0 rfl rfl h11 ex12 dX5_darken_62 ?_
  refine lv_istore (lv' := [(4, .int x12), (3, .int (v10.2.1)), (0, .ref (q 0)), (1, .int p0), (2, .int (v10.1))]) hx hb dX5_darken_63 hl (by decide) rfl (fun ls hl => ?_)
  exact wX5_darken_65 l g q p0 rec6 v10 x C ret ih7 _ _ hf _ _ _ hP hD hS (lv_sub hl [2, 3, 4, 1, 0] rfl)
def sX5_darken_23 (p0 : Int32) : (Int32 × zzS) → ((Int32 × zzS) → Option zzS) → Option zzS := fun v5 rec6 => (if (v5.2.1 5) ≤ v5.1 then (some v5.2) else (if (((v5.2.1 11) >>> (v5.1 &&& 31)) &&& (1 : Int32)) = 0 then ((fX5_isHidden v5.2 v5.1 p0).bind (fun r22 => (if r22 = 0 then (sX5_darken_56 p0 rec6 (v5.1, (1 : Int32), v5.2)) else (sX5_darken_56 p0 rec6 (v5.1, (0 : Int32), v5.2))))) else (sX5_darken_56 p0 rec6 (v5.1, (0 : Int32), v5.2))))
set_option maxHeartbeats 4000000 in
set_option maxRecDepth 100000 in
theorem wX5_darken_23 (l : Launch) (g : zzG) (q : Nat → Nat) (p0 : Int32) (x : zzS) {p : Program} {e : Env} {s : State} {m : MethodId} {below : List Frame} {meth : Method} {c : Code} {A : Nat → Prop} {Q : State → Prop} (C : zzC g p s m ([.ref (q 0), .int p0] : List Value).toArray c cX5_darken 5 RX5 wsX5_darken A) (ret : zzRV l g rX5_darken cX5_darken [.ref (q 0), .int p0] (fun x : zzS => (zzY g q x)) x p e s m below meth c A Q)  (n : Nat) (v5 : Int32 × zzS) (hf : zzlp (sX5_darken_23 p0) n v5 = some x) : ∀ (H : Heap) (locs : List Loc) (ls : Array Slot), va_P g.1 vwCl (zzY g q v5.2) H → va_D A (zzY g q v5.2) → va_S A s.heap H locs → lv_has ls 5 [(0, .ref (q 0)), (1, .int p0), (2, .int (v5.1))] → W p l e rX5_darken s m ([.ref (q 0), .int p0] : List Value).toArray below meth c H locs 0 0 Q (F0 m 23 ls []) := by
  have hx := C.1.1
  have hb := C.1.2.1
  have hml := C.1.2.2.1
  have hown := C.1.2.2.2.1
  have hts := C.1.2.2.2.2
  have hK := C.2.1
  have iX5 : ∀ w ∈ wsX50, w ∈ wsX5_darken := fun _ h => List.mem_cons_of_mem _ (List.mem_append_right _ h)
  refine zz_lp (P := fun (v5 : Int32 × zzS) => ∀ (H : Heap) (locs : List Loc) (ls : Array Slot), va_P g.1 vwCl (zzY g q v5.2) H → va_D A (zzY g q v5.2) → va_S A s.heap H locs → lv_has ls 5 [(0, .ref (q 0)), (1, .int p0), (2, .int (v5.1))] → W p l e rX5_darken s m ([.ref (q 0), .int p0] : List Value).toArray below meth c H locs 0 0 Q (F0 m 23 ls [])) (fun v5 rec6 ih7 hf H locs ls hP hD hS hl => ?_) n v5 hf
  unfold sX5_darken_23 at hf
  refine lv_iload_n hx hb dX5_darken_23 rfl (lv_at hl 2 rfl) ?_
  refine lv_aload_n hx hb dX5_darken_24 rfl (lv_at hl 0 rfl) ?_
  refine va_get (D := g.1) (ci := 5) (v := .int (v5.2.1 5)) (C := RX5) (T := TX5) (N := 29) hx hb hts iX5 hown hK hP 0 rfl rfl 5 (by decide) (zz_mem hts 2 rfl) (fun _ h9 => h9) rfl dX5_darken_25 ?_
  refine lv_icmp_ge (tgt := 107) hx hb dX5_darken_28 (by decide) (fun c8 => ?_) (fun c8 => ?_)
  · have hf := zz_t c8 hf
    exact ret _ _ _ _ v5.2 hf dX5_darken_107 hP hD hS
  · have hf := zz_f c8 hf
    refine lv_aload_n hx hb dX5_darken_31 rfl (lv_at hl 0 rfl) ?_
    refine va_get (D := g.1) (ci := 5) (v := .int (v5.2.1 11)) (C := RX5) (T := TX5) (N := 29) hx hb hts iX5 hown hK hP 0 rfl rfl 11 (by decide) (zz_mem hts 3 rfl) (fun _ h9 => h9) rfl dX5_darken_32 ?_
    refine lv_iload_n hx hb dX5_darken_35 rfl (lv_at hl 2 rfl) ?_
    refine lv_ishr hx hb dX5_darken_36 ?_
    refine lv_iconst (v := (1 : Int32)) hx hb dX5_darken_37 (by decide) ?_
    refine lv_iand hx hb dX5_darken_38 ?_
    refine lv_if_ne (tgt := 55) hx hb dX5_darken_39 (by decide) (fun c9 => ?_) (fun c9 => ?_)
    · have hf := zz_f c9 hf
      refine lv_iconst (v := (0 : Int32)) hx hb dX5_darken_55 (by decide) ?_
      exact wX5_darken_56 l g q p0 rec6 x C ret ih7 (v5.1, (0 : Int32), v5.2) hf _ _ _ hP hD hS (lv_sub hl [0, 1, 2] rfl)
    · have hf := zz_t c9 hf
      refine lv_aload_n hx hb dX5_darken_42 rfl (lv_at hl 0 rfl) ?_
      refine lv_iload_n hx hb dX5_darken_43 rfl (lv_at hl 2 rfl) ?_
      refine lv_iload_n hx hb dX5_darken_44 rfl (lv_at hl 1 rfl) ?_
      obtain ⟨r22, hc22, hf⟩ := zz_bs hf
      refine zz_cVz C hP hD hS (kX5_isHidden l g q _ v5.2 v5.1 p0 r22 hc22) gX5_darken_X5_isHidden mX5_isHidden (by decide) ⟨Nat.zero_le _, Nat.zero_le _⟩ 0 rfl rfl rfl rfl (rest := []) rfl hl.1 (Nat.le_of_ble_eq_true rfl) dX5_darken_45 (fun hz22 H locs hP hD hS => ?_)
      refine lv_if_ne (tgt := 55) hx hb dX5_darken_48 (by decide) (fun c23 => ?_) (fun c23 => ?_)
      · have hf := zz_f c23 hf
        refine lv_iconst (v := (0 : Int32)) hx hb dX5_darken_55 (by decide) ?_
        exact wX5_darken_56 l g q p0 rec6 x C ret ih7 (v5.1, (0 : Int32), v5.2) hf _ _ _ hP hD hS (lv_sub hl [0, 1, 2] rfl)
      · have hf := zz_t c23 hf
        refine lv_iconst (v := (1 : Int32)) hx hb dX5_darken_51 (by decide) ?_
        refine lv_goto (tgt := 56) hx hb dX5_darken_52 (by decide) ?_
        exact wX5_darken_56 l g q p0 rec6 x C ret ih7 (v5.1, (1 : Int32), v5.2) hf _ _ _ hP hD hS (lv_sub hl [0, 1, 2] rfl)
def sX5_darken_2 (p0 : Int32) : (Int32 × zzS) → ((Int32 × zzS) → Option zzS) → Option zzS := fun v1 rec2 => (if (40 : Int32) ≤ v1.1 then (zzlp (sX5_darken_23 p0) zzFU ((0 : Int32), v1.2)) else (zzpa 40 v1.1 (rec2 ((v1.1 + (1 : Int32)), (zza v1.2 19 v1.1.toNatClampNeg (vp_nar .boolean (0 : Int32)))))))
set_option maxHeartbeats 4000000 in
set_option maxRecDepth 100000 in
theorem wX5_darken_2 (l : Launch) (g : zzG) (q : Nat → Nat) (p0 : Int32) (x : zzS) {p : Program} {e : Env} {s : State} {m : MethodId} {below : List Frame} {meth : Method} {c : Code} {A : Nat → Prop} {Q : State → Prop} (C : zzC g p s m ([.ref (q 0), .int p0] : List Value).toArray c cX5_darken 5 RX5 wsX5_darken A) (ret : zzRV l g rX5_darken cX5_darken [.ref (q 0), .int p0] (fun x : zzS => (zzY g q x)) x p e s m below meth c A Q)  (n : Nat) (v1 : Int32 × zzS) (hf : zzlp (sX5_darken_2 p0) n v1 = some x) : ∀ (H : Heap) (locs : List Loc) (ls : Array Slot), va_P g.1 vwCl (zzY g q v1.2) H → va_D A (zzY g q v1.2) → va_S A s.heap H locs → lv_has ls 5 [(0, .ref (q 0)), (1, .int p0), (2, .int (v1.1))] → W p l e rX5_darken s m ([.ref (q 0), .int p0] : List Value).toArray below meth c H locs 0 0 Q (F0 m 2 ls []) := by
  have hx := C.1.1
  have hb := C.1.2.1
  have hml := C.1.2.2.1
  have hown := C.1.2.2.2.1
  have hts := C.1.2.2.2.2
  have hK := C.2.1
  have iX5 : ∀ w ∈ wsX50, w ∈ wsX5_darken := fun _ h => List.mem_cons_of_mem _ (List.mem_append_right _ h)
  refine zz_lp (P := fun (v1 : Int32 × zzS) => ∀ (H : Heap) (locs : List Loc) (ls : Array Slot), va_P g.1 vwCl (zzY g q v1.2) H → va_D A (zzY g q v1.2) → va_S A s.heap H locs → lv_has ls 5 [(0, .ref (q 0)), (1, .int p0), (2, .int (v1.1))] → W p l e rX5_darken s m ([.ref (q 0), .int p0] : List Value).toArray below meth c H locs 0 0 Q (F0 m 2 ls [])) (fun v1 rec2 ih3 hf H locs ls hP hD hS hl => ?_) n v1 hf
  unfold sX5_darken_2 at hf
  refine lv_iload_n hx hb dX5_darken_2 rfl (lv_at hl 2 rfl) ?_
  refine lv_bipush (v := (40 : Int32)) hx hb dX5_darken_3 (by decide) ?_
  refine lv_icmp_ge (tgt := 21) hx hb dX5_darken_5 (by decide) (fun c4 => ?_) (fun c4 => ?_)
  · have hf := zz_t c4 hf
    refine lv_iconst (v := (0 : Int32)) hx hb dX5_darken_21 (by decide) ?_
    refine lv_istore_n (lv' := [(2, .int (0 : Int32)), (0, .ref (q 0)), (1, .int p0)]) hx hb dX5_darken_22 rfl hl (by decide) rfl (fun ls hl => ?_)
    exact wX5_darken_23 l g q p0 x C ret  _ _ hf _ _ _ hP hD hS (lv_sub hl [1, 2, 0] rfl)
  · have hf := zz_f c4 hf
    refine lv_aload_n hx hb dX5_darken_8 rfl (lv_at hl 0 rfl) ?_
    refine va_get (D := g.1) (ci := 5) (v := .ref (q 19)) (C := RX5) (T := TX5) (N := 29) hx hb hts iX5 hown hK hP 0 rfl rfl 19 (by decide) (zz_mem hts 1 rfl) (fun _ h9 => h9) rfl dX5_darken_9 ?_
    refine lv_iload_n hx hb dX5_darken_12 rfl (lv_at hl 2 rfl) ?_
    refine lv_iconst (v := (0 : Int32)) hx hb dX5_darken_13 (by decide) ?_
    obtain ⟨h24, hf⟩ := zz_pa hf
    refine va_zast hx hb hK hP hD hS 10 1 rfl rfl h24 dX5_darken_14 (fun H locs hP hD hS => ?_)
    have hP : va_P g.1 vwCl (zzY g q (zza v1.2 19 v1.1.toNatClampNeg (vp_nar .boolean (0 : Int32)))) H := Eq.mp (congrArg (fun w => va_P g.1 vwCl w H) (zya_10 g q v1.2 (upd (v1.2.2 19) v1.1.toNatClampNeg (vp_nar .boolean (0 : Int32))))) hP
    have hD : va_D A (zzY g q (zza v1.2 19 v1.1.toNatClampNeg (vp_nar .boolean (0 : Int32)))) := Eq.mp (congrArg (va_D A) (zya_10 g q v1.2 (upd (v1.2.2 19) v1.1.toNatClampNeg (vp_nar .boolean (0 : Int32))))) hD
    refine lv_iinc (v := (v1.1 + (1 : Int32))) (lv' := [(2, .int (v1.1 + (1 : Int32))), (0, .ref (q 0)), (1, .int p0)]) hx hb dX5_darken_15 hl (k := 2) rfl rfl (by decide) rfl (fun ls hl => ?_)
    refine lv_goto (tgt := 2) hx hb dX5_darken_18 (by decide) ?_
    exact ih3 _ hf _ _ _ hP hD hS (lv_sub hl [1, 2, 0] rfl)
def fX5_darken (u : zzS) (p0 : Int32) : Option zzS := (zzlp (sX5_darken_2 p0) zzFU ((0 : Int32), u))
set_option maxHeartbeats 4000000 in
set_option maxRecDepth 100000 in
theorem kX5_darken (l : Launch) (g : zzG) (q : Nat → Nat) (sz : Nat) (u : zzS) (p0 : Int32) (x : zzS) (hf : fX5_darken u p0 = some x) : zzV l g yX5_darken wsX5_darken rX5_darken [.ref (q 0), .int p0] (zzY g q u) (zzY g q x) sz := by
  refine zz_mv (cc := cX5_darken) (mL := 5) (own := RX5) (fun x : zzS => (zzY g q x)) x (by decide) rfl rfl (Nat.le_of_ble_eq_true rfl) ?_
  intro p e s m below meth c A Q ls C ret hP hD hS hl
  have hl : lv_has ls 5 [(0, .ref (q 0)), (1, .int p0)] := hl
  have hx := C.1.1
  have hb := C.1.2.1
  have hml := C.1.2.2.1
  have hown := C.1.2.2.2.1
  have hts := C.1.2.2.2.2
  have hK := C.2.1
  have iX5 : ∀ w ∈ wsX50, w ∈ wsX5_darken := fun _ h => List.mem_cons_of_mem _ (List.mem_append_right _ h)
  unfold fX5_darken at hf
  refine lv_iconst (v := (0 : Int32)) hx hb dX5_darken_0 (by decide) ?_
  refine lv_istore_n (lv' := [(2, .int (0 : Int32)), (0, .ref (q 0)), (1, .int p0)]) hx hb dX5_darken_1 rfl hl (by decide) rfl (fun ls hl => ?_)
  exact wX5_darken_2 l g q p0 x C ret  _ _ hf _ _ _ hP hD hS (lv_sub hl [1, 2, 0] rfl)
abbrev rX5_endRun : Room := ({ frames := 0, cells := 0, slots := 0, locals := 0 })
theorem mX5_endRun : zzM yX5_endRun wsX5_endRun cX5_endRun 2 none RX5 1 := ⟨⟨_, rfl⟩, by decide +kernel⟩
def fX5_endRun (u : zzS) (p0 : Int32) : Option zzS := (if p0 = 0 then (some u) else (zznz (u.1 6) (zznz (u.1 6) (if (p0 - p0 / (u.1 6) * (u.1 6)) ≤ 0 then (if p0 ≤ ((zzi (zzi u 20 ((u.1 20) + ((p0 / (u.1 6)) + (0 : Int32)))) 21 (((zzi u 20 ((u.1 20) + ((p0 / (u.1 6)) + (0 : Int32)))).1 21) + (1 : Int32))).1 22) then (some (zzi (zzi (zzi u 20 ((u.1 20) + ((p0 / (u.1 6)) + (0 : Int32)))) 21 (((zzi u 20 ((u.1 20) + ((p0 / (u.1 6)) + (0 : Int32)))).1 21) + (1 : Int32))) 22 ((zzi (zzi u 20 ((u.1 20) + ((p0 / (u.1 6)) + (0 : Int32)))) 21 (((zzi u 20 ((u.1 20) + ((p0 / (u.1 6)) + (0 : Int32)))).1 21) + (1 : Int32))).1 22))) else (some (zzi (zzi (zzi u 20 ((u.1 20) + ((p0 / (u.1 6)) + (0 : Int32)))) 21 (((zzi u 20 ((u.1 20) + ((p0 / (u.1 6)) + (0 : Int32)))).1 21) + (1 : Int32))) 22 p0))) else (if p0 ≤ ((zzi (zzi u 20 ((u.1 20) + ((p0 / (u.1 6)) + (1 : Int32)))) 21 (((zzi u 20 ((u.1 20) + ((p0 / (u.1 6)) + (1 : Int32)))).1 21) + (1 : Int32))).1 22) then (some (zzi (zzi (zzi u 20 ((u.1 20) + ((p0 / (u.1 6)) + (1 : Int32)))) 21 (((zzi u 20 ((u.1 20) + ((p0 / (u.1 6)) + (1 : Int32)))).1 21) + (1 : Int32))) 22 ((zzi (zzi u 20 ((u.1 20) + ((p0 / (u.1 6)) + (1 : Int32)))) 21 (((zzi u 20 ((u.1 20) + ((p0 / (u.1 6)) + (1 : Int32)))).1 21) + (1 : Int32))).1 22))) else (some (zzi (zzi (zzi u 20 ((u.1 20) + ((p0 / (u.1 6)) + (1 : Int32)))) 21 (((zzi u 20 ((u.1 20) + ((p0 / (u.1 6)) + (1 : Int32)))).1 21) + (1 : Int32))) 22 p0)))))))
set_option maxHeartbeats 4000000 in
set_option maxRecDepth 100000 in
theorem kX5_endRun (l : Launch) (g : zzG) (q : Nat → Nat) (sz : Nat) (u : zzS) (p0 : Int32) (x : zzS) (hf : fX5_endRun u p0 = some x) : zzV l g yX5_endRun wsX5_endRun rX5_endRun [.ref (q 0), .int p0] (zzY g q u) (zzY g q x) sz := by
  refine zz_mv (cc := cX5_endRun) (mL := 2) (own := RX5) (fun x : zzS => (zzY g q x)) x (by decide) rfl rfl (Nat.le_of_ble_eq_true rfl) ?_
  intro p e s m below meth c A Q ls C ret hP hD hS hl
  have hl : lv_has ls 2 [(0, .ref (q 0)), (1, .int p0)] := hl
  have hx := C.1.1
  have hb := C.1.2.1
  have hml := C.1.2.2.1
  have hown := C.1.2.2.2.1
  have hts := C.1.2.2.2.2
  have hK := C.2.1
  have iX5 : ∀ w ∈ wsX50, w ∈ wsX5_endRun := fun _ h => List.mem_cons_of_mem _ (List.mem_append_right _ h)
  unfold fX5_endRun at hf
  refine lv_iload_n hx hb dX5_endRun_0 rfl (lv_at hl 1 rfl) ?_
  refine lv_if_ne (tgt := 5) hx hb dX5_endRun_1 (by decide) (fun c1 => ?_) (fun c1 => ?_)
  · have hf := zz_f c1 hf
    refine lv_aload_n hx hb dX5_endRun_5 rfl (lv_at hl 0 rfl) ?_
    refine lv_dup hx hb dX5_endRun_6 rfl ?_
    refine va_get (D := g.1) (ci := 5) (v := .int (u.1 20)) (C := RX5) (T := TX5) (N := 29) hx hb hts iX5 hown hK hP 0 rfl rfl 20 (by decide) (zz_mem hts 1 rfl) (fun _ h9 => h9) rfl dX5_endRun_7 ?_
    refine lv_iload_n hx hb dX5_endRun_10 rfl (lv_at hl 1 rfl) ?_
    refine lv_aload_n hx hb dX5_endRun_11 rfl (lv_at hl 0 rfl) ?_
    refine va_get (D := g.1) (ci := 5) (v := .int (u.1 6)) (C := RX5) (T := TX5) (N := 29) hx hb hts iX5 hown hK hP 0 rfl rfl 6 (by decide) (zz_mem hts 2 rfl) (fun _ h9 => h9) rfl dX5_endRun_12 ?_
    obtain ⟨h2, hf⟩ := zz_nz hf
    refine lv_idiv hx hb dX5_endRun_15 h2 ?_
    refine lv_iload_n hx hb dX5_endRun_16 rfl (lv_at hl 1 rfl) ?_
    refine lv_aload_n hx hb dX5_endRun_17 rfl (lv_at hl 0 rfl) ?_
    refine va_get (D := g.1) (ci := 5) (v := .int (u.1 6)) (C := RX5) (T := TX5) (N := 29) hx hb hts iX5 hown hK hP 0 rfl rfl 6 (by decide) (zz_mem hts 2 rfl) (fun _ h9 => h9) rfl dX5_endRun_18 ?_
    obtain ⟨h3, hf⟩ := zz_nz hf
    refine lv_irem hx hb dX5_endRun_21 h3 ?_
    refine lv_if_le (tgt := 29) hx hb dX5_endRun_22 (by decide) (fun c4 => ?_) (fun c4 => ?_)
    · have hf := zz_t c4 hf
      refine lv_iconst (v := (0 : Int32)) hx hb dX5_endRun_29 (by decide) ?_
      refine lv_iadd hx hb dX5_endRun_30 ?_
      refine lv_iadd hx hb dX5_endRun_31 ?_
      refine va_put (D := g.1) (ci := 5) (v := .int ((u.1 20) + ((p0 / (u.1 6)) + (0 : Int32)))) (ty := .int) (C := RX5) (T := TX5) (N := 29) hx hb hts iX5 tyX5 tyX5_ok nmX5 hown hK hP hD hS 0 rfl rfl 20 (by decide) (zz_mem hts 1 rfl) (fun _ h9 => h9) rfl (tyX5_ok 20 (by decide)) rfl rfl (Nat.le_of_ble_eq_true rfl) dX5_endRun_32 (fun H locs hP hD hS => ?_)
      have hP : va_P g.1 vwCl (zzY g q (zzi u 20 ((u.1 20) + ((p0 / (u.1 6)) + (0 : Int32))))) H := Eq.mp (congrArg (fun w => va_P g.1 vwCl w H) (zyo_0_20 g q u ((u.1 20) + ((p0 / (u.1 6)) + (0 : Int32))))) hP
      have hD : va_D A (zzY g q (zzi u 20 ((u.1 20) + ((p0 / (u.1 6)) + (0 : Int32))))) := Eq.mp (congrArg (va_D A) (zyo_0_20 g q u ((u.1 20) + ((p0 / (u.1 6)) + (0 : Int32))))) hD
      refine lv_aload_n hx hb dX5_endRun_35 rfl (lv_at hl 0 rfl) ?_
      refine lv_dup hx hb dX5_endRun_36 rfl ?_
      refine va_get (D := g.1) (ci := 5) (v := .int ((zzi u 20 ((u.1 20) + ((p0 / (u.1 6)) + (0 : Int32)))).1 21)) (C := RX5) (T := TX5) (N := 29) hx hb hts iX5 hown hK hP 0 rfl rfl 21 (by decide) (zz_mem hts 3 rfl) (fun _ h9 => h9) rfl dX5_endRun_37 ?_
      refine lv_iconst (v := (1 : Int32)) hx hb dX5_endRun_40 (by decide) ?_
      refine lv_iadd hx hb dX5_endRun_41 ?_
      refine va_put (D := g.1) (ci := 5) (v := .int (((zzi u 20 ((u.1 20) + ((p0 / (u.1 6)) + (0 : Int32)))).1 21) + (1 : Int32))) (ty := .int) (C := RX5) (T := TX5) (N := 29) hx hb hts iX5 tyX5 tyX5_ok nmX5 hown hK hP hD hS 0 rfl rfl 21 (by decide) (zz_mem hts 3 rfl) (fun _ h9 => h9) rfl (tyX5_ok 21 (by decide)) rfl rfl (Nat.le_of_ble_eq_true rfl) dX5_endRun_42 (fun H locs hP hD hS => ?_)
      have hP : va_P g.1 vwCl (zzY g q (zzi (zzi u 20 ((u.1 20) + ((p0 / (u.1 6)) + (0 : Int32)))) 21 (((zzi u 20 ((u.1 20) + ((p0 / (u.1 6)) + (0 : Int32)))).1 21) + (1 : Int32)))) H := Eq.mp (congrArg (fun w => va_P g.1 vwCl w H) (zyo_0_21 g q (zzi u 20 ((u.1 20) + ((p0 / (u.1 6)) + (0 : Int32)))) (((zzi u 20 ((u.1 20) + ((p0 / (u.1 6)) + (0 : Int32)))).1 21) + (1 : Int32)))) hP
      have hD : va_D A (zzY g q (zzi (zzi u 20 ((u.1 20) + ((p0 / (u.1 6)) + (0 : Int32)))) 21 (((zzi u 20 ((u.1 20) + ((p0 / (u.1 6)) + (0 : Int32)))).1 21) + (1 : Int32)))) := Eq.mp (congrArg (va_D A) (zyo_0_21 g q (zzi u 20 ((u.1 20) + ((p0 / (u.1 6)) + (0 : Int32)))) (((zzi u 20 ((u.1 20) + ((p0 / (u.1 6)) + (0 : Int32)))).1 21) + (1 : Int32)))) hD
      refine lv_aload_n hx hb dX5_endRun_45 rfl (lv_at hl 0 rfl) ?_
      refine lv_iload_n hx hb dX5_endRun_46 rfl (lv_at hl 1 rfl) ?_
      refine lv_aload_n hx hb dX5_endRun_47 rfl (lv_at hl 0 rfl) ?_
      refine va_get (D := g.1) (ci := 5) (v := .int ((zzi (zzi u 20 ((u.1 20) + ((p0 / (u.1 6)) + (0 : Int32)))) 21 (((zzi u 20 ((u.1 20) + ((p0 / (u.1 6)) + (0 : Int32)))).1 21) + (1 : Int32))).1 22)) (C := RX5) (T := TX5) (N := 29) hx hb hts iX5 hown hK hP 0 rfl rfl 22 (by decide) (zz_mem hts 4 rfl) (fun _ h9 => h9) rfl dX5_endRun_48 ?_
      refine lv_icmp_le (tgt := 58) hx hb dX5_endRun_51 (by decide) (fun c5 => ?_) (fun c5 => ?_)
      · have hf := zz_t c5 hf
        refine lv_aload_n hx hb dX5_endRun_58 rfl (lv_at hl 0 rfl) ?_
        refine va_get (D := g.1) (ci := 5) (v := .int ((zzi (zzi u 20 ((u.1 20) + ((p0 / (u.1 6)) + (0 : Int32)))) 21 (((zzi u 20 ((u.1 20) + ((p0 / (u.1 6)) + (0 : Int32)))).1 21) + (1 : Int32))).1 22)) (C := RX5) (T := TX5) (N := 29) hx hb hts iX5 hown hK hP 0 rfl rfl 22 (by decide) (zz_mem hts 4 rfl) (fun _ h9 => h9) rfl dX5_endRun_59 ?_
        refine va_put (D := g.1) (ci := 5) (v := .int ((zzi (zzi u 20 ((u.1 20) + ((p0 / (u.1 6)) + (0 : Int32)))) 21 (((zzi u 20 ((u.1 20) + ((p0 / (u.1 6)) + (0 : Int32)))).1 21) + (1 : Int32))).1 22)) (ty := .int) (C := RX5) (T := TX5) (N := 29) hx hb hts iX5 tyX5 tyX5_ok nmX5 hown hK hP hD hS 0 rfl rfl 22 (by decide) (zz_mem hts 4 rfl) (fun _ h9 => h9) rfl (tyX5_ok 22 (by decide)) rfl rfl (Nat.le_of_ble_eq_true rfl) dX5_endRun_62 (fun H locs hP hD hS => ?_)
        have hP : va_P g.1 vwCl (zzY g q (zzi (zzi (zzi u 20 ((u.1 20) + ((p0 / (u.1 6)) + (0 : Int32)))) 21 (((zzi u 20 ((u.1 20) + ((p0 / (u.1 6)) + (0 : Int32)))).1 21) + (1 : Int32))) 22 ((zzi (zzi u 20 ((u.1 20) + ((p0 / (u.1 6)) + (0 : Int32)))) 21 (((zzi u 20 ((u.1 20) + ((p0 / (u.1 6)) + (0 : Int32)))).1 21) + (1 : Int32))).1 22))) H := Eq.mp (congrArg (fun w => va_P g.1 vwCl w H) (zyo_0_22 g q (zzi (zzi u 20 ((u.1 20) + ((p0 / (u.1 6)) + (0 : Int32)))) 21 (((zzi u 20 ((u.1 20) + ((p0 / (u.1 6)) + (0 : Int32)))).1 21) + (1 : Int32))) ((zzi (zzi u 20 ((u.1 20) + ((p0 / (u.1 6)) + (0 : Int32)))) 21 (((zzi u 20 ((u.1 20) + ((p0 / (u.1 6)) + (0 : Int32)))).1 21) + (1 : Int32))).1 22))) hP
        have hD : va_D A (zzY g q (zzi (zzi (zzi u 20 ((u.1 20) + ((p0 / (u.1 6)) + (0 : Int32)))) 21 (((zzi u 20 ((u.1 20) + ((p0 / (u.1 6)) + (0 : Int32)))).1 21) + (1 : Int32))) 22 ((zzi (zzi u 20 ((u.1 20) + ((p0 / (u.1 6)) + (0 : Int32)))) 21 (((zzi u 20 ((u.1 20) + ((p0 / (u.1 6)) + (0 : Int32)))).1 21) + (1 : Int32))).1 22))) := Eq.mp (congrArg (va_D A) (zyo_0_22 g q (zzi (zzi u 20 ((u.1 20) + ((p0 / (u.1 6)) + (0 : Int32)))) 21 (((zzi u 20 ((u.1 20) + ((p0 / (u.1 6)) + (0 : Int32)))).1 21) + (1 : Int32))) ((zzi (zzi u 20 ((u.1 20) + ((p0 / (u.1 6)) + (0 : Int32)))) 21 (((zzi u 20 ((u.1 20) + ((p0 / (u.1 6)) + (0 : Int32)))).1 21) + (1 : Int32))).1 22))) hD
        exact ret _ _ _ _ (zzi (zzi (zzi u 20 ((u.1 20) + ((p0 / (u.1 6)) + (0 : Int32)))) 21 (((zzi u 20 ((u.1 20) + ((p0 / (u.1 6)) + (0 : Int32)))).1 21) + (1 : Int32))) 22 ((zzi (zzi u 20 ((u.1 20) + ((p0 / (u.1 6)) + (0 : Int32)))) 21 (((zzi u 20 ((u.1 20) + ((p0 / (u.1 6)) + (0 : Int32)))).1 21) + (1 : Int32))).1 22)) hf dX5_endRun_65 hP hD hS
      · have hf := zz_f c5 hf
        refine lv_iload_n hx hb dX5_endRun_54 rfl (lv_at hl 1 rfl) ?_
        refine lv_goto (tgt := 62) hx hb dX5_endRun_55 (by decide) ?_
        refine va_put (D := g.1) (ci := 5) (v := .int p0) (ty := .int) (C := RX5) (T := TX5) (N := 29) hx hb hts iX5 tyX5 tyX5_ok nmX5 hown hK hP hD hS 0 rfl rfl 22 (by decide) (zz_mem hts 4 rfl) (fun _ h9 => h9) rfl (tyX5_ok 22 (by decide)) rfl rfl (Nat.le_of_ble_eq_true rfl) dX5_endRun_62 (fun H locs hP hD hS => ?_)
        have hP : va_P g.1 vwCl (zzY g q (zzi (zzi (zzi u 20 ((u.1 20) + ((p0 / (u.1 6)) + (0 : Int32)))) 21 (((zzi u 20 ((u.1 20) + ((p0 / (u.1 6)) + (0 : Int32)))).1 21) + (1 : Int32))) 22 p0)) H := Eq.mp (congrArg (fun w => va_P g.1 vwCl w H) (zyo_0_22 g q (zzi (zzi u 20 ((u.1 20) + ((p0 / (u.1 6)) + (0 : Int32)))) 21 (((zzi u 20 ((u.1 20) + ((p0 / (u.1 6)) + (0 : Int32)))).1 21) + (1 : Int32))) p0)) hP
        have hD : va_D A (zzY g q (zzi (zzi (zzi u 20 ((u.1 20) + ((p0 / (u.1 6)) + (0 : Int32)))) 21 (((zzi u 20 ((u.1 20) + ((p0 / (u.1 6)) + (0 : Int32)))).1 21) + (1 : Int32))) 22 p0)) := Eq.mp (congrArg (va_D A) (zyo_0_22 g q (zzi (zzi u 20 ((u.1 20) + ((p0 / (u.1 6)) + (0 : Int32)))) 21 (((zzi u 20 ((u.1 20) + ((p0 / (u.1 6)) + (0 : Int32)))).1 21) + (1 : Int32))) p0)) hD
        exact ret _ _ _ _ (zzi (zzi (zzi u 20 ((u.1 20) + ((p0 / (u.1 6)) + (0 : Int32)))) 21 (((zzi u 20 ((u.1 20) + ((p0 / (u.1 6)) + (0 : Int32)))).1 21) + (1 : Int32))) 22 p0) hf dX5_endRun_65 hP hD hS
    · have hf := zz_f c4 hf
      refine lv_iconst (v := (1 : Int32)) hx hb dX5_endRun_25 (by decide) ?_
      refine lv_goto (tgt := 30) hx hb dX5_endRun_26 (by decide) ?_
      refine lv_iadd hx hb dX5_endRun_30 ?_
      refine lv_iadd hx hb dX5_endRun_31 ?_
      refine va_put (D := g.1) (ci := 5) (v := .int ((u.1 20) + ((p0 / (u.1 6)) + (1 : Int32)))) (ty := .int) (C := RX5) (T := TX5) (N := 29) hx hb hts iX5 tyX5 tyX5_ok nmX5 hown hK hP hD hS 0 rfl rfl 20 (by decide) (zz_mem hts 1 rfl) (fun _ h9 => h9) rfl (tyX5_ok 20 (by decide)) rfl rfl (Nat.le_of_ble_eq_true rfl) dX5_endRun_32 (fun H locs hP hD hS => ?_)
      have hP : va_P g.1 vwCl (zzY g q (zzi u 20 ((u.1 20) + ((p0 / (u.1 6)) + (1 : Int32))))) H := Eq.mp (congrArg (fun w => va_P g.1 vwCl w H) (zyo_0_20 g q u ((u.1 20) + ((p0 / (u.1 6)) + (1 : Int32))))) hP
      have hD : va_D A (zzY g q (zzi u 20 ((u.1 20) + ((p0 / (u.1 6)) + (1 : Int32))))) := Eq.mp (congrArg (va_D A) (zyo_0_20 g q u ((u.1 20) + ((p0 / (u.1 6)) + (1 : Int32))))) hD
      refine lv_aload_n hx hb dX5_endRun_35 rfl (lv_at hl 0 rfl) ?_
      refine lv_dup hx hb dX5_endRun_36 rfl ?_
      refine va_get (D := g.1) (ci := 5) (v := .int ((zzi u 20 ((u.1 20) + ((p0 / (u.1 6)) + (1 : Int32)))).1 21)) (C := RX5) (T := TX5) (N := 29) hx hb hts iX5 hown hK hP 0 rfl rfl 21 (by decide) (zz_mem hts 3 rfl) (fun _ h9 => h9) rfl dX5_endRun_37 ?_
      refine lv_iconst (v := (1 : Int32)) hx hb dX5_endRun_40 (by decide) ?_
      refine lv_iadd hx hb dX5_endRun_41 ?_
      refine va_put (D := g.1) (ci := 5) (v := .int (((zzi u 20 ((u.1 20) + ((p0 / (u.1 6)) + (1 : Int32)))).1 21) + (1 : Int32))) (ty := .int) (C := RX5) (T := TX5) (N := 29) hx hb hts iX5 tyX5 tyX5_ok nmX5 hown hK hP hD hS 0 rfl rfl 21 (by decide) (zz_mem hts 3 rfl) (fun _ h9 => h9) rfl (tyX5_ok 21 (by decide)) rfl rfl (Nat.le_of_ble_eq_true rfl) dX5_endRun_42 (fun H locs hP hD hS => ?_)
      have hP : va_P g.1 vwCl (zzY g q (zzi (zzi u 20 ((u.1 20) + ((p0 / (u.1 6)) + (1 : Int32)))) 21 (((zzi u 20 ((u.1 20) + ((p0 / (u.1 6)) + (1 : Int32)))).1 21) + (1 : Int32)))) H := Eq.mp (congrArg (fun w => va_P g.1 vwCl w H) (zyo_0_21 g q (zzi u 20 ((u.1 20) + ((p0 / (u.1 6)) + (1 : Int32)))) (((zzi u 20 ((u.1 20) + ((p0 / (u.1 6)) + (1 : Int32)))).1 21) + (1 : Int32)))) hP
      have hD : va_D A (zzY g q (zzi (zzi u 20 ((u.1 20) + ((p0 / (u.1 6)) + (1 : Int32)))) 21 (((zzi u 20 ((u.1 20) + ((p0 / (u.1 6)) + (1 : Int32)))).1 21) + (1 : Int32)))) := Eq.mp (congrArg (va_D A) (zyo_0_21 g q (zzi u 20 ((u.1 20) + ((p0 / (u.1 6)) + (1 : Int32)))) (((zzi u 20 ((u.1 20) + ((p0 / (u.1 6)) + (1 : Int32)))).1 21) + (1 : Int32)))) hD
      refine lv_aload_n hx hb dX5_endRun_45 rfl (lv_at hl 0 rfl) ?_
      refine lv_iload_n hx hb dX5_endRun_46 rfl (lv_at hl 1 rfl) ?_
      refine lv_aload_n hx hb dX5_endRun_47 rfl (lv_at hl 0 rfl) ?_
      refine va_get (D := g.1) (ci := 5) (v := .int ((zzi (zzi u 20 ((u.1 20) + ((p0 / (u.1 6)) + (1 : Int32)))) 21 (((zzi u 20 ((u.1 20) + ((p0 / (u.1 6)) + (1 : Int32)))).1 21) + (1 : Int32))).1 22)) (C := RX5) (T := TX5) (N := 29) hx hb hts iX5 hown hK hP 0 rfl rfl 22 (by decide) (zz_mem hts 4 rfl) (fun _ h9 => h9) rfl dX5_endRun_48 ?_
      refine lv_icmp_le (tgt := 58) hx hb dX5_endRun_51 (by decide) (fun c6 => ?_) (fun c6 => ?_)
      · have hf := zz_t c6 hf
        refine lv_aload_n hx hb dX5_endRun_58 rfl (lv_at hl 0 rfl) ?_
        refine va_get (D := g.1) (ci := 5) (v := .int ((zzi (zzi u 20 ((u.1 20) + ((p0 / (u.1 6)) + (1 : Int32)))) 21 (((zzi u 20 ((u.1 20) + ((p0 / (u.1 6)) + (1 : Int32)))).1 21) + (1 : Int32))).1 22)) (C := RX5) (T := TX5) (N := 29) hx hb hts iX5 hown hK hP 0 rfl rfl 22 (by decide) (zz_mem hts 4 rfl) (fun _ h9 => h9) rfl dX5_endRun_59 ?_
        refine va_put (D := g.1) (ci := 5) (v := .int ((zzi (zzi u 20 ((u.1 20) + ((p0 / (u.1 6)) + (1 : Int32)))) 21 (((zzi u 20 ((u.1 20) + ((p0 / (u.1 6)) + (1 : Int32)))).1 21) + (1 : Int32))).1 22)) (ty := .int) (C := RX5) (T := TX5) (N := 29) hx hb hts iX5 tyX5 tyX5_ok nmX5 hown hK hP hD hS 0 rfl rfl 22 (by decide) (zz_mem hts 4 rfl) (fun _ h9 => h9) rfl (tyX5_ok 22 (by decide)) rfl rfl (Nat.le_of_ble_eq_true rfl) dX5_endRun_62 (fun H locs hP hD hS => ?_)
        have hP : va_P g.1 vwCl (zzY g q (zzi (zzi (zzi u 20 ((u.1 20) + ((p0 / (u.1 6)) + (1 : Int32)))) 21 (((zzi u 20 ((u.1 20) + ((p0 / (u.1 6)) + (1 : Int32)))).1 21) + (1 : Int32))) 22 ((zzi (zzi u 20 ((u.1 20) + ((p0 / (u.1 6)) + (1 : Int32)))) 21 (((zzi u 20 ((u.1 20) + ((p0 / (u.1 6)) + (1 : Int32)))).1 21) + (1 : Int32))).1 22))) H := Eq.mp (congrArg (fun w => va_P g.1 vwCl w H) (zyo_0_22 g q (zzi (zzi u 20 ((u.1 20) + ((p0 / (u.1 6)) + (1 : Int32)))) 21 (((zzi u 20 ((u.1 20) + ((p0 / (u.1 6)) + (1 : Int32)))).1 21) + (1 : Int32))) ((zzi (zzi u 20 ((u.1 20) + ((p0 / (u.1 6)) + (1 : Int32)))) 21 (((zzi u 20 ((u.1 20) + ((p0 / (u.1 6)) + (1 : Int32)))).1 21) + (1 : Int32))).1 22))) hP
        have hD : va_D A (zzY g q (zzi (zzi (zzi u 20 ((u.1 20) + ((p0 / (u.1 6)) + (1 : Int32)))) 21 (((zzi u 20 ((u.1 20) + ((p0 / (u.1 6)) + (1 : Int32)))).1 21) + (1 : Int32))) 22 ((zzi (zzi u 20 ((u.1 20) + ((p0 / (u.1 6)) + (1 : Int32)))) 21 (((zzi u 20 ((u.1 20) + ((p0 / (u.1 6)) + (1 : Int32)))).1 21) + (1 : Int32))).1 22))) := Eq.mp (congrArg (va_D A) (zyo_0_22 g q (zzi (zzi u 20 ((u.1 20) + ((p0 / (u.1 6)) + (1 : Int32)))) 21 (((zzi u 20 ((u.1 20) + ((p0 / (u.1 6)) + (1 : Int32)))).1 21) + (1 : Int32))) ((zzi (zzi u 20 ((u.1 20) + ((p0 / (u.1 6)) + (1 : Int32)))) 21 (((zzi u 20 ((u.1 20) + ((p0 / (u.1 6)) + (1 : Int32)))).1 21) + (1 : Int32))).1 22))) hD
        exact ret _ _ _ _ (zzi (zzi (zzi u 20 ((u.1 20) + ((p0 / (u.1 6)) + (1 : Int32)))) 21 (((zzi u 20 ((u.1 20) + ((p0 / (u.1 6)) + (1 : Int32)))).1 21) + (1 : Int32))) 22 ((zzi (zzi u 20 ((u.1 20) + ((p0 / (u.1 6)) + (1 : Int32)))) 21 (((zzi u 20 ((u.1 20) + ((p0 / (u.1 6)) + (1 : Int32)))).1 21) + (1 : Int32))).1 22)) hf dX5_endRun_65 hP hD hS
      · have hf := zz_f c6 hf
        refine lv_iload_n hx hb dX5_endRun_54 rfl (lv_at hl 1 rfl) ?_
        refine lv_goto (tgt := 62) hx hb dX5_endRun_55 (by decide) ?_
        refine va_put (D := g.1) (ci := 5) (v := .int p0) (ty := .int) (C := RX5) (T := TX5) (N := 29) hx hb hts iX5 tyX5 tyX5_ok nmX5 hown hK hP hD hS 0 rfl rfl 22 (by decide) (zz_mem hts 4 rfl) (fun _ h9 => h9) rfl (tyX5_ok 22 (by decide)) rfl rfl (Nat.le_of_ble_eq_true rfl) dX5_endRun_62 (fun H locs hP hD hS => ?_)
        have hP : va_P g.1 vwCl (zzY g q (zzi (zzi (zzi u 20 ((u.1 20) + ((p0 / (u.1 6)) + (1 : Int32)))) 21 (((zzi u 20 ((u.1 20) + ((p0 / (u.1 6)) + (1 : Int32)))).1 21) + (1 : Int32))) 22 p0)) H := Eq.mp (congrArg (fun w => va_P g.1 vwCl w H) (zyo_0_22 g q (zzi (zzi u 20 ((u.1 20) + ((p0 / (u.1 6)) + (1 : Int32)))) 21 (((zzi u 20 ((u.1 20) + ((p0 / (u.1 6)) + (1 : Int32)))).1 21) + (1 : Int32))) p0)) hP
        have hD : va_D A (zzY g q (zzi (zzi (zzi u 20 ((u.1 20) + ((p0 / (u.1 6)) + (1 : Int32)))) 21 (((zzi u 20 ((u.1 20) + ((p0 / (u.1 6)) + (1 : Int32)))).1 21) + (1 : Int32))) 22 p0)) := Eq.mp (congrArg (va_D A) (zyo_0_22 g q (zzi (zzi u 20 ((u.1 20) + ((p0 / (u.1 6)) + (1 : Int32)))) 21 (((zzi u 20 ((u.1 20) + ((p0 / (u.1 6)) + (1 : Int32)))).1 21) + (1 : Int32))) p0)) hD
        exact ret _ _ _ _ (zzi (zzi (zzi u 20 ((u.1 20) + ((p0 / (u.1 6)) + (1 : Int32)))) 21 (((zzi u 20 ((u.1 20) + ((p0 / (u.1 6)) + (1 : Int32)))).1 21) + (1 : Int32))) 22 p0) hf dX5_endRun_65 hP hD hS
  · have hf := zz_t c1 hf
    exact ret _ _ _ _ u hf dX5_endRun_4 hP hD hS
abbrev rX5_count : Room := ({ frames := 2, cells := 0, slots := 0, locals := 47 })
theorem mX5_count : zzM yX5_count wsX5_count cX5_count 4 none RX5 1 := ⟨⟨_, rfl⟩, by decide +kernel⟩
def sX5_count_29 (p0 : Int32) : (Int32 × Int32 × zzS) → ((Int32 × Int32 × zzS) → Option zzS) → Option zzS := fun v2 rec3 => (if (40 : Int32) ≤ v2.2.1 then ((fX5_endRun v2.2.2 v2.1).bind (fun r6 => (some r6))) else (zzga (v2.2.2.2 19) 40 v2.2.1 (fun x8 => (if x8 = 0 then ((fX5_endRun v2.2.2 v2.1).bind (fun r10 => (rec3 ((0 : Int32), (v2.2.1 + (1 : Int32)), r10)))) else (rec3 ((v2.1 + (1 : Int32)), (v2.2.1 + (1 : Int32)), (zzi v2.2.2 23 (v2.2.1 + (1 : Int32)))))))))
set_option maxHeartbeats 4000000 in
set_option maxRecDepth 100000 in
theorem wX5_count_29 (l : Launch) (g : zzG) (q : Nat → Nat) (p0 : Int32) (x : zzS) {p : Program} {e : Env} {s : State} {m : MethodId} {below : List Frame} {meth : Method} {c : Code} {A : Nat → Prop} {Q : State → Prop} (C : zzC g p s m ([.ref (q 0), .int p0] : List Value).toArray c cX5_count 4 RX5 wsX5_count A) (ret : zzRV l g rX5_count cX5_count [.ref (q 0), .int p0] (fun x : zzS => (zzY g q x)) x p e s m below meth c A Q)  (n : Nat) (v2 : Int32 × Int32 × zzS) (hf : zzlp (sX5_count_29 p0) n v2 = some x) : ∀ (H : Heap) (locs : List Loc) (ls : Array Slot), va_P g.1 vwCl (zzY g q v2.2.2) H → va_D A (zzY g q v2.2.2) → va_S A s.heap H locs → lv_has ls 4 [(0, .ref (q 0)), (2, .int (v2.1)), (3, .int (v2.2.1))] → W p l e rX5_count s m ([.ref (q 0), .int p0] : List Value).toArray below meth c H locs 0 0 Q (F0 m 29 ls []) := by
  have hx := C.1.1
  have hb := C.1.2.1
  have hml := C.1.2.2.1
  have hown := C.1.2.2.2.1
  have hts := C.1.2.2.2.2
  have hK := C.2.1
  have iX5 : ∀ w ∈ wsX50, w ∈ wsX5_count := fun _ h => List.mem_cons_of_mem _ (List.mem_append_right _ h)
  refine zz_lp (P := fun (v2 : Int32 × Int32 × zzS) => ∀ (H : Heap) (locs : List Loc) (ls : Array Slot), va_P g.1 vwCl (zzY g q v2.2.2) H → va_D A (zzY g q v2.2.2) → va_S A s.heap H locs → lv_has ls 4 [(0, .ref (q 0)), (2, .int (v2.1)), (3, .int (v2.2.1))] → W p l e rX5_count s m ([.ref (q 0), .int p0] : List Value).toArray below meth c H locs 0 0 Q (F0 m 29 ls [])) (fun v2 rec3 ih4 hf H locs ls hP hD hS hl => ?_) n v2 hf
  unfold sX5_count_29 at hf
  refine lv_iload_n hx hb dX5_count_29 rfl (lv_at hl 2 rfl) ?_
  refine lv_bipush (v := (40 : Int32)) hx hb dX5_count_30 (by decide) ?_
  refine lv_icmp_ge (tgt := 70) hx hb dX5_count_32 (by decide) (fun c5 => ?_) (fun c5 => ?_)
  · have hf := zz_t c5 hf
    refine lv_aload_n hx hb dX5_count_70 rfl (lv_at hl 0 rfl) ?_
    refine lv_iload_n hx hb dX5_count_71 rfl (lv_at hl 1 rfl) ?_
    obtain ⟨r6, hc6, hf⟩ := zz_bs hf
    refine zz_cVv C hP hD hS (kX5_endRun l g q _ v2.2.2 v2.1 r6 hc6) gX5_count_X5_endRun mX5_endRun (by decide) ⟨Nat.zero_le _, Nat.zero_le _⟩ 0 rfl rfl rfl rfl (rest := []) rfl hl.1 (Nat.le_of_ble_eq_true rfl) dX5_count_72 (fun H locs hP hD hS => ?_)
    exact ret _ _ _ _ r6 hf dX5_count_75 hP hD hS
  · have hf := zz_f c5 hf
    refine lv_aload_n hx hb dX5_count_35 rfl (lv_at hl 0 rfl) ?_
    refine va_get (D := g.1) (ci := 5) (v := .ref (q 19)) (C := RX5) (T := TX5) (N := 29) hx hb hts iX5 hown hK hP 0 rfl rfl 19 (by decide) (zz_mem hts 5 rfl) (fun _ h9 => h9) rfl dX5_count_36 ?_
    refine lv_iload_n hx hb dX5_count_39 rfl (lv_at hl 2 rfl) ?_
    obtain ⟨x8, h7, ex8, hf⟩ := zz_gx hf
    refine zz_zald hx hb hK hP 10 1 rfl rfl h7 ex8 dX5_count_40 ?_
    refine lv_if_eq (tgt := 57) hx hb dX5_count_41 (by decide) (fun c9 => ?_) (fun c9 => ?_)
    · have hf := zz_t c9 hf
      refine lv_aload_n hx hb dX5_count_57 rfl (lv_at hl 0 rfl) ?_
      refine lv_iload_n hx hb dX5_count_58 rfl (lv_at hl 1 rfl) ?_
      obtain ⟨r10, hc10, hf⟩ := zz_bs hf
      refine zz_cVv C hP hD hS (kX5_endRun l g q _ v2.2.2 v2.1 r10 hc10) gX5_count_X5_endRun mX5_endRun (by decide) ⟨Nat.zero_le _, Nat.zero_le _⟩ 0 rfl rfl rfl rfl (rest := []) rfl hl.1 (Nat.le_of_ble_eq_true rfl) dX5_count_59 (fun H locs hP hD hS => ?_)
      refine lv_iconst (v := (0 : Int32)) hx hb dX5_count_62 (by decide) ?_
      refine lv_istore_n (lv' := [(2, .int (0 : Int32)), (0, .ref (q 0)), (3, .int (v2.2.1))]) hx hb dX5_count_63 rfl hl (by decide) rfl (fun ls hl => ?_)
      refine lv_iinc (v := (v2.2.1 + (1 : Int32))) (lv' := [(3, .int (v2.2.1 + (1 : Int32))), (2, .int (0 : Int32)), (0, .ref (q 0))]) hx hb dX5_count_64 hl (k := 2) rfl rfl (by decide) rfl (fun ls hl => ?_)
      refine lv_goto (tgt := 29) hx hb dX5_count_67 (by decide) ?_
      exact ih4 _ hf _ _ _ hP hD hS (lv_sub hl [2, 1, 0] rfl)
    · have hf := zz_f c9 hf
      refine lv_iinc (v := (v2.1 + (1 : Int32))) (lv' := [(2, .int (v2.1 + (1 : Int32))), (0, .ref (q 0)), (3, .int (v2.2.1))]) hx hb dX5_count_44 hl (k := 1) rfl rfl (by decide) rfl (fun ls hl => ?_)
      refine lv_aload_n hx hb dX5_count_47 rfl (lv_at hl 1 rfl) ?_
      refine lv_iload_n hx hb dX5_count_48 rfl (lv_at hl 2 rfl) ?_
      refine lv_iconst (v := (1 : Int32)) hx hb dX5_count_49 (by decide) ?_
      refine lv_iadd hx hb dX5_count_50 ?_
      refine va_put (D := g.1) (ci := 5) (v := .int (v2.2.1 + (1 : Int32))) (ty := .int) (C := RX5) (T := TX5) (N := 29) hx hb hts iX5 tyX5 tyX5_ok nmX5 hown hK hP hD hS 0 rfl rfl 23 (by decide) (zz_mem hts 4 rfl) (fun _ h9 => h9) rfl (tyX5_ok 23 (by decide)) rfl rfl (Nat.le_of_ble_eq_true rfl) dX5_count_51 (fun H locs hP hD hS => ?_)
      have hP : va_P g.1 vwCl (zzY g q (zzi v2.2.2 23 (v2.2.1 + (1 : Int32)))) H := Eq.mp (congrArg (fun w => va_P g.1 vwCl w H) (zyo_0_23 g q v2.2.2 (v2.2.1 + (1 : Int32)))) hP
      have hD : va_D A (zzY g q (zzi v2.2.2 23 (v2.2.1 + (1 : Int32)))) := Eq.mp (congrArg (va_D A) (zyo_0_23 g q v2.2.2 (v2.2.1 + (1 : Int32)))) hD
      refine lv_goto (tgt := 64) hx hb dX5_count_54 (by decide) ?_
      refine lv_iinc (v := (v2.2.1 + (1 : Int32))) (lv' := [(3, .int (v2.2.1 + (1 : Int32))), (2, .int (v2.1 + (1 : Int32))), (0, .ref (q 0))]) hx hb dX5_count_64 hl (k := 2) rfl rfl (by decide) rfl (fun ls hl => ?_)
      refine lv_goto (tgt := 29) hx hb dX5_count_67 (by decide) ?_
      exact ih4 _ hf _ _ _ hP hD hS (lv_sub hl [2, 1, 0] rfl)
def fX5_count (u : zzS) (p0 : Int32) : Option zzS := ((fX5_darken u p0).bind (fun r1 => (zzlp (sX5_count_29 p0) zzFU ((0 : Int32), (0 : Int32), (zzi (zzi (zzi (zzi r1 20 (0 : Int32)) 21 (0 : Int32)) 22 (0 : Int32)) 23 (0 : Int32))))))
set_option maxHeartbeats 4000000 in
set_option maxRecDepth 100000 in
theorem kX5_count (l : Launch) (g : zzG) (q : Nat → Nat) (sz : Nat) (u : zzS) (p0 : Int32) (x : zzS) (hf : fX5_count u p0 = some x) : zzV l g yX5_count wsX5_count rX5_count [.ref (q 0), .int p0] (zzY g q u) (zzY g q x) sz := by
  refine zz_mv (cc := cX5_count) (mL := 4) (own := RX5) (fun x : zzS => (zzY g q x)) x (by decide) rfl rfl (Nat.le_of_ble_eq_true rfl) ?_
  intro p e s m below meth c A Q ls C ret hP hD hS hl
  have hl : lv_has ls 4 [(0, .ref (q 0)), (1, .int p0)] := hl
  have hx := C.1.1
  have hb := C.1.2.1
  have hml := C.1.2.2.1
  have hown := C.1.2.2.2.1
  have hts := C.1.2.2.2.2
  have hK := C.2.1
  have iX5 : ∀ w ∈ wsX50, w ∈ wsX5_count := fun _ h => List.mem_cons_of_mem _ (List.mem_append_right _ h)
  unfold fX5_count at hf
  refine lv_aload_n hx hb dX5_count_0 rfl (lv_at hl 0 rfl) ?_
  refine lv_iload_n hx hb dX5_count_1 rfl (lv_at hl 1 rfl) ?_
  obtain ⟨r1, hc1, hf⟩ := zz_bs hf
  refine zz_cVv C hP hD hS (kX5_darken l g q _ u p0 r1 hc1) gX5_count_X5_darken mX5_darken (by decide) ⟨Nat.zero_le _, Nat.zero_le _⟩ 0 rfl rfl rfl rfl (rest := []) rfl hl.1 (Nat.le_of_ble_eq_true rfl) dX5_count_2 (fun H locs hP hD hS => ?_)
  refine lv_aload_n hx hb dX5_count_5 rfl (lv_at hl 0 rfl) ?_
  refine lv_iconst (v := (0 : Int32)) hx hb dX5_count_6 (by decide) ?_
  refine va_put (D := g.1) (ci := 5) (v := .int (0 : Int32)) (ty := .int) (C := RX5) (T := TX5) (N := 29) hx hb hts iX5 tyX5 tyX5_ok nmX5 hown hK hP hD hS 0 rfl rfl 20 (by decide) (zz_mem hts 1 rfl) (fun _ h9 => h9) rfl (tyX5_ok 20 (by decide)) rfl rfl (Nat.le_of_ble_eq_true rfl) dX5_count_7 (fun H locs hP hD hS => ?_)
  have hP : va_P g.1 vwCl (zzY g q (zzi r1 20 (0 : Int32))) H := Eq.mp (congrArg (fun w => va_P g.1 vwCl w H) (zyo_0_20 g q r1 (0 : Int32))) hP
  have hD : va_D A (zzY g q (zzi r1 20 (0 : Int32))) := Eq.mp (congrArg (va_D A) (zyo_0_20 g q r1 (0 : Int32))) hD
  refine lv_aload_n hx hb dX5_count_10 rfl (lv_at hl 0 rfl) ?_
  refine lv_iconst (v := (0 : Int32)) hx hb dX5_count_11 (by decide) ?_
  refine va_put (D := g.1) (ci := 5) (v := .int (0 : Int32)) (ty := .int) (C := RX5) (T := TX5) (N := 29) hx hb hts iX5 tyX5 tyX5_ok nmX5 hown hK hP hD hS 0 rfl rfl 21 (by decide) (zz_mem hts 2 rfl) (fun _ h9 => h9) rfl (tyX5_ok 21 (by decide)) rfl rfl (Nat.le_of_ble_eq_true rfl) dX5_count_12 (fun H locs hP hD hS => ?_)
  have hP : va_P g.1 vwCl (zzY g q (zzi (zzi r1 20 (0 : Int32)) 21 (0 : Int32))) H := Eq.mp (congrArg (fun w => va_P g.1 vwCl w H) (zyo_0_21 g q (zzi r1 20 (0 : Int32)) (0 : Int32))) hP
  have hD : va_D A (zzY g q (zzi (zzi r1 20 (0 : Int32)) 21 (0 : Int32))) := Eq.mp (congrArg (va_D A) (zyo_0_21 g q (zzi r1 20 (0 : Int32)) (0 : Int32))) hD
  refine lv_aload_n hx hb dX5_count_15 rfl (lv_at hl 0 rfl) ?_
  refine lv_iconst (v := (0 : Int32)) hx hb dX5_count_16 (by decide) ?_
  refine va_put (D := g.1) (ci := 5) (v := .int (0 : Int32)) (ty := .int) (C := RX5) (T := TX5) (N := 29) hx hb hts iX5 tyX5 tyX5_ok nmX5 hown hK hP hD hS 0 rfl rfl 22 (by decide) (zz_mem hts 3 rfl) (fun _ h9 => h9) rfl (tyX5_ok 22 (by decide)) rfl rfl (Nat.le_of_ble_eq_true rfl) dX5_count_17 (fun H locs hP hD hS => ?_)
  have hP : va_P g.1 vwCl (zzY g q (zzi (zzi (zzi r1 20 (0 : Int32)) 21 (0 : Int32)) 22 (0 : Int32))) H := Eq.mp (congrArg (fun w => va_P g.1 vwCl w H) (zyo_0_22 g q (zzi (zzi r1 20 (0 : Int32)) 21 (0 : Int32)) (0 : Int32))) hP
  have hD : va_D A (zzY g q (zzi (zzi (zzi r1 20 (0 : Int32)) 21 (0 : Int32)) 22 (0 : Int32))) := Eq.mp (congrArg (va_D A) (zyo_0_22 g q (zzi (zzi r1 20 (0 : Int32)) 21 (0 : Int32)) (0 : Int32))) hD
  refine lv_aload_n hx hb dX5_count_20 rfl (lv_at hl 0 rfl) ?_
  refine lv_iconst (v := (0 : Int32)) hx hb dX5_count_21 (by decide) ?_
  refine va_put (D := g.1) (ci := 5) (v := .int (0 : Int32)) (ty := .int) (C := RX5) (T := TX5) (N := 29) hx hb hts iX5 tyX5 tyX5_ok nmX5 hown hK hP hD hS 0 rfl rfl 23 (by decide) (zz_mem hts 4 rfl) (fun _ h9 => h9) rfl (tyX5_ok 23 (by decide)) rfl rfl (Nat.le_of_ble_eq_true rfl) dX5_count_22 (fun H locs hP hD hS => ?_)
  have hP : va_P g.1 vwCl (zzY g q (zzi (zzi (zzi (zzi r1 20 (0 : Int32)) 21 (0 : Int32)) 22 (0 : Int32)) 23 (0 : Int32))) H := Eq.mp (congrArg (fun w => va_P g.1 vwCl w H) (zyo_0_23 g q (zzi (zzi (zzi r1 20 (0 : Int32)) 21 (0 : Int32)) 22 (0 : Int32)) (0 : Int32))) hP
  have hD : va_D A (zzY g q (zzi (zzi (zzi (zzi r1 20 (0 : Int32)) 21 (0 : Int32)) 22 (0 : Int32)) 23 (0 : Int32))) := Eq.mp (congrArg (va_D A) (zyo_0_23 g q (zzi (zzi (zzi r1 20 (0 : Int32)) 21 (0 : Int32)) 22 (0 : Int32)) (0 : Int32))) hD
  refine lv_iconst (v := (0 : Int32)) hx hb dX5_count_25 (by decide) ?_
  refine lv_istore_n (lv' := [(2, .int (0 : Int32)), (0, .ref (q 0)), (1, .int p0)]) hx hb dX5_count_26 rfl hl (by decide) rfl (fun ls hl => ?_)
  refine lv_iconst (v := (0 : Int32)) hx hb dX5_count_27 (by decide) ?_
  refine lv_istore_n (lv' := [(3, .int (0 : Int32)), (2, .int (0 : Int32)), (0, .ref (q 0)), (1, .int p0)]) hx hb dX5_count_28 rfl hl (by decide) rfl (fun ls hl => ?_)
  exact wX5_count_29 l g q p0 x C ret  _ _ hf _ _ _ hP hD hS (lv_sub hl [2, 1, 0] rfl)
abbrev rX5_censusOf : Room := ({ frames := 3, cells := 0, slots := 0, locals := 70 })
theorem mX5_censusOf : zzM yX5_censusOf wsX5_censusOf cX5_censusOf 2 (some .int) RX5 1 := ⟨⟨_, rfl⟩, by decide +kernel⟩
def fX5_censusOf (u : zzS) (p0 : Int32) : Option (Int32 × zzS) := ((fX5_count u p0).bind (fun r1 => (some ((r1.1 20), r1))))
set_option maxHeartbeats 4000000 in
set_option maxRecDepth 100000 in
theorem kX5_censusOf (l : Launch) (g : zzG) (q : Nat → Nat) (sz : Nat) (u : zzS) (p0 : Int32) (x : Int32 × zzS) (hf : fX5_censusOf u p0 = some x) : zzI l g yX5_censusOf wsX5_censusOf rX5_censusOf [.ref (q 0), .int p0] (zzY g q u) (zzY g q x.2) sz x.1 := by
  refine zz_mi (cc := cX5_censusOf) (mL := 2) (own := RX5) (fun x : Int32 × zzS => x.1) (fun x : Int32 × zzS => (zzY g q x.2)) x (by decide) rfl rfl (Nat.le_of_ble_eq_true rfl) ?_
  intro p e s m below meth c A Q ls C ret hP hD hS hl
  have hl : lv_has ls 2 [(0, .ref (q 0)), (1, .int p0)] := hl
  have hx := C.1.1
  have hb := C.1.2.1
  have hml := C.1.2.2.1
  have hown := C.1.2.2.2.1
  have hts := C.1.2.2.2.2
  have hK := C.2.1
  have iX5 : ∀ w ∈ wsX50, w ∈ wsX5_censusOf := fun _ h => List.mem_cons_of_mem _ (List.mem_append_right _ h)
  unfold fX5_censusOf at hf
  refine lv_aload_n hx hb dX5_censusOf_0 rfl (lv_at hl 0 rfl) ?_
  refine lv_iload_n hx hb dX5_censusOf_1 rfl (lv_at hl 1 rfl) ?_
  obtain ⟨r1, hc1, hf⟩ := zz_bs hf
  refine zz_cVv C hP hD hS (kX5_count l g q _ u p0 r1 hc1) gX5_censusOf_X5_count mX5_count (by decide) ⟨Nat.zero_le _, Nat.zero_le _⟩ 0 rfl rfl rfl rfl (rest := []) rfl hl.1 (Nat.le_of_ble_eq_true rfl) dX5_censusOf_2 (fun H locs hP hD hS => ?_)
  refine lv_aload_n hx hb dX5_censusOf_5 rfl (lv_at hl 0 rfl) ?_
  refine va_get (D := g.1) (ci := 5) (v := .int (r1.1 20)) (C := RX5) (T := TX5) (N := 29) hx hb hts iX5 hown hK hP 0 rfl rfl 20 (by decide) (zz_mem hts 1 rfl) (fun _ h9 => h9) rfl dX5_censusOf_6 ?_
  exact ret _ _ _ _ ((r1.1 20), r1) hf dX5_censusOf_9 hP hD hS
abbrev rX5_hiddenOf : Room := ({ frames := 1, cells := 0, slots := 0, locals := 22 })
theorem mX5_hiddenOf : zzM yX5_hiddenOf wsX5_hiddenOf cX5_hiddenOf 4 (some .int) RX5 1 := ⟨⟨_, rfl⟩, by decide +kernel⟩
def sX5_hiddenOf_4 (p0 : Int32) (u : zzS) : (Int32 × Int32) → ((Int32 × Int32) → Option Int32) → Option Int32 := fun v1 rec2 => (if (u.1 5) ≤ v1.2 then (some v1.1) else ((fX5_isHidden u v1.2 p0).bind (fun r5 => (if r5 = 0 then (rec2 ((v1.1 ||| (0 : Int32)), (v1.2 + (1 : Int32)))) else (rec2 ((v1.1 ||| ((1 : Int32) <<< (v1.2 &&& 31))), (v1.2 + (1 : Int32))))))))
set_option maxHeartbeats 4000000 in
set_option maxRecDepth 100000 in
theorem wX5_hiddenOf_4 (l : Launch) (g : zzG) (q : Nat → Nat) (p0 : Int32) (u : zzS) (x : Int32) {p : Program} {e : Env} {s : State} {m : MethodId} {below : List Frame} {meth : Method} {c : Code} {A : Nat → Prop} {Q : State → Prop} (C : zzC g p s m ([.ref (q 0), .int p0] : List Value).toArray c cX5_hiddenOf 4 RX5 wsX5_hiddenOf A) (ret : zzRI l g rX5_hiddenOf cX5_hiddenOf [.ref (q 0), .int p0] (fun x : Int32 => x) (fun x : Int32 => (zzY g q u)) x p e s m below meth c A Q)  (n : Nat) (v1 : Int32 × Int32) (hf : zzlp (sX5_hiddenOf_4 p0 u) n v1 = some x) : ∀ (H : Heap) (locs : List Loc) (ls : Array Slot), va_P g.1 vwCl (zzY g q u) H → va_D A (zzY g q u) → va_S A s.heap H locs → lv_has ls 4 [(0, .ref (q 0)), (1, .int p0), (2, .int (v1.1)), (3, .int (v1.2))] → W p l e rX5_hiddenOf s m ([.ref (q 0), .int p0] : List Value).toArray below meth c H locs 0 0 Q (F0 m 4 ls []) := by
  have hx := C.1.1
  have hb := C.1.2.1
  have hml := C.1.2.2.1
  have hown := C.1.2.2.2.1
  have hts := C.1.2.2.2.2
  have hK := C.2.1
  have iX5 : ∀ w ∈ wsX50, w ∈ wsX5_hiddenOf := fun _ h => List.mem_cons_of_mem _ (List.mem_append_right _ h)
  refine zz_lp (P := fun (v1 : Int32 × Int32) => ∀ (H : Heap) (locs : List Loc) (ls : Array Slot), va_P g.1 vwCl (zzY g q u) H → va_D A (zzY g q u) → va_S A s.heap H locs → lv_has ls 4 [(0, .ref (q 0)), (1, .int p0), (2, .int (v1.1)), (3, .int (v1.2))] → W p l e rX5_hiddenOf s m ([.ref (q 0), .int p0] : List Value).toArray below meth c H locs 0 0 Q (F0 m 4 ls [])) (fun v1 rec2 ih3 hf H locs ls hP hD hS hl => ?_) n v1 hf
  unfold sX5_hiddenOf_4 at hf
  refine lv_iload_n hx hb dX5_hiddenOf_4 rfl (lv_at hl 3 rfl) ?_
  refine lv_aload_n hx hb dX5_hiddenOf_5 rfl (lv_at hl 0 rfl) ?_
  refine va_get (D := g.1) (ci := 5) (v := .int (u.1 5)) (C := RX5) (T := TX5) (N := 29) hx hb hts iX5 hown hK hP 0 rfl rfl 5 (by decide) (zz_mem hts 1 rfl) (fun _ h9 => h9) rfl dX5_hiddenOf_6 ?_
  refine lv_icmp_ge (tgt := 37) hx hb dX5_hiddenOf_9 (by decide) (fun c4 => ?_) (fun c4 => ?_)
  · have hf := zz_t c4 hf
    refine lv_iload_n hx hb dX5_hiddenOf_37 rfl (lv_at hl 2 rfl) ?_
    exact ret _ _ _ _ v1.1 hf dX5_hiddenOf_38 hP hD hS
  · have hf := zz_f c4 hf
    refine lv_iload_n hx hb dX5_hiddenOf_12 rfl (lv_at hl 2 rfl) ?_
    refine lv_aload_n hx hb dX5_hiddenOf_13 rfl (lv_at hl 0 rfl) ?_
    refine lv_iload_n hx hb dX5_hiddenOf_14 rfl (lv_at hl 3 rfl) ?_
    refine lv_iload_n hx hb dX5_hiddenOf_15 rfl (lv_at hl 1 rfl) ?_
    obtain ⟨r5, hc5, hf⟩ := zz_bs hf
    refine zz_cVz C hP hD hS (kX5_isHidden l g q _ u v1.2 p0 r5 hc5) gX5_hiddenOf_X5_isHidden mX5_isHidden (by decide) ⟨Nat.zero_le _, Nat.zero_le _⟩ 0 rfl rfl rfl rfl (rest := [.int (v1.1)]) rfl hl.1 (Nat.le_of_ble_eq_true rfl) dX5_hiddenOf_16 (fun hz5 H locs hP hD hS => ?_)
    refine lv_if_eq (tgt := 28) hx hb dX5_hiddenOf_19 (by decide) (fun c6 => ?_) (fun c6 => ?_)
    · have hf := zz_t c6 hf
      refine lv_iconst (v := (0 : Int32)) hx hb dX5_hiddenOf_28 (by decide) ?_
      refine lv_ior hx hb dX5_hiddenOf_29 ?_
      refine lv_istore_n (lv' := [(2, .int (v1.1 ||| (0 : Int32))), (0, .ref (q 0)), (1, .int p0), (3, .int (v1.2))]) hx hb dX5_hiddenOf_30 rfl hl (by decide) rfl (fun ls hl => ?_)
      refine lv_iinc (v := (v1.2 + (1 : Int32))) (lv' := [(3, .int (v1.2 + (1 : Int32))), (2, .int (v1.1 ||| (0 : Int32))), (0, .ref (q 0)), (1, .int p0)]) hx hb dX5_hiddenOf_31 hl (k := 3) rfl rfl (by decide) rfl (fun ls hl => ?_)
      refine lv_goto (tgt := 4) hx hb dX5_hiddenOf_34 (by decide) ?_
      exact ih3 _ hf _ _ _ hP hD hS (lv_sub hl [2, 3, 1, 0] rfl)
    · have hf := zz_f c6 hf
      refine lv_iconst (v := (1 : Int32)) hx hb dX5_hiddenOf_22 (by decide) ?_
      refine lv_iload_n hx hb dX5_hiddenOf_23 rfl (lv_at hl 3 rfl) ?_
      refine lv_ishl hx hb dX5_hiddenOf_24 ?_
      refine lv_goto (tgt := 29) hx hb dX5_hiddenOf_25 (by decide) ?_
      refine lv_ior hx hb dX5_hiddenOf_29 ?_
      refine lv_istore_n (lv' := [(2, .int (v1.1 ||| ((1 : Int32) <<< (v1.2 &&& 31)))), (0, .ref (q 0)), (1, .int p0), (3, .int (v1.2))]) hx hb dX5_hiddenOf_30 rfl hl (by decide) rfl (fun ls hl => ?_)
      refine lv_iinc (v := (v1.2 + (1 : Int32))) (lv' := [(3, .int (v1.2 + (1 : Int32))), (2, .int (v1.1 ||| ((1 : Int32) <<< (v1.2 &&& 31)))), (0, .ref (q 0)), (1, .int p0)]) hx hb dX5_hiddenOf_31 hl (k := 3) rfl rfl (by decide) rfl (fun ls hl => ?_)
      refine lv_goto (tgt := 4) hx hb dX5_hiddenOf_34 (by decide) ?_
      exact ih3 _ hf _ _ _ hP hD hS (lv_sub hl [2, 3, 1, 0] rfl)
def fX5_hiddenOf (u : zzS) (p0 : Int32) : Option Int32 := (zzlp (sX5_hiddenOf_4 p0 u) zzFU ((0 : Int32), (0 : Int32)))
set_option maxHeartbeats 4000000 in
set_option maxRecDepth 100000 in
theorem kX5_hiddenOf (l : Launch) (g : zzG) (q : Nat → Nat) (sz : Nat) (u : zzS) (p0 : Int32) (x : Int32) (hf : fX5_hiddenOf u p0 = some x) : zzI l g yX5_hiddenOf wsX5_hiddenOf rX5_hiddenOf [.ref (q 0), .int p0] (zzY g q u) (zzY g q u) sz x := by
  refine zz_mi (cc := cX5_hiddenOf) (mL := 4) (own := RX5) (fun x : Int32 => x) (fun x : Int32 => (zzY g q u)) x (by decide) rfl rfl (Nat.le_of_ble_eq_true rfl) ?_
  intro p e s m below meth c A Q ls C ret hP hD hS hl
  have hl : lv_has ls 4 [(0, .ref (q 0)), (1, .int p0)] := hl
  have hx := C.1.1
  have hb := C.1.2.1
  have hml := C.1.2.2.1
  have hown := C.1.2.2.2.1
  have hts := C.1.2.2.2.2
  have hK := C.2.1
  have iX5 : ∀ w ∈ wsX50, w ∈ wsX5_hiddenOf := fun _ h => List.mem_cons_of_mem _ (List.mem_append_right _ h)
  unfold fX5_hiddenOf at hf
  refine lv_iconst (v := (0 : Int32)) hx hb dX5_hiddenOf_0 (by decide) ?_
  refine lv_istore_n (lv' := [(2, .int (0 : Int32)), (0, .ref (q 0)), (1, .int p0)]) hx hb dX5_hiddenOf_1 rfl hl (by decide) rfl (fun ls hl => ?_)
  refine lv_iconst (v := (0 : Int32)) hx hb dX5_hiddenOf_2 (by decide) ?_
  refine lv_istore_n (lv' := [(3, .int (0 : Int32)), (2, .int (0 : Int32)), (0, .ref (q 0)), (1, .int p0)]) hx hb dX5_hiddenOf_3 rfl hl (by decide) rfl (fun ls hl => ?_)
  exact wX5_hiddenOf_4 l g q p0 u x C ret  _ _ hf _ _ _ hP hD hS (lv_sub hl [2, 3, 1, 0] rfl)
abbrev rX5_hidden : Room := ({ frames := 2, cells := 0, slots := 0, locals := 45 })
theorem mX5_hidden : zzM yX5_hidden wsX5_hidden cX5_hidden 2 (some .int) RX5 1 := ⟨⟨_, rfl⟩, by decide +kernel⟩
def fX5_hidden (u : zzS) (p0 : Int32) : Option Int32 := ((fX5_isSun p0).bind (fun r1 => (if r1 = 0 then (some (-2 : Int32)) else (if (u.1 5) = 0 then (some (-3 : Int32)) else ((fX5_hiddenOf u p0).bind (fun r4 => (some r4)))))))
set_option maxHeartbeats 4000000 in
set_option maxRecDepth 100000 in
theorem kX5_hidden (l : Launch) (g : zzG) (q : Nat → Nat) (sz : Nat) (u : zzS) (p0 : Int32) (x : Int32) (hf : fX5_hidden u p0 = some x) : zzI l g yX5_hidden wsX5_hidden rX5_hidden [.ref (q 0), .int p0] (zzY g q u) (zzY g q u) sz x := by
  refine zz_mi (cc := cX5_hidden) (mL := 2) (own := RX5) (fun x : Int32 => x) (fun x : Int32 => (zzY g q u)) x (by decide) rfl rfl (Nat.le_of_ble_eq_true rfl) ?_
  intro p e s m below meth c A Q ls C ret hP hD hS hl
  have hl : lv_has ls 2 [(0, .ref (q 0)), (1, .int p0)] := hl
  have hx := C.1.1
  have hb := C.1.2.1
  have hml := C.1.2.2.1
  have hown := C.1.2.2.2.1
  have hts := C.1.2.2.2.2
  have hK := C.2.1
  have iX5 : ∀ w ∈ wsX50, w ∈ wsX5_hidden := fun _ h => List.mem_cons_of_mem _ (List.mem_append_right _ h)
  unfold fX5_hidden at hf
  refine lv_iload_n hx hb dX5_hidden_0 rfl (lv_at hl 1 rfl) ?_
  obtain ⟨r1, hc1, hf⟩ := zz_bs hf
  refine zz_cSz C hP hD hS (kX5_isSun l g (zzY g q u) _ p0 r1 hc1) gX5_hidden_X5_isSun mX5_isSun (by decide) ⟨Nat.zero_le _, Nat.zero_le _⟩ rfl (rest := []) rfl hl.1 (Nat.le_of_ble_eq_true rfl) dX5_hidden_1 (fun hz1 H locs hP hD hS => ?_)
  refine lv_if_ne (tgt := 10) hx hb dX5_hidden_4 (by decide) (fun c2 => ?_) (fun c2 => ?_)
  · have hf := zz_f c2 hf
    refine lv_aload_n hx hb dX5_hidden_10 rfl (lv_at hl 0 rfl) ?_
    refine va_get (D := g.1) (ci := 5) (v := .int (u.1 5)) (C := RX5) (T := TX5) (N := 29) hx hb hts iX5 hown hK hP 0 rfl rfl 5 (by decide) (zz_mem hts 1 rfl) (fun _ h9 => h9) rfl dX5_hidden_11 ?_
    refine lv_if_ne (tgt := 22) hx hb dX5_hidden_14 (by decide) (fun c3 => ?_) (fun c3 => ?_)
    · have hf := zz_f c3 hf
      refine lv_aload_n hx hb dX5_hidden_22 rfl (lv_at hl 0 rfl) ?_
      refine lv_iload_n hx hb dX5_hidden_23 rfl (lv_at hl 1 rfl) ?_
      obtain ⟨r4, hc4, hf⟩ := zz_bs hf
      refine zz_cVi C hP hD hS (kX5_hiddenOf l g q _ u p0 r4 hc4) gX5_hidden_X5_hiddenOf mX5_hiddenOf (by decide) ⟨Nat.zero_le _, Nat.zero_le _⟩ 0 rfl rfl rfl rfl (rest := []) rfl hl.1 (Nat.le_of_ble_eq_true rfl) dX5_hidden_24 (fun H locs hP hD hS => ?_)
      exact ret _ _ _ _ r4 hf dX5_hidden_27 hP hD hS
    · have hf := zz_t c3 hf
      refine lv_bipush (v := (-3 : Int32)) hx hb dX5_hidden_17 (by decide) ?_
      refine lv_goto (tgt := 27) hx hb dX5_hidden_19 (by decide) ?_
      exact ret _ _ _ _ (-3 : Int32) hf dX5_hidden_27 hP hD hS
  · have hf := zz_t c2 hf
    refine lv_bipush (v := (-2 : Int32)) hx hb dX5_hidden_7 (by decide) ?_
    exact ret _ _ _ _ (-2 : Int32) hf dX5_hidden_9 hP hD hS
abbrev rX5_census : Room := ({ frames := 4, cells := 0, slots := 0, locals := 91 })
theorem mX5_census : zzM yX5_census wsX5_census cX5_census 2 (some .int) RX5 1 := ⟨⟨_, rfl⟩, by decide +kernel⟩
def fX5_census (u : zzS) (p0 : Int32) : Option (Int32 × zzS) := ((fX5_isSun p0).bind (fun r1 => (if r1 = 0 then (some ((-2 : Int32), u)) else (if (u.1 5) = 0 then (some ((-3 : Int32), u)) else ((fX5_censusOf u p0).bind (fun r4 => (some (r4.1, r4.2))))))))
set_option maxHeartbeats 4000000 in
set_option maxRecDepth 100000 in
theorem kX5_census (l : Launch) (g : zzG) (q : Nat → Nat) (sz : Nat) (u : zzS) (p0 : Int32) (x : Int32 × zzS) (hf : fX5_census u p0 = some x) : zzI l g yX5_census wsX5_census rX5_census [.ref (q 0), .int p0] (zzY g q u) (zzY g q x.2) sz x.1 := by
  refine zz_mi (cc := cX5_census) (mL := 2) (own := RX5) (fun x : Int32 × zzS => x.1) (fun x : Int32 × zzS => (zzY g q x.2)) x (by decide) rfl rfl (Nat.le_of_ble_eq_true rfl) ?_
  intro p e s m below meth c A Q ls C ret hP hD hS hl
  have hl : lv_has ls 2 [(0, .ref (q 0)), (1, .int p0)] := hl
  have hx := C.1.1
  have hb := C.1.2.1
  have hml := C.1.2.2.1
  have hown := C.1.2.2.2.1
  have hts := C.1.2.2.2.2
  have hK := C.2.1
  have iX5 : ∀ w ∈ wsX50, w ∈ wsX5_census := fun _ h => List.mem_cons_of_mem _ (List.mem_append_right _ h)
  unfold fX5_census at hf
  refine lv_iload_n hx hb dX5_census_0 rfl (lv_at hl 1 rfl) ?_
  obtain ⟨r1, hc1, hf⟩ := zz_bs hf
  refine zz_cSz C hP hD hS (kX5_isSun l g (zzY g q u) _ p0 r1 hc1) gX5_census_X5_isSun mX5_isSun (by decide) ⟨Nat.zero_le _, Nat.zero_le _⟩ rfl (rest := []) rfl hl.1 (Nat.le_of_ble_eq_true rfl) dX5_census_1 (fun hz1 H locs hP hD hS => ?_)
  refine lv_if_ne (tgt := 10) hx hb dX5_census_4 (by decide) (fun c2 => ?_) (fun c2 => ?_)
  · have hf := zz_f c2 hf
    refine lv_aload_n hx hb dX5_census_10 rfl (lv_at hl 0 rfl) ?_
    refine va_get (D := g.1) (ci := 5) (v := .int (u.1 5)) (C := RX5) (T := TX5) (N := 29) hx hb hts iX5 hown hK hP 0 rfl rfl 5 (by decide) (zz_mem hts 1 rfl) (fun _ h9 => h9) rfl dX5_census_11 ?_
    refine lv_if_ne (tgt := 22) hx hb dX5_census_14 (by decide) (fun c3 => ?_) (fun c3 => ?_)
    · have hf := zz_f c3 hf
      refine lv_aload_n hx hb dX5_census_22 rfl (lv_at hl 0 rfl) ?_
      refine lv_iload_n hx hb dX5_census_23 rfl (lv_at hl 1 rfl) ?_
      obtain ⟨r4, hc4, hf⟩ := zz_bs hf
      refine zz_cVi C hP hD hS (kX5_censusOf l g q _ u p0 r4 hc4) gX5_census_X5_censusOf mX5_censusOf (by decide) ⟨Nat.zero_le _, Nat.zero_le _⟩ 0 rfl rfl rfl rfl (rest := []) rfl hl.1 (Nat.le_of_ble_eq_true rfl) dX5_census_24 (fun H locs hP hD hS => ?_)
      exact ret _ _ _ _ (r4.1, r4.2) hf dX5_census_27 hP hD hS
    · have hf := zz_t c3 hf
      refine lv_bipush (v := (-3 : Int32)) hx hb dX5_census_17 (by decide) ?_
      refine lv_goto (tgt := 27) hx hb dX5_census_19 (by decide) ?_
      exact ret _ _ _ _ ((-3 : Int32), u) hf dX5_census_27 hP hD hS
  · have hf := zz_t c2 hf
    refine lv_bipush (v := (-2 : Int32)) hx hb dX5_census_7 (by decide) ?_
    exact ret _ _ _ _ ((-2 : Int32), u) hf dX5_census_9 hP hD hS
abbrev rX5_runs : Room := ({ frames := 3, cells := 0, slots := 0, locals := 70 })
theorem mX5_runs : zzM yX5_runs wsX5_runs cX5_runs 3 (some .int) RX5 2 := ⟨⟨_, rfl⟩, by decide +kernel⟩
def fX5_runs (u : zzS) (p0 : Int32) (p1 : Int32) : Option (Int32 × zzS) := ((fX5_isSun p0).bind (fun r1 => (if r1 = 0 then (some ((-2 : Int32), u)) else ((fX5_within p1 (0 : Int32) (2 : Int32)).bind (fun r3 => (if r3 = 0 then (some ((-2 : Int32), u)) else (if (u.1 5) = 0 then (some ((-3 : Int32), u)) else ((fX5_count u p0).bind (fun r6 => (if p1 = 0 then (some ((r6.1 21), r6)) else (if p1 = (1 : Int32) then (some ((r6.1 22), r6)) else (some ((r6.1 23), r6)))))))))))))
set_option maxHeartbeats 4000000 in
set_option maxRecDepth 100000 in
theorem kX5_runs (l : Launch) (g : zzG) (q : Nat → Nat) (sz : Nat) (u : zzS) (p0 : Int32) (p1 : Int32) (x : Int32 × zzS) (hf : fX5_runs u p0 p1 = some x) : zzI l g yX5_runs wsX5_runs rX5_runs [.ref (q 0), .int p0, .int p1] (zzY g q u) (zzY g q x.2) sz x.1 := by
  refine zz_mi (cc := cX5_runs) (mL := 3) (own := RX5) (fun x : Int32 × zzS => x.1) (fun x : Int32 × zzS => (zzY g q x.2)) x (by decide) rfl rfl (Nat.le_of_ble_eq_true rfl) ?_
  intro p e s m below meth c A Q ls C ret hP hD hS hl
  have hl : lv_has ls 3 [(0, .ref (q 0)), (1, .int p0), (2, .int p1)] := hl
  have hx := C.1.1
  have hb := C.1.2.1
  have hml := C.1.2.2.1
  have hown := C.1.2.2.2.1
  have hts := C.1.2.2.2.2
  have hK := C.2.1
  have iX5 : ∀ w ∈ wsX50, w ∈ wsX5_runs := fun _ h => List.mem_cons_of_mem _ (List.mem_append_right _ h)
  unfold fX5_runs at hf
  refine lv_iload_n hx hb dX5_runs_0 rfl (lv_at hl 1 rfl) ?_
  obtain ⟨r1, hc1, hf⟩ := zz_bs hf
  refine zz_cSz C hP hD hS (kX5_isSun l g (zzY g q u) _ p0 r1 hc1) gX5_runs_X5_isSun mX5_isSun (by decide) ⟨Nat.zero_le _, Nat.zero_le _⟩ rfl (rest := []) rfl hl.1 (Nat.le_of_ble_eq_true rfl) dX5_runs_1 (fun hz1 H locs hP hD hS => ?_)
  refine lv_if_eq (tgt := 16) hx hb dX5_runs_4 (by decide) (fun c2 => ?_) (fun c2 => ?_)
  · have hf := zz_t c2 hf
    refine lv_bipush (v := (-2 : Int32)) hx hb dX5_runs_16 (by decide) ?_
    exact ret _ _ _ _ ((-2 : Int32), u) hf dX5_runs_18 hP hD hS
  · have hf := zz_f c2 hf
    refine lv_iload_n hx hb dX5_runs_7 rfl (lv_at hl 2 rfl) ?_
    refine lv_iconst (v := (0 : Int32)) hx hb dX5_runs_8 (by decide) ?_
    refine lv_iconst (v := (2 : Int32)) hx hb dX5_runs_9 (by decide) ?_
    obtain ⟨r3, hc3, hf⟩ := zz_bs hf
    refine zz_cSz C hP hD hS (kX5_within l g (zzY g q u) _ p1 (0 : Int32) (2 : Int32) r3 hc3) gX5_runs_X5_within mX5_within (by decide) ⟨Nat.zero_le _, Nat.zero_le _⟩ rfl (rest := []) rfl hl.1 (Nat.le_of_ble_eq_true rfl) dX5_runs_10 (fun hz3 H locs hP hD hS => ?_)
    refine lv_if_ne (tgt := 19) hx hb dX5_runs_13 (by decide) (fun c4 => ?_) (fun c4 => ?_)
    · have hf := zz_f c4 hf
      refine lv_aload_n hx hb dX5_runs_19 rfl (lv_at hl 0 rfl) ?_
      refine va_get (D := g.1) (ci := 5) (v := .int (u.1 5)) (C := RX5) (T := TX5) (N := 29) hx hb hts iX5 hown hK hP 0 rfl rfl 5 (by decide) (zz_mem hts 1 rfl) (fun _ h9 => h9) rfl dX5_runs_20 ?_
      refine lv_if_ne (tgt := 29) hx hb dX5_runs_23 (by decide) (fun c5 => ?_) (fun c5 => ?_)
      · have hf := zz_f c5 hf
        refine lv_aload_n hx hb dX5_runs_29 rfl (lv_at hl 0 rfl) ?_
        refine lv_iload_n hx hb dX5_runs_30 rfl (lv_at hl 1 rfl) ?_
        obtain ⟨r6, hc6, hf⟩ := zz_bs hf
        refine zz_cVv C hP hD hS (kX5_count l g q _ u p0 r6 hc6) gX5_runs_X5_count mX5_count (by decide) ⟨Nat.zero_le _, Nat.zero_le _⟩ 0 rfl rfl rfl rfl (rest := []) rfl hl.1 (Nat.le_of_ble_eq_true rfl) dX5_runs_31 (fun H locs hP hD hS => ?_)
        refine lv_iload_n hx hb dX5_runs_34 rfl (lv_at hl 2 rfl) ?_
        refine lv_if_ne (tgt := 45) hx hb dX5_runs_35 (by decide) (fun c7 => ?_) (fun c7 => ?_)
        · have hf := zz_f c7 hf
          refine lv_iload_n hx hb dX5_runs_45 rfl (lv_at hl 2 rfl) ?_
          refine lv_iconst (v := (1 : Int32)) hx hb dX5_runs_46 (by decide) ?_
          refine lv_icmp_ne (tgt := 57) hx hb dX5_runs_47 (by decide) (fun c8 => ?_) (fun c8 => ?_)
          · have hf := zz_f c8 hf
            refine lv_aload_n hx hb dX5_runs_57 rfl (lv_at hl 0 rfl) ?_
            refine va_get (D := g.1) (ci := 5) (v := .int (r6.1 23)) (C := RX5) (T := TX5) (N := 29) hx hb hts iX5 hown hK hP 0 rfl rfl 23 (by decide) (zz_mem hts 4 rfl) (fun _ h9 => h9) rfl dX5_runs_58 ?_
            exact ret _ _ _ _ ((r6.1 23), r6) hf dX5_runs_61 hP hD hS
          · have hf := zz_t c8 hf
            refine lv_aload_n hx hb dX5_runs_50 rfl (lv_at hl 0 rfl) ?_
            refine va_get (D := g.1) (ci := 5) (v := .int (r6.1 22)) (C := RX5) (T := TX5) (N := 29) hx hb hts iX5 hown hK hP 0 rfl rfl 22 (by decide) (zz_mem hts 3 rfl) (fun _ h9 => h9) rfl dX5_runs_51 ?_
            refine lv_goto (tgt := 61) hx hb dX5_runs_54 (by decide) ?_
            exact ret _ _ _ _ ((r6.1 22), r6) hf dX5_runs_61 hP hD hS
        · have hf := zz_t c7 hf
          refine lv_aload_n hx hb dX5_runs_38 rfl (lv_at hl 0 rfl) ?_
          refine va_get (D := g.1) (ci := 5) (v := .int (r6.1 21)) (C := RX5) (T := TX5) (N := 29) hx hb hts iX5 hown hK hP 0 rfl rfl 21 (by decide) (zz_mem hts 2 rfl) (fun _ h9 => h9) rfl dX5_runs_39 ?_
          refine lv_goto (tgt := 61) hx hb dX5_runs_42 (by decide) ?_
          exact ret _ _ _ _ ((r6.1 21), r6) hf dX5_runs_61 hP hD hS
      · have hf := zz_t c5 hf
        refine lv_bipush (v := (-3 : Int32)) hx hb dX5_runs_26 (by decide) ?_
        exact ret _ _ _ _ ((-3 : Int32), u) hf dX5_runs_28 hP hD hS
    · have hf := zz_t c4 hf
      refine lv_bipush (v := (-2 : Int32)) hx hb dX5_runs_16 (by decide) ?_
      exact ret _ _ _ _ ((-2 : Int32), u) hf dX5_runs_18 hP hD hS
abbrev rX5_apart : Room := ({ frames := 0, cells := 0, slots := 0, locals := 0 })
theorem mX5_apart : zzM yX5_apart wsX5_apart cX5_apart 2 (some .int) RX5 2 := ⟨⟨_, rfl⟩, by decide +kernel⟩
def fX5_apart (p0 : Int32) (p1 : Int32) : Option Int32 := (if p1 ≤ p0 then (some (p0 - p1)) else (some (p1 - p0)))
set_option maxHeartbeats 4000000 in
set_option maxRecDepth 100000 in
theorem kX5_apart (l : Launch) (g : zzG) (w : va_W) (sz : Nat)  (p0 : Int32) (p1 : Int32) (x : Int32) (hf : fX5_apart p0 p1 = some x) : zzI l g yX5_apart wsX5_apart rX5_apart [.int p0, .int p1] w w sz x := by
  refine zz_mi (cc := cX5_apart) (mL := 2) (own := RX5) (fun x : Int32 => x) (fun x : Int32 => w) x (by decide) rfl rfl (Nat.le_of_ble_eq_true rfl) ?_
  intro p e s m below meth c A Q ls C ret hP hD hS hl
  have hl : lv_has ls 2 [(0, .int p0), (1, .int p1)] := hl
  have hx := C.1.1
  have hb := C.1.2.1
  have hml := C.1.2.2.1
  have hown := C.1.2.2.2.1
  have hts := C.1.2.2.2.2
  have hK := C.2.1
  unfold fX5_apart at hf
  refine lv_iload_n hx hb dX5_apart_0 rfl (lv_at hl 0 rfl) ?_
  refine lv_iload_n hx hb dX5_apart_1 rfl (lv_at hl 1 rfl) ?_
  refine lv_icmp_ge (tgt := 11) hx hb dX5_apart_2 (by decide) (fun c1 => ?_) (fun c1 => ?_)
  · have hf := zz_t c1 hf
    refine lv_iload_n hx hb dX5_apart_11 rfl (lv_at hl 0 rfl) ?_
    refine lv_iload_n hx hb dX5_apart_12 rfl (lv_at hl 1 rfl) ?_
    refine lv_isub hx hb dX5_apart_13 ?_
    exact ret _ _ _ _ (p0 - p1) hf dX5_apart_14 hP hD hS
  · have hf := zz_f c1 hf
    refine lv_iload_n hx hb dX5_apart_5 rfl (lv_at hl 1 rfl) ?_
    refine lv_iload_n hx hb dX5_apart_6 rfl (lv_at hl 0 rfl) ?_
    refine lv_isub hx hb dX5_apart_7 ?_
    refine lv_goto (tgt := 14) hx hb dX5_apart_8 (by decide) ?_
    exact ret _ _ _ _ (p1 - p0) hf dX5_apart_14 hP hD hS
abbrev rX5_fair : Room := ({ frames := 4, cells := 0, slots := 0, locals := 91 })
theorem mX5_fair : zzM yX5_fair wsX5_fair cX5_fair 3 (some .int) RX5 0 := ⟨⟨_, rfl⟩, by decide +kernel⟩
def sX5_fair_14  : (Int32 × Int32 × zzS) → ((Int32 × Int32 × zzS) → Option (Int32 × zzS)) → Option (Int32 × zzS) := fun v2 rec3 => (if (3 : Int32) < v2.2.1 then (some (v2.1, v2.2.2)) else ((fX5_censusOf v2.2.2 v2.2.1).bind (fun r6 => ((fX5_apart r6.1 (r6.2.1 5)).bind (fun r7 => ((fX5_censusOf r6.2 v2.1).bind (fun r8 => ((fX5_apart r8.1 (r8.2.1 5)).bind (fun r9 => (if r9 ≤ r7 then (rec3 (v2.1, (v2.2.1 + (1 : Int32)), r8.2)) else (rec3 (v2.2.1, (v2.2.1 + (1 : Int32)), r8.2))))))))))))
set_option maxHeartbeats 4000000 in
set_option maxRecDepth 100000 in
theorem wX5_fair_14 (l : Launch) (g : zzG) (q : Nat → Nat)  (x : Int32 × zzS) {p : Program} {e : Env} {s : State} {m : MethodId} {below : List Frame} {meth : Method} {c : Code} {A : Nat → Prop} {Q : State → Prop} (C : zzC g p s m ([.ref (q 0)] : List Value).toArray c cX5_fair 3 RX5 wsX5_fair A) (ret : zzRI l g rX5_fair cX5_fair [.ref (q 0)] (fun x : Int32 × zzS => x.1) (fun x : Int32 × zzS => (zzY g q x.2)) x p e s m below meth c A Q)  (n : Nat) (v2 : Int32 × Int32 × zzS) (hf : zzlp (sX5_fair_14 ) n v2 = some x) : ∀ (H : Heap) (locs : List Loc) (ls : Array Slot), va_P g.1 vwCl (zzY g q v2.2.2) H → va_D A (zzY g q v2.2.2) → va_S A s.heap H locs → lv_has ls 3 [(0, .ref (q 0)), (1, .int (v2.1)), (2, .int (v2.2.1))] → W p l e rX5_fair s m ([.ref (q 0)] : List Value).toArray below meth c H locs 0 0 Q (F0 m 14 ls []) := by
  have hx := C.1.1
  have hb := C.1.2.1
  have hml := C.1.2.2.1
  have hown := C.1.2.2.2.1
  have hts := C.1.2.2.2.2
  have hK := C.2.1
  have iX5 : ∀ w ∈ wsX50, w ∈ wsX5_fair := fun _ h => List.mem_cons_of_mem _ (List.mem_append_right _ h)
  refine zz_lp (P := fun (v2 : Int32 × Int32 × zzS) => ∀ (H : Heap) (locs : List Loc) (ls : Array Slot), va_P g.1 vwCl (zzY g q v2.2.2) H → va_D A (zzY g q v2.2.2) → va_S A s.heap H locs → lv_has ls 3 [(0, .ref (q 0)), (1, .int (v2.1)), (2, .int (v2.2.1))] → W p l e rX5_fair s m ([.ref (q 0)] : List Value).toArray below meth c H locs 0 0 Q (F0 m 14 ls [])) (fun v2 rec3 ih4 hf H locs ls hP hD hS hl => ?_) n v2 hf
  unfold sX5_fair_14 at hf
  refine lv_iload_n hx hb dX5_fair_14 rfl (lv_at hl 2 rfl) ?_
  refine lv_iconst (v := (3 : Int32)) hx hb dX5_fair_15 (by decide) ?_
  refine lv_icmp_gt (tgt := 58) hx hb dX5_fair_16 (by decide) (fun c5 => ?_) (fun c5 => ?_)
  · have hf := zz_t c5 hf
    refine lv_iload_n hx hb dX5_fair_58 rfl (lv_at hl 1 rfl) ?_
    exact ret _ _ _ _ (v2.1, v2.2.2) hf dX5_fair_59 hP hD hS
  · have hf := zz_f c5 hf
    refine lv_aload_n hx hb dX5_fair_19 rfl (lv_at hl 0 rfl) ?_
    refine lv_iload_n hx hb dX5_fair_20 rfl (lv_at hl 2 rfl) ?_
    obtain ⟨r6, hc6, hf⟩ := zz_bs hf
    refine zz_cVi C hP hD hS (kX5_censusOf l g q _ v2.2.2 v2.2.1 r6 hc6) gX5_fair_X5_censusOf mX5_censusOf (by decide) ⟨Nat.zero_le _, Nat.zero_le _⟩ 0 rfl rfl rfl rfl (rest := []) rfl hl.1 (Nat.le_of_ble_eq_true rfl) dX5_fair_21 (fun H locs hP hD hS => ?_)
    refine lv_aload_n hx hb dX5_fair_24 rfl (lv_at hl 0 rfl) ?_
    refine va_get (D := g.1) (ci := 5) (v := .int (r6.2.1 5)) (C := RX5) (T := TX5) (N := 29) hx hb hts iX5 hown hK hP 0 rfl rfl 5 (by decide) (zz_mem hts 1 rfl) (fun _ h9 => h9) rfl dX5_fair_25 ?_
    obtain ⟨r7, hc7, hf⟩ := zz_bs hf
    refine zz_cSi C hP hD hS (kX5_apart l g (zzY g q r6.2) _ r6.1 (r6.2.1 5) r7 hc7) gX5_fair_X5_apart mX5_apart (by decide) ⟨Nat.zero_le _, Nat.zero_le _⟩ rfl (rest := []) rfl hl.1 (Nat.le_of_ble_eq_true rfl) dX5_fair_28 (fun H locs hP hD hS => ?_)
    refine lv_aload_n hx hb dX5_fair_31 rfl (lv_at hl 0 rfl) ?_
    refine lv_iload_n hx hb dX5_fair_32 rfl (lv_at hl 1 rfl) ?_
    obtain ⟨r8, hc8, hf⟩ := zz_bs hf
    refine zz_cVi C hP hD hS (kX5_censusOf l g q _ r6.2 v2.1 r8 hc8) gX5_fair_X5_censusOf mX5_censusOf (by decide) ⟨Nat.zero_le _, Nat.zero_le _⟩ 0 rfl rfl rfl rfl (rest := [.int r7]) rfl hl.1 (Nat.le_of_ble_eq_true rfl) dX5_fair_33 (fun H locs hP hD hS => ?_)
    refine lv_aload_n hx hb dX5_fair_36 rfl (lv_at hl 0 rfl) ?_
    refine va_get (D := g.1) (ci := 5) (v := .int (r8.2.1 5)) (C := RX5) (T := TX5) (N := 29) hx hb hts iX5 hown hK hP 0 rfl rfl 5 (by decide) (zz_mem hts 1 rfl) (fun _ h9 => h9) rfl dX5_fair_37 ?_
    obtain ⟨r9, hc9, hf⟩ := zz_bs hf
    refine zz_cSi C hP hD hS (kX5_apart l g (zzY g q r8.2) _ r8.1 (r8.2.1 5) r9 hc9) gX5_fair_X5_apart mX5_apart (by decide) ⟨Nat.zero_le _, Nat.zero_le _⟩ rfl (rest := [.int r7]) rfl hl.1 (Nat.le_of_ble_eq_true rfl) dX5_fair_40 (fun H locs hP hD hS => ?_)
    refine lv_icmp_ge (tgt := 50) hx hb dX5_fair_43 (by decide) (fun c10 => ?_) (fun c10 => ?_)
    · have hf := zz_t c10 hf
      refine lv_iload_n hx hb dX5_fair_50 rfl (lv_at hl 1 rfl) ?_
      refine lv_istore_n (lv' := [(1, .int (v2.1)), (0, .ref (q 0)), (2, .int (v2.2.1))]) hx hb dX5_fair_51 rfl hl (by decide) rfl (fun ls hl => ?_)
      refine lv_iinc (v := (v2.2.1 + (1 : Int32))) (lv' := [(2, .int (v2.2.1 + (1 : Int32))), (1, .int (v2.1)), (0, .ref (q 0))]) hx hb dX5_fair_52 hl (k := 2) rfl rfl (by decide) rfl (fun ls hl => ?_)
      refine lv_goto (tgt := 14) hx hb dX5_fair_55 (by decide) ?_
      exact ih4 _ hf _ _ _ hP hD hS (lv_sub hl [2, 1, 0] rfl)
    · have hf := zz_f c10 hf
      refine lv_iload_n hx hb dX5_fair_46 rfl (lv_at hl 2 rfl) ?_
      refine lv_goto (tgt := 51) hx hb dX5_fair_47 (by decide) ?_
      refine lv_istore_n (lv' := [(1, .int (v2.2.1)), (0, .ref (q 0)), (2, .int (v2.2.1))]) hx hb dX5_fair_51 rfl hl (by decide) rfl (fun ls hl => ?_)
      refine lv_iinc (v := (v2.2.1 + (1 : Int32))) (lv' := [(2, .int (v2.2.1 + (1 : Int32))), (1, .int (v2.2.1)), (0, .ref (q 0))]) hx hb dX5_fair_52 hl (k := 2) rfl rfl (by decide) rfl (fun ls hl => ?_)
      refine lv_goto (tgt := 14) hx hb dX5_fair_55 (by decide) ?_
      exact ih4 _ hf _ _ _ hP hD hS (lv_sub hl [2, 1, 0] rfl)
def fX5_fair (u : zzS) : Option (Int32 × zzS) := (if (u.1 5) = 0 then (some ((-3 : Int32), u)) else (zzlp (sX5_fair_14 ) zzFU ((1 : Int32), (2 : Int32), u)))
set_option maxHeartbeats 4000000 in
set_option maxRecDepth 100000 in
theorem kX5_fair (l : Launch) (g : zzG) (q : Nat → Nat) (sz : Nat) (u : zzS)  (x : Int32 × zzS) (hf : fX5_fair u = some x) : zzI l g yX5_fair wsX5_fair rX5_fair [.ref (q 0)] (zzY g q u) (zzY g q x.2) sz x.1 := by
  refine zz_mi (cc := cX5_fair) (mL := 3) (own := RX5) (fun x : Int32 × zzS => x.1) (fun x : Int32 × zzS => (zzY g q x.2)) x (by decide) rfl rfl (Nat.le_of_ble_eq_true rfl) ?_
  intro p e s m below meth c A Q ls C ret hP hD hS hl
  have hl : lv_has ls 3 [(0, .ref (q 0))] := hl
  have hx := C.1.1
  have hb := C.1.2.1
  have hml := C.1.2.2.1
  have hown := C.1.2.2.2.1
  have hts := C.1.2.2.2.2
  have hK := C.2.1
  have iX5 : ∀ w ∈ wsX50, w ∈ wsX5_fair := fun _ h => List.mem_cons_of_mem _ (List.mem_append_right _ h)
  unfold fX5_fair at hf
  refine lv_aload_n hx hb dX5_fair_0 rfl (lv_at hl 0 rfl) ?_
  refine va_get (D := g.1) (ci := 5) (v := .int (u.1 5)) (C := RX5) (T := TX5) (N := 29) hx hb hts iX5 hown hK hP 0 rfl rfl 5 (by decide) (zz_mem hts 1 rfl) (fun _ h9 => h9) rfl dX5_fair_1 ?_
  refine lv_if_ne (tgt := 10) hx hb dX5_fair_4 (by decide) (fun c1 => ?_) (fun c1 => ?_)
  · have hf := zz_f c1 hf
    refine lv_iconst (v := (1 : Int32)) hx hb dX5_fair_10 (by decide) ?_
    refine lv_istore_n (lv' := [(1, .int (1 : Int32)), (0, .ref (q 0))]) hx hb dX5_fair_11 rfl hl (by decide) rfl (fun ls hl => ?_)
    refine lv_iconst (v := (2 : Int32)) hx hb dX5_fair_12 (by decide) ?_
    refine lv_istore_n (lv' := [(2, .int (2 : Int32)), (1, .int (1 : Int32)), (0, .ref (q 0))]) hx hb dX5_fair_13 rfl hl (by decide) rfl (fun ls hl => ?_)
    exact wX5_fair_14 l g q  x C ret  _ _ hf _ _ _ hP hD hS (lv_sub hl [2, 1, 0] rfl)
  · have hf := zz_t c1 hf
    refine lv_bipush (v := (-3 : Int32)) hx hb dX5_fair_7 (by decide) ?_
    exact ret _ _ _ _ ((-3 : Int32), u) hf dX5_fair_9 hP hD hS
abbrev rX5_isTaken : Room := ({ frames := 0, cells := 0, slots := 0, locals := 0 })
theorem mX5_isTaken : zzM yX5_isTaken wsX5_isTaken cX5_isTaken 4 (some .boolean) RX5 2 := ⟨⟨_, rfl⟩, by decide +kernel⟩
def sX5_isTaken_2 (p0 : Int32) (p1 : Int32) (u : zzS) : (Int32) → ((Int32) → Option Int32) → Option Int32 := fun v1 rec2 => (if (u.1 5) ≤ v1 then (some (0 : Int32)) else (if v1 = p0 then (rec2 ((v1 + (1 : Int32)))) else (zzga (u.2 9) 5 v1 (fun x7 => (if x7 = p1 then (some (1 : Int32)) else (rec2 ((v1 + (1 : Int32)))))))))
set_option maxHeartbeats 4000000 in
set_option maxRecDepth 100000 in
theorem wX5_isTaken_2 (l : Launch) (g : zzG) (q : Nat → Nat) (p0 : Int32) (p1 : Int32) (u : zzS) (x : Int32) {p : Program} {e : Env} {s : State} {m : MethodId} {below : List Frame} {meth : Method} {c : Code} {A : Nat → Prop} {Q : State → Prop} (C : zzC g p s m ([.ref (q 0), .int p0, .int p1] : List Value).toArray c cX5_isTaken 4 RX5 wsX5_isTaken A) (ret : zzRZ l g rX5_isTaken cX5_isTaken [.ref (q 0), .int p0, .int p1] (fun x : Int32 => x) (fun x : Int32 => (zzY g q u)) x p e s m below meth c A Q)  (n : Nat) (v1 : Int32) (hf : zzlp (sX5_isTaken_2 p0 p1 u) n v1 = some x) : ∀ (H : Heap) (locs : List Loc) (ls : Array Slot), va_P g.1 vwCl (zzY g q u) H → va_D A (zzY g q u) → va_S A s.heap H locs → lv_has ls 4 [(0, .ref (q 0)), (1, .int p0), (2, .int p1), (3, .int v1)] → W p l e rX5_isTaken s m ([.ref (q 0), .int p0, .int p1] : List Value).toArray below meth c H locs 0 0 Q (F0 m 2 ls []) := by
  have hx := C.1.1
  have hb := C.1.2.1
  have hml := C.1.2.2.1
  have hown := C.1.2.2.2.1
  have hts := C.1.2.2.2.2
  have hK := C.2.1
  have iX5 : ∀ w ∈ wsX50, w ∈ wsX5_isTaken := fun _ h => List.mem_cons_of_mem _ (List.mem_append_right _ h)
  refine zz_lp (P := fun (v1 : Int32) => ∀ (H : Heap) (locs : List Loc) (ls : Array Slot), va_P g.1 vwCl (zzY g q u) H → va_D A (zzY g q u) → va_S A s.heap H locs → lv_has ls 4 [(0, .ref (q 0)), (1, .int p0), (2, .int p1), (3, .int v1)] → W p l e rX5_isTaken s m ([.ref (q 0), .int p0, .int p1] : List Value).toArray below meth c H locs 0 0 Q (F0 m 2 ls [])) (fun v1 rec2 ih3 hf H locs ls hP hD hS hl => ?_) n v1 hf
  unfold sX5_isTaken_2 at hf
  refine lv_iload_n hx hb dX5_isTaken_2 rfl (lv_at hl 3 rfl) ?_
  refine lv_aload_n hx hb dX5_isTaken_3 rfl (lv_at hl 0 rfl) ?_
  refine va_get (D := g.1) (ci := 5) (v := .int (u.1 5)) (C := RX5) (T := TX5) (N := 29) hx hb hts iX5 hown hK hP 0 rfl rfl 5 (by decide) (zz_mem hts 1 rfl) (fun _ h9 => h9) rfl dX5_isTaken_4 ?_
  refine lv_icmp_ge (tgt := 33) hx hb dX5_isTaken_7 (by decide) (fun c4 => ?_) (fun c4 => ?_)
  · have hf := zz_t c4 hf
    refine lv_iconst (v := (0 : Int32)) hx hb dX5_isTaken_33 (by decide) ?_
    exact ret _ _ _ _ (0 : Int32) hf dX5_isTaken_34 zz_n0 hP hD hS
  · have hf := zz_f c4 hf
    refine lv_iload_n hx hb dX5_isTaken_10 rfl (lv_at hl 3 rfl) ?_
    refine lv_iload_n hx hb dX5_isTaken_11 rfl (lv_at hl 1 rfl) ?_
    refine lv_icmp_eq (tgt := 27) hx hb dX5_isTaken_12 (by decide) (fun c5 => ?_) (fun c5 => ?_)
    · have hf := zz_t c5 hf
      refine lv_iinc (v := (v1 + (1 : Int32))) (lv' := [(3, .int (v1 + (1 : Int32))), (0, .ref (q 0)), (1, .int p0), (2, .int p1)]) hx hb dX5_isTaken_27 hl (k := 3) rfl rfl (by decide) rfl (fun ls hl => ?_)
      refine lv_goto (tgt := 2) hx hb dX5_isTaken_30 (by decide) ?_
      exact ih3 _ hf _ _ _ hP hD hS (lv_sub hl [1, 2, 3, 0] rfl)
    · have hf := zz_f c5 hf
      refine lv_aload_n hx hb dX5_isTaken_15 rfl (lv_at hl 0 rfl) ?_
      refine va_get (D := g.1) (ci := 5) (v := .ref (q 9)) (C := RX5) (T := TX5) (N := 29) hx hb hts iX5 hown hK hP 0 rfl rfl 9 (by decide) (zz_mem hts 2 rfl) (fun _ h9 => h9) rfl dX5_isTaken_16 ?_
      refine lv_iload_n hx hb dX5_isTaken_19 rfl (lv_at hl 3 rfl) ?_
      obtain ⟨x7, h6, ex7, hf⟩ := zz_gx hf
      refine zz_iald hx hb hK hP 5 0 rfl rfl h6 ex7 dX5_isTaken_20 ?_
      refine lv_iload_n hx hb dX5_isTaken_21 rfl (lv_at hl 2 rfl) ?_
      refine lv_icmp_ne (tgt := 27) hx hb dX5_isTaken_22 (by decide) (fun c8 => ?_) (fun c8 => ?_)
      · have hf := zz_f c8 hf
        refine lv_iinc (v := (v1 + (1 : Int32))) (lv' := [(3, .int (v1 + (1 : Int32))), (0, .ref (q 0)), (1, .int p0), (2, .int p1)]) hx hb dX5_isTaken_27 hl (k := 3) rfl rfl (by decide) rfl (fun ls hl => ?_)
        refine lv_goto (tgt := 2) hx hb dX5_isTaken_30 (by decide) ?_
        exact ih3 _ hf _ _ _ hP hD hS (lv_sub hl [1, 2, 3, 0] rfl)
      · have hf := zz_t c8 hf
        refine lv_iconst (v := (1 : Int32)) hx hb dX5_isTaken_25 (by decide) ?_
        exact ret _ _ _ _ (1 : Int32) hf dX5_isTaken_26 zz_n1 hP hD hS
def fX5_isTaken (u : zzS) (p0 : Int32) (p1 : Int32) : Option Int32 := (zzlp (sX5_isTaken_2 p0 p1 u) zzFU ((0 : Int32)))
set_option maxHeartbeats 4000000 in
set_option maxRecDepth 100000 in
theorem kX5_isTaken (l : Launch) (g : zzG) (q : Nat → Nat) (sz : Nat) (u : zzS) (p0 : Int32) (p1 : Int32) (x : Int32) (hf : fX5_isTaken u p0 p1 = some x) : zzZ l g yX5_isTaken wsX5_isTaken rX5_isTaken [.ref (q 0), .int p0, .int p1] (zzY g q u) (zzY g q u) sz x := by
  refine zz_mz (cc := cX5_isTaken) (mL := 4) (own := RX5) (fun x : Int32 => x) (fun x : Int32 => (zzY g q u)) x (by decide) rfl rfl (Nat.le_of_ble_eq_true rfl) ?_
  intro p e s m below meth c A Q ls C ret hP hD hS hl
  have hl : lv_has ls 4 [(0, .ref (q 0)), (1, .int p0), (2, .int p1)] := hl
  have hx := C.1.1
  have hb := C.1.2.1
  have hml := C.1.2.2.1
  have hown := C.1.2.2.2.1
  have hts := C.1.2.2.2.2
  have hK := C.2.1
  have iX5 : ∀ w ∈ wsX50, w ∈ wsX5_isTaken := fun _ h => List.mem_cons_of_mem _ (List.mem_append_right _ h)
  unfold fX5_isTaken at hf
  refine lv_iconst (v := (0 : Int32)) hx hb dX5_isTaken_0 (by decide) ?_
  refine lv_istore_n (lv' := [(3, .int (0 : Int32)), (0, .ref (q 0)), (1, .int p0), (2, .int p1)]) hx hb dX5_isTaken_1 rfl hl (by decide) rfl (fun ls hl => ?_)
  exact wX5_isTaken_2 l g q p0 p1 u x C ret  _ _ hf _ _ _ hP hD hS (lv_sub hl [1, 2, 3, 0] rfl)
abbrev rX5_goWalks : Room := ({ frames := 1, cells := 0, slots := 0, locals := 23 })
theorem mX5_goWalks : zzM yX5_goWalks wsX5_goWalks cX5_goWalks 6 (some .int) RX5 2 := ⟨⟨_, rfl⟩, by decide +kernel⟩
def sX5_goWalks_7 (p0 : Int32) (p1 : Int32) : (Int32 × zzS) → ((Int32 × zzS) → Option (Int32 × zzS)) → Option (Int32 × zzS) := fun v1 rec2 => (if p1 ≤ v1.1 then (some ((-9 : Int32), v1.2)) else (zzga (v1.2.2 4) 240 (p0 + ((2 : Int32) * v1.1)) (fun x6 => (zzga (v1.2.2 4) 240 ((p0 + ((2 : Int32) * v1.1)) + (1 : Int32)) (fun x8 => ((fX5_isTaken v1.2 x6 x8).bind (fun r9 => (if r9 = 0 then (zzga (v1.2.2 9) 5 x6 (fun x12 => ((fX5_apart x12 x8).bind (fun r13 => (zzpa 5 x6 (rec2 ((v1.1 + (1 : Int32)), (zza (zzi v1.2 25 ((v1.2.1 25) + r13)) 9 x6.toNatClampNeg x8)))))))) else (some (v1.1, v1.2))))))))))
set_option maxHeartbeats 4000000 in
set_option maxRecDepth 100000 in
theorem wX5_goWalks_7 (l : Launch) (g : zzG) (q : Nat → Nat) (p0 : Int32) (p1 : Int32) (x : Int32 × zzS) {p : Program} {e : Env} {s : State} {m : MethodId} {below : List Frame} {meth : Method} {c : Code} {A : Nat → Prop} {Q : State → Prop} (C : zzC g p s m ([.ref (q 0), .int p0, .int p1] : List Value).toArray c cX5_goWalks 6 RX5 wsX5_goWalks A) (ret : zzRI l g rX5_goWalks cX5_goWalks [.ref (q 0), .int p0, .int p1] (fun x : Int32 × zzS => x.1) (fun x : Int32 × zzS => (zzY g q x.2)) x p e s m below meth c A Q)  (n : Nat) (v1 : Int32 × zzS) (hf : zzlp (sX5_goWalks_7 p0 p1) n v1 = some x) : ∀ (H : Heap) (locs : List Loc) (ls : Array Slot), va_P g.1 vwCl (zzY g q v1.2) H → va_D A (zzY g q v1.2) → va_S A s.heap H locs → lv_has ls 6 [(0, .ref (q 0)), (1, .int p0), (2, .int p1), (3, .int (v1.1))] → W p l e rX5_goWalks s m ([.ref (q 0), .int p0, .int p1] : List Value).toArray below meth c H locs 0 0 Q (F0 m 7 ls []) := by
  have hx := C.1.1
  have hb := C.1.2.1
  have hml := C.1.2.2.1
  have hown := C.1.2.2.2.1
  have hts := C.1.2.2.2.2
  have hK := C.2.1
  have iX5 : ∀ w ∈ wsX50, w ∈ wsX5_goWalks := fun _ h => List.mem_cons_of_mem _ (List.mem_append_right _ h)
  refine zz_lp (P := fun (v1 : Int32 × zzS) => ∀ (H : Heap) (locs : List Loc) (ls : Array Slot), va_P g.1 vwCl (zzY g q v1.2) H → va_D A (zzY g q v1.2) → va_S A s.heap H locs → lv_has ls 6 [(0, .ref (q 0)), (1, .int p0), (2, .int p1), (3, .int (v1.1))] → W p l e rX5_goWalks s m ([.ref (q 0), .int p0, .int p1] : List Value).toArray below meth c H locs 0 0 Q (F0 m 7 ls [])) (fun v1 rec2 ih3 hf H locs ls hP hD hS hl => ?_) n v1 hf
  unfold sX5_goWalks_7 at hf
  refine lv_iload_n hx hb dX5_goWalks_7 rfl (lv_at hl 3 rfl) ?_
  refine lv_iload_n hx hb dX5_goWalks_8 rfl (lv_at hl 2 rfl) ?_
  refine lv_icmp_ge (tgt := 87) hx hb dX5_goWalks_9 (by decide) (fun c4 => ?_) (fun c4 => ?_)
  · have hf := zz_t c4 hf
    refine lv_bipush (v := (-9 : Int32)) hx hb dX5_goWalks_87 (by decide) ?_
    exact ret _ _ _ _ ((-9 : Int32), v1.2) hf dX5_goWalks_89 hP hD hS
  · have hf := zz_f c4 hf
    refine lv_aload_n hx hb dX5_goWalks_12 rfl (lv_at hl 0 rfl) ?_
    refine va_get (D := g.1) (ci := 5) (v := .ref (q 4)) (C := RX5) (T := TX5) (N := 29) hx hb hts iX5 hown hK hP 0 rfl rfl 4 (by decide) (zz_mem hts 2 rfl) (fun _ h9 => h9) rfl dX5_goWalks_13 ?_
    refine lv_iload_n hx hb dX5_goWalks_16 rfl (lv_at hl 1 rfl) ?_
    refine lv_iconst (v := (2 : Int32)) hx hb dX5_goWalks_17 (by decide) ?_
    refine lv_iload_n hx hb dX5_goWalks_18 rfl (lv_at hl 3 rfl) ?_
    refine lv_imul hx hb dX5_goWalks_19 ?_
    refine lv_iadd hx hb dX5_goWalks_20 ?_
    obtain ⟨x6, h5, ex6, hf⟩ := zz_gx hf
    refine zz_iald hx hb hK hP 3 0 rfl rfl h5 ex6 dX5_goWalks_21 ?_
    refine lv_istore (lv' := [(4, .int x6), (0, .ref (q 0)), (1, .int p0), (2, .int p1), (3, .int (v1.1))]) hx hb dX5_goWalks_22 hl (by decide) rfl (fun ls hl => ?_)
    refine lv_aload_n hx hb dX5_goWalks_24 rfl (lv_at hl 1 rfl) ?_
    refine va_get (D := g.1) (ci := 5) (v := .ref (q 4)) (C := RX5) (T := TX5) (N := 29) hx hb hts iX5 hown hK hP 0 rfl rfl 4 (by decide) (zz_mem hts 2 rfl) (fun _ h9 => h9) rfl dX5_goWalks_25 ?_
    refine lv_iload_n hx hb dX5_goWalks_28 rfl (lv_at hl 2 rfl) ?_
    refine lv_iconst (v := (2 : Int32)) hx hb dX5_goWalks_29 (by decide) ?_
    refine lv_iload_n hx hb dX5_goWalks_30 rfl (lv_at hl 4 rfl) ?_
    refine lv_imul hx hb dX5_goWalks_31 ?_
    refine lv_iadd hx hb dX5_goWalks_32 ?_
    refine lv_iconst (v := (1 : Int32)) hx hb dX5_goWalks_33 (by decide) ?_
    refine lv_iadd hx hb dX5_goWalks_34 ?_
    obtain ⟨x8, h7, ex8, hf⟩ := zz_gx hf
    refine zz_iald hx hb hK hP 3 0 rfl rfl h7 ex8 dX5_goWalks_35 ?_
    refine lv_istore (lv' := [(5, .int x8), (4, .int x6), (0, .ref (q 0)), (1, .int p0), (2, .int p1), (3, .int (v1.1))]) hx hb dX5_goWalks_36 hl (by decide) rfl (fun ls hl => ?_)
    refine lv_aload_n hx hb dX5_goWalks_38 rfl (lv_at hl 2 rfl) ?_
    refine lv_iload hx hb dX5_goWalks_39 (lv_at hl 1 rfl) ?_
    refine lv_iload hx hb dX5_goWalks_41 (lv_at hl 0 rfl) ?_
    obtain ⟨r9, hc9, hf⟩ := zz_bs hf
    refine zz_cVz C hP hD hS (kX5_isTaken l g q _ v1.2 x6 x8 r9 hc9) gX5_goWalks_X5_isTaken mX5_isTaken (by decide) ⟨Nat.zero_le _, Nat.zero_le _⟩ 0 rfl rfl rfl rfl (rest := []) rfl hl.1 (Nat.le_of_ble_eq_true rfl) dX5_goWalks_43 (fun hz9 H locs hP hD hS => ?_)
    refine lv_if_eq (tgt := 51) hx hb dX5_goWalks_46 (by decide) (fun c10 => ?_) (fun c10 => ?_)
    · have hf := zz_t c10 hf
      refine lv_aload_n hx hb dX5_goWalks_51 rfl (lv_at hl 2 rfl) ?_
      refine lv_dup hx hb dX5_goWalks_52 rfl ?_
      refine va_get (D := g.1) (ci := 5) (v := .int (v1.2.1 25)) (C := RX5) (T := TX5) (N := 29) hx hb hts iX5 hown hK hP 0 rfl rfl 25 (by decide) (zz_mem hts 1 rfl) (fun _ h9 => h9) rfl dX5_goWalks_53 ?_
      refine lv_aload_n hx hb dX5_goWalks_56 rfl (lv_at hl 2 rfl) ?_
      refine va_get (D := g.1) (ci := 5) (v := .ref (q 9)) (C := RX5) (T := TX5) (N := 29) hx hb hts iX5 hown hK hP 0 rfl rfl 9 (by decide) (zz_mem hts 3 rfl) (fun _ h9 => h9) rfl dX5_goWalks_57 ?_
      refine lv_iload hx hb dX5_goWalks_60 (lv_at hl 1 rfl) ?_
      obtain ⟨x12, h11, ex12, hf⟩ := zz_gx hf
      refine zz_iald hx hb hK hP 5 0 rfl rfl h11 ex12 dX5_goWalks_62 ?_
      refine lv_iload hx hb dX5_goWalks_63 (lv_at hl 0 rfl) ?_
      obtain ⟨r13, hc13, hf⟩ := zz_bs hf
      refine zz_cSi C hP hD hS (kX5_apart l g (zzY g q v1.2) _ x12 x8 r13 hc13) gX5_goWalks_X5_apart mX5_apart (by decide) ⟨Nat.zero_le _, Nat.zero_le _⟩ rfl (rest := [.int (v1.2.1 25), .ref (q 0)]) rfl hl.1 (Nat.le_of_ble_eq_true rfl) dX5_goWalks_65 (fun H locs hP hD hS => ?_)
      refine lv_iadd hx hb dX5_goWalks_68 ?_
      refine va_put (D := g.1) (ci := 5) (v := .int ((v1.2.1 25) + r13)) (ty := .int) (C := RX5) (T := TX5) (N := 29) hx hb hts iX5 tyX5 tyX5_ok nmX5 hown hK hP hD hS 0 rfl rfl 25 (by decide) (zz_mem hts 1 rfl) (fun _ h9 => h9) rfl (tyX5_ok 25 (by decide)) rfl rfl (Nat.le_of_ble_eq_true rfl) dX5_goWalks_69 (fun H locs hP hD hS => ?_)
      have hP : va_P g.1 vwCl (zzY g q (zzi v1.2 25 ((v1.2.1 25) + r13))) H := Eq.mp (congrArg (fun w => va_P g.1 vwCl w H) (zyo_0_25 g q v1.2 ((v1.2.1 25) + r13))) hP
      have hD : va_D A (zzY g q (zzi v1.2 25 ((v1.2.1 25) + r13))) := Eq.mp (congrArg (va_D A) (zyo_0_25 g q v1.2 ((v1.2.1 25) + r13))) hD
      refine lv_aload_n hx hb dX5_goWalks_72 rfl (lv_at hl 2 rfl) ?_
      refine va_get (D := g.1) (ci := 5) (v := .ref (q 9)) (C := RX5) (T := TX5) (N := 29) hx hb hts iX5 hown hK hP 0 rfl rfl 9 (by decide) (zz_mem hts 3 rfl) (fun _ h9 => h9) rfl dX5_goWalks_73 ?_
      refine lv_iload hx hb dX5_goWalks_76 (lv_at hl 1 rfl) ?_
      refine lv_iload hx hb dX5_goWalks_78 (lv_at hl 0 rfl) ?_
      obtain ⟨h14, hf⟩ := zz_pa hf
      refine va_iast hx hb hK hP hD hS 5 0 rfl rfl h14 dX5_goWalks_80 (fun H locs hP hD hS => ?_)
      have hP : va_P g.1 vwCl (zzY g q (zza (zzi v1.2 25 ((v1.2.1 25) + r13)) 9 x6.toNatClampNeg x8)) H := Eq.mp (congrArg (fun w => va_P g.1 vwCl w H) (zya_5 g q (zzi v1.2 25 ((v1.2.1 25) + r13)) (upd ((zzi v1.2 25 ((v1.2.1 25) + r13)).2 9) x6.toNatClampNeg x8))) hP
      have hD : va_D A (zzY g q (zza (zzi v1.2 25 ((v1.2.1 25) + r13)) 9 x6.toNatClampNeg x8)) := Eq.mp (congrArg (va_D A) (zya_5 g q (zzi v1.2 25 ((v1.2.1 25) + r13)) (upd ((zzi v1.2 25 ((v1.2.1 25) + r13)).2 9) x6.toNatClampNeg x8))) hD
      refine lv_iinc (v := (v1.1 + (1 : Int32))) (lv' := [(3, .int (v1.1 + (1 : Int32))), (5, .int x8), (4, .int x6), (0, .ref (q 0)), (1, .int p0), (2, .int p1)]) hx hb dX5_goWalks_81 hl (k := 5) rfl rfl (by decide) rfl (fun ls hl => ?_)
      refine lv_goto (tgt := 7) hx hb dX5_goWalks_84 (by decide) ?_
      exact ih3 _ hf _ _ _ hP hD hS (lv_sub hl [3, 4, 5, 0] rfl)
    · have hf := zz_f c10 hf
      refine lv_iload_n hx hb dX5_goWalks_49 rfl (lv_at hl 5 rfl) ?_
      exact ret _ _ _ _ (v1.1, v1.2) hf dX5_goWalks_50 hP hD hS
def fX5_goWalks (u : zzS) (p0 : Int32) (p1 : Int32) : Option (Int32 × zzS) := (zzlp (sX5_goWalks_7 p0 p1) zzFU ((0 : Int32), (zzi u 25 (0 : Int32))))
set_option maxHeartbeats 4000000 in
set_option maxRecDepth 100000 in
theorem kX5_goWalks (l : Launch) (g : zzG) (q : Nat → Nat) (sz : Nat) (u : zzS) (p0 : Int32) (p1 : Int32) (x : Int32 × zzS) (hf : fX5_goWalks u p0 p1 = some x) : zzI l g yX5_goWalks wsX5_goWalks rX5_goWalks [.ref (q 0), .int p0, .int p1] (zzY g q u) (zzY g q x.2) sz x.1 := by
  refine zz_mi (cc := cX5_goWalks) (mL := 6) (own := RX5) (fun x : Int32 × zzS => x.1) (fun x : Int32 × zzS => (zzY g q x.2)) x (by decide) rfl rfl (Nat.le_of_ble_eq_true rfl) ?_
  intro p e s m below meth c A Q ls C ret hP hD hS hl
  have hl : lv_has ls 6 [(0, .ref (q 0)), (1, .int p0), (2, .int p1)] := hl
  have hx := C.1.1
  have hb := C.1.2.1
  have hml := C.1.2.2.1
  have hown := C.1.2.2.2.1
  have hts := C.1.2.2.2.2
  have hK := C.2.1
  have iX5 : ∀ w ∈ wsX50, w ∈ wsX5_goWalks := fun _ h => List.mem_cons_of_mem _ (List.mem_append_right _ h)
  unfold fX5_goWalks at hf
  refine lv_aload_n hx hb dX5_goWalks_0 rfl (lv_at hl 0 rfl) ?_
  refine lv_iconst (v := (0 : Int32)) hx hb dX5_goWalks_1 (by decide) ?_
  refine va_put (D := g.1) (ci := 5) (v := .int (0 : Int32)) (ty := .int) (C := RX5) (T := TX5) (N := 29) hx hb hts iX5 tyX5 tyX5_ok nmX5 hown hK hP hD hS 0 rfl rfl 25 (by decide) (zz_mem hts 1 rfl) (fun _ h9 => h9) rfl (tyX5_ok 25 (by decide)) rfl rfl (Nat.le_of_ble_eq_true rfl) dX5_goWalks_2 (fun H locs hP hD hS => ?_)
  have hP : va_P g.1 vwCl (zzY g q (zzi u 25 (0 : Int32))) H := Eq.mp (congrArg (fun w => va_P g.1 vwCl w H) (zyo_0_25 g q u (0 : Int32))) hP
  have hD : va_D A (zzY g q (zzi u 25 (0 : Int32))) := Eq.mp (congrArg (va_D A) (zyo_0_25 g q u (0 : Int32))) hD
  refine lv_iconst (v := (0 : Int32)) hx hb dX5_goWalks_5 (by decide) ?_
  refine lv_istore_n (lv' := [(3, .int (0 : Int32)), (0, .ref (q 0)), (1, .int p0), (2, .int p1)]) hx hb dX5_goWalks_6 rfl hl (by decide) rfl (fun ls hl => ?_)
  exact wX5_goWalks_7 l g q p0 p1 x C ret  _ _ hf _ _ _ hP hD hS (lv_sub hl [1, 2, 3, 0] rfl)
abbrev rX5_tellWalks : Room := ({ frames := 4, cells := 0, slots := 0, locals := 91 })
theorem mX5_tellWalks : zzM yX5_tellWalks wsX5_tellWalks cX5_tellWalks 3 (some .int) RX5 2 := ⟨⟨_, rfl⟩, by decide +kernel⟩
def fX5_tellWalks (u : zzS) (p0 : Int32) (p1 : Int32) : Option (Int32 × zzS) := (if p1 < (10 : Int32) then (if p1 = 0 then ((fX5_censusOf u p0).bind (fun r5 => (some (r5.1, r5.2)))) else (if p1 = (2 : Int32) then (some ((u.1 25), u)) else ((fX5_hiddenOf u p0).bind (fun r4 => (some (r4, u)))))) else ((fX5_isStander u (p1 - (10 : Int32))).bind (fun r6 => (if r6 = 0 then (some ((-9 : Int32), u)) else (zzga (u.2 9) 5 (p1 - (10 : Int32)) (fun x9 => (some (x9, u))))))))
set_option maxHeartbeats 4000000 in
set_option maxRecDepth 100000 in
theorem kX5_tellWalks (l : Launch) (g : zzG) (q : Nat → Nat) (sz : Nat) (u : zzS) (p0 : Int32) (p1 : Int32) (x : Int32 × zzS) (hf : fX5_tellWalks u p0 p1 = some x) : zzI l g yX5_tellWalks wsX5_tellWalks rX5_tellWalks [.ref (q 0), .int p0, .int p1] (zzY g q u) (zzY g q x.2) sz x.1 := by
  refine zz_mi (cc := cX5_tellWalks) (mL := 3) (own := RX5) (fun x : Int32 × zzS => x.1) (fun x : Int32 × zzS => (zzY g q x.2)) x (by decide) rfl rfl (Nat.le_of_ble_eq_true rfl) ?_
  intro p e s m below meth c A Q ls C ret hP hD hS hl
  have hl : lv_has ls 3 [(0, .ref (q 0)), (1, .int p0), (2, .int p1)] := hl
  have hx := C.1.1
  have hb := C.1.2.1
  have hml := C.1.2.2.1
  have hown := C.1.2.2.2.1
  have hts := C.1.2.2.2.2
  have hK := C.2.1
  have iX5 : ∀ w ∈ wsX50, w ∈ wsX5_tellWalks := fun _ h => List.mem_cons_of_mem _ (List.mem_append_right _ h)
  unfold fX5_tellWalks at hf
  refine lv_iload_n hx hb dX5_tellWalks_0 rfl (lv_at hl 2 rfl) ?_
  refine lv_bipush (v := (10 : Int32)) hx hb dX5_tellWalks_1 (by decide) ?_
  refine lv_icmp_lt (tgt := 32) hx hb dX5_tellWalks_3 (by decide) (fun c1 => ?_) (fun c1 => ?_)
  · have hf := zz_t c1 hf
    refine lv_iload_n hx hb dX5_tellWalks_32 rfl (lv_at hl 2 rfl) ?_
    refine lv_if_ne (tgt := 44) hx hb dX5_tellWalks_33 (by decide) (fun c2 => ?_) (fun c2 => ?_)
    · have hf := zz_f c2 hf
      refine lv_iload_n hx hb dX5_tellWalks_44 rfl (lv_at hl 2 rfl) ?_
      refine lv_iconst (v := (2 : Int32)) hx hb dX5_tellWalks_45 (by decide) ?_
      refine lv_icmp_ne (tgt := 56) hx hb dX5_tellWalks_46 (by decide) (fun c3 => ?_) (fun c3 => ?_)
      · have hf := zz_f c3 hf
        refine lv_aload_n hx hb dX5_tellWalks_56 rfl (lv_at hl 0 rfl) ?_
        refine lv_iload_n hx hb dX5_tellWalks_57 rfl (lv_at hl 1 rfl) ?_
        obtain ⟨r4, hc4, hf⟩ := zz_bs hf
        refine zz_cVi C hP hD hS (kX5_hiddenOf l g q _ u p0 r4 hc4) gX5_tellWalks_X5_hiddenOf mX5_hiddenOf (by decide) ⟨Nat.zero_le _, Nat.zero_le _⟩ 0 rfl rfl rfl rfl (rest := []) rfl hl.1 (Nat.le_of_ble_eq_true rfl) dX5_tellWalks_58 (fun H locs hP hD hS => ?_)
        exact ret _ _ _ _ (r4, u) hf dX5_tellWalks_61 hP hD hS
      · have hf := zz_t c3 hf
        refine lv_aload_n hx hb dX5_tellWalks_49 rfl (lv_at hl 0 rfl) ?_
        refine va_get (D := g.1) (ci := 5) (v := .int (u.1 25)) (C := RX5) (T := TX5) (N := 29) hx hb hts iX5 hown hK hP 0 rfl rfl 25 (by decide) (zz_mem hts 2 rfl) (fun _ h9 => h9) rfl dX5_tellWalks_50 ?_
        refine lv_goto (tgt := 61) hx hb dX5_tellWalks_53 (by decide) ?_
        exact ret _ _ _ _ ((u.1 25), u) hf dX5_tellWalks_61 hP hD hS
    · have hf := zz_t c2 hf
      refine lv_aload_n hx hb dX5_tellWalks_36 rfl (lv_at hl 0 rfl) ?_
      refine lv_iload_n hx hb dX5_tellWalks_37 rfl (lv_at hl 1 rfl) ?_
      obtain ⟨r5, hc5, hf⟩ := zz_bs hf
      refine zz_cVi C hP hD hS (kX5_censusOf l g q _ u p0 r5 hc5) gX5_tellWalks_X5_censusOf mX5_censusOf (by decide) ⟨Nat.zero_le _, Nat.zero_le _⟩ 0 rfl rfl rfl rfl (rest := []) rfl hl.1 (Nat.le_of_ble_eq_true rfl) dX5_tellWalks_38 (fun H locs hP hD hS => ?_)
      refine lv_goto (tgt := 61) hx hb dX5_tellWalks_41 (by decide) ?_
      exact ret _ _ _ _ (r5.1, r5.2) hf dX5_tellWalks_61 hP hD hS
  · have hf := zz_f c1 hf
    refine lv_aload_n hx hb dX5_tellWalks_6 rfl (lv_at hl 0 rfl) ?_
    refine lv_iload_n hx hb dX5_tellWalks_7 rfl (lv_at hl 2 rfl) ?_
    refine lv_bipush (v := (10 : Int32)) hx hb dX5_tellWalks_8 (by decide) ?_
    refine lv_isub hx hb dX5_tellWalks_10 ?_
    obtain ⟨r6, hc6, hf⟩ := zz_bs hf
    refine zz_cVz C hP hD hS (kX5_isStander l g q _ u (p1 - (10 : Int32)) r6 hc6) gX5_tellWalks_X5_isStander mX5_isStander (by decide) ⟨Nat.zero_le _, Nat.zero_le _⟩ 0 rfl rfl rfl rfl (rest := []) rfl hl.1 (Nat.le_of_ble_eq_true rfl) dX5_tellWalks_11 (fun hz6 H locs hP hD hS => ?_)
    refine lv_if_eq (tgt := 29) hx hb dX5_tellWalks_14 (by decide) (fun c7 => ?_) (fun c7 => ?_)
    · have hf := zz_t c7 hf
      refine lv_bipush (v := (-9 : Int32)) hx hb dX5_tellWalks_29 (by decide) ?_
      exact ret _ _ _ _ ((-9 : Int32), u) hf dX5_tellWalks_31 hP hD hS
    · have hf := zz_f c7 hf
      refine lv_aload_n hx hb dX5_tellWalks_17 rfl (lv_at hl 0 rfl) ?_
      refine va_get (D := g.1) (ci := 5) (v := .ref (q 9)) (C := RX5) (T := TX5) (N := 29) hx hb hts iX5 hown hK hP 0 rfl rfl 9 (by decide) (zz_mem hts 1 rfl) (fun _ h9 => h9) rfl dX5_tellWalks_18 ?_
      refine lv_iload_n hx hb dX5_tellWalks_21 rfl (lv_at hl 2 rfl) ?_
      refine lv_bipush (v := (10 : Int32)) hx hb dX5_tellWalks_22 (by decide) ?_
      refine lv_isub hx hb dX5_tellWalks_24 ?_
      obtain ⟨x9, h8, ex9, hf⟩ := zz_gx hf
      refine zz_iald hx hb hK hP 5 0 rfl rfl h8 ex9 dX5_tellWalks_25 ?_
      refine lv_goto (tgt := 31) hx hb dX5_tellWalks_26 (by decide) ?_
      exact ret _ _ _ _ (x9, u) hf dX5_tellWalks_31 hP hD hS
abbrev rX5_walks : Room := ({ frames := 5, cells := 0, slots := 0, locals := 113 })
theorem mX5_walks : zzM yX5_walks wsX5_walks cX5_walks 12 (some .int) RX5 6 := ⟨⟨_, rfl⟩, by decide +kernel⟩
def sX5_walks_223 (p0 : Int32) (p1 : Int32) (p2 : Int32) (p3 : Int32) (p4 : Int32) (p5 : Int32) (r23 : Int32 × zzS) (r24 : Int32 × zzS) : (Int32 × zzS) → ((Int32 × zzS) → Option (Int32 × zzS)) → Option (Int32 × zzS) := fun v25 rec26 => (if (v25.2.1 5) ≤ v25.1 then (if p5 = (1 : Int32) then (some (r23.1, v25.2)) else (if r23.1 = (-9 : Int32) then (some (r24.1, v25.2)) else (some (((-100 : Int32) - r23.1), v25.2)))) else (zzga (v25.2.2 24) 5 v25.1 (fun x32 => (zzpa 5 v25.1 (rec26 ((v25.1 + (1 : Int32)), (zza v25.2 9 v25.1.toNatClampNeg x32)))))))
set_option maxHeartbeats 4000000 in
set_option maxRecDepth 100000 in
theorem wX5_walks_223 (l : Launch) (g : zzG) (q : Nat → Nat) (p0 : Int32) (p1 : Int32) (p2 : Int32) (p3 : Int32) (p4 : Int32) (p5 : Int32) (r23 : Int32 × zzS) (r24 : Int32 × zzS) (x : Int32 × zzS) {p : Program} {e : Env} {s : State} {m : MethodId} {below : List Frame} {meth : Method} {c : Code} {A : Nat → Prop} {Q : State → Prop} (C : zzC g p s m ([.ref (q 0), .int p0, .int p1, .int p2, .int p3, .int p4, .int p5] : List Value).toArray c cX5_walks 12 RX5 wsX5_walks A) (ret : zzRI l g rX5_walks cX5_walks [.ref (q 0), .int p0, .int p1, .int p2, .int p3, .int p4, .int p5] (fun x : Int32 × zzS => x.1) (fun x : Int32 × zzS => (zzY g q x.2)) x p e s m below meth c A Q)  (n : Nat) (v25 : Int32 × zzS) (hf : zzlp (sX5_walks_223 p0 p1 p2 p3 p4 p5 r23 r24) n v25 = some x) : ∀ (H : Heap) (locs : List Loc) (ls : Array Slot), va_P g.1 vwCl (zzY g q v25.2) H → va_D A (zzY g q v25.2) → va_S A s.heap H locs → lv_has ls 12 [(0, .ref (q 0)), (6, .int p5), (9, .int (r23.1)), (10, .int (r24.1)), (11, .int (v25.1))] → W p l e rX5_walks s m ([.ref (q 0), .int p0, .int p1, .int p2, .int p3, .int p4, .int p5] : List Value).toArray below meth c H locs 0 0 Q (F0 m 223 ls []) := by
  have hx := C.1.1
  have hb := C.1.2.1
  have hml := C.1.2.2.1
  have hown := C.1.2.2.2.1
  have hts := C.1.2.2.2.2
  have hK := C.2.1
  have iX5 : ∀ w ∈ wsX50, w ∈ wsX5_walks := fun _ h => List.mem_cons_of_mem _ (List.mem_append_right _ h)
  refine zz_lp (P := fun (v25 : Int32 × zzS) => ∀ (H : Heap) (locs : List Loc) (ls : Array Slot), va_P g.1 vwCl (zzY g q v25.2) H → va_D A (zzY g q v25.2) → va_S A s.heap H locs → lv_has ls 12 [(0, .ref (q 0)), (6, .int p5), (9, .int (r23.1)), (10, .int (r24.1)), (11, .int (v25.1))] → W p l e rX5_walks s m ([.ref (q 0), .int p0, .int p1, .int p2, .int p3, .int p4, .int p5] : List Value).toArray below meth c H locs 0 0 Q (F0 m 223 ls [])) (fun v25 rec26 ih27 hf H locs ls hP hD hS hl => ?_) n v25 hf
  unfold sX5_walks_223 at hf
  refine lv_iload hx hb dX5_walks_223 (lv_at hl 4 rfl) ?_
  refine lv_aload_n hx hb dX5_walks_225 rfl (lv_at hl 0 rfl) ?_
  refine va_get (D := g.1) (ci := 5) (v := .int (v25.2.1 5)) (C := RX5) (T := TX5) (N := 29) hx hb hts iX5 hown hK hP 0 rfl rfl 5 (by decide) (zz_mem hts 2 rfl) (fun _ h9 => h9) rfl dX5_walks_226 ?_
  refine lv_icmp_ge (tgt := 252) hx hb dX5_walks_229 (by decide) (fun c28 => ?_) (fun c28 => ?_)
  · have hf := zz_t c28 hf
    refine lv_iload hx hb dX5_walks_252 (lv_at hl 1 rfl) ?_
    refine lv_iconst (v := (1 : Int32)) hx hb dX5_walks_254 (by decide) ?_
    refine lv_icmp_ne (tgt := 263) hx hb dX5_walks_255 (by decide) (fun c29 => ?_) (fun c29 => ?_)
    · have hf := zz_f c29 hf
      refine lv_iload hx hb dX5_walks_263 (lv_at hl 2 rfl) ?_
      refine lv_bipush (v := (-9 : Int32)) hx hb dX5_walks_265 (by decide) ?_
      refine lv_icmp_ne (tgt := 275) hx hb dX5_walks_267 (by decide) (fun c30 => ?_) (fun c30 => ?_)
      · have hf := zz_f c30 hf
        refine lv_bipush (v := (-100 : Int32)) hx hb dX5_walks_275 (by decide) ?_
        refine lv_iload hx hb dX5_walks_277 (lv_at hl 2 rfl) ?_
        refine lv_isub hx hb dX5_walks_279 ?_
        exact ret _ _ _ _ (((-100 : Int32) - r23.1), v25.2) hf dX5_walks_280 hP hD hS
      · have hf := zz_t c30 hf
        refine lv_iload hx hb dX5_walks_270 (lv_at hl 3 rfl) ?_
        refine lv_goto (tgt := 280) hx hb dX5_walks_272 (by decide) ?_
        exact ret _ _ _ _ (r24.1, v25.2) hf dX5_walks_280 hP hD hS
    · have hf := zz_t c29 hf
      refine lv_iload hx hb dX5_walks_258 (lv_at hl 2 rfl) ?_
      refine lv_goto (tgt := 280) hx hb dX5_walks_260 (by decide) ?_
      exact ret _ _ _ _ (r23.1, v25.2) hf dX5_walks_280 hP hD hS
  · have hf := zz_f c28 hf
    refine lv_aload_n hx hb dX5_walks_232 rfl (lv_at hl 0 rfl) ?_
    refine va_get (D := g.1) (ci := 5) (v := .ref (q 9)) (C := RX5) (T := TX5) (N := 29) hx hb hts iX5 hown hK hP 0 rfl rfl 9 (by decide) (zz_mem hts 5 rfl) (fun _ h9 => h9) rfl dX5_walks_233 ?_
    refine lv_iload hx hb dX5_walks_236 (lv_at hl 4 rfl) ?_
    refine lv_aload_n hx hb dX5_walks_238 rfl (lv_at hl 0 rfl) ?_
    refine va_get (D := g.1) (ci := 5) (v := .ref (q 24)) (C := RX5) (T := TX5) (N := 29) hx hb hts iX5 hown hK hP 0 rfl rfl 24 (by decide) (zz_mem hts 4 rfl) (fun _ h9 => h9) rfl dX5_walks_239 ?_
    refine lv_iload hx hb dX5_walks_242 (lv_at hl 4 rfl) ?_
    obtain ⟨x32, h31, ex32, hf⟩ := zz_gx hf
    refine zz_iald hx hb hK hP 11 0 rfl rfl h31 ex32 dX5_walks_244 ?_
    obtain ⟨h33, hf⟩ := zz_pa hf
    refine va_iast hx hb hK hP hD hS 5 0 rfl rfl h33 dX5_walks_245 (fun H locs hP hD hS => ?_)
    have hP : va_P g.1 vwCl (zzY g q (zza v25.2 9 v25.1.toNatClampNeg x32)) H := Eq.mp (congrArg (fun w => va_P g.1 vwCl w H) (zya_5 g q v25.2 (upd (v25.2.2 9) v25.1.toNatClampNeg x32))) hP
    have hD : va_D A (zzY g q (zza v25.2 9 v25.1.toNatClampNeg x32)) := Eq.mp (congrArg (va_D A) (zya_5 g q v25.2 (upd (v25.2.2 9) v25.1.toNatClampNeg x32))) hD
    refine lv_iinc (v := (v25.1 + (1 : Int32))) (lv' := [(11, .int (v25.1 + (1 : Int32))), (0, .ref (q 0)), (6, .int p5), (9, .int (r23.1)), (10, .int (r24.1))]) hx hb dX5_walks_246 hl (k := 4) rfl rfl (by decide) rfl (fun ls hl => ?_)
    refine lv_goto (tgt := 223) hx hb dX5_walks_249 (by decide) ?_
    exact ih27 _ hf _ _ _ hP hD hS (lv_sub hl [1, 2, 3, 4, 0] rfl)
def sX5_walks_172 (p0 : Int32) (p1 : Int32) (p2 : Int32) (p3 : Int32) (p4 : Int32) (p5 : Int32) : (Int32 × zzS) → ((Int32 × zzS) → Option (Int32 × zzS)) → Option (Int32 × zzS) := fun v19 rec20 => (if (v19.2.1 5) ≤ v19.1 then ((fX5_goWalks v19.2 (((60 : Int32) * p1) + p3) p4).bind (fun r23 => ((fX5_tellWalks r23.2 p0 p5).bind (fun r24 => (zzlp (sX5_walks_223 p0 p1 p2 p3 p4 p5 r23 r24) zzFU ((0 : Int32), r24.2)))))) else (zzga (v19.2.2 9) 5 v19.1 (fun x35 => (zzpa 5 v19.1 (rec20 ((v19.1 + (1 : Int32)), (zza v19.2 24 v19.1.toNatClampNeg x35)))))))
set_option maxHeartbeats 4000000 in
set_option maxRecDepth 100000 in
theorem wX5_walks_172 (l : Launch) (g : zzG) (q : Nat → Nat) (p0 : Int32) (p1 : Int32) (p2 : Int32) (p3 : Int32) (p4 : Int32) (p5 : Int32) (x : Int32 × zzS) {p : Program} {e : Env} {s : State} {m : MethodId} {below : List Frame} {meth : Method} {c : Code} {A : Nat → Prop} {Q : State → Prop} (C : zzC g p s m ([.ref (q 0), .int p0, .int p1, .int p2, .int p3, .int p4, .int p5] : List Value).toArray c cX5_walks 12 RX5 wsX5_walks A) (ret : zzRI l g rX5_walks cX5_walks [.ref (q 0), .int p0, .int p1, .int p2, .int p3, .int p4, .int p5] (fun x : Int32 × zzS => x.1) (fun x : Int32 × zzS => (zzY g q x.2)) x p e s m below meth c A Q)  (n : Nat) (v19 : Int32 × zzS) (hf : zzlp (sX5_walks_172 p0 p1 p2 p3 p4 p5) n v19 = some x) : ∀ (H : Heap) (locs : List Loc) (ls : Array Slot), va_P g.1 vwCl (zzY g q v19.2) H → va_D A (zzY g q v19.2) → va_S A s.heap H locs → lv_has ls 12 [(0, .ref (q 0)), (1, .int p0), (5, .int p4), (6, .int p5), (8, .int (((60 : Int32) * p1) + p3)), (9, .int (v19.1))] → W p l e rX5_walks s m ([.ref (q 0), .int p0, .int p1, .int p2, .int p3, .int p4, .int p5] : List Value).toArray below meth c H locs 0 0 Q (F0 m 172 ls []) := by
  have hx := C.1.1
  have hb := C.1.2.1
  have hml := C.1.2.2.1
  have hown := C.1.2.2.2.1
  have hts := C.1.2.2.2.2
  have hK := C.2.1
  have iX5 : ∀ w ∈ wsX50, w ∈ wsX5_walks := fun _ h => List.mem_cons_of_mem _ (List.mem_append_right _ h)
  refine zz_lp (P := fun (v19 : Int32 × zzS) => ∀ (H : Heap) (locs : List Loc) (ls : Array Slot), va_P g.1 vwCl (zzY g q v19.2) H → va_D A (zzY g q v19.2) → va_S A s.heap H locs → lv_has ls 12 [(0, .ref (q 0)), (1, .int p0), (5, .int p4), (6, .int p5), (8, .int (((60 : Int32) * p1) + p3)), (9, .int (v19.1))] → W p l e rX5_walks s m ([.ref (q 0), .int p0, .int p1, .int p2, .int p3, .int p4, .int p5] : List Value).toArray below meth c H locs 0 0 Q (F0 m 172 ls [])) (fun v19 rec20 ih21 hf H locs ls hP hD hS hl => ?_) n v19 hf
  unfold sX5_walks_172 at hf
  refine lv_iload hx hb dX5_walks_172 (lv_at hl 5 rfl) ?_
  refine lv_aload_n hx hb dX5_walks_174 rfl (lv_at hl 0 rfl) ?_
  refine va_get (D := g.1) (ci := 5) (v := .int (v19.2.1 5)) (C := RX5) (T := TX5) (N := 29) hx hb hts iX5 hown hK hP 0 rfl rfl 5 (by decide) (zz_mem hts 2 rfl) (fun _ h9 => h9) rfl dX5_walks_175 ?_
  refine lv_icmp_ge (tgt := 201) hx hb dX5_walks_178 (by decide) (fun c22 => ?_) (fun c22 => ?_)
  · have hf := zz_t c22 hf
    refine lv_aload_n hx hb dX5_walks_201 rfl (lv_at hl 0 rfl) ?_
    refine lv_iload hx hb dX5_walks_202 (lv_at hl 4 rfl) ?_
    refine lv_iload hx hb dX5_walks_204 (lv_at hl 2 rfl) ?_
    obtain ⟨r23, hc23, hf⟩ := zz_bs hf
    refine zz_cVi C hP hD hS (kX5_goWalks l g q _ v19.2 (((60 : Int32) * p1) + p3) p4 r23 hc23) gX5_walks_X5_goWalks mX5_goWalks (by decide) ⟨Nat.zero_le _, Nat.zero_le _⟩ 0 rfl rfl rfl rfl (rest := []) rfl hl.1 (Nat.le_of_ble_eq_true rfl) dX5_walks_206 (fun H locs hP hD hS => ?_)
    refine lv_istore (lv' := [(9, .int (r23.1)), (0, .ref (q 0)), (1, .int p0), (5, .int p4), (6, .int p5), (8, .int (((60 : Int32) * p1) + p3))]) hx hb dX5_walks_209 hl (by decide) rfl (fun ls hl => ?_)
    refine lv_aload_n hx hb dX5_walks_211 rfl (lv_at hl 1 rfl) ?_
    refine lv_iload_n hx hb dX5_walks_212 rfl (lv_at hl 2 rfl) ?_
    refine lv_iload hx hb dX5_walks_213 (lv_at hl 4 rfl) ?_
    obtain ⟨r24, hc24, hf⟩ := zz_bs hf
    refine zz_cVi C hP hD hS (kX5_tellWalks l g q _ r23.2 p0 p5 r24 hc24) gX5_walks_X5_tellWalks mX5_tellWalks (by decide) ⟨Nat.zero_le _, Nat.zero_le _⟩ 0 rfl rfl rfl rfl (rest := []) rfl hl.1 (Nat.le_of_ble_eq_true rfl) dX5_walks_215 (fun H locs hP hD hS => ?_)
    refine lv_istore (lv' := [(10, .int (r24.1)), (9, .int (r23.1)), (0, .ref (q 0)), (1, .int p0), (5, .int p4), (6, .int p5), (8, .int (((60 : Int32) * p1) + p3))]) hx hb dX5_walks_218 hl (by decide) rfl (fun ls hl => ?_)
    refine lv_iconst (v := (0 : Int32)) hx hb dX5_walks_220 (by decide) ?_
    refine lv_istore (lv' := [(11, .int (0 : Int32)), (10, .int (r24.1)), (9, .int (r23.1)), (0, .ref (q 0)), (1, .int p0), (5, .int p4), (6, .int p5), (8, .int (((60 : Int32) * p1) + p3))]) hx hb dX5_walks_221 hl (by decide) rfl (fun ls hl => ?_)
    exact wX5_walks_223 l g q p0 p1 p2 p3 p4 p5 r23 r24 x C ret  _ _ hf _ _ _ hP hD hS (lv_sub hl [3, 6, 2, 1, 0] rfl)
  · have hf := zz_f c22 hf
    refine lv_aload_n hx hb dX5_walks_181 rfl (lv_at hl 0 rfl) ?_
    refine va_get (D := g.1) (ci := 5) (v := .ref (q 24)) (C := RX5) (T := TX5) (N := 29) hx hb hts iX5 hown hK hP 0 rfl rfl 24 (by decide) (zz_mem hts 4 rfl) (fun _ h9 => h9) rfl dX5_walks_182 ?_
    refine lv_iload hx hb dX5_walks_185 (lv_at hl 5 rfl) ?_
    refine lv_aload_n hx hb dX5_walks_187 rfl (lv_at hl 0 rfl) ?_
    refine va_get (D := g.1) (ci := 5) (v := .ref (q 9)) (C := RX5) (T := TX5) (N := 29) hx hb hts iX5 hown hK hP 0 rfl rfl 9 (by decide) (zz_mem hts 5 rfl) (fun _ h9 => h9) rfl dX5_walks_188 ?_
    refine lv_iload hx hb dX5_walks_191 (lv_at hl 5 rfl) ?_
    obtain ⟨x35, h34, ex35, hf⟩ := zz_gx hf
    refine zz_iald hx hb hK hP 5 0 rfl rfl h34 ex35 dX5_walks_193 ?_
    obtain ⟨h36, hf⟩ := zz_pa hf
    refine va_iast hx hb hK hP hD hS 11 0 rfl rfl h36 dX5_walks_194 (fun H locs hP hD hS => ?_)
    have hP : va_P g.1 vwCl (zzY g q (zza v19.2 24 v19.1.toNatClampNeg x35)) H := Eq.mp (congrArg (fun w => va_P g.1 vwCl w H) (zya_11 g q v19.2 (upd (v19.2.2 24) v19.1.toNatClampNeg x35))) hP
    have hD : va_D A (zzY g q (zza v19.2 24 v19.1.toNatClampNeg x35)) := Eq.mp (congrArg (va_D A) (zya_11 g q v19.2 (upd (v19.2.2 24) v19.1.toNatClampNeg x35))) hD
    refine lv_iinc (v := (v19.1 + (1 : Int32))) (lv' := [(9, .int (v19.1 + (1 : Int32))), (0, .ref (q 0)), (1, .int p0), (5, .int p4), (6, .int p5), (8, .int (((60 : Int32) * p1) + p3))]) hx hb dX5_walks_195 hl (k := 5) rfl rfl (by decide) rfl (fun ls hl => ?_)
    refine lv_goto (tgt := 172) hx hb dX5_walks_198 (by decide) ?_
    exact ih21 _ hf _ _ _ hP hD hS (lv_sub hl [1, 2, 3, 4, 5, 0] rfl)
def sX5_walks_112 (p0 : Int32) (p1 : Int32) (p2 : Int32) (p3 : Int32) (p4 : Int32) (p5 : Int32) (v11 : zzS) : (Int32) → ((Int32) → Option (Int32 × zzS)) → Option (Int32 × zzS) := fun v15 rec16 => (if p4 ≤ v15 then (zzlp (sX5_walks_172 p0 p1 p2 p3 p4 p5) zzFU ((0 : Int32), v11)) else (zzga (v11.2 4) 240 ((((60 : Int32) * p1) + p3) + ((2 : Int32) * v15)) (fun x38 => ((fX5_isStander v11 x38).bind (fun r39 => (if r39 = 0 then (some ((-1 : Int32), v11)) else (zzga (v11.2 4) 240 (((((60 : Int32) * p1) + p3) + ((2 : Int32) * v15)) + (1 : Int32)) (fun x42 => ((fX5_isDigit x42).bind (fun r43 => (if r43 = 0 then (some ((-2 : Int32), v11)) else (rec16 ((v15 + (1 : Int32)))))))))))))))
set_option maxHeartbeats 4000000 in
set_option maxRecDepth 100000 in
theorem wX5_walks_112 (l : Launch) (g : zzG) (q : Nat → Nat) (p0 : Int32) (p1 : Int32) (p2 : Int32) (p3 : Int32) (p4 : Int32) (p5 : Int32) (v11 : zzS) (x : Int32 × zzS) {p : Program} {e : Env} {s : State} {m : MethodId} {below : List Frame} {meth : Method} {c : Code} {A : Nat → Prop} {Q : State → Prop} (C : zzC g p s m ([.ref (q 0), .int p0, .int p1, .int p2, .int p3, .int p4, .int p5] : List Value).toArray c cX5_walks 12 RX5 wsX5_walks A) (ret : zzRI l g rX5_walks cX5_walks [.ref (q 0), .int p0, .int p1, .int p2, .int p3, .int p4, .int p5] (fun x : Int32 × zzS => x.1) (fun x : Int32 × zzS => (zzY g q x.2)) x p e s m below meth c A Q)  (n : Nat) (v15 : Int32) (hf : zzlp (sX5_walks_112 p0 p1 p2 p3 p4 p5 v11) n v15 = some x) : ∀ (H : Heap) (locs : List Loc) (ls : Array Slot), va_P g.1 vwCl (zzY g q v11) H → va_D A (zzY g q v11) → va_S A s.heap H locs → lv_has ls 12 [(0, .ref (q 0)), (1, .int p0), (5, .int p4), (6, .int p5), (8, .int (((60 : Int32) * p1) + p3)), (9, .int v15)] → W p l e rX5_walks s m ([.ref (q 0), .int p0, .int p1, .int p2, .int p3, .int p4, .int p5] : List Value).toArray below meth c H locs 0 0 Q (F0 m 112 ls []) := by
  have hx := C.1.1
  have hb := C.1.2.1
  have hml := C.1.2.2.1
  have hown := C.1.2.2.2.1
  have hts := C.1.2.2.2.2
  have hK := C.2.1
  have iX5 : ∀ w ∈ wsX50, w ∈ wsX5_walks := fun _ h => List.mem_cons_of_mem _ (List.mem_append_right _ h)
  refine zz_lp (P := fun (v15 : Int32) => ∀ (H : Heap) (locs : List Loc) (ls : Array Slot), va_P g.1 vwCl (zzY g q v11) H → va_D A (zzY g q v11) → va_S A s.heap H locs → lv_has ls 12 [(0, .ref (q 0)), (1, .int p0), (5, .int p4), (6, .int p5), (8, .int (((60 : Int32) * p1) + p3)), (9, .int v15)] → W p l e rX5_walks s m ([.ref (q 0), .int p0, .int p1, .int p2, .int p3, .int p4, .int p5] : List Value).toArray below meth c H locs 0 0 Q (F0 m 112 ls [])) (fun v15 rec16 ih17 hf H locs ls hP hD hS hl => ?_) n v15 hf
  unfold sX5_walks_112 at hf
  refine lv_iload hx hb dX5_walks_112 (lv_at hl 5 rfl) ?_
  refine lv_iload hx hb dX5_walks_114 (lv_at hl 2 rfl) ?_
  refine lv_icmp_ge (tgt := 169) hx hb dX5_walks_116 (by decide) (fun c18 => ?_) (fun c18 => ?_)
  · have hf := zz_t c18 hf
    refine lv_iconst (v := (0 : Int32)) hx hb dX5_walks_169 (by decide) ?_
    refine lv_istore (lv' := [(9, .int (0 : Int32)), (0, .ref (q 0)), (1, .int p0), (5, .int p4), (6, .int p5), (8, .int (((60 : Int32) * p1) + p3))]) hx hb dX5_walks_170 hl (by decide) rfl (fun ls hl => ?_)
    exact wX5_walks_172 l g q p0 p1 p2 p3 p4 p5 x C ret  _ _ hf _ _ _ hP hD hS (lv_sub hl [1, 2, 3, 4, 5, 0] rfl)
  · have hf := zz_f c18 hf
    refine lv_aload_n hx hb dX5_walks_119 rfl (lv_at hl 0 rfl) ?_
    refine lv_aload_n hx hb dX5_walks_120 rfl (lv_at hl 0 rfl) ?_
    refine va_get (D := g.1) (ci := 5) (v := .ref (q 4)) (C := RX5) (T := TX5) (N := 29) hx hb hts iX5 hown hK hP 0 rfl rfl 4 (by decide) (zz_mem hts 3 rfl) (fun _ h9 => h9) rfl dX5_walks_121 ?_
    refine lv_iload hx hb dX5_walks_124 (lv_at hl 4 rfl) ?_
    refine lv_iconst (v := (2 : Int32)) hx hb dX5_walks_126 (by decide) ?_
    refine lv_iload hx hb dX5_walks_127 (lv_at hl 5 rfl) ?_
    refine lv_imul hx hb dX5_walks_129 ?_
    refine lv_iadd hx hb dX5_walks_130 ?_
    obtain ⟨x38, h37, ex38, hf⟩ := zz_gx hf
    refine zz_iald hx hb hK hP 3 0 rfl rfl h37 ex38 dX5_walks_131 ?_
    obtain ⟨r39, hc39, hf⟩ := zz_bs hf
    refine zz_cVz C hP hD hS (kX5_isStander l g q _ v11 x38 r39 hc39) gX5_walks_X5_isStander mX5_isStander (by decide) ⟨Nat.zero_le _, Nat.zero_le _⟩ 0 rfl rfl rfl rfl (rest := []) rfl hl.1 (Nat.le_of_ble_eq_true rfl) dX5_walks_132 (fun hz39 H locs hP hD hS => ?_)
    refine lv_if_ne (tgt := 140) hx hb dX5_walks_135 (by decide) (fun c40 => ?_) (fun c40 => ?_)
    · have hf := zz_f c40 hf
      refine lv_aload_n hx hb dX5_walks_140 rfl (lv_at hl 0 rfl) ?_
      refine va_get (D := g.1) (ci := 5) (v := .ref (q 4)) (C := RX5) (T := TX5) (N := 29) hx hb hts iX5 hown hK hP 0 rfl rfl 4 (by decide) (zz_mem hts 3 rfl) (fun _ h9 => h9) rfl dX5_walks_141 ?_
      refine lv_iload hx hb dX5_walks_144 (lv_at hl 4 rfl) ?_
      refine lv_iconst (v := (2 : Int32)) hx hb dX5_walks_146 (by decide) ?_
      refine lv_iload hx hb dX5_walks_147 (lv_at hl 5 rfl) ?_
      refine lv_imul hx hb dX5_walks_149 ?_
      refine lv_iadd hx hb dX5_walks_150 ?_
      refine lv_iconst (v := (1 : Int32)) hx hb dX5_walks_151 (by decide) ?_
      refine lv_iadd hx hb dX5_walks_152 ?_
      obtain ⟨x42, h41, ex42, hf⟩ := zz_gx hf
      refine zz_iald hx hb hK hP 3 0 rfl rfl h41 ex42 dX5_walks_153 ?_
      obtain ⟨r43, hc43, hf⟩ := zz_bs hf
      refine zz_cSz C hP hD hS (kX5_isDigit l g (zzY g q v11) _ x42 r43 hc43) gX5_walks_X5_isDigit mX5_isDigit (by decide) ⟨Nat.zero_le _, Nat.zero_le _⟩ rfl (rest := []) rfl hl.1 (Nat.le_of_ble_eq_true rfl) dX5_walks_154 (fun hz43 H locs hP hD hS => ?_)
      refine lv_if_ne (tgt := 163) hx hb dX5_walks_157 (by decide) (fun c44 => ?_) (fun c44 => ?_)
      · have hf := zz_f c44 hf
        refine lv_iinc (v := (v15 + (1 : Int32))) (lv' := [(9, .int (v15 + (1 : Int32))), (0, .ref (q 0)), (1, .int p0), (5, .int p4), (6, .int p5), (8, .int (((60 : Int32) * p1) + p3))]) hx hb dX5_walks_163 hl (k := 5) rfl rfl (by decide) rfl (fun ls hl => ?_)
        refine lv_goto (tgt := 112) hx hb dX5_walks_166 (by decide) ?_
        exact ih17 _ hf _ _ _ hP hD hS (lv_sub hl [1, 2, 3, 4, 5, 0] rfl)
      · have hf := zz_t c44 hf
        refine lv_bipush (v := (-2 : Int32)) hx hb dX5_walks_160 (by decide) ?_
        exact ret _ _ _ _ ((-2 : Int32), v11) hf dX5_walks_162 hP hD hS
    · have hf := zz_t c40 hf
      refine lv_iconst (v := (-1 : Int32)) hx hb dX5_walks_138 (by decide) ?_
      exact ret _ _ _ _ ((-1 : Int32), v11) hf dX5_walks_139 hP hD hS
def sX5_walks_64 (p0 : Int32) (p1 : Int32) (p2 : Int32) (p3 : Int32) (p4 : Int32) (p5 : Int32) (v11 : zzS) : Option (Int32 × zzS) := ((fX5_against v11 p1 p2 p3 ((2 : Int32) * p4)).bind (fun r12 => (if r12 = 0 then (if (v11.1 5) = 0 then (some ((-3 : Int32), v11)) else (zzlp (sX5_walks_112 p0 p1 p2 p3 p4 p5 v11) zzFU ((0 : Int32)))) else ((fX5_fails v11 r12).bind (fun r45 => (some (r45.1, r45.2)))))))
set_option maxHeartbeats 4000000 in
set_option maxRecDepth 100000 in
theorem wX5_walks_64 (l : Launch) (g : zzG) (q : Nat → Nat) (p0 : Int32) (p1 : Int32) (p2 : Int32) (p3 : Int32) (p4 : Int32) (p5 : Int32) (x : Int32 × zzS) {p : Program} {e : Env} {s : State} {m : MethodId} {below : List Frame} {meth : Method} {c : Code} {A : Nat → Prop} {Q : State → Prop} (C : zzC g p s m ([.ref (q 0), .int p0, .int p1, .int p2, .int p3, .int p4, .int p5] : List Value).toArray c cX5_walks 12 RX5 wsX5_walks A) (ret : zzRI l g rX5_walks cX5_walks [.ref (q 0), .int p0, .int p1, .int p2, .int p3, .int p4, .int p5] (fun x : Int32 × zzS => x.1) (fun x : Int32 × zzS => (zzY g q x.2)) x p e s m below meth c A Q)  (v11 : zzS) (hf : sX5_walks_64 p0 p1 p2 p3 p4 p5 v11 = some x) (H : Heap) (locs : List Loc) (ls : Array Slot) (hP : va_P g.1 vwCl (zzY g q v11) H) (hD : va_D A (zzY g q v11)) (hS : va_S A s.heap H locs) (hl : lv_has ls 12 [(0, .ref (q 0)), (1, .int p0), (2, .int p1), (3, .int p2), (4, .int p3), (5, .int p4), (6, .int p5)]) : W p l e rX5_walks s m ([.ref (q 0), .int p0, .int p1, .int p2, .int p3, .int p4, .int p5] : List Value).toArray below meth c H locs 0 0 Q (F0 m 64 ls []) := by
  have hx := C.1.1
  have hb := C.1.2.1
  have hml := C.1.2.2.1
  have hown := C.1.2.2.2.1
  have hts := C.1.2.2.2.2
  have hK := C.2.1
  have iX5 : ∀ w ∈ wsX50, w ∈ wsX5_walks := fun _ h => List.mem_cons_of_mem _ (List.mem_append_right _ h)
  unfold sX5_walks_64 at hf
  refine lv_aload_n hx hb dX5_walks_64 rfl (lv_at hl 0 rfl) ?_
  refine lv_iload_n hx hb dX5_walks_65 rfl (lv_at hl 2 rfl) ?_
  refine lv_iload_n hx hb dX5_walks_66 rfl (lv_at hl 3 rfl) ?_
  refine lv_iload hx hb dX5_walks_67 (lv_at hl 4 rfl) ?_
  refine lv_iconst (v := (2 : Int32)) hx hb dX5_walks_69 (by decide) ?_
  refine lv_iload hx hb dX5_walks_70 (lv_at hl 5 rfl) ?_
  refine lv_imul hx hb dX5_walks_72 ?_
  obtain ⟨r12, hc12, hf⟩ := zz_bs hf
  refine zz_cVi C hP hD hS (kX5_against l g q _ v11 p1 p2 p3 ((2 : Int32) * p4) r12 hc12) gX5_walks_X5_against mX5_against (by decide) ⟨Nat.zero_le _, Nat.zero_le _⟩ 0 rfl rfl rfl rfl (rest := []) rfl hl.1 (Nat.le_of_ble_eq_true rfl) dX5_walks_73 (fun H locs hP hD hS => ?_)
  refine lv_istore (lv' := [(7, .int r12), (0, .ref (q 0)), (1, .int p0), (2, .int p1), (3, .int p2), (4, .int p3), (5, .int p4), (6, .int p5)]) hx hb dX5_walks_76 hl (by decide) rfl (fun ls hl => ?_)
  refine lv_iload hx hb dX5_walks_78 (lv_at hl 0 rfl) ?_
  refine lv_if_eq (tgt := 90) hx hb dX5_walks_80 (by decide) (fun c13 => ?_) (fun c13 => ?_)
  · have hf := zz_t c13 hf
    refine lv_aload_n hx hb dX5_walks_90 rfl (lv_at hl 1 rfl) ?_
    refine va_get (D := g.1) (ci := 5) (v := .int (v11.1 5)) (C := RX5) (T := TX5) (N := 29) hx hb hts iX5 hown hK hP 0 rfl rfl 5 (by decide) (zz_mem hts 2 rfl) (fun _ h9 => h9) rfl dX5_walks_91 ?_
    refine lv_if_ne (tgt := 100) hx hb dX5_walks_94 (by decide) (fun c14 => ?_) (fun c14 => ?_)
    · have hf := zz_f c14 hf
      refine lv_bipush (v := (60 : Int32)) hx hb dX5_walks_100 (by decide) ?_
      refine lv_iload_n hx hb dX5_walks_102 rfl (lv_at hl 3 rfl) ?_
      refine lv_imul hx hb dX5_walks_103 ?_
      refine lv_iload hx hb dX5_walks_104 (lv_at hl 5 rfl) ?_
      refine lv_iadd hx hb dX5_walks_106 ?_
      refine lv_istore (lv' := [(8, .int (((60 : Int32) * p1) + p3)), (7, .int r12), (0, .ref (q 0)), (1, .int p0), (2, .int p1), (3, .int p2), (4, .int p3), (5, .int p4), (6, .int p5)]) hx hb dX5_walks_107 hl (by decide) rfl (fun ls hl => ?_)
      refine lv_iconst (v := (0 : Int32)) hx hb dX5_walks_109 (by decide) ?_
      refine lv_istore (lv' := [(9, .int (0 : Int32)), (8, .int (((60 : Int32) * p1) + p3)), (7, .int r12), (0, .ref (q 0)), (1, .int p0), (2, .int p1), (3, .int p2), (4, .int p3), (5, .int p4), (6, .int p5)]) hx hb dX5_walks_110 hl (by decide) rfl (fun ls hl => ?_)
      exact wX5_walks_112 l g q p0 p1 p2 p3 p4 p5 v11 x C ret  _ _ hf _ _ _ hP hD hS (lv_sub hl [3, 4, 8, 9, 1, 0] rfl)
    · have hf := zz_t c14 hf
      refine lv_bipush (v := (-3 : Int32)) hx hb dX5_walks_97 (by decide) ?_
      exact ret _ _ _ _ ((-3 : Int32), v11) hf dX5_walks_99 hP hD hS
  · have hf := zz_f c13 hf
    refine lv_aload_n hx hb dX5_walks_83 rfl (lv_at hl 1 rfl) ?_
    refine lv_iload hx hb dX5_walks_84 (lv_at hl 0 rfl) ?_
    obtain ⟨r45, hc45, hf⟩ := zz_bs hf
    refine zz_cVi C hP hD hS (kX5_fails l g q _ v11 r12 r45 hc45) gX5_walks_X5_fails mX5_fails (by decide) ⟨Nat.zero_le _, Nat.zero_le _⟩ 0 rfl rfl rfl rfl (rest := []) rfl hl.1 (Nat.le_of_ble_eq_true rfl) dX5_walks_86 (fun H locs hP hD hS => ?_)
    exact ret _ _ _ _ (r45.1, r45.2) hf dX5_walks_89 hP hD hS
def fX5_walks (u : zzS) (p0 : Int32) (p1 : Int32) (p2 : Int32) (p3 : Int32) (p4 : Int32) (p5 : Int32) : Option (Int32 × zzS) := ((fX5_isSheet p1).bind (fun r1 => (if r1 = 0 then (some ((-1 : Int32), (zzi u 0 (0 : Int32)))) else ((fX5_isSun p0).bind (fun r3 => (if r3 = 0 then (some ((-2 : Int32), (zzi u 0 (0 : Int32)))) else ((fX5_isSort p2).bind (fun r5 => (if r5 = 0 then (some ((-2 : Int32), (zzi u 0 (0 : Int32)))) else ((fX5_within p4 (0 : Int32) (20 : Int32)).bind (fun r7 => (if r7 = 0 then (some ((-2 : Int32), (zzi u 0 (0 : Int32)))) else ((fX5_within p5 (0 : Int32) (3 : Int32)).bind (fun r9 => (if r9 = 0 then ((fX5_within p5 (10 : Int32) (14 : Int32)).bind (fun r46 => (if r46 = 0 then (some ((-2 : Int32), (zzi u 0 (0 : Int32)))) else (sX5_walks_64 p0 p1 p2 p3 p4 p5 ((zzi u 0 (0 : Int32))))))) else (sX5_walks_64 p0 p1 p2 p3 p4 p5 ((zzi u 0 (0 : Int32)))))))))))))))))))
set_option maxHeartbeats 4000000 in
set_option maxRecDepth 100000 in
theorem kX5_walks (l : Launch) (g : zzG) (q : Nat → Nat) (sz : Nat) (u : zzS) (p0 : Int32) (p1 : Int32) (p2 : Int32) (p3 : Int32) (p4 : Int32) (p5 : Int32) (x : Int32 × zzS) (hf : fX5_walks u p0 p1 p2 p3 p4 p5 = some x) : zzI l g yX5_walks wsX5_walks rX5_walks [.ref (q 0), .int p0, .int p1, .int p2, .int p3, .int p4, .int p5] (zzY g q u) (zzY g q x.2) sz x.1 := by
  refine zz_mi (cc := cX5_walks) (mL := 12) (own := RX5) (fun x : Int32 × zzS => x.1) (fun x : Int32 × zzS => (zzY g q x.2)) x (by decide) rfl rfl (Nat.le_of_ble_eq_true rfl) ?_
  intro p e s m below meth c A Q ls C ret hP hD hS hl
  have hl : lv_has ls 12 [(0, .ref (q 0)), (1, .int p0), (2, .int p1), (3, .int p2), (4, .int p3), (5, .int p4), (6, .int p5)] := hl
  have hx := C.1.1
  have hb := C.1.2.1
  have hml := C.1.2.2.1
  have hown := C.1.2.2.2.1
  have hts := C.1.2.2.2.2
  have hK := C.2.1
  have iX5 : ∀ w ∈ wsX50, w ∈ wsX5_walks := fun _ h => List.mem_cons_of_mem _ (List.mem_append_right _ h)
  unfold fX5_walks at hf
  refine lv_aload_n hx hb dX5_walks_0 rfl (lv_at hl 0 rfl) ?_
  refine lv_iconst (v := (0 : Int32)) hx hb dX5_walks_1 (by decide) ?_
  refine va_put (D := g.1) (ci := 5) (v := .int (0 : Int32)) (ty := .int) (C := RX5) (T := TX5) (N := 29) hx hb hts iX5 tyX5 tyX5_ok nmX5 hown hK hP hD hS 0 rfl rfl 0 (by decide) (zz_mem hts 1 rfl) (fun _ h9 => h9) rfl (tyX5_ok 0 (by decide)) rfl rfl (Nat.le_of_ble_eq_true rfl) dX5_walks_2 (fun H locs hP hD hS => ?_)
  have hP : va_P g.1 vwCl (zzY g q (zzi u 0 (0 : Int32))) H := Eq.mp (congrArg (fun w => va_P g.1 vwCl w H) (zyo_0_0 g q u (0 : Int32))) hP
  have hD : va_D A (zzY g q (zzi u 0 (0 : Int32))) := Eq.mp (congrArg (va_D A) (zyo_0_0 g q u (0 : Int32))) hD
  refine lv_iload_n hx hb dX5_walks_5 rfl (lv_at hl 2 rfl) ?_
  obtain ⟨r1, hc1, hf⟩ := zz_bs hf
  refine zz_cSz C hP hD hS (kX5_isSheet l g (zzY g q (zzi u 0 (0 : Int32))) _ p1 r1 hc1) gX5_walks_X5_isSheet mX5_isSheet (by decide) ⟨Nat.zero_le _, Nat.zero_le _⟩ rfl (rest := []) rfl hl.1 (Nat.le_of_ble_eq_true rfl) dX5_walks_6 (fun hz1 H locs hP hD hS => ?_)
  refine lv_if_ne (tgt := 14) hx hb dX5_walks_9 (by decide) (fun c2 => ?_) (fun c2 => ?_)
  · have hf := zz_f c2 hf
    refine lv_iload_n hx hb dX5_walks_14 rfl (lv_at hl 1 rfl) ?_
    obtain ⟨r3, hc3, hf⟩ := zz_bs hf
    refine zz_cSz C hP hD hS (kX5_isSun l g (zzY g q (zzi u 0 (0 : Int32))) _ p0 r3 hc3) gX5_walks_X5_isSun mX5_isSun (by decide) ⟨Nat.zero_le _, Nat.zero_le _⟩ rfl (rest := []) rfl hl.1 (Nat.le_of_ble_eq_true rfl) dX5_walks_15 (fun hz3 H locs hP hD hS => ?_)
    refine lv_if_eq (tgt := 61) hx hb dX5_walks_18 (by decide) (fun c4 => ?_) (fun c4 => ?_)
    · have hf := zz_t c4 hf
      refine lv_bipush (v := (-2 : Int32)) hx hb dX5_walks_61 (by decide) ?_
      exact ret _ _ _ _ ((-2 : Int32), (zzi u 0 (0 : Int32))) hf dX5_walks_63 hP hD hS
    · have hf := zz_f c4 hf
      refine lv_iload_n hx hb dX5_walks_21 rfl (lv_at hl 3 rfl) ?_
      obtain ⟨r5, hc5, hf⟩ := zz_bs hf
      refine zz_cSz C hP hD hS (kX5_isSort l g (zzY g q (zzi u 0 (0 : Int32))) _ p2 r5 hc5) gX5_walks_X5_isSort mX5_isSort (by decide) ⟨Nat.zero_le _, Nat.zero_le _⟩ rfl (rest := []) rfl hl.1 (Nat.le_of_ble_eq_true rfl) dX5_walks_22 (fun hz5 H locs hP hD hS => ?_)
      refine lv_if_eq (tgt := 61) hx hb dX5_walks_25 (by decide) (fun c6 => ?_) (fun c6 => ?_)
      · have hf := zz_t c6 hf
        refine lv_bipush (v := (-2 : Int32)) hx hb dX5_walks_61 (by decide) ?_
        exact ret _ _ _ _ ((-2 : Int32), (zzi u 0 (0 : Int32))) hf dX5_walks_63 hP hD hS
      · have hf := zz_f c6 hf
        refine lv_iload hx hb dX5_walks_28 (lv_at hl 5 rfl) ?_
        refine lv_iconst (v := (0 : Int32)) hx hb dX5_walks_30 (by decide) ?_
        refine lv_bipush (v := (20 : Int32)) hx hb dX5_walks_31 (by decide) ?_
        obtain ⟨r7, hc7, hf⟩ := zz_bs hf
        refine zz_cSz C hP hD hS (kX5_within l g (zzY g q (zzi u 0 (0 : Int32))) _ p4 (0 : Int32) (20 : Int32) r7 hc7) gX5_walks_X5_within mX5_within (by decide) ⟨Nat.zero_le _, Nat.zero_le _⟩ rfl (rest := []) rfl hl.1 (Nat.le_of_ble_eq_true rfl) dX5_walks_33 (fun hz7 H locs hP hD hS => ?_)
        refine lv_if_eq (tgt := 61) hx hb dX5_walks_36 (by decide) (fun c8 => ?_) (fun c8 => ?_)
        · have hf := zz_t c8 hf
          refine lv_bipush (v := (-2 : Int32)) hx hb dX5_walks_61 (by decide) ?_
          exact ret _ _ _ _ ((-2 : Int32), (zzi u 0 (0 : Int32))) hf dX5_walks_63 hP hD hS
        · have hf := zz_f c8 hf
          refine lv_iload hx hb dX5_walks_39 (lv_at hl 6 rfl) ?_
          refine lv_iconst (v := (0 : Int32)) hx hb dX5_walks_41 (by decide) ?_
          refine lv_iconst (v := (3 : Int32)) hx hb dX5_walks_42 (by decide) ?_
          obtain ⟨r9, hc9, hf⟩ := zz_bs hf
          refine zz_cSz C hP hD hS (kX5_within l g (zzY g q (zzi u 0 (0 : Int32))) _ p5 (0 : Int32) (3 : Int32) r9 hc9) gX5_walks_X5_within mX5_within (by decide) ⟨Nat.zero_le _, Nat.zero_le _⟩ rfl (rest := []) rfl hl.1 (Nat.le_of_ble_eq_true rfl) dX5_walks_43 (fun hz9 H locs hP hD hS => ?_)
          refine lv_if_ne (tgt := 64) hx hb dX5_walks_46 (by decide) (fun c10 => ?_) (fun c10 => ?_)
          · have hf := zz_f c10 hf
            exact wX5_walks_64 l g q p0 p1 p2 p3 p4 p5 x C ret  ((zzi u 0 (0 : Int32))) hf _ _ _ hP hD hS (lv_sub hl [0, 1, 2, 3, 4, 5, 6] rfl)
          · have hf := zz_t c10 hf
            refine lv_iload hx hb dX5_walks_49 (lv_at hl 6 rfl) ?_
            refine lv_bipush (v := (10 : Int32)) hx hb dX5_walks_51 (by decide) ?_
            refine lv_bipush (v := (14 : Int32)) hx hb dX5_walks_53 (by decide) ?_
            obtain ⟨r46, hc46, hf⟩ := zz_bs hf
            refine zz_cSz C hP hD hS (kX5_within l g (zzY g q (zzi u 0 (0 : Int32))) _ p5 (10 : Int32) (14 : Int32) r46 hc46) gX5_walks_X5_within mX5_within (by decide) ⟨Nat.zero_le _, Nat.zero_le _⟩ rfl (rest := []) rfl hl.1 (Nat.le_of_ble_eq_true rfl) dX5_walks_55 (fun hz46 H locs hP hD hS => ?_)
            refine lv_if_ne (tgt := 64) hx hb dX5_walks_58 (by decide) (fun c47 => ?_) (fun c47 => ?_)
            · have hf := zz_f c47 hf
              exact wX5_walks_64 l g q p0 p1 p2 p3 p4 p5 x C ret  ((zzi u 0 (0 : Int32))) hf _ _ _ hP hD hS (lv_sub hl [0, 1, 2, 3, 4, 5, 6] rfl)
            · have hf := zz_t c47 hf
              refine lv_bipush (v := (-2 : Int32)) hx hb dX5_walks_61 (by decide) ?_
              exact ret _ _ _ _ ((-2 : Int32), (zzi u 0 (0 : Int32))) hf dX5_walks_63 hP hD hS
  · have hf := zz_t c2 hf
    refine lv_iconst (v := (-1 : Int32)) hx hb dX5_walks_12 (by decide) ?_
    exact ret _ _ _ _ ((-1 : Int32), (zzi u 0 (0 : Int32))) hf dX5_walks_13 hP hD hS
abbrev rX5_pair : Room := ({ frames := 4, cells := 0, slots := 0, locals := 91 })
theorem mX5_pair : zzM yX5_pair wsX5_pair cX5_pair 11 (some .int) RX5 4 := ⟨⟨_, rfl⟩, by decide +kernel⟩
def sX5_pair_121 (p0 : Int32) (p1 : Int32) (p2 : Int32) (p3 : Int32) (x11 : Int32) (x13 : Int32) (rec15 : (Int32 × Int32 × Int32 × zzS) → Option (Int32 × zzS)) (v31 : Int32 × Int32 × Int32 × Int32 × zzS) : Option (Int32 × zzS) := (if v31.2.2.2.1 = 0 then (rec15 (v31.1, v31.2.1, (v31.2.2.1 + (1 : Int32)), v31.2.2.2.2)) else (if v31.1 = (-9 : Int32) then ((fX5_censusOf v31.2.2.2.2 p2).bind (fun r34 => (rec15 (v31.2.2.1, r34.1, (v31.2.2.1 + (1 : Int32)), r34.2)))) else ((fX5_censusOf v31.2.2.2.2 p2).bind (fun r35 => (if v31.2.1 ≤ r35.1 then (rec15 (v31.1, v31.2.1, (v31.2.2.1 + (1 : Int32)), r35.2)) else ((fX5_censusOf r35.2 p2).bind (fun r37 => (rec15 (v31.2.2.1, r37.1, (v31.2.2.1 + (1 : Int32)), r37.2)))))))))
set_option maxHeartbeats 4000000 in
set_option maxRecDepth 100000 in
theorem wX5_pair_121 (l : Launch) (g : zzG) (q : Nat → Nat) (p0 : Int32) (p1 : Int32) (p2 : Int32) (p3 : Int32) (x11 : Int32) (x13 : Int32) (rec15 : (Int32 × Int32 × Int32 × zzS) → Option (Int32 × zzS)) (x : Int32 × zzS) {p : Program} {e : Env} {s : State} {m : MethodId} {below : List Frame} {meth : Method} {c : Code} {A : Nat → Prop} {Q : State → Prop} (C : zzC g p s m ([.ref (q 0), .int p0, .int p1, .int p2, .int p3] : List Value).toArray c cX5_pair 11 RX5 wsX5_pair A) (ret : zzRI l g rX5_pair cX5_pair [.ref (q 0), .int p0, .int p1, .int p2, .int p3] (fun x : Int32 × zzS => x.1) (fun x : Int32 × zzS => (zzY g q x.2)) x p e s m below meth c A Q) (ih16 : ∀ (vv : Int32 × Int32 × Int32 × zzS), rec15 vv = some x → ∀ (H : Heap) (locs : List Loc) (ls : Array Slot), va_P g.1 vwCl (zzY g q vv.2.2.2) H → va_D A (zzY g q vv.2.2.2) → va_S A s.heap H locs → lv_has ls 11 [(0, .ref (q 0)), (1, .int p0), (2, .int p1), (3, .int p2), (4, .int p3), (5, .int x11), (6, .int x13), (7, .int (vv.1)), (8, .int (vv.2.1)), (9, .int (vv.2.2.1))] → W p l e rX5_pair s m ([.ref (q 0), .int p0, .int p1, .int p2, .int p3] : List Value).toArray below meth c H locs 0 0 Q (F0 m 69 ls [])) (v31 : Int32 × Int32 × Int32 × Int32 × zzS) (hf : sX5_pair_121 p0 p1 p2 p3 x11 x13 rec15 v31 = some x) (H : Heap) (locs : List Loc) (ls : Array Slot) (hP : va_P g.1 vwCl (zzY g q v31.2.2.2.2) H) (hD : va_D A (zzY g q v31.2.2.2.2)) (hS : va_S A s.heap H locs) (hl : lv_has ls 11 [(0, .ref (q 0)), (1, .int p0), (2, .int p1), (3, .int p2), (4, .int p3), (5, .int x11), (6, .int x13), (7, .int (v31.1)), (8, .int (v31.2.1)), (9, .int (v31.2.2.1))]) : W p l e rX5_pair s m ([.ref (q 0), .int p0, .int p1, .int p2, .int p3] : List Value).toArray below meth c H locs 0 0 Q (F0 m 121 ls [.int (v31.2.2.2.1)]) := by
  have hx := C.1.1
  have hb := C.1.2.1
  have hml := C.1.2.2.1
  have hown := C.1.2.2.2.1
  have hts := C.1.2.2.2.2
  have hK := C.2.1
  have iX5 : ∀ w ∈ wsX50, w ∈ wsX5_pair := fun _ h => List.mem_cons_of_mem _ (List.mem_append_right _ h)
  unfold sX5_pair_121 at hf
  refine lv_istore (lv' := [(10, .int (v31.2.2.2.1)), (0, .ref (q 0)), (1, .int p0), (2, .int p1), (3, .int p2), (4, .int p3), (5, .int x11), (6, .int x13), (7, .int (v31.1)), (8, .int (v31.2.1)), (9, .int (v31.2.2.1))]) hx hb dX5_pair_121 hl (by decide) rfl (fun ls hl => ?_)
  refine lv_iload hx hb dX5_pair_123 (lv_at hl 0 rfl) ?_
  refine lv_if_eq (tgt := 156) hx hb dX5_pair_125 (by decide) (fun c32 => ?_) (fun c32 => ?_)
  · have hf := zz_t c32 hf
    refine lv_iinc (v := (v31.2.2.1 + (1 : Int32))) (lv' := [(9, .int (v31.2.2.1 + (1 : Int32))), (10, .int (v31.2.2.2.1)), (0, .ref (q 0)), (1, .int p0), (2, .int p1), (3, .int p2), (4, .int p3), (5, .int x11), (6, .int x13), (7, .int (v31.1)), (8, .int (v31.2.1))]) hx hb dX5_pair_156 hl (k := 10) rfl rfl (by decide) rfl (fun ls hl => ?_)
    refine lv_goto (tgt := 69) hx hb dX5_pair_159 (by decide) ?_
    exact ih16 _ hf _ _ _ hP hD hS (lv_sub hl [2, 3, 4, 5, 6, 7, 8, 9, 10, 0] rfl)
  · have hf := zz_f c32 hf
    refine lv_iload hx hb dX5_pair_128 (lv_at hl 8 rfl) ?_
    refine lv_bipush (v := (-9 : Int32)) hx hb dX5_pair_130 (by decide) ?_
    refine lv_icmp_eq (tgt := 145) hx hb dX5_pair_132 (by decide) (fun c33 => ?_) (fun c33 => ?_)
    · have hf := zz_t c33 hf
      refine lv_iload hx hb dX5_pair_145 (lv_at hl 10 rfl) ?_
      refine lv_istore (lv' := [(7, .int (v31.2.2.1)), (10, .int (v31.2.2.2.1)), (0, .ref (q 0)), (1, .int p0), (2, .int p1), (3, .int p2), (4, .int p3), (5, .int x11), (6, .int x13), (8, .int (v31.2.1)), (9, .int (v31.2.2.1))]) hx hb dX5_pair_147 hl (by decide) rfl (fun ls hl => ?_)
      refine lv_aload_n hx hb dX5_pair_149 rfl (lv_at hl 2 rfl) ?_
      refine lv_iload_n hx hb dX5_pair_150 rfl (lv_at hl 5 rfl) ?_
      obtain ⟨r34, hc34, hf⟩ := zz_bs hf
      refine zz_cVi C hP hD hS (kX5_censusOf l g q _ v31.2.2.2.2 p2 r34 hc34) gX5_pair_X5_censusOf mX5_censusOf (by decide) ⟨Nat.zero_le _, Nat.zero_le _⟩ 0 rfl rfl rfl rfl (rest := []) rfl hl.1 (Nat.le_of_ble_eq_true rfl) dX5_pair_151 (fun H locs hP hD hS => ?_)
      refine lv_istore (lv' := [(8, .int (r34.1)), (7, .int (v31.2.2.1)), (10, .int (v31.2.2.2.1)), (0, .ref (q 0)), (1, .int p0), (2, .int p1), (3, .int p2), (4, .int p3), (5, .int x11), (6, .int x13), (9, .int (v31.2.2.1))]) hx hb dX5_pair_154 hl (by decide) rfl (fun ls hl => ?_)
      refine lv_iinc (v := (v31.2.2.1 + (1 : Int32))) (lv' := [(9, .int (v31.2.2.1 + (1 : Int32))), (8, .int (r34.1)), (7, .int (v31.2.2.1)), (10, .int (v31.2.2.2.1)), (0, .ref (q 0)), (1, .int p0), (2, .int p1), (3, .int p2), (4, .int p3), (5, .int x11), (6, .int x13)]) hx hb dX5_pair_156 hl (k := 10) rfl rfl (by decide) rfl (fun ls hl => ?_)
      refine lv_goto (tgt := 69) hx hb dX5_pair_159 (by decide) ?_
      exact ih16 _ hf _ _ _ hP hD hS (lv_sub hl [4, 5, 6, 7, 8, 9, 10, 2, 1, 0] rfl)
    · have hf := zz_f c33 hf
      refine lv_aload_n hx hb dX5_pair_135 rfl (lv_at hl 1 rfl) ?_
      refine lv_iload_n hx hb dX5_pair_136 rfl (lv_at hl 4 rfl) ?_
      obtain ⟨r35, hc35, hf⟩ := zz_bs hf
      refine zz_cVi C hP hD hS (kX5_censusOf l g q _ v31.2.2.2.2 p2 r35 hc35) gX5_pair_X5_censusOf mX5_censusOf (by decide) ⟨Nat.zero_le _, Nat.zero_le _⟩ 0 rfl rfl rfl rfl (rest := []) rfl hl.1 (Nat.le_of_ble_eq_true rfl) dX5_pair_137 (fun H locs hP hD hS => ?_)
      refine lv_iload hx hb dX5_pair_140 (lv_at hl 9 rfl) ?_
      refine lv_icmp_ge (tgt := 156) hx hb dX5_pair_142 (by decide) (fun c36 => ?_) (fun c36 => ?_)
      · have hf := zz_t c36 hf
        refine lv_iinc (v := (v31.2.2.1 + (1 : Int32))) (lv' := [(9, .int (v31.2.2.1 + (1 : Int32))), (10, .int (v31.2.2.2.1)), (0, .ref (q 0)), (1, .int p0), (2, .int p1), (3, .int p2), (4, .int p3), (5, .int x11), (6, .int x13), (7, .int (v31.1)), (8, .int (v31.2.1))]) hx hb dX5_pair_156 hl (k := 10) rfl rfl (by decide) rfl (fun ls hl => ?_)
        refine lv_goto (tgt := 69) hx hb dX5_pair_159 (by decide) ?_
        exact ih16 _ hf _ _ _ hP hD hS (lv_sub hl [2, 3, 4, 5, 6, 7, 8, 9, 10, 0] rfl)
      · have hf := zz_f c36 hf
        refine lv_iload hx hb dX5_pair_145 (lv_at hl 10 rfl) ?_
        refine lv_istore (lv' := [(7, .int (v31.2.2.1)), (10, .int (v31.2.2.2.1)), (0, .ref (q 0)), (1, .int p0), (2, .int p1), (3, .int p2), (4, .int p3), (5, .int x11), (6, .int x13), (8, .int (v31.2.1)), (9, .int (v31.2.2.1))]) hx hb dX5_pair_147 hl (by decide) rfl (fun ls hl => ?_)
        refine lv_aload_n hx hb dX5_pair_149 rfl (lv_at hl 2 rfl) ?_
        refine lv_iload_n hx hb dX5_pair_150 rfl (lv_at hl 5 rfl) ?_
        obtain ⟨r37, hc37, hf⟩ := zz_bs hf
        refine zz_cVi C hP hD hS (kX5_censusOf l g q _ r35.2 p2 r37 hc37) gX5_pair_X5_censusOf mX5_censusOf (by decide) ⟨Nat.zero_le _, Nat.zero_le _⟩ 0 rfl rfl rfl rfl (rest := []) rfl hl.1 (Nat.le_of_ble_eq_true rfl) dX5_pair_151 (fun H locs hP hD hS => ?_)
        refine lv_istore (lv' := [(8, .int (r37.1)), (7, .int (v31.2.2.1)), (10, .int (v31.2.2.2.1)), (0, .ref (q 0)), (1, .int p0), (2, .int p1), (3, .int p2), (4, .int p3), (5, .int x11), (6, .int x13), (9, .int (v31.2.2.1))]) hx hb dX5_pair_154 hl (by decide) rfl (fun ls hl => ?_)
        refine lv_iinc (v := (v31.2.2.1 + (1 : Int32))) (lv' := [(9, .int (v31.2.2.1 + (1 : Int32))), (8, .int (r37.1)), (7, .int (v31.2.2.1)), (10, .int (v31.2.2.2.1)), (0, .ref (q 0)), (1, .int p0), (2, .int p1), (3, .int p2), (4, .int p3), (5, .int x11), (6, .int x13)]) hx hb dX5_pair_156 hl (k := 10) rfl rfl (by decide) rfl (fun ls hl => ?_)
        refine lv_goto (tgt := 69) hx hb dX5_pair_159 (by decide) ?_
        exact ih16 _ hf _ _ _ hP hD hS (lv_sub hl [4, 5, 6, 7, 8, 9, 10, 2, 1, 0] rfl)
def sX5_pair_69 (p0 : Int32) (p1 : Int32) (p2 : Int32) (p3 : Int32) (x11 : Int32) (x13 : Int32) : (Int32 × Int32 × Int32 × zzS) → ((Int32 × Int32 × Int32 × zzS) → Option (Int32 × zzS)) → Option (Int32 × zzS) := fun v14 rec15 => (if (100 : Int32) ≤ v14.2.2.1 then (zzpa 5 p0 (zzpa 5 p1 (if v14.1 = (-9 : Int32) then (some ((-9 : Int32), (zza (zza v14.2.2.2 9 p0.toNatClampNeg x11) 9 p1.toNatClampNeg x13))) else (if p3 = 0 then (some (v14.2.1, (zza (zza v14.2.2.2 9 p0.toNatClampNeg x11) 9 p1.toNatClampNeg x13))) else (if p3 = (1 : Int32) then (some ((v14.1 / (10 : Int32)), (zza (zza v14.2.2.2 9 p0.toNatClampNeg x11) 9 p1.toNatClampNeg x13))) else (some ((v14.1 - v14.1 / (10 : Int32) * (10 : Int32)), (zza (zza v14.2.2.2 9 p0.toNatClampNeg x11) 9 p1.toNatClampNeg x13)))))))) else (zzpa 5 p0 (zzpa 5 p1 ((fX5_isHidden (zza (zza v14.2.2.2 9 p0.toNatClampNeg (v14.2.2.1 / (10 : Int32))) 9 p1.toNatClampNeg (v14.2.2.1 - v14.2.2.1 / (10 : Int32) * (10 : Int32))) p0 p2).bind (fun r29 => (if r29 = 0 then ((fX5_isHidden (zza (zza v14.2.2.2 9 p0.toNatClampNeg (v14.2.2.1 / (10 : Int32))) 9 p1.toNatClampNeg (v14.2.2.1 - v14.2.2.1 / (10 : Int32) * (10 : Int32))) p1 p2).bind (fun r38 => (if r38 = 0 then (sX5_pair_121 p0 p1 p2 p3 x11 x13 rec15 (v14.1, v14.2.1, v14.2.2.1, (1 : Int32), (zza (zza v14.2.2.2 9 p0.toNatClampNeg (v14.2.2.1 / (10 : Int32))) 9 p1.toNatClampNeg (v14.2.2.1 - v14.2.2.1 / (10 : Int32) * (10 : Int32))))) else (sX5_pair_121 p0 p1 p2 p3 x11 x13 rec15 (v14.1, v14.2.1, v14.2.2.1, (0 : Int32), (zza (zza v14.2.2.2 9 p0.toNatClampNeg (v14.2.2.1 / (10 : Int32))) 9 p1.toNatClampNeg (v14.2.2.1 - v14.2.2.1 / (10 : Int32) * (10 : Int32)))))))) else (sX5_pair_121 p0 p1 p2 p3 x11 x13 rec15 (v14.1, v14.2.1, v14.2.2.1, (0 : Int32), (zza (zza v14.2.2.2 9 p0.toNatClampNeg (v14.2.2.1 / (10 : Int32))) 9 p1.toNatClampNeg (v14.2.2.1 - v14.2.2.1 / (10 : Int32) * (10 : Int32)))))))))))
set_option maxHeartbeats 4000000 in
set_option maxRecDepth 100000 in
theorem wX5_pair_69 (l : Launch) (g : zzG) (q : Nat → Nat) (p0 : Int32) (p1 : Int32) (p2 : Int32) (p3 : Int32) (x11 : Int32) (x13 : Int32) (x : Int32 × zzS) {p : Program} {e : Env} {s : State} {m : MethodId} {below : List Frame} {meth : Method} {c : Code} {A : Nat → Prop} {Q : State → Prop} (C : zzC g p s m ([.ref (q 0), .int p0, .int p1, .int p2, .int p3] : List Value).toArray c cX5_pair 11 RX5 wsX5_pair A) (ret : zzRI l g rX5_pair cX5_pair [.ref (q 0), .int p0, .int p1, .int p2, .int p3] (fun x : Int32 × zzS => x.1) (fun x : Int32 × zzS => (zzY g q x.2)) x p e s m below meth c A Q)  (n : Nat) (v14 : Int32 × Int32 × Int32 × zzS) (hf : zzlp (sX5_pair_69 p0 p1 p2 p3 x11 x13) n v14 = some x) : ∀ (H : Heap) (locs : List Loc) (ls : Array Slot), va_P g.1 vwCl (zzY g q v14.2.2.2) H → va_D A (zzY g q v14.2.2.2) → va_S A s.heap H locs → lv_has ls 11 [(0, .ref (q 0)), (1, .int p0), (2, .int p1), (3, .int p2), (4, .int p3), (5, .int x11), (6, .int x13), (7, .int (v14.1)), (8, .int (v14.2.1)), (9, .int (v14.2.2.1))] → W p l e rX5_pair s m ([.ref (q 0), .int p0, .int p1, .int p2, .int p3] : List Value).toArray below meth c H locs 0 0 Q (F0 m 69 ls []) := by
  have hx := C.1.1
  have hb := C.1.2.1
  have hml := C.1.2.2.1
  have hown := C.1.2.2.2.1
  have hts := C.1.2.2.2.2
  have hK := C.2.1
  have iX5 : ∀ w ∈ wsX50, w ∈ wsX5_pair := fun _ h => List.mem_cons_of_mem _ (List.mem_append_right _ h)
  refine zz_lp (P := fun (v14 : Int32 × Int32 × Int32 × zzS) => ∀ (H : Heap) (locs : List Loc) (ls : Array Slot), va_P g.1 vwCl (zzY g q v14.2.2.2) H → va_D A (zzY g q v14.2.2.2) → va_S A s.heap H locs → lv_has ls 11 [(0, .ref (q 0)), (1, .int p0), (2, .int p1), (3, .int p2), (4, .int p3), (5, .int x11), (6, .int x13), (7, .int (v14.1)), (8, .int (v14.2.1)), (9, .int (v14.2.2.1))] → W p l e rX5_pair s m ([.ref (q 0), .int p0, .int p1, .int p2, .int p3] : List Value).toArray below meth c H locs 0 0 Q (F0 m 69 ls [])) (fun v14 rec15 ih16 hf H locs ls hP hD hS hl => ?_) n v14 hf
  unfold sX5_pair_69 at hf
  refine lv_iload hx hb dX5_pair_69 (lv_at hl 9 rfl) ?_
  refine lv_bipush (v := (100 : Int32)) hx hb dX5_pair_71 (by decide) ?_
  refine lv_icmp_ge (tgt := 162) hx hb dX5_pair_73 (by decide) (fun c17 => ?_) (fun c17 => ?_)
  · have hf := zz_t c17 hf
    refine lv_aload_n hx hb dX5_pair_162 rfl (lv_at hl 0 rfl) ?_
    refine va_get (D := g.1) (ci := 5) (v := .ref (q 9)) (C := RX5) (T := TX5) (N := 29) hx hb hts iX5 hown hK hP 0 rfl rfl 9 (by decide) (zz_mem hts 1 rfl) (fun _ h9 => h9) rfl dX5_pair_163 ?_
    refine lv_iload_n hx hb dX5_pair_166 rfl (lv_at hl 1 rfl) ?_
    refine lv_iload hx hb dX5_pair_167 (lv_at hl 5 rfl) ?_
    obtain ⟨h18, hf⟩ := zz_pa hf
    refine va_iast hx hb hK hP hD hS 5 0 rfl rfl h18 dX5_pair_169 (fun H locs hP hD hS => ?_)
    have hP : va_P g.1 vwCl (zzY g q (zza v14.2.2.2 9 p0.toNatClampNeg x11)) H := Eq.mp (congrArg (fun w => va_P g.1 vwCl w H) (zya_5 g q v14.2.2.2 (upd (v14.2.2.2.2 9) p0.toNatClampNeg x11))) hP
    have hD : va_D A (zzY g q (zza v14.2.2.2 9 p0.toNatClampNeg x11)) := Eq.mp (congrArg (va_D A) (zya_5 g q v14.2.2.2 (upd (v14.2.2.2.2 9) p0.toNatClampNeg x11))) hD
    refine lv_aload_n hx hb dX5_pair_170 rfl (lv_at hl 0 rfl) ?_
    refine va_get (D := g.1) (ci := 5) (v := .ref (q 9)) (C := RX5) (T := TX5) (N := 29) hx hb hts iX5 hown hK hP 0 rfl rfl 9 (by decide) (zz_mem hts 1 rfl) (fun _ h9 => h9) rfl dX5_pair_171 ?_
    refine lv_iload_n hx hb dX5_pair_174 rfl (lv_at hl 2 rfl) ?_
    refine lv_iload hx hb dX5_pair_175 (lv_at hl 6 rfl) ?_
    obtain ⟨h19, hf⟩ := zz_pa hf
    refine va_iast hx hb hK hP hD hS 5 0 rfl rfl h19 dX5_pair_177 (fun H locs hP hD hS => ?_)
    have hP : va_P g.1 vwCl (zzY g q (zza (zza v14.2.2.2 9 p0.toNatClampNeg x11) 9 p1.toNatClampNeg x13)) H := Eq.mp (congrArg (fun w => va_P g.1 vwCl w H) (zya_5 g q (zza v14.2.2.2 9 p0.toNatClampNeg x11) (upd ((zza v14.2.2.2 9 p0.toNatClampNeg x11).2 9) p1.toNatClampNeg x13))) hP
    have hD : va_D A (zzY g q (zza (zza v14.2.2.2 9 p0.toNatClampNeg x11) 9 p1.toNatClampNeg x13)) := Eq.mp (congrArg (va_D A) (zya_5 g q (zza v14.2.2.2 9 p0.toNatClampNeg x11) (upd ((zza v14.2.2.2 9 p0.toNatClampNeg x11).2 9) p1.toNatClampNeg x13))) hD
    refine lv_iload hx hb dX5_pair_178 (lv_at hl 7 rfl) ?_
    refine lv_bipush (v := (-9 : Int32)) hx hb dX5_pair_180 (by decide) ?_
    refine lv_icmp_ne (tgt := 188) hx hb dX5_pair_182 (by decide) (fun c20 => ?_) (fun c20 => ?_)
    · have hf := zz_f c20 hf
      refine lv_iload hx hb dX5_pair_188 (lv_at hl 4 rfl) ?_
      refine lv_if_ne (tgt := 198) hx hb dX5_pair_190 (by decide) (fun c21 => ?_) (fun c21 => ?_)
      · have hf := zz_f c21 hf
        refine lv_iload hx hb dX5_pair_198 (lv_at hl 4 rfl) ?_
        refine lv_iconst (v := (1 : Int32)) hx hb dX5_pair_200 (by decide) ?_
        refine lv_icmp_ne (tgt := 212) hx hb dX5_pair_201 (by decide) (fun c22 => ?_) (fun c22 => ?_)
        · have hf := zz_f c22 hf
          refine lv_iload hx hb dX5_pair_212 (lv_at hl 7 rfl) ?_
          refine lv_bipush (v := (10 : Int32)) hx hb dX5_pair_214 (by decide) ?_
          have h23 : ¬ (10 : Int32) = 0 := by decide
          refine lv_irem hx hb dX5_pair_216 h23 ?_
          exact ret _ _ _ _ ((v14.1 - v14.1 / (10 : Int32) * (10 : Int32)), (zza (zza v14.2.2.2 9 p0.toNatClampNeg x11) 9 p1.toNatClampNeg x13)) hf dX5_pair_217 hP hD hS
        · have hf := zz_t c22 hf
          refine lv_iload hx hb dX5_pair_204 (lv_at hl 7 rfl) ?_
          refine lv_bipush (v := (10 : Int32)) hx hb dX5_pair_206 (by decide) ?_
          have h24 : ¬ (10 : Int32) = 0 := by decide
          refine lv_idiv hx hb dX5_pair_208 h24 ?_
          refine lv_goto (tgt := 217) hx hb dX5_pair_209 (by decide) ?_
          exact ret _ _ _ _ ((v14.1 / (10 : Int32)), (zza (zza v14.2.2.2 9 p0.toNatClampNeg x11) 9 p1.toNatClampNeg x13)) hf dX5_pair_217 hP hD hS
      · have hf := zz_t c21 hf
        refine lv_iload hx hb dX5_pair_193 (lv_at hl 8 rfl) ?_
        refine lv_goto (tgt := 217) hx hb dX5_pair_195 (by decide) ?_
        exact ret _ _ _ _ (v14.2.1, (zza (zza v14.2.2.2 9 p0.toNatClampNeg x11) 9 p1.toNatClampNeg x13)) hf dX5_pair_217 hP hD hS
    · have hf := zz_t c20 hf
      refine lv_bipush (v := (-9 : Int32)) hx hb dX5_pair_185 (by decide) ?_
      exact ret _ _ _ _ ((-9 : Int32), (zza (zza v14.2.2.2 9 p0.toNatClampNeg x11) 9 p1.toNatClampNeg x13)) hf dX5_pair_187 hP hD hS
  · have hf := zz_f c17 hf
    refine lv_aload_n hx hb dX5_pair_76 rfl (lv_at hl 0 rfl) ?_
    refine va_get (D := g.1) (ci := 5) (v := .ref (q 9)) (C := RX5) (T := TX5) (N := 29) hx hb hts iX5 hown hK hP 0 rfl rfl 9 (by decide) (zz_mem hts 1 rfl) (fun _ h9 => h9) rfl dX5_pair_77 ?_
    refine lv_iload_n hx hb dX5_pair_80 rfl (lv_at hl 1 rfl) ?_
    refine lv_iload hx hb dX5_pair_81 (lv_at hl 9 rfl) ?_
    refine lv_bipush (v := (10 : Int32)) hx hb dX5_pair_83 (by decide) ?_
    have h25 : ¬ (10 : Int32) = 0 := by decide
    refine lv_idiv hx hb dX5_pair_85 h25 ?_
    obtain ⟨h26, hf⟩ := zz_pa hf
    refine va_iast hx hb hK hP hD hS 5 0 rfl rfl h26 dX5_pair_86 (fun H locs hP hD hS => ?_)
    have hP : va_P g.1 vwCl (zzY g q (zza v14.2.2.2 9 p0.toNatClampNeg (v14.2.2.1 / (10 : Int32)))) H := Eq.mp (congrArg (fun w => va_P g.1 vwCl w H) (zya_5 g q v14.2.2.2 (upd (v14.2.2.2.2 9) p0.toNatClampNeg (v14.2.2.1 / (10 : Int32))))) hP
    have hD : va_D A (zzY g q (zza v14.2.2.2 9 p0.toNatClampNeg (v14.2.2.1 / (10 : Int32)))) := Eq.mp (congrArg (va_D A) (zya_5 g q v14.2.2.2 (upd (v14.2.2.2.2 9) p0.toNatClampNeg (v14.2.2.1 / (10 : Int32))))) hD
    refine lv_aload_n hx hb dX5_pair_87 rfl (lv_at hl 0 rfl) ?_
    refine va_get (D := g.1) (ci := 5) (v := .ref (q 9)) (C := RX5) (T := TX5) (N := 29) hx hb hts iX5 hown hK hP 0 rfl rfl 9 (by decide) (zz_mem hts 1 rfl) (fun _ h9 => h9) rfl dX5_pair_88 ?_
    refine lv_iload_n hx hb dX5_pair_91 rfl (lv_at hl 2 rfl) ?_
    refine lv_iload hx hb dX5_pair_92 (lv_at hl 9 rfl) ?_
    refine lv_bipush (v := (10 : Int32)) hx hb dX5_pair_94 (by decide) ?_
    have h27 : ¬ (10 : Int32) = 0 := by decide
    refine lv_irem hx hb dX5_pair_96 h27 ?_
    obtain ⟨h28, hf⟩ := zz_pa hf
    refine va_iast hx hb hK hP hD hS 5 0 rfl rfl h28 dX5_pair_97 (fun H locs hP hD hS => ?_)
    have hP : va_P g.1 vwCl (zzY g q (zza (zza v14.2.2.2 9 p0.toNatClampNeg (v14.2.2.1 / (10 : Int32))) 9 p1.toNatClampNeg (v14.2.2.1 - v14.2.2.1 / (10 : Int32) * (10 : Int32)))) H := Eq.mp (congrArg (fun w => va_P g.1 vwCl w H) (zya_5 g q (zza v14.2.2.2 9 p0.toNatClampNeg (v14.2.2.1 / (10 : Int32))) (upd ((zza v14.2.2.2 9 p0.toNatClampNeg (v14.2.2.1 / (10 : Int32))).2 9) p1.toNatClampNeg (v14.2.2.1 - v14.2.2.1 / (10 : Int32) * (10 : Int32))))) hP
    have hD : va_D A (zzY g q (zza (zza v14.2.2.2 9 p0.toNatClampNeg (v14.2.2.1 / (10 : Int32))) 9 p1.toNatClampNeg (v14.2.2.1 - v14.2.2.1 / (10 : Int32) * (10 : Int32)))) := Eq.mp (congrArg (va_D A) (zya_5 g q (zza v14.2.2.2 9 p0.toNatClampNeg (v14.2.2.1 / (10 : Int32))) (upd ((zza v14.2.2.2 9 p0.toNatClampNeg (v14.2.2.1 / (10 : Int32))).2 9) p1.toNatClampNeg (v14.2.2.1 - v14.2.2.1 / (10 : Int32) * (10 : Int32))))) hD
    refine lv_aload_n hx hb dX5_pair_98 rfl (lv_at hl 0 rfl) ?_
    refine lv_iload_n hx hb dX5_pair_99 rfl (lv_at hl 1 rfl) ?_
    refine lv_iload_n hx hb dX5_pair_100 rfl (lv_at hl 3 rfl) ?_
    obtain ⟨r29, hc29, hf⟩ := zz_bs hf
    refine zz_cVz C hP hD hS (kX5_isHidden l g q _ (zza (zza v14.2.2.2 9 p0.toNatClampNeg (v14.2.2.1 / (10 : Int32))) 9 p1.toNatClampNeg (v14.2.2.1 - v14.2.2.1 / (10 : Int32) * (10 : Int32))) p0 p2 r29 hc29) gX5_pair_X5_isHidden mX5_isHidden (by decide) ⟨Nat.zero_le _, Nat.zero_le _⟩ 0 rfl rfl rfl rfl (rest := []) rfl hl.1 (Nat.le_of_ble_eq_true rfl) dX5_pair_101 (fun hz29 H locs hP hD hS => ?_)
    refine lv_if_ne (tgt := 120) hx hb dX5_pair_104 (by decide) (fun c30 => ?_) (fun c30 => ?_)
    · have hf := zz_f c30 hf
      refine lv_iconst (v := (0 : Int32)) hx hb dX5_pair_120 (by decide) ?_
      exact wX5_pair_121 l g q p0 p1 p2 p3 x11 x13 rec15 x C ret ih16 (v14.1, v14.2.1, v14.2.2.1, (0 : Int32), (zza (zza v14.2.2.2 9 p0.toNatClampNeg (v14.2.2.1 / (10 : Int32))) 9 p1.toNatClampNeg (v14.2.2.1 - v14.2.2.1 / (10 : Int32) * (10 : Int32)))) hf _ _ _ hP hD hS (lv_sub hl [0, 1, 2, 3, 4, 5, 6, 7, 8, 9] rfl)
    · have hf := zz_t c30 hf
      refine lv_aload_n hx hb dX5_pair_107 rfl (lv_at hl 0 rfl) ?_
      refine lv_iload_n hx hb dX5_pair_108 rfl (lv_at hl 2 rfl) ?_
      refine lv_iload_n hx hb dX5_pair_109 rfl (lv_at hl 3 rfl) ?_
      obtain ⟨r38, hc38, hf⟩ := zz_bs hf
      refine zz_cVz C hP hD hS (kX5_isHidden l g q _ (zza (zza v14.2.2.2 9 p0.toNatClampNeg (v14.2.2.1 / (10 : Int32))) 9 p1.toNatClampNeg (v14.2.2.1 - v14.2.2.1 / (10 : Int32) * (10 : Int32))) p1 p2 r38 hc38) gX5_pair_X5_isHidden mX5_isHidden (by decide) ⟨Nat.zero_le _, Nat.zero_le _⟩ 0 rfl rfl rfl rfl (rest := []) rfl hl.1 (Nat.le_of_ble_eq_true rfl) dX5_pair_110 (fun hz38 H locs hP hD hS => ?_)
      refine lv_if_ne (tgt := 120) hx hb dX5_pair_113 (by decide) (fun c39 => ?_) (fun c39 => ?_)
      · have hf := zz_f c39 hf
        refine lv_iconst (v := (0 : Int32)) hx hb dX5_pair_120 (by decide) ?_
        exact wX5_pair_121 l g q p0 p1 p2 p3 x11 x13 rec15 x C ret ih16 (v14.1, v14.2.1, v14.2.2.1, (0 : Int32), (zza (zza v14.2.2.2 9 p0.toNatClampNeg (v14.2.2.1 / (10 : Int32))) 9 p1.toNatClampNeg (v14.2.2.1 - v14.2.2.1 / (10 : Int32) * (10 : Int32)))) hf _ _ _ hP hD hS (lv_sub hl [0, 1, 2, 3, 4, 5, 6, 7, 8, 9] rfl)
      · have hf := zz_t c39 hf
        refine lv_iconst (v := (1 : Int32)) hx hb dX5_pair_116 (by decide) ?_
        refine lv_goto (tgt := 121) hx hb dX5_pair_117 (by decide) ?_
        exact wX5_pair_121 l g q p0 p1 p2 p3 x11 x13 rec15 x C ret ih16 (v14.1, v14.2.1, v14.2.2.1, (1 : Int32), (zza (zza v14.2.2.2 9 p0.toNatClampNeg (v14.2.2.1 / (10 : Int32))) 9 p1.toNatClampNeg (v14.2.2.1 - v14.2.2.1 / (10 : Int32) * (10 : Int32)))) hf _ _ _ hP hD hS (lv_sub hl [0, 1, 2, 3, 4, 5, 6, 7, 8, 9] rfl)
def fX5_pair (u : zzS) (p0 : Int32) (p1 : Int32) (p2 : Int32) (p3 : Int32) : Option (Int32 × zzS) := ((fX5_isStander u p0).bind (fun r1 => (if r1 = 0 then (some ((-1 : Int32), u)) else ((fX5_isStander u p1).bind (fun r3 => (if r3 = 0 then (some ((-1 : Int32), u)) else (if p0 = p1 then (some ((-1 : Int32), u)) else ((fX5_isSun p2).bind (fun r6 => (if r6 = 0 then (some ((-2 : Int32), u)) else ((fX5_within p3 (0 : Int32) (2 : Int32)).bind (fun r8 => (if r8 = 0 then (some ((-2 : Int32), u)) else (zzga (u.2 9) 5 p0 (fun x11 => (zzga (u.2 9) 5 p1 (fun x13 => (zzlp (sX5_pair_69 p0 p1 p2 p3 x11 x13) zzFU ((-9 : Int32), (0 : Int32), (0 : Int32), u)))))))))))))))))))
set_option maxHeartbeats 4000000 in
set_option maxRecDepth 100000 in
theorem kX5_pair (l : Launch) (g : zzG) (q : Nat → Nat) (sz : Nat) (u : zzS) (p0 : Int32) (p1 : Int32) (p2 : Int32) (p3 : Int32) (x : Int32 × zzS) (hf : fX5_pair u p0 p1 p2 p3 = some x) : zzI l g yX5_pair wsX5_pair rX5_pair [.ref (q 0), .int p0, .int p1, .int p2, .int p3] (zzY g q u) (zzY g q x.2) sz x.1 := by
  refine zz_mi (cc := cX5_pair) (mL := 11) (own := RX5) (fun x : Int32 × zzS => x.1) (fun x : Int32 × zzS => (zzY g q x.2)) x (by decide) rfl rfl (Nat.le_of_ble_eq_true rfl) ?_
  intro p e s m below meth c A Q ls C ret hP hD hS hl
  have hl : lv_has ls 11 [(0, .ref (q 0)), (1, .int p0), (2, .int p1), (3, .int p2), (4, .int p3)] := hl
  have hx := C.1.1
  have hb := C.1.2.1
  have hml := C.1.2.2.1
  have hown := C.1.2.2.2.1
  have hts := C.1.2.2.2.2
  have hK := C.2.1
  have iX5 : ∀ w ∈ wsX50, w ∈ wsX5_pair := fun _ h => List.mem_cons_of_mem _ (List.mem_append_right _ h)
  unfold fX5_pair at hf
  refine lv_aload_n hx hb dX5_pair_0 rfl (lv_at hl 0 rfl) ?_
  refine lv_iload_n hx hb dX5_pair_1 rfl (lv_at hl 1 rfl) ?_
  obtain ⟨r1, hc1, hf⟩ := zz_bs hf
  refine zz_cVz C hP hD hS (kX5_isStander l g q _ u p0 r1 hc1) gX5_pair_X5_isStander mX5_isStander (by decide) ⟨Nat.zero_le _, Nat.zero_le _⟩ 0 rfl rfl rfl rfl (rest := []) rfl hl.1 (Nat.le_of_ble_eq_true rfl) dX5_pair_2 (fun hz1 H locs hP hD hS => ?_)
  refine lv_if_eq (tgt := 21) hx hb dX5_pair_5 (by decide) (fun c2 => ?_) (fun c2 => ?_)
  · have hf := zz_t c2 hf
    refine lv_iconst (v := (-1 : Int32)) hx hb dX5_pair_21 (by decide) ?_
    exact ret _ _ _ _ ((-1 : Int32), u) hf dX5_pair_22 hP hD hS
  · have hf := zz_f c2 hf
    refine lv_aload_n hx hb dX5_pair_8 rfl (lv_at hl 0 rfl) ?_
    refine lv_iload_n hx hb dX5_pair_9 rfl (lv_at hl 2 rfl) ?_
    obtain ⟨r3, hc3, hf⟩ := zz_bs hf
    refine zz_cVz C hP hD hS (kX5_isStander l g q _ u p1 r3 hc3) gX5_pair_X5_isStander mX5_isStander (by decide) ⟨Nat.zero_le _, Nat.zero_le _⟩ 0 rfl rfl rfl rfl (rest := []) rfl hl.1 (Nat.le_of_ble_eq_true rfl) dX5_pair_10 (fun hz3 H locs hP hD hS => ?_)
    refine lv_if_eq (tgt := 21) hx hb dX5_pair_13 (by decide) (fun c4 => ?_) (fun c4 => ?_)
    · have hf := zz_t c4 hf
      refine lv_iconst (v := (-1 : Int32)) hx hb dX5_pair_21 (by decide) ?_
      exact ret _ _ _ _ ((-1 : Int32), u) hf dX5_pair_22 hP hD hS
    · have hf := zz_f c4 hf
      refine lv_iload_n hx hb dX5_pair_16 rfl (lv_at hl 1 rfl) ?_
      refine lv_iload_n hx hb dX5_pair_17 rfl (lv_at hl 2 rfl) ?_
      refine lv_icmp_ne (tgt := 23) hx hb dX5_pair_18 (by decide) (fun c5 => ?_) (fun c5 => ?_)
      · have hf := zz_f c5 hf
        refine lv_iload_n hx hb dX5_pair_23 rfl (lv_at hl 3 rfl) ?_
        obtain ⟨r6, hc6, hf⟩ := zz_bs hf
        refine zz_cSz C hP hD hS (kX5_isSun l g (zzY g q u) _ p2 r6 hc6) gX5_pair_X5_isSun mX5_isSun (by decide) ⟨Nat.zero_le _, Nat.zero_le _⟩ rfl (rest := []) rfl hl.1 (Nat.le_of_ble_eq_true rfl) dX5_pair_24 (fun hz6 H locs hP hD hS => ?_)
        refine lv_if_eq (tgt := 40) hx hb dX5_pair_27 (by decide) (fun c7 => ?_) (fun c7 => ?_)
        · have hf := zz_t c7 hf
          refine lv_bipush (v := (-2 : Int32)) hx hb dX5_pair_40 (by decide) ?_
          exact ret _ _ _ _ ((-2 : Int32), u) hf dX5_pair_42 hP hD hS
        · have hf := zz_f c7 hf
          refine lv_iload hx hb dX5_pair_30 (lv_at hl 4 rfl) ?_
          refine lv_iconst (v := (0 : Int32)) hx hb dX5_pair_32 (by decide) ?_
          refine lv_iconst (v := (2 : Int32)) hx hb dX5_pair_33 (by decide) ?_
          obtain ⟨r8, hc8, hf⟩ := zz_bs hf
          refine zz_cSz C hP hD hS (kX5_within l g (zzY g q u) _ p3 (0 : Int32) (2 : Int32) r8 hc8) gX5_pair_X5_within mX5_within (by decide) ⟨Nat.zero_le _, Nat.zero_le _⟩ rfl (rest := []) rfl hl.1 (Nat.le_of_ble_eq_true rfl) dX5_pair_34 (fun hz8 H locs hP hD hS => ?_)
          refine lv_if_ne (tgt := 43) hx hb dX5_pair_37 (by decide) (fun c9 => ?_) (fun c9 => ?_)
          · have hf := zz_f c9 hf
            refine lv_aload_n hx hb dX5_pair_43 rfl (lv_at hl 0 rfl) ?_
            refine va_get (D := g.1) (ci := 5) (v := .ref (q 9)) (C := RX5) (T := TX5) (N := 29) hx hb hts iX5 hown hK hP 0 rfl rfl 9 (by decide) (zz_mem hts 1 rfl) (fun _ h9 => h9) rfl dX5_pair_44 ?_
            refine lv_iload_n hx hb dX5_pair_47 rfl (lv_at hl 1 rfl) ?_
            obtain ⟨x11, h10, ex11, hf⟩ := zz_gx hf
            refine zz_iald hx hb hK hP 5 0 rfl rfl h10 ex11 dX5_pair_48 ?_
            refine lv_istore (lv' := [(5, .int x11), (0, .ref (q 0)), (1, .int p0), (2, .int p1), (3, .int p2), (4, .int p3)]) hx hb dX5_pair_49 hl (by decide) rfl (fun ls hl => ?_)
            refine lv_aload_n hx hb dX5_pair_51 rfl (lv_at hl 1 rfl) ?_
            refine va_get (D := g.1) (ci := 5) (v := .ref (q 9)) (C := RX5) (T := TX5) (N := 29) hx hb hts iX5 hown hK hP 0 rfl rfl 9 (by decide) (zz_mem hts 1 rfl) (fun _ h9 => h9) rfl dX5_pair_52 ?_
            refine lv_iload_n hx hb dX5_pair_55 rfl (lv_at hl 3 rfl) ?_
            obtain ⟨x13, h12, ex13, hf⟩ := zz_gx hf
            refine zz_iald hx hb hK hP 5 0 rfl rfl h12 ex13 dX5_pair_56 ?_
            refine lv_istore (lv' := [(6, .int x13), (5, .int x11), (0, .ref (q 0)), (1, .int p0), (2, .int p1), (3, .int p2), (4, .int p3)]) hx hb dX5_pair_57 hl (by decide) rfl (fun ls hl => ?_)
            refine lv_bipush (v := (-9 : Int32)) hx hb dX5_pair_59 (by decide) ?_
            refine lv_istore (lv' := [(7, .int (-9 : Int32)), (6, .int x13), (5, .int x11), (0, .ref (q 0)), (1, .int p0), (2, .int p1), (3, .int p2), (4, .int p3)]) hx hb dX5_pair_61 hl (by decide) rfl (fun ls hl => ?_)
            refine lv_iconst (v := (0 : Int32)) hx hb dX5_pair_63 (by decide) ?_
            refine lv_istore (lv' := [(8, .int (0 : Int32)), (7, .int (-9 : Int32)), (6, .int x13), (5, .int x11), (0, .ref (q 0)), (1, .int p0), (2, .int p1), (3, .int p2), (4, .int p3)]) hx hb dX5_pair_64 hl (by decide) rfl (fun ls hl => ?_)
            refine lv_iconst (v := (0 : Int32)) hx hb dX5_pair_66 (by decide) ?_
            refine lv_istore (lv' := [(9, .int (0 : Int32)), (8, .int (0 : Int32)), (7, .int (-9 : Int32)), (6, .int x13), (5, .int x11), (0, .ref (q 0)), (1, .int p0), (2, .int p1), (3, .int p2), (4, .int p3)]) hx hb dX5_pair_67 hl (by decide) rfl (fun ls hl => ?_)
            exact wX5_pair_69 l g q p0 p1 p2 p3 x11 x13 x C ret  _ _ hf _ _ _ hP hD hS (lv_sub hl [5, 6, 7, 8, 9, 4, 3, 2, 1, 0] rfl)
          · have hf := zz_t c9 hf
            refine lv_bipush (v := (-2 : Int32)) hx hb dX5_pair_40 (by decide) ?_
            exact ret _ _ _ _ ((-2 : Int32), u) hf dX5_pair_42 hP hD hS
      · have hf := zz_t c5 hf
        refine lv_iconst (v := (-1 : Int32)) hx hb dX5_pair_21 (by decide) ?_
        exact ret _ _ _ _ ((-1 : Int32), u) hf dX5_pair_22 hP hD hS
abbrev rX5_size : Room := ({ frames := 0, cells := 0, slots := 0, locals := 0 })
theorem mX5_size : zzM yX5_size wsX5_size cX5_size 3 (some .int) RX5 1 := ⟨⟨_, rfl⟩, by decide +kernel⟩
def sX5_size_4 (p0 : Int32) : (Int32 × Int32) → ((Int32 × Int32) → Option Int32) → Option Int32 := fun v1 rec2 => (if v1.2 ≤ 0 then (some v1.1) else (rec2 ((v1.1 + (v1.2 &&& (1 : Int32))), (v1.2 >>> ((1 : Int32) &&& 31)))))
set_option maxHeartbeats 4000000 in
set_option maxRecDepth 100000 in
theorem wX5_size_4 (l : Launch) (g : zzG) (w : va_W) (p0 : Int32) (x : Int32) {p : Program} {e : Env} {s : State} {m : MethodId} {below : List Frame} {meth : Method} {c : Code} {A : Nat → Prop} {Q : State → Prop} (C : zzC g p s m ([.int p0] : List Value).toArray c cX5_size 3 RX5 wsX5_size A) (ret : zzRI l g rX5_size cX5_size [.int p0] (fun x : Int32 => x) (fun x : Int32 => w) x p e s m below meth c A Q)  (n : Nat) (v1 : Int32 × Int32) (hf : zzlp (sX5_size_4 p0) n v1 = some x) : ∀ (H : Heap) (locs : List Loc) (ls : Array Slot), va_P g.1 vwCl w H → va_D A w → va_S A s.heap H locs → lv_has ls 3 [(1, .int (v1.1)), (2, .int (v1.2))] → W p l e rX5_size s m ([.int p0] : List Value).toArray below meth c H locs 0 0 Q (F0 m 4 ls []) := by
  have hx := C.1.1
  have hb := C.1.2.1
  have hml := C.1.2.2.1
  have hown := C.1.2.2.2.1
  have hts := C.1.2.2.2.2
  have hK := C.2.1
  refine zz_lp (P := fun (v1 : Int32 × Int32) => ∀ (H : Heap) (locs : List Loc) (ls : Array Slot), va_P g.1 vwCl w H → va_D A w → va_S A s.heap H locs → lv_has ls 3 [(1, .int (v1.1)), (2, .int (v1.2))] → W p l e rX5_size s m ([.int p0] : List Value).toArray below meth c H locs 0 0 Q (F0 m 4 ls [])) (fun v1 rec2 ih3 hf H locs ls hP hD hS hl => ?_) n v1 hf
  unfold sX5_size_4 at hf
  refine lv_iload_n hx hb dX5_size_4 rfl (lv_at hl 1 rfl) ?_
  refine lv_if_le (tgt := 21) hx hb dX5_size_5 (by decide) (fun c4 => ?_) (fun c4 => ?_)
  · have hf := zz_t c4 hf
    refine lv_iload_n hx hb dX5_size_21 rfl (lv_at hl 0 rfl) ?_
    exact ret _ _ _ _ v1.1 hf dX5_size_22 hP hD hS
  · have hf := zz_f c4 hf
    refine lv_iload_n hx hb dX5_size_8 rfl (lv_at hl 0 rfl) ?_
    refine lv_iload_n hx hb dX5_size_9 rfl (lv_at hl 1 rfl) ?_
    refine lv_iconst (v := (1 : Int32)) hx hb dX5_size_10 (by decide) ?_
    refine lv_iand hx hb dX5_size_11 ?_
    refine lv_iadd hx hb dX5_size_12 ?_
    refine lv_istore_n (lv' := [(1, .int (v1.1 + (v1.2 &&& (1 : Int32)))), (2, .int (v1.2))]) hx hb dX5_size_13 rfl hl (by decide) rfl (fun ls hl => ?_)
    refine lv_iload_n hx hb dX5_size_14 rfl (lv_at hl 1 rfl) ?_
    refine lv_iconst (v := (1 : Int32)) hx hb dX5_size_15 (by decide) ?_
    refine lv_ishr hx hb dX5_size_16 ?_
    refine lv_istore_n (lv' := [(2, .int (v1.2 >>> ((1 : Int32) &&& 31))), (1, .int (v1.1 + (v1.2 &&& (1 : Int32))))]) hx hb dX5_size_17 rfl hl (by decide) rfl (fun ls hl => ?_)
    refine lv_goto (tgt := 4) hx hb dX5_size_18 (by decide) ?_
    exact ih3 _ hf _ _ _ hP hD hS (lv_sub hl [1, 0] rfl)
def fX5_size (p0 : Int32) : Option Int32 := (zzlp (sX5_size_4 p0) zzFU ((0 : Int32), p0))
set_option maxHeartbeats 4000000 in
set_option maxRecDepth 100000 in
theorem kX5_size (l : Launch) (g : zzG) (w : va_W) (sz : Nat)  (p0 : Int32) (x : Int32) (hf : fX5_size p0 = some x) : zzI l g yX5_size wsX5_size rX5_size [.int p0] w w sz x := by
  refine zz_mi (cc := cX5_size) (mL := 3) (own := RX5) (fun x : Int32 => x) (fun x : Int32 => w) x (by decide) rfl rfl (Nat.le_of_ble_eq_true rfl) ?_
  intro p e s m below meth c A Q ls C ret hP hD hS hl
  have hl : lv_has ls 3 [(0, .int p0)] := hl
  have hx := C.1.1
  have hb := C.1.2.1
  have hml := C.1.2.2.1
  have hown := C.1.2.2.2.1
  have hts := C.1.2.2.2.2
  have hK := C.2.1
  unfold fX5_size at hf
  refine lv_iconst (v := (0 : Int32)) hx hb dX5_size_0 (by decide) ?_
  refine lv_istore_n (lv' := [(1, .int (0 : Int32)), (0, .int p0)]) hx hb dX5_size_1 rfl hl (by decide) rfl (fun ls hl => ?_)
  refine lv_iload_n hx hb dX5_size_2 rfl (lv_at hl 1 rfl) ?_
  refine lv_istore_n (lv' := [(2, .int p0), (1, .int (0 : Int32)), (0, .int p0)]) hx hb dX5_size_3 rfl hl (by decide) rfl (fun ls hl => ?_)
  exact wX5_size_4 l g w p0 x C ret  _ _ hf _ _ _ hP hD hS (lv_sub hl [1, 0] rfl)
abbrev rX5_send : Room := ({ frames := 4, cells := 0, slots := 0, locals := 91 })
theorem mX5_send : zzM yX5_send wsX5_send cX5_send 4 (some .int) RX5 2 := ⟨⟨_, rfl⟩, by decide +kernel⟩
def sX5_send_38 (p0 : Int32) (p1 : Int32) : (Int32 × zzS) → ((Int32 × zzS) → Option (Int32 × zzS)) → Option (Int32 × zzS) := fun v6 rec7 => (if ((1 : Int32) <<< ((v6.2.1 5) &&& 31)) ≤ (v6.2.1 11) then (some (v6.1, (zzi v6.2 11 (0 : Int32)))) else (if v6.1 = (-9 : Int32) then ((fX5_censusOf v6.2 p0).bind (fun r11 => (if r11.1 = p1 then (rec7 ((r11.2.1 11), (zzi r11.2 11 ((r11.2.1 11) + (1 : Int32))))) else (rec7 (v6.1, (zzi r11.2 11 ((r11.2.1 11) + (1 : Int32)))))))) else ((fX5_size (v6.2.1 11)).bind (fun r13 => ((fX5_size v6.1).bind (fun r14 => (if r14 ≤ r13 then (rec7 (v6.1, (zzi v6.2 11 ((v6.2.1 11) + (1 : Int32))))) else ((fX5_censusOf v6.2 p0).bind (fun r16 => (if r16.1 = p1 then (rec7 ((r16.2.1 11), (zzi r16.2 11 ((r16.2.1 11) + (1 : Int32))))) else (rec7 (v6.1, (zzi r16.2 11 ((r16.2.1 11) + (1 : Int32)))))))))))))))
set_option maxHeartbeats 4000000 in
set_option maxRecDepth 100000 in
theorem wX5_send_38 (l : Launch) (g : zzG) (q : Nat → Nat) (p0 : Int32) (p1 : Int32) (x : Int32 × zzS) {p : Program} {e : Env} {s : State} {m : MethodId} {below : List Frame} {meth : Method} {c : Code} {A : Nat → Prop} {Q : State → Prop} (C : zzC g p s m ([.ref (q 0), .int p0, .int p1] : List Value).toArray c cX5_send 4 RX5 wsX5_send A) (ret : zzRI l g rX5_send cX5_send [.ref (q 0), .int p0, .int p1] (fun x : Int32 × zzS => x.1) (fun x : Int32 × zzS => (zzY g q x.2)) x p e s m below meth c A Q)  (n : Nat) (v6 : Int32 × zzS) (hf : zzlp (sX5_send_38 p0 p1) n v6 = some x) : ∀ (H : Heap) (locs : List Loc) (ls : Array Slot), va_P g.1 vwCl (zzY g q v6.2) H → va_D A (zzY g q v6.2) → va_S A s.heap H locs → lv_has ls 4 [(0, .ref (q 0)), (1, .int p0), (2, .int p1), (3, .int (v6.1))] → W p l e rX5_send s m ([.ref (q 0), .int p0, .int p1] : List Value).toArray below meth c H locs 0 0 Q (F0 m 38 ls []) := by
  have hx := C.1.1
  have hb := C.1.2.1
  have hml := C.1.2.2.1
  have hown := C.1.2.2.2.1
  have hts := C.1.2.2.2.2
  have hK := C.2.1
  have iX5 : ∀ w ∈ wsX50, w ∈ wsX5_send := fun _ h => List.mem_cons_of_mem _ (List.mem_append_right _ h)
  refine zz_lp (P := fun (v6 : Int32 × zzS) => ∀ (H : Heap) (locs : List Loc) (ls : Array Slot), va_P g.1 vwCl (zzY g q v6.2) H → va_D A (zzY g q v6.2) → va_S A s.heap H locs → lv_has ls 4 [(0, .ref (q 0)), (1, .int p0), (2, .int p1), (3, .int (v6.1))] → W p l e rX5_send s m ([.ref (q 0), .int p0, .int p1] : List Value).toArray below meth c H locs 0 0 Q (F0 m 38 ls [])) (fun v6 rec7 ih8 hf H locs ls hP hD hS hl => ?_) n v6 hf
  unfold sX5_send_38 at hf
  refine lv_aload_n hx hb dX5_send_38 rfl (lv_at hl 0 rfl) ?_
  refine va_get (D := g.1) (ci := 5) (v := .int (v6.2.1 11)) (C := RX5) (T := TX5) (N := 29) hx hb hts iX5 hown hK hP 0 rfl rfl 11 (by decide) (zz_mem hts 2 rfl) (fun _ h9 => h9) rfl dX5_send_39 ?_
  refine lv_iconst (v := (1 : Int32)) hx hb dX5_send_42 (by decide) ?_
  refine lv_aload_n hx hb dX5_send_43 rfl (lv_at hl 0 rfl) ?_
  refine va_get (D := g.1) (ci := 5) (v := .int (v6.2.1 5)) (C := RX5) (T := TX5) (N := 29) hx hb hts iX5 hown hK hP 0 rfl rfl 5 (by decide) (zz_mem hts 1 rfl) (fun _ h9 => h9) rfl dX5_send_44 ?_
  refine lv_ishl hx hb dX5_send_47 ?_
  refine lv_icmp_ge (tgt := 98) hx hb dX5_send_48 (by decide) (fun c9 => ?_) (fun c9 => ?_)
  · have hf := zz_t c9 hf
    refine lv_aload_n hx hb dX5_send_98 rfl (lv_at hl 0 rfl) ?_
    refine lv_iconst (v := (0 : Int32)) hx hb dX5_send_99 (by decide) ?_
    refine va_put (D := g.1) (ci := 5) (v := .int (0 : Int32)) (ty := .int) (C := RX5) (T := TX5) (N := 29) hx hb hts iX5 tyX5 tyX5_ok nmX5 hown hK hP hD hS 0 rfl rfl 11 (by decide) (zz_mem hts 2 rfl) (fun _ h9 => h9) rfl (tyX5_ok 11 (by decide)) rfl rfl (Nat.le_of_ble_eq_true rfl) dX5_send_100 (fun H locs hP hD hS => ?_)
    have hP : va_P g.1 vwCl (zzY g q (zzi v6.2 11 (0 : Int32))) H := Eq.mp (congrArg (fun w => va_P g.1 vwCl w H) (zyo_0_11 g q v6.2 (0 : Int32))) hP
    have hD : va_D A (zzY g q (zzi v6.2 11 (0 : Int32))) := Eq.mp (congrArg (va_D A) (zyo_0_11 g q v6.2 (0 : Int32))) hD
    refine lv_iload_n hx hb dX5_send_103 rfl (lv_at hl 3 rfl) ?_
    exact ret _ _ _ _ (v6.1, (zzi v6.2 11 (0 : Int32))) hf dX5_send_104 hP hD hS
  · have hf := zz_f c9 hf
    refine lv_iload_n hx hb dX5_send_51 rfl (lv_at hl 3 rfl) ?_
    refine lv_bipush (v := (-9 : Int32)) hx hb dX5_send_52 (by decide) ?_
    refine lv_icmp_eq (tgt := 71) hx hb dX5_send_54 (by decide) (fun c10 => ?_) (fun c10 => ?_)
    · have hf := zz_t c10 hf
      refine lv_aload_n hx hb dX5_send_71 rfl (lv_at hl 0 rfl) ?_
      refine lv_iload_n hx hb dX5_send_72 rfl (lv_at hl 1 rfl) ?_
      obtain ⟨r11, hc11, hf⟩ := zz_bs hf
      refine zz_cVi C hP hD hS (kX5_censusOf l g q _ v6.2 p0 r11 hc11) gX5_send_X5_censusOf mX5_censusOf (by decide) ⟨Nat.zero_le _, Nat.zero_le _⟩ 0 rfl rfl rfl rfl (rest := []) rfl hl.1 (Nat.le_of_ble_eq_true rfl) dX5_send_73 (fun H locs hP hD hS => ?_)
      refine lv_iload_n hx hb dX5_send_76 rfl (lv_at hl 2 rfl) ?_
      refine lv_icmp_ne (tgt := 85) hx hb dX5_send_77 (by decide) (fun c12 => ?_) (fun c12 => ?_)
      · have hf := zz_f c12 hf
        refine lv_aload_n hx hb dX5_send_85 rfl (lv_at hl 0 rfl) ?_
        refine lv_dup hx hb dX5_send_86 rfl ?_
        refine va_get (D := g.1) (ci := 5) (v := .int (r11.2.1 11)) (C := RX5) (T := TX5) (N := 29) hx hb hts iX5 hown hK hP 0 rfl rfl 11 (by decide) (zz_mem hts 2 rfl) (fun _ h9 => h9) rfl dX5_send_87 ?_
        refine lv_iconst (v := (1 : Int32)) hx hb dX5_send_90 (by decide) ?_
        refine lv_iadd hx hb dX5_send_91 ?_
        refine va_put (D := g.1) (ci := 5) (v := .int ((r11.2.1 11) + (1 : Int32))) (ty := .int) (C := RX5) (T := TX5) (N := 29) hx hb hts iX5 tyX5 tyX5_ok nmX5 hown hK hP hD hS 0 rfl rfl 11 (by decide) (zz_mem hts 2 rfl) (fun _ h9 => h9) rfl (tyX5_ok 11 (by decide)) rfl rfl (Nat.le_of_ble_eq_true rfl) dX5_send_92 (fun H locs hP hD hS => ?_)
        have hP : va_P g.1 vwCl (zzY g q (zzi r11.2 11 ((r11.2.1 11) + (1 : Int32)))) H := Eq.mp (congrArg (fun w => va_P g.1 vwCl w H) (zyo_0_11 g q r11.2 ((r11.2.1 11) + (1 : Int32)))) hP
        have hD : va_D A (zzY g q (zzi r11.2 11 ((r11.2.1 11) + (1 : Int32)))) := Eq.mp (congrArg (va_D A) (zyo_0_11 g q r11.2 ((r11.2.1 11) + (1 : Int32)))) hD
        refine lv_goto (tgt := 38) hx hb dX5_send_95 (by decide) ?_
        exact ih8 _ hf _ _ _ hP hD hS (lv_sub hl [0, 1, 2, 3] rfl)
      · have hf := zz_t c12 hf
        refine lv_aload_n hx hb dX5_send_80 rfl (lv_at hl 0 rfl) ?_
        refine va_get (D := g.1) (ci := 5) (v := .int (r11.2.1 11)) (C := RX5) (T := TX5) (N := 29) hx hb hts iX5 hown hK hP 0 rfl rfl 11 (by decide) (zz_mem hts 2 rfl) (fun _ h9 => h9) rfl dX5_send_81 ?_
        refine lv_istore_n (lv' := [(3, .int (r11.2.1 11)), (0, .ref (q 0)), (1, .int p0), (2, .int p1)]) hx hb dX5_send_84 rfl hl (by decide) rfl (fun ls hl => ?_)
        refine lv_aload_n hx hb dX5_send_85 rfl (lv_at hl 1 rfl) ?_
        refine lv_dup hx hb dX5_send_86 rfl ?_
        refine va_get (D := g.1) (ci := 5) (v := .int (r11.2.1 11)) (C := RX5) (T := TX5) (N := 29) hx hb hts iX5 hown hK hP 0 rfl rfl 11 (by decide) (zz_mem hts 2 rfl) (fun _ h9 => h9) rfl dX5_send_87 ?_
        refine lv_iconst (v := (1 : Int32)) hx hb dX5_send_90 (by decide) ?_
        refine lv_iadd hx hb dX5_send_91 ?_
        refine va_put (D := g.1) (ci := 5) (v := .int ((r11.2.1 11) + (1 : Int32))) (ty := .int) (C := RX5) (T := TX5) (N := 29) hx hb hts iX5 tyX5 tyX5_ok nmX5 hown hK hP hD hS 0 rfl rfl 11 (by decide) (zz_mem hts 2 rfl) (fun _ h9 => h9) rfl (tyX5_ok 11 (by decide)) rfl rfl (Nat.le_of_ble_eq_true rfl) dX5_send_92 (fun H locs hP hD hS => ?_)
        have hP : va_P g.1 vwCl (zzY g q (zzi r11.2 11 ((r11.2.1 11) + (1 : Int32)))) H := Eq.mp (congrArg (fun w => va_P g.1 vwCl w H) (zyo_0_11 g q r11.2 ((r11.2.1 11) + (1 : Int32)))) hP
        have hD : va_D A (zzY g q (zzi r11.2 11 ((r11.2.1 11) + (1 : Int32)))) := Eq.mp (congrArg (va_D A) (zyo_0_11 g q r11.2 ((r11.2.1 11) + (1 : Int32)))) hD
        refine lv_goto (tgt := 38) hx hb dX5_send_95 (by decide) ?_
        exact ih8 _ hf _ _ _ hP hD hS (lv_sub hl [1, 2, 3, 0] rfl)
    · have hf := zz_f c10 hf
      refine lv_aload_n hx hb dX5_send_57 rfl (lv_at hl 0 rfl) ?_
      refine va_get (D := g.1) (ci := 5) (v := .int (v6.2.1 11)) (C := RX5) (T := TX5) (N := 29) hx hb hts iX5 hown hK hP 0 rfl rfl 11 (by decide) (zz_mem hts 2 rfl) (fun _ h9 => h9) rfl dX5_send_58 ?_
      obtain ⟨r13, hc13, hf⟩ := zz_bs hf
      refine zz_cSi C hP hD hS (kX5_size l g (zzY g q v6.2) _ (v6.2.1 11) r13 hc13) gX5_send_X5_size mX5_size (by decide) ⟨Nat.zero_le _, Nat.zero_le _⟩ rfl (rest := []) rfl hl.1 (Nat.le_of_ble_eq_true rfl) dX5_send_61 (fun H locs hP hD hS => ?_)
      refine lv_iload_n hx hb dX5_send_64 rfl (lv_at hl 3 rfl) ?_
      obtain ⟨r14, hc14, hf⟩ := zz_bs hf
      refine zz_cSi C hP hD hS (kX5_size l g (zzY g q v6.2) _ v6.1 r14 hc14) gX5_send_X5_size mX5_size (by decide) ⟨Nat.zero_le _, Nat.zero_le _⟩ rfl (rest := [.int r13]) rfl hl.1 (Nat.le_of_ble_eq_true rfl) dX5_send_65 (fun H locs hP hD hS => ?_)
      refine lv_icmp_ge (tgt := 85) hx hb dX5_send_68 (by decide) (fun c15 => ?_) (fun c15 => ?_)
      · have hf := zz_t c15 hf
        refine lv_aload_n hx hb dX5_send_85 rfl (lv_at hl 0 rfl) ?_
        refine lv_dup hx hb dX5_send_86 rfl ?_
        refine va_get (D := g.1) (ci := 5) (v := .int (v6.2.1 11)) (C := RX5) (T := TX5) (N := 29) hx hb hts iX5 hown hK hP 0 rfl rfl 11 (by decide) (zz_mem hts 2 rfl) (fun _ h9 => h9) rfl dX5_send_87 ?_
        refine lv_iconst (v := (1 : Int32)) hx hb dX5_send_90 (by decide) ?_
        refine lv_iadd hx hb dX5_send_91 ?_
        refine va_put (D := g.1) (ci := 5) (v := .int ((v6.2.1 11) + (1 : Int32))) (ty := .int) (C := RX5) (T := TX5) (N := 29) hx hb hts iX5 tyX5 tyX5_ok nmX5 hown hK hP hD hS 0 rfl rfl 11 (by decide) (zz_mem hts 2 rfl) (fun _ h9 => h9) rfl (tyX5_ok 11 (by decide)) rfl rfl (Nat.le_of_ble_eq_true rfl) dX5_send_92 (fun H locs hP hD hS => ?_)
        have hP : va_P g.1 vwCl (zzY g q (zzi v6.2 11 ((v6.2.1 11) + (1 : Int32)))) H := Eq.mp (congrArg (fun w => va_P g.1 vwCl w H) (zyo_0_11 g q v6.2 ((v6.2.1 11) + (1 : Int32)))) hP
        have hD : va_D A (zzY g q (zzi v6.2 11 ((v6.2.1 11) + (1 : Int32)))) := Eq.mp (congrArg (va_D A) (zyo_0_11 g q v6.2 ((v6.2.1 11) + (1 : Int32)))) hD
        refine lv_goto (tgt := 38) hx hb dX5_send_95 (by decide) ?_
        exact ih8 _ hf _ _ _ hP hD hS (lv_sub hl [0, 1, 2, 3] rfl)
      · have hf := zz_f c15 hf
        refine lv_aload_n hx hb dX5_send_71 rfl (lv_at hl 0 rfl) ?_
        refine lv_iload_n hx hb dX5_send_72 rfl (lv_at hl 1 rfl) ?_
        obtain ⟨r16, hc16, hf⟩ := zz_bs hf
        refine zz_cVi C hP hD hS (kX5_censusOf l g q _ v6.2 p0 r16 hc16) gX5_send_X5_censusOf mX5_censusOf (by decide) ⟨Nat.zero_le _, Nat.zero_le _⟩ 0 rfl rfl rfl rfl (rest := []) rfl hl.1 (Nat.le_of_ble_eq_true rfl) dX5_send_73 (fun H locs hP hD hS => ?_)
        refine lv_iload_n hx hb dX5_send_76 rfl (lv_at hl 2 rfl) ?_
        refine lv_icmp_ne (tgt := 85) hx hb dX5_send_77 (by decide) (fun c17 => ?_) (fun c17 => ?_)
        · have hf := zz_f c17 hf
          refine lv_aload_n hx hb dX5_send_85 rfl (lv_at hl 0 rfl) ?_
          refine lv_dup hx hb dX5_send_86 rfl ?_
          refine va_get (D := g.1) (ci := 5) (v := .int (r16.2.1 11)) (C := RX5) (T := TX5) (N := 29) hx hb hts iX5 hown hK hP 0 rfl rfl 11 (by decide) (zz_mem hts 2 rfl) (fun _ h9 => h9) rfl dX5_send_87 ?_
          refine lv_iconst (v := (1 : Int32)) hx hb dX5_send_90 (by decide) ?_
          refine lv_iadd hx hb dX5_send_91 ?_
          refine va_put (D := g.1) (ci := 5) (v := .int ((r16.2.1 11) + (1 : Int32))) (ty := .int) (C := RX5) (T := TX5) (N := 29) hx hb hts iX5 tyX5 tyX5_ok nmX5 hown hK hP hD hS 0 rfl rfl 11 (by decide) (zz_mem hts 2 rfl) (fun _ h9 => h9) rfl (tyX5_ok 11 (by decide)) rfl rfl (Nat.le_of_ble_eq_true rfl) dX5_send_92 (fun H locs hP hD hS => ?_)
          have hP : va_P g.1 vwCl (zzY g q (zzi r16.2 11 ((r16.2.1 11) + (1 : Int32)))) H := Eq.mp (congrArg (fun w => va_P g.1 vwCl w H) (zyo_0_11 g q r16.2 ((r16.2.1 11) + (1 : Int32)))) hP
          have hD : va_D A (zzY g q (zzi r16.2 11 ((r16.2.1 11) + (1 : Int32)))) := Eq.mp (congrArg (va_D A) (zyo_0_11 g q r16.2 ((r16.2.1 11) + (1 : Int32)))) hD
          refine lv_goto (tgt := 38) hx hb dX5_send_95 (by decide) ?_
          exact ih8 _ hf _ _ _ hP hD hS (lv_sub hl [0, 1, 2, 3] rfl)
        · have hf := zz_t c17 hf
          refine lv_aload_n hx hb dX5_send_80 rfl (lv_at hl 0 rfl) ?_
          refine va_get (D := g.1) (ci := 5) (v := .int (r16.2.1 11)) (C := RX5) (T := TX5) (N := 29) hx hb hts iX5 hown hK hP 0 rfl rfl 11 (by decide) (zz_mem hts 2 rfl) (fun _ h9 => h9) rfl dX5_send_81 ?_
          refine lv_istore_n (lv' := [(3, .int (r16.2.1 11)), (0, .ref (q 0)), (1, .int p0), (2, .int p1)]) hx hb dX5_send_84 rfl hl (by decide) rfl (fun ls hl => ?_)
          refine lv_aload_n hx hb dX5_send_85 rfl (lv_at hl 1 rfl) ?_
          refine lv_dup hx hb dX5_send_86 rfl ?_
          refine va_get (D := g.1) (ci := 5) (v := .int (r16.2.1 11)) (C := RX5) (T := TX5) (N := 29) hx hb hts iX5 hown hK hP 0 rfl rfl 11 (by decide) (zz_mem hts 2 rfl) (fun _ h9 => h9) rfl dX5_send_87 ?_
          refine lv_iconst (v := (1 : Int32)) hx hb dX5_send_90 (by decide) ?_
          refine lv_iadd hx hb dX5_send_91 ?_
          refine va_put (D := g.1) (ci := 5) (v := .int ((r16.2.1 11) + (1 : Int32))) (ty := .int) (C := RX5) (T := TX5) (N := 29) hx hb hts iX5 tyX5 tyX5_ok nmX5 hown hK hP hD hS 0 rfl rfl 11 (by decide) (zz_mem hts 2 rfl) (fun _ h9 => h9) rfl (tyX5_ok 11 (by decide)) rfl rfl (Nat.le_of_ble_eq_true rfl) dX5_send_92 (fun H locs hP hD hS => ?_)
          have hP : va_P g.1 vwCl (zzY g q (zzi r16.2 11 ((r16.2.1 11) + (1 : Int32)))) H := Eq.mp (congrArg (fun w => va_P g.1 vwCl w H) (zyo_0_11 g q r16.2 ((r16.2.1 11) + (1 : Int32)))) hP
          have hD : va_D A (zzY g q (zzi r16.2 11 ((r16.2.1 11) + (1 : Int32)))) := Eq.mp (congrArg (va_D A) (zyo_0_11 g q r16.2 ((r16.2.1 11) + (1 : Int32)))) hD
          refine lv_goto (tgt := 38) hx hb dX5_send_95 (by decide) ?_
          exact ih8 _ hf _ _ _ hP hD hS (lv_sub hl [1, 2, 3, 0] rfl)
def fX5_send (u : zzS) (p0 : Int32) (p1 : Int32) : Option (Int32 × zzS) := ((fX5_isSun p0).bind (fun r1 => (if r1 = 0 then (some ((-2 : Int32), u)) else ((fX5_within p1 (0 : Int32) (99 : Int32)).bind (fun r3 => (if r3 = 0 then (some ((-2 : Int32), u)) else (if (u.1 5) = 0 then (some ((-3 : Int32), u)) else (zzlp (sX5_send_38 p0 p1) zzFU ((-9 : Int32), (zzi u 11 (0 : Int32)))))))))))
set_option maxHeartbeats 4000000 in
set_option maxRecDepth 100000 in
theorem kX5_send (l : Launch) (g : zzG) (q : Nat → Nat) (sz : Nat) (u : zzS) (p0 : Int32) (p1 : Int32) (x : Int32 × zzS) (hf : fX5_send u p0 p1 = some x) : zzI l g yX5_send wsX5_send rX5_send [.ref (q 0), .int p0, .int p1] (zzY g q u) (zzY g q x.2) sz x.1 := by
  refine zz_mi (cc := cX5_send) (mL := 4) (own := RX5) (fun x : Int32 × zzS => x.1) (fun x : Int32 × zzS => (zzY g q x.2)) x (by decide) rfl rfl (Nat.le_of_ble_eq_true rfl) ?_
  intro p e s m below meth c A Q ls C ret hP hD hS hl
  have hl : lv_has ls 4 [(0, .ref (q 0)), (1, .int p0), (2, .int p1)] := hl
  have hx := C.1.1
  have hb := C.1.2.1
  have hml := C.1.2.2.1
  have hown := C.1.2.2.2.1
  have hts := C.1.2.2.2.2
  have hK := C.2.1
  have iX5 : ∀ w ∈ wsX50, w ∈ wsX5_send := fun _ h => List.mem_cons_of_mem _ (List.mem_append_right _ h)
  unfold fX5_send at hf
  refine lv_iload_n hx hb dX5_send_0 rfl (lv_at hl 1 rfl) ?_
  obtain ⟨r1, hc1, hf⟩ := zz_bs hf
  refine zz_cSz C hP hD hS (kX5_isSun l g (zzY g q u) _ p0 r1 hc1) gX5_send_X5_isSun mX5_isSun (by decide) ⟨Nat.zero_le _, Nat.zero_le _⟩ rfl (rest := []) rfl hl.1 (Nat.le_of_ble_eq_true rfl) dX5_send_1 (fun hz1 H locs hP hD hS => ?_)
  refine lv_if_eq (tgt := 17) hx hb dX5_send_4 (by decide) (fun c2 => ?_) (fun c2 => ?_)
  · have hf := zz_t c2 hf
    refine lv_bipush (v := (-2 : Int32)) hx hb dX5_send_17 (by decide) ?_
    exact ret _ _ _ _ ((-2 : Int32), u) hf dX5_send_19 hP hD hS
  · have hf := zz_f c2 hf
    refine lv_iload_n hx hb dX5_send_7 rfl (lv_at hl 2 rfl) ?_
    refine lv_iconst (v := (0 : Int32)) hx hb dX5_send_8 (by decide) ?_
    refine lv_bipush (v := (99 : Int32)) hx hb dX5_send_9 (by decide) ?_
    obtain ⟨r3, hc3, hf⟩ := zz_bs hf
    refine zz_cSz C hP hD hS (kX5_within l g (zzY g q u) _ p1 (0 : Int32) (99 : Int32) r3 hc3) gX5_send_X5_within mX5_within (by decide) ⟨Nat.zero_le _, Nat.zero_le _⟩ rfl (rest := []) rfl hl.1 (Nat.le_of_ble_eq_true rfl) dX5_send_11 (fun hz3 H locs hP hD hS => ?_)
    refine lv_if_ne (tgt := 20) hx hb dX5_send_14 (by decide) (fun c4 => ?_) (fun c4 => ?_)
    · have hf := zz_f c4 hf
      refine lv_aload_n hx hb dX5_send_20 rfl (lv_at hl 0 rfl) ?_
      refine va_get (D := g.1) (ci := 5) (v := .int (u.1 5)) (C := RX5) (T := TX5) (N := 29) hx hb hts iX5 hown hK hP 0 rfl rfl 5 (by decide) (zz_mem hts 1 rfl) (fun _ h9 => h9) rfl dX5_send_21 ?_
      refine lv_if_ne (tgt := 30) hx hb dX5_send_24 (by decide) (fun c5 => ?_) (fun c5 => ?_)
      · have hf := zz_f c5 hf
        refine lv_bipush (v := (-9 : Int32)) hx hb dX5_send_30 (by decide) ?_
        refine lv_istore_n (lv' := [(3, .int (-9 : Int32)), (0, .ref (q 0)), (1, .int p0), (2, .int p1)]) hx hb dX5_send_32 rfl hl (by decide) rfl (fun ls hl => ?_)
        refine lv_aload_n hx hb dX5_send_33 rfl (lv_at hl 1 rfl) ?_
        refine lv_iconst (v := (0 : Int32)) hx hb dX5_send_34 (by decide) ?_
        refine va_put (D := g.1) (ci := 5) (v := .int (0 : Int32)) (ty := .int) (C := RX5) (T := TX5) (N := 29) hx hb hts iX5 tyX5 tyX5_ok nmX5 hown hK hP hD hS 0 rfl rfl 11 (by decide) (zz_mem hts 2 rfl) (fun _ h9 => h9) rfl (tyX5_ok 11 (by decide)) rfl rfl (Nat.le_of_ble_eq_true rfl) dX5_send_35 (fun H locs hP hD hS => ?_)
        have hP : va_P g.1 vwCl (zzY g q (zzi u 11 (0 : Int32))) H := Eq.mp (congrArg (fun w => va_P g.1 vwCl w H) (zyo_0_11 g q u (0 : Int32))) hP
        have hD : va_D A (zzY g q (zzi u 11 (0 : Int32))) := Eq.mp (congrArg (va_D A) (zyo_0_11 g q u (0 : Int32))) hD
        exact wX5_send_38 l g q p0 p1 x C ret  _ _ hf _ _ _ hP hD hS (lv_sub hl [1, 2, 3, 0] rfl)
      · have hf := zz_t c5 hf
        refine lv_bipush (v := (-3 : Int32)) hx hb dX5_send_27 (by decide) ?_
        exact ret _ _ _ _ ((-3 : Int32), u) hf dX5_send_29 hP hD hS
    · have hf := zz_t c4 hf
      refine lv_bipush (v := (-2 : Int32)) hx hb dX5_send_17 (by decide) ?_
      exact ret _ _ _ _ ((-2 : Int32), u) hf dX5_send_19 hP hD hS
abbrev rX5_reading : Room := ({ frames := 2, cells := 0, slots := 0, locals := 42 })
theorem mX5_reading : zzM yX5_reading wsX5_reading cX5_reading 3 (some .int) RX5 2 := ⟨⟨_, rfl⟩, by decide +kernel⟩
def fX5_reading (u : zzS) (p0 : Int32) (p1 : Int32) : Option (Int32 × zzS) := ((fX5_isSun p0).bind (fun r1 => (if r1 = 0 then (some ((-2 : Int32), u)) else ((fX5_within p1 (0 : Int32) (99 : Int32)).bind (fun r3 => (if r3 = 0 then (some ((-2 : Int32), u)) else (if (u.1 5) = 0 then (some ((-3 : Int32), u)) else (if (u.1 26) = (8 : Int32) then (some ((-4 : Int32), u)) else (zzpa 8 (u.1 26) (zzpa 8 ((zza u 27 (u.1 26).toNatClampNeg p0).1 26) (some ((((zzi (zza (zza u 27 (u.1 26).toNatClampNeg p0) 28 ((zza u 27 (u.1 26).toNatClampNeg p0).1 26).toNatClampNeg p1) 26 (((zza (zza u 27 (u.1 26).toNatClampNeg p0) 28 ((zza u 27 (u.1 26).toNatClampNeg p0).1 26).toNatClampNeg p1).1 26) + (1 : Int32))).1 26) - (1 : Int32)), (zzi (zza (zza u 27 (u.1 26).toNatClampNeg p0) 28 ((zza u 27 (u.1 26).toNatClampNeg p0).1 26).toNatClampNeg p1) 26 (((zza (zza u 27 (u.1 26).toNatClampNeg p0) 28 ((zza u 27 (u.1 26).toNatClampNeg p0).1 26).toNatClampNeg p1).1 26) + (1 : Int32)))))))))))))))
set_option maxHeartbeats 4000000 in
set_option maxRecDepth 100000 in
theorem kX5_reading (l : Launch) (g : zzG) (q : Nat → Nat) (sz : Nat) (u : zzS) (p0 : Int32) (p1 : Int32) (x : Int32 × zzS) (hf : fX5_reading u p0 p1 = some x) : zzI l g yX5_reading wsX5_reading rX5_reading [.ref (q 0), .int p0, .int p1] (zzY g q u) (zzY g q x.2) sz x.1 := by
  refine zz_mi (cc := cX5_reading) (mL := 3) (own := RX5) (fun x : Int32 × zzS => x.1) (fun x : Int32 × zzS => (zzY g q x.2)) x (by decide) rfl rfl (Nat.le_of_ble_eq_true rfl) ?_
  intro p e s m below meth c A Q ls C ret hP hD hS hl
  have hl : lv_has ls 3 [(0, .ref (q 0)), (1, .int p0), (2, .int p1)] := hl
  have hx := C.1.1
  have hb := C.1.2.1
  have hml := C.1.2.2.1
  have hown := C.1.2.2.2.1
  have hts := C.1.2.2.2.2
  have hK := C.2.1
  have iX5 : ∀ w ∈ wsX50, w ∈ wsX5_reading := fun _ h => List.mem_cons_of_mem _ (List.mem_append_right _ h)
  unfold fX5_reading at hf
  refine lv_iload_n hx hb dX5_reading_0 rfl (lv_at hl 1 rfl) ?_
  obtain ⟨r1, hc1, hf⟩ := zz_bs hf
  refine zz_cSz C hP hD hS (kX5_isSun l g (zzY g q u) _ p0 r1 hc1) gX5_reading_X5_isSun mX5_isSun (by decide) ⟨Nat.zero_le _, Nat.zero_le _⟩ rfl (rest := []) rfl hl.1 (Nat.le_of_ble_eq_true rfl) dX5_reading_1 (fun hz1 H locs hP hD hS => ?_)
  refine lv_if_eq (tgt := 17) hx hb dX5_reading_4 (by decide) (fun c2 => ?_) (fun c2 => ?_)
  · have hf := zz_t c2 hf
    refine lv_bipush (v := (-2 : Int32)) hx hb dX5_reading_17 (by decide) ?_
    exact ret _ _ _ _ ((-2 : Int32), u) hf dX5_reading_19 hP hD hS
  · have hf := zz_f c2 hf
    refine lv_iload_n hx hb dX5_reading_7 rfl (lv_at hl 2 rfl) ?_
    refine lv_iconst (v := (0 : Int32)) hx hb dX5_reading_8 (by decide) ?_
    refine lv_bipush (v := (99 : Int32)) hx hb dX5_reading_9 (by decide) ?_
    obtain ⟨r3, hc3, hf⟩ := zz_bs hf
    refine zz_cSz C hP hD hS (kX5_within l g (zzY g q u) _ p1 (0 : Int32) (99 : Int32) r3 hc3) gX5_reading_X5_within mX5_within (by decide) ⟨Nat.zero_le _, Nat.zero_le _⟩ rfl (rest := []) rfl hl.1 (Nat.le_of_ble_eq_true rfl) dX5_reading_11 (fun hz3 H locs hP hD hS => ?_)
    refine lv_if_ne (tgt := 20) hx hb dX5_reading_14 (by decide) (fun c4 => ?_) (fun c4 => ?_)
    · have hf := zz_f c4 hf
      refine lv_aload_n hx hb dX5_reading_20 rfl (lv_at hl 0 rfl) ?_
      refine va_get (D := g.1) (ci := 5) (v := .int (u.1 5)) (C := RX5) (T := TX5) (N := 29) hx hb hts iX5 hown hK hP 0 rfl rfl 5 (by decide) (zz_mem hts 1 rfl) (fun _ h9 => h9) rfl dX5_reading_21 ?_
      refine lv_if_ne (tgt := 30) hx hb dX5_reading_24 (by decide) (fun c5 => ?_) (fun c5 => ?_)
      · have hf := zz_f c5 hf
        refine lv_aload_n hx hb dX5_reading_30 rfl (lv_at hl 0 rfl) ?_
        refine va_get (D := g.1) (ci := 5) (v := .int (u.1 26)) (C := RX5) (T := TX5) (N := 29) hx hb hts iX5 hown hK hP 0 rfl rfl 26 (by decide) (zz_mem hts 2 rfl) (fun _ h9 => h9) rfl dX5_reading_31 ?_
        refine lv_bipush (v := (8 : Int32)) hx hb dX5_reading_34 (by decide) ?_
        refine lv_icmp_ne (tgt := 42) hx hb dX5_reading_36 (by decide) (fun c6 => ?_) (fun c6 => ?_)
        · have hf := zz_f c6 hf
          refine lv_aload_n hx hb dX5_reading_42 rfl (lv_at hl 0 rfl) ?_
          refine va_get (D := g.1) (ci := 5) (v := .ref (q 27)) (C := RX5) (T := TX5) (N := 29) hx hb hts iX5 hown hK hP 0 rfl rfl 27 (by decide) (zz_mem hts 3 rfl) (fun _ h9 => h9) rfl dX5_reading_43 ?_
          refine lv_aload_n hx hb dX5_reading_46 rfl (lv_at hl 0 rfl) ?_
          refine va_get (D := g.1) (ci := 5) (v := .int (u.1 26)) (C := RX5) (T := TX5) (N := 29) hx hb hts iX5 hown hK hP 0 rfl rfl 26 (by decide) (zz_mem hts 2 rfl) (fun _ h9 => h9) rfl dX5_reading_47 ?_
          refine lv_iload_n hx hb dX5_reading_50 rfl (lv_at hl 1 rfl) ?_
          obtain ⟨h7, hf⟩ := zz_pa hf
          refine va_iast hx hb hK hP hD hS 12 0 rfl rfl h7 dX5_reading_51 (fun H locs hP hD hS => ?_)
          have hP : va_P g.1 vwCl (zzY g q (zza u 27 (u.1 26).toNatClampNeg p0)) H := Eq.mp (congrArg (fun w => va_P g.1 vwCl w H) (zya_12 g q u (upd (u.2 27) (u.1 26).toNatClampNeg p0))) hP
          have hD : va_D A (zzY g q (zza u 27 (u.1 26).toNatClampNeg p0)) := Eq.mp (congrArg (va_D A) (zya_12 g q u (upd (u.2 27) (u.1 26).toNatClampNeg p0))) hD
          refine lv_aload_n hx hb dX5_reading_52 rfl (lv_at hl 0 rfl) ?_
          refine va_get (D := g.1) (ci := 5) (v := .ref (q 28)) (C := RX5) (T := TX5) (N := 29) hx hb hts iX5 hown hK hP 0 rfl rfl 28 (by decide) (zz_mem hts 4 rfl) (fun _ h9 => h9) rfl dX5_reading_53 ?_
          refine lv_aload_n hx hb dX5_reading_56 rfl (lv_at hl 0 rfl) ?_
          refine va_get (D := g.1) (ci := 5) (v := .int ((zza u 27 (u.1 26).toNatClampNeg p0).1 26)) (C := RX5) (T := TX5) (N := 29) hx hb hts iX5 hown hK hP 0 rfl rfl 26 (by decide) (zz_mem hts 2 rfl) (fun _ h9 => h9) rfl dX5_reading_57 ?_
          refine lv_iload_n hx hb dX5_reading_60 rfl (lv_at hl 2 rfl) ?_
          obtain ⟨h8, hf⟩ := zz_pa hf
          refine va_iast hx hb hK hP hD hS 13 0 rfl rfl h8 dX5_reading_61 (fun H locs hP hD hS => ?_)
          have hP : va_P g.1 vwCl (zzY g q (zza (zza u 27 (u.1 26).toNatClampNeg p0) 28 ((zza u 27 (u.1 26).toNatClampNeg p0).1 26).toNatClampNeg p1)) H := Eq.mp (congrArg (fun w => va_P g.1 vwCl w H) (zya_13 g q (zza u 27 (u.1 26).toNatClampNeg p0) (upd ((zza u 27 (u.1 26).toNatClampNeg p0).2 28) ((zza u 27 (u.1 26).toNatClampNeg p0).1 26).toNatClampNeg p1))) hP
          have hD : va_D A (zzY g q (zza (zza u 27 (u.1 26).toNatClampNeg p0) 28 ((zza u 27 (u.1 26).toNatClampNeg p0).1 26).toNatClampNeg p1)) := Eq.mp (congrArg (va_D A) (zya_13 g q (zza u 27 (u.1 26).toNatClampNeg p0) (upd ((zza u 27 (u.1 26).toNatClampNeg p0).2 28) ((zza u 27 (u.1 26).toNatClampNeg p0).1 26).toNatClampNeg p1))) hD
          refine lv_aload_n hx hb dX5_reading_62 rfl (lv_at hl 0 rfl) ?_
          refine lv_dup hx hb dX5_reading_63 rfl ?_
          refine va_get (D := g.1) (ci := 5) (v := .int ((zza (zza u 27 (u.1 26).toNatClampNeg p0) 28 ((zza u 27 (u.1 26).toNatClampNeg p0).1 26).toNatClampNeg p1).1 26)) (C := RX5) (T := TX5) (N := 29) hx hb hts iX5 hown hK hP 0 rfl rfl 26 (by decide) (zz_mem hts 2 rfl) (fun _ h9 => h9) rfl dX5_reading_64 ?_
          refine lv_iconst (v := (1 : Int32)) hx hb dX5_reading_67 (by decide) ?_
          refine lv_iadd hx hb dX5_reading_68 ?_
          refine va_put (D := g.1) (ci := 5) (v := .int (((zza (zza u 27 (u.1 26).toNatClampNeg p0) 28 ((zza u 27 (u.1 26).toNatClampNeg p0).1 26).toNatClampNeg p1).1 26) + (1 : Int32))) (ty := .int) (C := RX5) (T := TX5) (N := 29) hx hb hts iX5 tyX5 tyX5_ok nmX5 hown hK hP hD hS 0 rfl rfl 26 (by decide) (zz_mem hts 2 rfl) (fun _ h9 => h9) rfl (tyX5_ok 26 (by decide)) rfl rfl (Nat.le_of_ble_eq_true rfl) dX5_reading_69 (fun H locs hP hD hS => ?_)
          have hP : va_P g.1 vwCl (zzY g q (zzi (zza (zza u 27 (u.1 26).toNatClampNeg p0) 28 ((zza u 27 (u.1 26).toNatClampNeg p0).1 26).toNatClampNeg p1) 26 (((zza (zza u 27 (u.1 26).toNatClampNeg p0) 28 ((zza u 27 (u.1 26).toNatClampNeg p0).1 26).toNatClampNeg p1).1 26) + (1 : Int32)))) H := Eq.mp (congrArg (fun w => va_P g.1 vwCl w H) (zyo_0_26 g q (zza (zza u 27 (u.1 26).toNatClampNeg p0) 28 ((zza u 27 (u.1 26).toNatClampNeg p0).1 26).toNatClampNeg p1) (((zza (zza u 27 (u.1 26).toNatClampNeg p0) 28 ((zza u 27 (u.1 26).toNatClampNeg p0).1 26).toNatClampNeg p1).1 26) + (1 : Int32)))) hP
          have hD : va_D A (zzY g q (zzi (zza (zza u 27 (u.1 26).toNatClampNeg p0) 28 ((zza u 27 (u.1 26).toNatClampNeg p0).1 26).toNatClampNeg p1) 26 (((zza (zza u 27 (u.1 26).toNatClampNeg p0) 28 ((zza u 27 (u.1 26).toNatClampNeg p0).1 26).toNatClampNeg p1).1 26) + (1 : Int32)))) := Eq.mp (congrArg (va_D A) (zyo_0_26 g q (zza (zza u 27 (u.1 26).toNatClampNeg p0) 28 ((zza u 27 (u.1 26).toNatClampNeg p0).1 26).toNatClampNeg p1) (((zza (zza u 27 (u.1 26).toNatClampNeg p0) 28 ((zza u 27 (u.1 26).toNatClampNeg p0).1 26).toNatClampNeg p1).1 26) + (1 : Int32)))) hD
          refine lv_aload_n hx hb dX5_reading_72 rfl (lv_at hl 0 rfl) ?_
          refine va_get (D := g.1) (ci := 5) (v := .int ((zzi (zza (zza u 27 (u.1 26).toNatClampNeg p0) 28 ((zza u 27 (u.1 26).toNatClampNeg p0).1 26).toNatClampNeg p1) 26 (((zza (zza u 27 (u.1 26).toNatClampNeg p0) 28 ((zza u 27 (u.1 26).toNatClampNeg p0).1 26).toNatClampNeg p1).1 26) + (1 : Int32))).1 26)) (C := RX5) (T := TX5) (N := 29) hx hb hts iX5 hown hK hP 0 rfl rfl 26 (by decide) (zz_mem hts 2 rfl) (fun _ h9 => h9) rfl dX5_reading_73 ?_
          refine lv_iconst (v := (1 : Int32)) hx hb dX5_reading_76 (by decide) ?_
          refine lv_isub hx hb dX5_reading_77 ?_
          exact ret _ _ _ _ ((((zzi (zza (zza u 27 (u.1 26).toNatClampNeg p0) 28 ((zza u 27 (u.1 26).toNatClampNeg p0).1 26).toNatClampNeg p1) 26 (((zza (zza u 27 (u.1 26).toNatClampNeg p0) 28 ((zza u 27 (u.1 26).toNatClampNeg p0).1 26).toNatClampNeg p1).1 26) + (1 : Int32))).1 26) - (1 : Int32)), (zzi (zza (zza u 27 (u.1 26).toNatClampNeg p0) 28 ((zza u 27 (u.1 26).toNatClampNeg p0).1 26).toNatClampNeg p1) 26 (((zza (zza u 27 (u.1 26).toNatClampNeg p0) 28 ((zza u 27 (u.1 26).toNatClampNeg p0).1 26).toNatClampNeg p1).1 26) + (1 : Int32)))) hf dX5_reading_78 hP hD hS
        · have hf := zz_t c6 hf
          refine lv_bipush (v := (-4 : Int32)) hx hb dX5_reading_39 (by decide) ?_
          exact ret _ _ _ _ ((-4 : Int32), u) hf dX5_reading_41 hP hD hS
      · have hf := zz_t c5 hf
        refine lv_bipush (v := (-3 : Int32)) hx hb dX5_reading_27 (by decide) ?_
        exact ret _ _ _ _ ((-3 : Int32), u) hf dX5_reading_29 hP hD hS
    · have hf := zz_t c4 hf
      refine lv_bipush (v := (-2 : Int32)) hx hb dX5_reading_17 (by decide) ?_
      exact ret _ _ _ _ ((-2 : Int32), u) hf dX5_reading_19 hP hD hS
abbrev rX5_back : Room := ({ frames := 1, cells := 0, slots := 0, locals := 22 })
theorem mX5_back : zzM yX5_back wsX5_back cX5_back 2 (some .int) RX5 1 := ⟨⟨_, rfl⟩, by decide +kernel⟩
def fX5_back (u : zzS) (p0 : Int32) : Option (Int32 × zzS) := ((fX5_within p0 (0 : Int32) (u.1 26)).bind (fun r1 => (if r1 = 0 then (some ((-2 : Int32), u)) else (some (((zzi u 26 ((u.1 26) - p0)).1 26), (zzi u 26 ((u.1 26) - p0)))))))
set_option maxHeartbeats 4000000 in
set_option maxRecDepth 100000 in
theorem kX5_back (l : Launch) (g : zzG) (q : Nat → Nat) (sz : Nat) (u : zzS) (p0 : Int32) (x : Int32 × zzS) (hf : fX5_back u p0 = some x) : zzI l g yX5_back wsX5_back rX5_back [.ref (q 0), .int p0] (zzY g q u) (zzY g q x.2) sz x.1 := by
  refine zz_mi (cc := cX5_back) (mL := 2) (own := RX5) (fun x : Int32 × zzS => x.1) (fun x : Int32 × zzS => (zzY g q x.2)) x (by decide) rfl rfl (Nat.le_of_ble_eq_true rfl) ?_
  intro p e s m below meth c A Q ls C ret hP hD hS hl
  have hl : lv_has ls 2 [(0, .ref (q 0)), (1, .int p0)] := hl
  have hx := C.1.1
  have hb := C.1.2.1
  have hml := C.1.2.2.1
  have hown := C.1.2.2.2.1
  have hts := C.1.2.2.2.2
  have hK := C.2.1
  have iX5 : ∀ w ∈ wsX50, w ∈ wsX5_back := fun _ h => List.mem_cons_of_mem _ (List.mem_append_right _ h)
  unfold fX5_back at hf
  refine lv_iload_n hx hb dX5_back_0 rfl (lv_at hl 1 rfl) ?_
  refine lv_iconst (v := (0 : Int32)) hx hb dX5_back_1 (by decide) ?_
  refine lv_aload_n hx hb dX5_back_2 rfl (lv_at hl 0 rfl) ?_
  refine va_get (D := g.1) (ci := 5) (v := .int (u.1 26)) (C := RX5) (T := TX5) (N := 29) hx hb hts iX5 hown hK hP 0 rfl rfl 26 (by decide) (zz_mem hts 1 rfl) (fun _ h9 => h9) rfl dX5_back_3 ?_
  obtain ⟨r1, hc1, hf⟩ := zz_bs hf
  refine zz_cSz C hP hD hS (kX5_within l g (zzY g q u) _ p0 (0 : Int32) (u.1 26) r1 hc1) gX5_back_X5_within mX5_within (by decide) ⟨Nat.zero_le _, Nat.zero_le _⟩ rfl (rest := []) rfl hl.1 (Nat.le_of_ble_eq_true rfl) dX5_back_6 (fun hz1 H locs hP hD hS => ?_)
  refine lv_if_ne (tgt := 15) hx hb dX5_back_9 (by decide) (fun c2 => ?_) (fun c2 => ?_)
  · have hf := zz_f c2 hf
    refine lv_aload_n hx hb dX5_back_15 rfl (lv_at hl 0 rfl) ?_
    refine lv_dup hx hb dX5_back_16 rfl ?_
    refine va_get (D := g.1) (ci := 5) (v := .int (u.1 26)) (C := RX5) (T := TX5) (N := 29) hx hb hts iX5 hown hK hP 0 rfl rfl 26 (by decide) (zz_mem hts 1 rfl) (fun _ h9 => h9) rfl dX5_back_17 ?_
    refine lv_iload_n hx hb dX5_back_20 rfl (lv_at hl 1 rfl) ?_
    refine lv_isub hx hb dX5_back_21 ?_
    refine va_put (D := g.1) (ci := 5) (v := .int ((u.1 26) - p0)) (ty := .int) (C := RX5) (T := TX5) (N := 29) hx hb hts iX5 tyX5 tyX5_ok nmX5 hown hK hP hD hS 0 rfl rfl 26 (by decide) (zz_mem hts 1 rfl) (fun _ h9 => h9) rfl (tyX5_ok 26 (by decide)) rfl rfl (Nat.le_of_ble_eq_true rfl) dX5_back_22 (fun H locs hP hD hS => ?_)
    have hP : va_P g.1 vwCl (zzY g q (zzi u 26 ((u.1 26) - p0))) H := Eq.mp (congrArg (fun w => va_P g.1 vwCl w H) (zyo_0_26 g q u ((u.1 26) - p0))) hP
    have hD : va_D A (zzY g q (zzi u 26 ((u.1 26) - p0))) := Eq.mp (congrArg (va_D A) (zyo_0_26 g q u ((u.1 26) - p0))) hD
    refine lv_aload_n hx hb dX5_back_25 rfl (lv_at hl 0 rfl) ?_
    refine va_get (D := g.1) (ci := 5) (v := .int ((zzi u 26 ((u.1 26) - p0)).1 26)) (C := RX5) (T := TX5) (N := 29) hx hb hts iX5 hown hK hP 0 rfl rfl 26 (by decide) (zz_mem hts 1 rfl) (fun _ h9 => h9) rfl dX5_back_26 ?_
    exact ret _ _ _ _ (((zzi u 26 ((u.1 26) - p0)).1 26), (zzi u 26 ((u.1 26) - p0))) hf dX5_back_29 hP hD hS
  · have hf := zz_t c2 hf
    refine lv_bipush (v := (-2 : Int32)) hx hb dX5_back_12 (by decide) ?_
    exact ret _ _ _ _ ((-2 : Int32), u) hf dX5_back_14 hP hD hS
abbrev rX5_areSo : Room := ({ frames := 4, cells := 0, slots := 0, locals := 91 })
theorem mX5_areSo : zzM yX5_areSo wsX5_areSo cX5_areSo 2 (some .boolean) RX5 0 := ⟨⟨_, rfl⟩, by decide +kernel⟩
def sX5_areSo_2  : (Int32 × zzS) → ((Int32 × zzS) → Option (Int32 × zzS)) → Option (Int32 × zzS) := fun v1 rec2 => (if (v1.2.1 26) ≤ v1.1 then (some ((1 : Int32), v1.2)) else (zzga (v1.2.2 27) 8 v1.1 (fun x6 => ((fX5_censusOf v1.2 x6).bind (fun r7 => (zzga (r7.2.2 28) 8 v1.1 (fun x9 => (if r7.1 = x9 then (rec2 ((v1.1 + (1 : Int32)), r7.2)) else (some ((0 : Int32), r7.2))))))))))
set_option maxHeartbeats 4000000 in
set_option maxRecDepth 100000 in
theorem wX5_areSo_2 (l : Launch) (g : zzG) (q : Nat → Nat)  (x : Int32 × zzS) {p : Program} {e : Env} {s : State} {m : MethodId} {below : List Frame} {meth : Method} {c : Code} {A : Nat → Prop} {Q : State → Prop} (C : zzC g p s m ([.ref (q 0)] : List Value).toArray c cX5_areSo 2 RX5 wsX5_areSo A) (ret : zzRZ l g rX5_areSo cX5_areSo [.ref (q 0)] (fun x : Int32 × zzS => x.1) (fun x : Int32 × zzS => (zzY g q x.2)) x p e s m below meth c A Q)  (n : Nat) (v1 : Int32 × zzS) (hf : zzlp (sX5_areSo_2 ) n v1 = some x) : ∀ (H : Heap) (locs : List Loc) (ls : Array Slot), va_P g.1 vwCl (zzY g q v1.2) H → va_D A (zzY g q v1.2) → va_S A s.heap H locs → lv_has ls 2 [(0, .ref (q 0)), (1, .int (v1.1))] → W p l e rX5_areSo s m ([.ref (q 0)] : List Value).toArray below meth c H locs 0 0 Q (F0 m 2 ls []) := by
  have hx := C.1.1
  have hb := C.1.2.1
  have hml := C.1.2.2.1
  have hown := C.1.2.2.2.1
  have hts := C.1.2.2.2.2
  have hK := C.2.1
  have iX5 : ∀ w ∈ wsX50, w ∈ wsX5_areSo := fun _ h => List.mem_cons_of_mem _ (List.mem_append_right _ h)
  refine zz_lp (P := fun (v1 : Int32 × zzS) => ∀ (H : Heap) (locs : List Loc) (ls : Array Slot), va_P g.1 vwCl (zzY g q v1.2) H → va_D A (zzY g q v1.2) → va_S A s.heap H locs → lv_has ls 2 [(0, .ref (q 0)), (1, .int (v1.1))] → W p l e rX5_areSo s m ([.ref (q 0)] : List Value).toArray below meth c H locs 0 0 Q (F0 m 2 ls [])) (fun v1 rec2 ih3 hf H locs ls hP hD hS hl => ?_) n v1 hf
  unfold sX5_areSo_2 at hf
  refine lv_iload_n hx hb dX5_areSo_2 rfl (lv_at hl 1 rfl) ?_
  refine lv_aload_n hx hb dX5_areSo_3 rfl (lv_at hl 0 rfl) ?_
  refine va_get (D := g.1) (ci := 5) (v := .int (v1.2.1 26)) (C := RX5) (T := TX5) (N := 29) hx hb hts iX5 hown hK hP 0 rfl rfl 26 (by decide) (zz_mem hts 1 rfl) (fun _ h9 => h9) rfl dX5_areSo_4 ?_
  refine lv_icmp_ge (tgt := 37) hx hb dX5_areSo_7 (by decide) (fun c4 => ?_) (fun c4 => ?_)
  · have hf := zz_t c4 hf
    refine lv_iconst (v := (1 : Int32)) hx hb dX5_areSo_37 (by decide) ?_
    exact ret _ _ _ _ ((1 : Int32), v1.2) hf dX5_areSo_38 zz_n1 hP hD hS
  · have hf := zz_f c4 hf
    refine lv_aload_n hx hb dX5_areSo_10 rfl (lv_at hl 0 rfl) ?_
    refine lv_aload_n hx hb dX5_areSo_11 rfl (lv_at hl 0 rfl) ?_
    refine va_get (D := g.1) (ci := 5) (v := .ref (q 27)) (C := RX5) (T := TX5) (N := 29) hx hb hts iX5 hown hK hP 0 rfl rfl 27 (by decide) (zz_mem hts 2 rfl) (fun _ h9 => h9) rfl dX5_areSo_12 ?_
    refine lv_iload_n hx hb dX5_areSo_15 rfl (lv_at hl 1 rfl) ?_
    obtain ⟨x6, h5, ex6, hf⟩ := zz_gx hf
    refine zz_iald hx hb hK hP 12 0 rfl rfl h5 ex6 dX5_areSo_16 ?_
    obtain ⟨r7, hc7, hf⟩ := zz_bs hf
    refine zz_cVi C hP hD hS (kX5_censusOf l g q _ v1.2 x6 r7 hc7) gX5_areSo_X5_censusOf mX5_censusOf (by decide) ⟨Nat.zero_le _, Nat.zero_le _⟩ 0 rfl rfl rfl rfl (rest := []) rfl hl.1 (Nat.le_of_ble_eq_true rfl) dX5_areSo_17 (fun H locs hP hD hS => ?_)
    refine lv_aload_n hx hb dX5_areSo_20 rfl (lv_at hl 0 rfl) ?_
    refine va_get (D := g.1) (ci := 5) (v := .ref (q 28)) (C := RX5) (T := TX5) (N := 29) hx hb hts iX5 hown hK hP 0 rfl rfl 28 (by decide) (zz_mem hts 3 rfl) (fun _ h9 => h9) rfl dX5_areSo_21 ?_
    refine lv_iload_n hx hb dX5_areSo_24 rfl (lv_at hl 1 rfl) ?_
    obtain ⟨x9, h8, ex9, hf⟩ := zz_gx hf
    refine zz_iald hx hb hK hP 13 0 rfl rfl h8 ex9 dX5_areSo_25 ?_
    refine lv_icmp_eq (tgt := 31) hx hb dX5_areSo_26 (by decide) (fun c10 => ?_) (fun c10 => ?_)
    · have hf := zz_t c10 hf
      refine lv_iinc (v := (v1.1 + (1 : Int32))) (lv' := [(1, .int (v1.1 + (1 : Int32))), (0, .ref (q 0))]) hx hb dX5_areSo_31 hl (k := 1) rfl rfl (by decide) rfl (fun ls hl => ?_)
      refine lv_goto (tgt := 2) hx hb dX5_areSo_34 (by decide) ?_
      exact ih3 _ hf _ _ _ hP hD hS (lv_sub hl [1, 0] rfl)
    · have hf := zz_f c10 hf
      refine lv_iconst (v := (0 : Int32)) hx hb dX5_areSo_29 (by decide) ?_
      exact ret _ _ _ _ ((0 : Int32), r7.2) hf dX5_areSo_30 zz_n0 hP hD hS
def fX5_areSo (u : zzS) : Option (Int32 × zzS) := (zzlp (sX5_areSo_2 ) zzFU ((0 : Int32), u))
set_option maxHeartbeats 4000000 in
set_option maxRecDepth 100000 in
theorem kX5_areSo (l : Launch) (g : zzG) (q : Nat → Nat) (sz : Nat) (u : zzS)  (x : Int32 × zzS) (hf : fX5_areSo u = some x) : zzZ l g yX5_areSo wsX5_areSo rX5_areSo [.ref (q 0)] (zzY g q u) (zzY g q x.2) sz x.1 := by
  refine zz_mz (cc := cX5_areSo) (mL := 2) (own := RX5) (fun x : Int32 × zzS => x.1) (fun x : Int32 × zzS => (zzY g q x.2)) x (by decide) rfl rfl (Nat.le_of_ble_eq_true rfl) ?_
  intro p e s m below meth c A Q ls C ret hP hD hS hl
  have hl : lv_has ls 2 [(0, .ref (q 0))] := hl
  have hx := C.1.1
  have hb := C.1.2.1
  have hml := C.1.2.2.1
  have hown := C.1.2.2.2.1
  have hts := C.1.2.2.2.2
  have hK := C.2.1
  have iX5 : ∀ w ∈ wsX50, w ∈ wsX5_areSo := fun _ h => List.mem_cons_of_mem _ (List.mem_append_right _ h)
  unfold fX5_areSo at hf
  refine lv_iconst (v := (0 : Int32)) hx hb dX5_areSo_0 (by decide) ?_
  refine lv_istore_n (lv' := [(1, .int (0 : Int32)), (0, .ref (q 0))]) hx hb dX5_areSo_1 rfl hl (by decide) rfl (fun ls hl => ?_)
  exact wX5_areSo_2 l g q  x C ret  _ _ hf _ _ _ hP hD hS (lv_sub hl [1, 0] rfl)
abbrev rX5_heights : Room := ({ frames := 5, cells := 0, slots := 0, locals := 112 })
theorem mX5_heights : zzM yX5_heights wsX5_heights cX5_heights 5 (some .int) RX5 1 := ⟨⟨_, rfl⟩, by decide +kernel⟩
def sX5_heights_22 (p0 : Int32) (x4 : Int32) : (Int32 × Int32 × zzS) → ((Int32 × Int32 × zzS) → Option (Int32 × zzS)) → Option (Int32 × zzS) := fun v5 rec6 => (if (9 : Int32) < v5.2.1 then (zzpa 5 p0 (some (v5.1, (zza v5.2.2 10 p0.toNatClampNeg x4)))) else (zzpa 5 p0 ((fX5_areSo (zza v5.2.2 10 p0.toNatClampNeg v5.2.1)).bind (fun r11 => (if r11.1 = 0 then (rec6 ((v5.1 ||| (0 : Int32)), (v5.2.1 + (1 : Int32)), r11.2)) else (rec6 ((v5.1 ||| ((1 : Int32) <<< (v5.2.1 &&& 31))), (v5.2.1 + (1 : Int32)), r11.2)))))))
set_option maxHeartbeats 4000000 in
set_option maxRecDepth 100000 in
theorem wX5_heights_22 (l : Launch) (g : zzG) (q : Nat → Nat) (p0 : Int32) (x4 : Int32) (x : Int32 × zzS) {p : Program} {e : Env} {s : State} {m : MethodId} {below : List Frame} {meth : Method} {c : Code} {A : Nat → Prop} {Q : State → Prop} (C : zzC g p s m ([.ref (q 0), .int p0] : List Value).toArray c cX5_heights 5 RX5 wsX5_heights A) (ret : zzRI l g rX5_heights cX5_heights [.ref (q 0), .int p0] (fun x : Int32 × zzS => x.1) (fun x : Int32 × zzS => (zzY g q x.2)) x p e s m below meth c A Q)  (n : Nat) (v5 : Int32 × Int32 × zzS) (hf : zzlp (sX5_heights_22 p0 x4) n v5 = some x) : ∀ (H : Heap) (locs : List Loc) (ls : Array Slot), va_P g.1 vwCl (zzY g q v5.2.2) H → va_D A (zzY g q v5.2.2) → va_S A s.heap H locs → lv_has ls 5 [(0, .ref (q 0)), (1, .int p0), (2, .int x4), (3, .int (v5.1)), (4, .int (v5.2.1))] → W p l e rX5_heights s m ([.ref (q 0), .int p0] : List Value).toArray below meth c H locs 0 0 Q (F0 m 22 ls []) := by
  have hx := C.1.1
  have hb := C.1.2.1
  have hml := C.1.2.2.1
  have hown := C.1.2.2.2.1
  have hts := C.1.2.2.2.2
  have hK := C.2.1
  have iX5 : ∀ w ∈ wsX50, w ∈ wsX5_heights := fun _ h => List.mem_cons_of_mem _ (List.mem_append_right _ h)
  refine zz_lp (P := fun (v5 : Int32 × Int32 × zzS) => ∀ (H : Heap) (locs : List Loc) (ls : Array Slot), va_P g.1 vwCl (zzY g q v5.2.2) H → va_D A (zzY g q v5.2.2) → va_S A s.heap H locs → lv_has ls 5 [(0, .ref (q 0)), (1, .int p0), (2, .int x4), (3, .int (v5.1)), (4, .int (v5.2.1))] → W p l e rX5_heights s m ([.ref (q 0), .int p0] : List Value).toArray below meth c H locs 0 0 Q (F0 m 22 ls [])) (fun v5 rec6 ih7 hf H locs ls hP hD hS hl => ?_) n v5 hf
  unfold sX5_heights_22 at hf
  refine lv_iload hx hb dX5_heights_22 (lv_at hl 4 rfl) ?_
  refine lv_bipush (v := (9 : Int32)) hx hb dX5_heights_24 (by decide) ?_
  refine lv_icmp_gt (tgt := 61) hx hb dX5_heights_26 (by decide) (fun c8 => ?_) (fun c8 => ?_)
  · have hf := zz_t c8 hf
    refine lv_aload_n hx hb dX5_heights_61 rfl (lv_at hl 0 rfl) ?_
    refine va_get (D := g.1) (ci := 5) (v := .ref (q 10)) (C := RX5) (T := TX5) (N := 29) hx hb hts iX5 hown hK hP 0 rfl rfl 10 (by decide) (zz_mem hts 1 rfl) (fun _ h9 => h9) rfl dX5_heights_62 ?_
    refine lv_iload_n hx hb dX5_heights_65 rfl (lv_at hl 1 rfl) ?_
    refine lv_iload_n hx hb dX5_heights_66 rfl (lv_at hl 2 rfl) ?_
    obtain ⟨h9, hf⟩ := zz_pa hf
    refine va_iast hx hb hK hP hD hS 6 0 rfl rfl h9 dX5_heights_67 (fun H locs hP hD hS => ?_)
    have hP : va_P g.1 vwCl (zzY g q (zza v5.2.2 10 p0.toNatClampNeg x4)) H := Eq.mp (congrArg (fun w => va_P g.1 vwCl w H) (zya_6 g q v5.2.2 (upd (v5.2.2.2 10) p0.toNatClampNeg x4))) hP
    have hD : va_D A (zzY g q (zza v5.2.2 10 p0.toNatClampNeg x4)) := Eq.mp (congrArg (va_D A) (zya_6 g q v5.2.2 (upd (v5.2.2.2 10) p0.toNatClampNeg x4))) hD
    refine lv_iload_n hx hb dX5_heights_68 rfl (lv_at hl 3 rfl) ?_
    exact ret _ _ _ _ (v5.1, (zza v5.2.2 10 p0.toNatClampNeg x4)) hf dX5_heights_69 hP hD hS
  · have hf := zz_f c8 hf
    refine lv_aload_n hx hb dX5_heights_29 rfl (lv_at hl 0 rfl) ?_
    refine va_get (D := g.1) (ci := 5) (v := .ref (q 10)) (C := RX5) (T := TX5) (N := 29) hx hb hts iX5 hown hK hP 0 rfl rfl 10 (by decide) (zz_mem hts 1 rfl) (fun _ h9 => h9) rfl dX5_heights_30 ?_
    refine lv_iload_n hx hb dX5_heights_33 rfl (lv_at hl 1 rfl) ?_
    refine lv_iload hx hb dX5_heights_34 (lv_at hl 4 rfl) ?_
    obtain ⟨h10, hf⟩ := zz_pa hf
    refine va_iast hx hb hK hP hD hS 6 0 rfl rfl h10 dX5_heights_36 (fun H locs hP hD hS => ?_)
    have hP : va_P g.1 vwCl (zzY g q (zza v5.2.2 10 p0.toNatClampNeg v5.2.1)) H := Eq.mp (congrArg (fun w => va_P g.1 vwCl w H) (zya_6 g q v5.2.2 (upd (v5.2.2.2 10) p0.toNatClampNeg v5.2.1))) hP
    have hD : va_D A (zzY g q (zza v5.2.2 10 p0.toNatClampNeg v5.2.1)) := Eq.mp (congrArg (va_D A) (zya_6 g q v5.2.2 (upd (v5.2.2.2 10) p0.toNatClampNeg v5.2.1))) hD
    refine lv_iload_n hx hb dX5_heights_37 rfl (lv_at hl 3 rfl) ?_
    refine lv_aload_n hx hb dX5_heights_38 rfl (lv_at hl 0 rfl) ?_
    obtain ⟨r11, hc11, hf⟩ := zz_bs hf
    refine zz_cVz C hP hD hS (kX5_areSo l g q _ (zza v5.2.2 10 p0.toNatClampNeg v5.2.1) r11 hc11) gX5_heights_X5_areSo mX5_areSo (by decide) ⟨Nat.zero_le _, Nat.zero_le _⟩ 0 rfl rfl rfl rfl (rest := [.int (v5.1)]) rfl hl.1 (Nat.le_of_ble_eq_true rfl) dX5_heights_39 (fun hz11 H locs hP hD hS => ?_)
    refine lv_if_eq (tgt := 52) hx hb dX5_heights_42 (by decide) (fun c12 => ?_) (fun c12 => ?_)
    · have hf := zz_t c12 hf
      refine lv_iconst (v := (0 : Int32)) hx hb dX5_heights_52 (by decide) ?_
      refine lv_ior hx hb dX5_heights_53 ?_
      refine lv_istore_n (lv' := [(3, .int (v5.1 ||| (0 : Int32))), (0, .ref (q 0)), (1, .int p0), (2, .int x4), (4, .int (v5.2.1))]) hx hb dX5_heights_54 rfl hl (by decide) rfl (fun ls hl => ?_)
      refine lv_iinc (v := (v5.2.1 + (1 : Int32))) (lv' := [(4, .int (v5.2.1 + (1 : Int32))), (3, .int (v5.1 ||| (0 : Int32))), (0, .ref (q 0)), (1, .int p0), (2, .int x4)]) hx hb dX5_heights_55 hl (k := 4) rfl rfl (by decide) rfl (fun ls hl => ?_)
      refine lv_goto (tgt := 22) hx hb dX5_heights_58 (by decide) ?_
      exact ih7 _ hf _ _ _ hP hD hS (lv_sub hl [2, 3, 4, 1, 0] rfl)
    · have hf := zz_f c12 hf
      refine lv_iconst (v := (1 : Int32)) hx hb dX5_heights_45 (by decide) ?_
      refine lv_iload hx hb dX5_heights_46 (lv_at hl 4 rfl) ?_
      refine lv_ishl hx hb dX5_heights_48 ?_
      refine lv_goto (tgt := 53) hx hb dX5_heights_49 (by decide) ?_
      refine lv_ior hx hb dX5_heights_53 ?_
      refine lv_istore_n (lv' := [(3, .int (v5.1 ||| ((1 : Int32) <<< (v5.2.1 &&& 31)))), (0, .ref (q 0)), (1, .int p0), (2, .int x4), (4, .int (v5.2.1))]) hx hb dX5_heights_54 rfl hl (by decide) rfl (fun ls hl => ?_)
      refine lv_iinc (v := (v5.2.1 + (1 : Int32))) (lv' := [(4, .int (v5.2.1 + (1 : Int32))), (3, .int (v5.1 ||| ((1 : Int32) <<< (v5.2.1 &&& 31)))), (0, .ref (q 0)), (1, .int p0), (2, .int x4)]) hx hb dX5_heights_55 hl (k := 4) rfl rfl (by decide) rfl (fun ls hl => ?_)
      refine lv_goto (tgt := 22) hx hb dX5_heights_58 (by decide) ?_
      exact ih7 _ hf _ _ _ hP hD hS (lv_sub hl [2, 3, 4, 1, 0] rfl)
def fX5_heights (u : zzS) (p0 : Int32) : Option (Int32 × zzS) := ((fX5_isStander u p0).bind (fun r1 => (if r1 = 0 then (some ((-1 : Int32), u)) else (zzga (u.2 10) 5 p0 (fun x4 => (zzlp (sX5_heights_22 p0 x4) zzFU ((0 : Int32), (0 : Int32), u)))))))
set_option maxHeartbeats 4000000 in
set_option maxRecDepth 100000 in
theorem kX5_heights (l : Launch) (g : zzG) (q : Nat → Nat) (sz : Nat) (u : zzS) (p0 : Int32) (x : Int32 × zzS) (hf : fX5_heights u p0 = some x) : zzI l g yX5_heights wsX5_heights rX5_heights [.ref (q 0), .int p0] (zzY g q u) (zzY g q x.2) sz x.1 := by
  refine zz_mi (cc := cX5_heights) (mL := 5) (own := RX5) (fun x : Int32 × zzS => x.1) (fun x : Int32 × zzS => (zzY g q x.2)) x (by decide) rfl rfl (Nat.le_of_ble_eq_true rfl) ?_
  intro p e s m below meth c A Q ls C ret hP hD hS hl
  have hl : lv_has ls 5 [(0, .ref (q 0)), (1, .int p0)] := hl
  have hx := C.1.1
  have hb := C.1.2.1
  have hml := C.1.2.2.1
  have hown := C.1.2.2.2.1
  have hts := C.1.2.2.2.2
  have hK := C.2.1
  have iX5 : ∀ w ∈ wsX50, w ∈ wsX5_heights := fun _ h => List.mem_cons_of_mem _ (List.mem_append_right _ h)
  unfold fX5_heights at hf
  refine lv_aload_n hx hb dX5_heights_0 rfl (lv_at hl 0 rfl) ?_
  refine lv_iload_n hx hb dX5_heights_1 rfl (lv_at hl 1 rfl) ?_
  obtain ⟨r1, hc1, hf⟩ := zz_bs hf
  refine zz_cVz C hP hD hS (kX5_isStander l g q _ u p0 r1 hc1) gX5_heights_X5_isStander mX5_isStander (by decide) ⟨Nat.zero_le _, Nat.zero_le _⟩ 0 rfl rfl rfl rfl (rest := []) rfl hl.1 (Nat.le_of_ble_eq_true rfl) dX5_heights_2 (fun hz1 H locs hP hD hS => ?_)
  refine lv_if_ne (tgt := 10) hx hb dX5_heights_5 (by decide) (fun c2 => ?_) (fun c2 => ?_)
  · have hf := zz_f c2 hf
    refine lv_aload_n hx hb dX5_heights_10 rfl (lv_at hl 0 rfl) ?_
    refine va_get (D := g.1) (ci := 5) (v := .ref (q 10)) (C := RX5) (T := TX5) (N := 29) hx hb hts iX5 hown hK hP 0 rfl rfl 10 (by decide) (zz_mem hts 1 rfl) (fun _ h9 => h9) rfl dX5_heights_11 ?_
    refine lv_iload_n hx hb dX5_heights_14 rfl (lv_at hl 1 rfl) ?_
    obtain ⟨x4, h3, ex4, hf⟩ := zz_gx hf
    refine zz_iald hx hb hK hP 6 0 rfl rfl h3 ex4 dX5_heights_15 ?_
    refine lv_istore_n (lv' := [(2, .int x4), (0, .ref (q 0)), (1, .int p0)]) hx hb dX5_heights_16 rfl hl (by decide) rfl (fun ls hl => ?_)
    refine lv_iconst (v := (0 : Int32)) hx hb dX5_heights_17 (by decide) ?_
    refine lv_istore_n (lv' := [(3, .int (0 : Int32)), (2, .int x4), (0, .ref (q 0)), (1, .int p0)]) hx hb dX5_heights_18 rfl hl (by decide) rfl (fun ls hl => ?_)
    refine lv_iconst (v := (0 : Int32)) hx hb dX5_heights_19 (by decide) ?_
    refine lv_istore (lv' := [(4, .int (0 : Int32)), (3, .int (0 : Int32)), (2, .int x4), (0, .ref (q 0)), (1, .int p0)]) hx hb dX5_heights_20 hl (by decide) rfl (fun ls hl => ?_)
    exact wX5_heights_22 l g q p0 x4 x C ret  _ _ hf _ _ _ hP hD hS (lv_sub hl [3, 4, 2, 1, 0] rfl)
  · have hf := zz_t c2 hf
    refine lv_iconst (v := (-1 : Int32)) hx hb dX5_heights_8 (by decide) ?_
    exact ret _ _ _ _ ((-1 : Int32), u) hf dX5_heights_9 hP hD hS
abbrev rX5_kinds : Room := ({ frames := 5, cells := 0, slots := 0, locals := 112 })
theorem mX5_kinds : zzM yX5_kinds wsX5_kinds cX5_kinds 5 (some .int) RX5 1 := ⟨⟨_, rfl⟩, by decide +kernel⟩
def sX5_kinds_22 (p0 : Int32) (x4 : Int32) : (Int32 × Int32 × zzS) → ((Int32 × Int32 × zzS) → Option (Int32 × zzS)) → Option (Int32 × zzS) := fun v5 rec6 => (if (3 : Int32) ≤ v5.2.1 then (zzpa 5 p0 (some (v5.1, (zza v5.2.2 8 p0.toNatClampNeg x4)))) else (zzpa 5 p0 ((fX5_areSo (zza v5.2.2 8 p0.toNatClampNeg v5.2.1)).bind (fun r11 => (if r11.1 = 0 then (rec6 ((v5.1 ||| (0 : Int32)), (v5.2.1 + (1 : Int32)), r11.2)) else (rec6 ((v5.1 ||| ((1 : Int32) <<< (v5.2.1 &&& 31))), (v5.2.1 + (1 : Int32)), r11.2)))))))
set_option maxHeartbeats 4000000 in
set_option maxRecDepth 100000 in
theorem wX5_kinds_22 (l : Launch) (g : zzG) (q : Nat → Nat) (p0 : Int32) (x4 : Int32) (x : Int32 × zzS) {p : Program} {e : Env} {s : State} {m : MethodId} {below : List Frame} {meth : Method} {c : Code} {A : Nat → Prop} {Q : State → Prop} (C : zzC g p s m ([.ref (q 0), .int p0] : List Value).toArray c cX5_kinds 5 RX5 wsX5_kinds A) (ret : zzRI l g rX5_kinds cX5_kinds [.ref (q 0), .int p0] (fun x : Int32 × zzS => x.1) (fun x : Int32 × zzS => (zzY g q x.2)) x p e s m below meth c A Q)  (n : Nat) (v5 : Int32 × Int32 × zzS) (hf : zzlp (sX5_kinds_22 p0 x4) n v5 = some x) : ∀ (H : Heap) (locs : List Loc) (ls : Array Slot), va_P g.1 vwCl (zzY g q v5.2.2) H → va_D A (zzY g q v5.2.2) → va_S A s.heap H locs → lv_has ls 5 [(0, .ref (q 0)), (1, .int p0), (2, .int x4), (3, .int (v5.1)), (4, .int (v5.2.1))] → W p l e rX5_kinds s m ([.ref (q 0), .int p0] : List Value).toArray below meth c H locs 0 0 Q (F0 m 22 ls []) := by
  have hx := C.1.1
  have hb := C.1.2.1
  have hml := C.1.2.2.1
  have hown := C.1.2.2.2.1
  have hts := C.1.2.2.2.2
  have hK := C.2.1
  have iX5 : ∀ w ∈ wsX50, w ∈ wsX5_kinds := fun _ h => List.mem_cons_of_mem _ (List.mem_append_right _ h)
  refine zz_lp (P := fun (v5 : Int32 × Int32 × zzS) => ∀ (H : Heap) (locs : List Loc) (ls : Array Slot), va_P g.1 vwCl (zzY g q v5.2.2) H → va_D A (zzY g q v5.2.2) → va_S A s.heap H locs → lv_has ls 5 [(0, .ref (q 0)), (1, .int p0), (2, .int x4), (3, .int (v5.1)), (4, .int (v5.2.1))] → W p l e rX5_kinds s m ([.ref (q 0), .int p0] : List Value).toArray below meth c H locs 0 0 Q (F0 m 22 ls [])) (fun v5 rec6 ih7 hf H locs ls hP hD hS hl => ?_) n v5 hf
  unfold sX5_kinds_22 at hf
  refine lv_iload hx hb dX5_kinds_22 (lv_at hl 4 rfl) ?_
  refine lv_iconst (v := (3 : Int32)) hx hb dX5_kinds_24 (by decide) ?_
  refine lv_icmp_ge (tgt := 60) hx hb dX5_kinds_25 (by decide) (fun c8 => ?_) (fun c8 => ?_)
  · have hf := zz_t c8 hf
    refine lv_aload_n hx hb dX5_kinds_60 rfl (lv_at hl 0 rfl) ?_
    refine va_get (D := g.1) (ci := 5) (v := .ref (q 8)) (C := RX5) (T := TX5) (N := 29) hx hb hts iX5 hown hK hP 0 rfl rfl 8 (by decide) (zz_mem hts 1 rfl) (fun _ h9 => h9) rfl dX5_kinds_61 ?_
    refine lv_iload_n hx hb dX5_kinds_64 rfl (lv_at hl 1 rfl) ?_
    refine lv_iload_n hx hb dX5_kinds_65 rfl (lv_at hl 2 rfl) ?_
    obtain ⟨h9, hf⟩ := zz_pa hf
    refine va_iast hx hb hK hP hD hS 4 0 rfl rfl h9 dX5_kinds_66 (fun H locs hP hD hS => ?_)
    have hP : va_P g.1 vwCl (zzY g q (zza v5.2.2 8 p0.toNatClampNeg x4)) H := Eq.mp (congrArg (fun w => va_P g.1 vwCl w H) (zya_4 g q v5.2.2 (upd (v5.2.2.2 8) p0.toNatClampNeg x4))) hP
    have hD : va_D A (zzY g q (zza v5.2.2 8 p0.toNatClampNeg x4)) := Eq.mp (congrArg (va_D A) (zya_4 g q v5.2.2 (upd (v5.2.2.2 8) p0.toNatClampNeg x4))) hD
    refine lv_iload_n hx hb dX5_kinds_67 rfl (lv_at hl 3 rfl) ?_
    exact ret _ _ _ _ (v5.1, (zza v5.2.2 8 p0.toNatClampNeg x4)) hf dX5_kinds_68 hP hD hS
  · have hf := zz_f c8 hf
    refine lv_aload_n hx hb dX5_kinds_28 rfl (lv_at hl 0 rfl) ?_
    refine va_get (D := g.1) (ci := 5) (v := .ref (q 8)) (C := RX5) (T := TX5) (N := 29) hx hb hts iX5 hown hK hP 0 rfl rfl 8 (by decide) (zz_mem hts 1 rfl) (fun _ h9 => h9) rfl dX5_kinds_29 ?_
    refine lv_iload_n hx hb dX5_kinds_32 rfl (lv_at hl 1 rfl) ?_
    refine lv_iload hx hb dX5_kinds_33 (lv_at hl 4 rfl) ?_
    obtain ⟨h10, hf⟩ := zz_pa hf
    refine va_iast hx hb hK hP hD hS 4 0 rfl rfl h10 dX5_kinds_35 (fun H locs hP hD hS => ?_)
    have hP : va_P g.1 vwCl (zzY g q (zza v5.2.2 8 p0.toNatClampNeg v5.2.1)) H := Eq.mp (congrArg (fun w => va_P g.1 vwCl w H) (zya_4 g q v5.2.2 (upd (v5.2.2.2 8) p0.toNatClampNeg v5.2.1))) hP
    have hD : va_D A (zzY g q (zza v5.2.2 8 p0.toNatClampNeg v5.2.1)) := Eq.mp (congrArg (va_D A) (zya_4 g q v5.2.2 (upd (v5.2.2.2 8) p0.toNatClampNeg v5.2.1))) hD
    refine lv_iload_n hx hb dX5_kinds_36 rfl (lv_at hl 3 rfl) ?_
    refine lv_aload_n hx hb dX5_kinds_37 rfl (lv_at hl 0 rfl) ?_
    obtain ⟨r11, hc11, hf⟩ := zz_bs hf
    refine zz_cVz C hP hD hS (kX5_areSo l g q _ (zza v5.2.2 8 p0.toNatClampNeg v5.2.1) r11 hc11) gX5_kinds_X5_areSo mX5_areSo (by decide) ⟨Nat.zero_le _, Nat.zero_le _⟩ 0 rfl rfl rfl rfl (rest := [.int (v5.1)]) rfl hl.1 (Nat.le_of_ble_eq_true rfl) dX5_kinds_38 (fun hz11 H locs hP hD hS => ?_)
    refine lv_if_eq (tgt := 51) hx hb dX5_kinds_41 (by decide) (fun c12 => ?_) (fun c12 => ?_)
    · have hf := zz_t c12 hf
      refine lv_iconst (v := (0 : Int32)) hx hb dX5_kinds_51 (by decide) ?_
      refine lv_ior hx hb dX5_kinds_52 ?_
      refine lv_istore_n (lv' := [(3, .int (v5.1 ||| (0 : Int32))), (0, .ref (q 0)), (1, .int p0), (2, .int x4), (4, .int (v5.2.1))]) hx hb dX5_kinds_53 rfl hl (by decide) rfl (fun ls hl => ?_)
      refine lv_iinc (v := (v5.2.1 + (1 : Int32))) (lv' := [(4, .int (v5.2.1 + (1 : Int32))), (3, .int (v5.1 ||| (0 : Int32))), (0, .ref (q 0)), (1, .int p0), (2, .int x4)]) hx hb dX5_kinds_54 hl (k := 4) rfl rfl (by decide) rfl (fun ls hl => ?_)
      refine lv_goto (tgt := 22) hx hb dX5_kinds_57 (by decide) ?_
      exact ih7 _ hf _ _ _ hP hD hS (lv_sub hl [2, 3, 4, 1, 0] rfl)
    · have hf := zz_f c12 hf
      refine lv_iconst (v := (1 : Int32)) hx hb dX5_kinds_44 (by decide) ?_
      refine lv_iload hx hb dX5_kinds_45 (lv_at hl 4 rfl) ?_
      refine lv_ishl hx hb dX5_kinds_47 ?_
      refine lv_goto (tgt := 52) hx hb dX5_kinds_48 (by decide) ?_
      refine lv_ior hx hb dX5_kinds_52 ?_
      refine lv_istore_n (lv' := [(3, .int (v5.1 ||| ((1 : Int32) <<< (v5.2.1 &&& 31)))), (0, .ref (q 0)), (1, .int p0), (2, .int x4), (4, .int (v5.2.1))]) hx hb dX5_kinds_53 rfl hl (by decide) rfl (fun ls hl => ?_)
      refine lv_iinc (v := (v5.2.1 + (1 : Int32))) (lv' := [(4, .int (v5.2.1 + (1 : Int32))), (3, .int (v5.1 ||| ((1 : Int32) <<< (v5.2.1 &&& 31)))), (0, .ref (q 0)), (1, .int p0), (2, .int x4)]) hx hb dX5_kinds_54 hl (k := 4) rfl rfl (by decide) rfl (fun ls hl => ?_)
      refine lv_goto (tgt := 22) hx hb dX5_kinds_57 (by decide) ?_
      exact ih7 _ hf _ _ _ hP hD hS (lv_sub hl [2, 3, 4, 1, 0] rfl)
def fX5_kinds (u : zzS) (p0 : Int32) : Option (Int32 × zzS) := ((fX5_isStander u p0).bind (fun r1 => (if r1 = 0 then (some ((-1 : Int32), u)) else (zzga (u.2 8) 5 p0 (fun x4 => (zzlp (sX5_kinds_22 p0 x4) zzFU ((0 : Int32), (0 : Int32), u)))))))
set_option maxHeartbeats 4000000 in
set_option maxRecDepth 100000 in
theorem kX5_kinds (l : Launch) (g : zzG) (q : Nat → Nat) (sz : Nat) (u : zzS) (p0 : Int32) (x : Int32 × zzS) (hf : fX5_kinds u p0 = some x) : zzI l g yX5_kinds wsX5_kinds rX5_kinds [.ref (q 0), .int p0] (zzY g q u) (zzY g q x.2) sz x.1 := by
  refine zz_mi (cc := cX5_kinds) (mL := 5) (own := RX5) (fun x : Int32 × zzS => x.1) (fun x : Int32 × zzS => (zzY g q x.2)) x (by decide) rfl rfl (Nat.le_of_ble_eq_true rfl) ?_
  intro p e s m below meth c A Q ls C ret hP hD hS hl
  have hl : lv_has ls 5 [(0, .ref (q 0)), (1, .int p0)] := hl
  have hx := C.1.1
  have hb := C.1.2.1
  have hml := C.1.2.2.1
  have hown := C.1.2.2.2.1
  have hts := C.1.2.2.2.2
  have hK := C.2.1
  have iX5 : ∀ w ∈ wsX50, w ∈ wsX5_kinds := fun _ h => List.mem_cons_of_mem _ (List.mem_append_right _ h)
  unfold fX5_kinds at hf
  refine lv_aload_n hx hb dX5_kinds_0 rfl (lv_at hl 0 rfl) ?_
  refine lv_iload_n hx hb dX5_kinds_1 rfl (lv_at hl 1 rfl) ?_
  obtain ⟨r1, hc1, hf⟩ := zz_bs hf
  refine zz_cVz C hP hD hS (kX5_isStander l g q _ u p0 r1 hc1) gX5_kinds_X5_isStander mX5_isStander (by decide) ⟨Nat.zero_le _, Nat.zero_le _⟩ 0 rfl rfl rfl rfl (rest := []) rfl hl.1 (Nat.le_of_ble_eq_true rfl) dX5_kinds_2 (fun hz1 H locs hP hD hS => ?_)
  refine lv_if_ne (tgt := 10) hx hb dX5_kinds_5 (by decide) (fun c2 => ?_) (fun c2 => ?_)
  · have hf := zz_f c2 hf
    refine lv_aload_n hx hb dX5_kinds_10 rfl (lv_at hl 0 rfl) ?_
    refine va_get (D := g.1) (ci := 5) (v := .ref (q 8)) (C := RX5) (T := TX5) (N := 29) hx hb hts iX5 hown hK hP 0 rfl rfl 8 (by decide) (zz_mem hts 1 rfl) (fun _ h9 => h9) rfl dX5_kinds_11 ?_
    refine lv_iload_n hx hb dX5_kinds_14 rfl (lv_at hl 1 rfl) ?_
    obtain ⟨x4, h3, ex4, hf⟩ := zz_gx hf
    refine zz_iald hx hb hK hP 4 0 rfl rfl h3 ex4 dX5_kinds_15 ?_
    refine lv_istore_n (lv' := [(2, .int x4), (0, .ref (q 0)), (1, .int p0)]) hx hb dX5_kinds_16 rfl hl (by decide) rfl (fun ls hl => ?_)
    refine lv_iconst (v := (0 : Int32)) hx hb dX5_kinds_17 (by decide) ?_
    refine lv_istore_n (lv' := [(3, .int (0 : Int32)), (2, .int x4), (0, .ref (q 0)), (1, .int p0)]) hx hb dX5_kinds_18 rfl hl (by decide) rfl (fun ls hl => ?_)
    refine lv_iconst (v := (0 : Int32)) hx hb dX5_kinds_19 (by decide) ?_
    refine lv_istore (lv' := [(4, .int (0 : Int32)), (3, .int (0 : Int32)), (2, .int x4), (0, .ref (q 0)), (1, .int p0)]) hx hb dX5_kinds_20 hl (by decide) rfl (fun ls hl => ?_)
    exact wX5_kinds_22 l g q p0 x4 x C ret  _ _ hf _ _ _ hP hD hS (lv_sub hl [3, 4, 2, 1, 0] rfl)
  · have hf := zz_t c2 hf
    refine lv_iconst (v := (-1 : Int32)) hx hb dX5_kinds_8 (by decide) ?_
    exact ret _ _ _ _ ((-1 : Int32), u) hf dX5_kinds_9 hP hD hS
abbrev rX5_spans : Room := ({ frames := 5, cells := 0, slots := 0, locals := 112 })
theorem mX5_spans : zzM yX5_spans wsX5_spans cX5_spans 4 (some .int) RX5 0 := ⟨⟨_, rfl⟩, by decide +kernel⟩
def sX5_spans_19 (u : zzS) : (Int32 × Int32 × zzS) → ((Int32 × Int32 × zzS) → Option (Int32 × zzS)) → Option (Int32 × zzS) := fun v2 rec3 => (if (9 : Int32) < v2.2.1 then (some (v2.1, (zzi v2.2.2 6 (u.1 6)))) else ((fX5_areSo (zzi v2.2.2 6 v2.2.1)).bind (fun r6 => (if r6.1 = 0 then (rec3 ((v2.1 ||| (0 : Int32)), (v2.2.1 + (1 : Int32)), r6.2)) else (rec3 ((v2.1 ||| ((1 : Int32) <<< (v2.2.1 &&& 31))), (v2.2.1 + (1 : Int32)), r6.2))))))
set_option maxHeartbeats 4000000 in
set_option maxRecDepth 100000 in
theorem wX5_spans_19 (l : Launch) (g : zzG) (q : Nat → Nat) (u : zzS) (x : Int32 × zzS) {p : Program} {e : Env} {s : State} {m : MethodId} {below : List Frame} {meth : Method} {c : Code} {A : Nat → Prop} {Q : State → Prop} (C : zzC g p s m ([.ref (q 0)] : List Value).toArray c cX5_spans 4 RX5 wsX5_spans A) (ret : zzRI l g rX5_spans cX5_spans [.ref (q 0)] (fun x : Int32 × zzS => x.1) (fun x : Int32 × zzS => (zzY g q x.2)) x p e s m below meth c A Q)  (n : Nat) (v2 : Int32 × Int32 × zzS) (hf : zzlp (sX5_spans_19 u) n v2 = some x) : ∀ (H : Heap) (locs : List Loc) (ls : Array Slot), va_P g.1 vwCl (zzY g q v2.2.2) H → va_D A (zzY g q v2.2.2) → va_S A s.heap H locs → lv_has ls 4 [(0, .ref (q 0)), (1, .int (u.1 6)), (2, .int (v2.1)), (3, .int (v2.2.1))] → W p l e rX5_spans s m ([.ref (q 0)] : List Value).toArray below meth c H locs 0 0 Q (F0 m 19 ls []) := by
  have hx := C.1.1
  have hb := C.1.2.1
  have hml := C.1.2.2.1
  have hown := C.1.2.2.2.1
  have hts := C.1.2.2.2.2
  have hK := C.2.1
  have iX5 : ∀ w ∈ wsX50, w ∈ wsX5_spans := fun _ h => List.mem_cons_of_mem _ (List.mem_append_right _ h)
  refine zz_lp (P := fun (v2 : Int32 × Int32 × zzS) => ∀ (H : Heap) (locs : List Loc) (ls : Array Slot), va_P g.1 vwCl (zzY g q v2.2.2) H → va_D A (zzY g q v2.2.2) → va_S A s.heap H locs → lv_has ls 4 [(0, .ref (q 0)), (1, .int (u.1 6)), (2, .int (v2.1)), (3, .int (v2.2.1))] → W p l e rX5_spans s m ([.ref (q 0)] : List Value).toArray below meth c H locs 0 0 Q (F0 m 19 ls [])) (fun v2 rec3 ih4 hf H locs ls hP hD hS hl => ?_) n v2 hf
  unfold sX5_spans_19 at hf
  refine lv_iload_n hx hb dX5_spans_19 rfl (lv_at hl 3 rfl) ?_
  refine lv_bipush (v := (9 : Int32)) hx hb dX5_spans_20 (by decide) ?_
  refine lv_icmp_gt (tgt := 53) hx hb dX5_spans_22 (by decide) (fun c5 => ?_) (fun c5 => ?_)
  · have hf := zz_t c5 hf
    refine lv_aload_n hx hb dX5_spans_53 rfl (lv_at hl 0 rfl) ?_
    refine lv_iload_n hx hb dX5_spans_54 rfl (lv_at hl 1 rfl) ?_
    refine va_put (D := g.1) (ci := 5) (v := .int (u.1 6)) (ty := .int) (C := RX5) (T := TX5) (N := 29) hx hb hts iX5 tyX5 tyX5_ok nmX5 hown hK hP hD hS 0 rfl rfl 6 (by decide) (zz_mem hts 2 rfl) (fun _ h9 => h9) rfl (tyX5_ok 6 (by decide)) rfl rfl (Nat.le_of_ble_eq_true rfl) dX5_spans_55 (fun H locs hP hD hS => ?_)
    have hP : va_P g.1 vwCl (zzY g q (zzi v2.2.2 6 (u.1 6))) H := Eq.mp (congrArg (fun w => va_P g.1 vwCl w H) (zyo_0_6 g q v2.2.2 (u.1 6))) hP
    have hD : va_D A (zzY g q (zzi v2.2.2 6 (u.1 6))) := Eq.mp (congrArg (va_D A) (zyo_0_6 g q v2.2.2 (u.1 6))) hD
    refine lv_iload_n hx hb dX5_spans_58 rfl (lv_at hl 2 rfl) ?_
    exact ret _ _ _ _ (v2.1, (zzi v2.2.2 6 (u.1 6))) hf dX5_spans_59 hP hD hS
  · have hf := zz_f c5 hf
    refine lv_aload_n hx hb dX5_spans_25 rfl (lv_at hl 0 rfl) ?_
    refine lv_iload_n hx hb dX5_spans_26 rfl (lv_at hl 3 rfl) ?_
    refine va_put (D := g.1) (ci := 5) (v := .int (v2.2.1)) (ty := .int) (C := RX5) (T := TX5) (N := 29) hx hb hts iX5 tyX5 tyX5_ok nmX5 hown hK hP hD hS 0 rfl rfl 6 (by decide) (zz_mem hts 2 rfl) (fun _ h9 => h9) rfl (tyX5_ok 6 (by decide)) rfl rfl (Nat.le_of_ble_eq_true rfl) dX5_spans_27 (fun H locs hP hD hS => ?_)
    have hP : va_P g.1 vwCl (zzY g q (zzi v2.2.2 6 v2.2.1)) H := Eq.mp (congrArg (fun w => va_P g.1 vwCl w H) (zyo_0_6 g q v2.2.2 v2.2.1)) hP
    have hD : va_D A (zzY g q (zzi v2.2.2 6 v2.2.1)) := Eq.mp (congrArg (va_D A) (zyo_0_6 g q v2.2.2 v2.2.1)) hD
    refine lv_iload_n hx hb dX5_spans_30 rfl (lv_at hl 2 rfl) ?_
    refine lv_aload_n hx hb dX5_spans_31 rfl (lv_at hl 0 rfl) ?_
    obtain ⟨r6, hc6, hf⟩ := zz_bs hf
    refine zz_cVz C hP hD hS (kX5_areSo l g q _ (zzi v2.2.2 6 v2.2.1) r6 hc6) gX5_spans_X5_areSo mX5_areSo (by decide) ⟨Nat.zero_le _, Nat.zero_le _⟩ 0 rfl rfl rfl rfl (rest := [.int (v2.1)]) rfl hl.1 (Nat.le_of_ble_eq_true rfl) dX5_spans_32 (fun hz6 H locs hP hD hS => ?_)
    refine lv_if_eq (tgt := 44) hx hb dX5_spans_35 (by decide) (fun c7 => ?_) (fun c7 => ?_)
    · have hf := zz_t c7 hf
      refine lv_iconst (v := (0 : Int32)) hx hb dX5_spans_44 (by decide) ?_
      refine lv_ior hx hb dX5_spans_45 ?_
      refine lv_istore_n (lv' := [(2, .int (v2.1 ||| (0 : Int32))), (0, .ref (q 0)), (1, .int (u.1 6)), (3, .int (v2.2.1))]) hx hb dX5_spans_46 rfl hl (by decide) rfl (fun ls hl => ?_)
      refine lv_iinc (v := (v2.2.1 + (1 : Int32))) (lv' := [(3, .int (v2.2.1 + (1 : Int32))), (2, .int (v2.1 ||| (0 : Int32))), (0, .ref (q 0)), (1, .int (u.1 6))]) hx hb dX5_spans_47 hl (k := 3) rfl rfl (by decide) rfl (fun ls hl => ?_)
      refine lv_goto (tgt := 19) hx hb dX5_spans_50 (by decide) ?_
      exact ih4 _ hf _ _ _ hP hD hS (lv_sub hl [2, 3, 1, 0] rfl)
    · have hf := zz_f c7 hf
      refine lv_iconst (v := (1 : Int32)) hx hb dX5_spans_38 (by decide) ?_
      refine lv_iload_n hx hb dX5_spans_39 rfl (lv_at hl 3 rfl) ?_
      refine lv_ishl hx hb dX5_spans_40 ?_
      refine lv_goto (tgt := 45) hx hb dX5_spans_41 (by decide) ?_
      refine lv_ior hx hb dX5_spans_45 ?_
      refine lv_istore_n (lv' := [(2, .int (v2.1 ||| ((1 : Int32) <<< (v2.2.1 &&& 31)))), (0, .ref (q 0)), (1, .int (u.1 6)), (3, .int (v2.2.1))]) hx hb dX5_spans_46 rfl hl (by decide) rfl (fun ls hl => ?_)
      refine lv_iinc (v := (v2.2.1 + (1 : Int32))) (lv' := [(3, .int (v2.2.1 + (1 : Int32))), (2, .int (v2.1 ||| ((1 : Int32) <<< (v2.2.1 &&& 31)))), (0, .ref (q 0)), (1, .int (u.1 6))]) hx hb dX5_spans_47 hl (k := 3) rfl rfl (by decide) rfl (fun ls hl => ?_)
      refine lv_goto (tgt := 19) hx hb dX5_spans_50 (by decide) ?_
      exact ih4 _ hf _ _ _ hP hD hS (lv_sub hl [2, 3, 1, 0] rfl)
def fX5_spans (u : zzS) : Option (Int32 × zzS) := (if (u.1 5) = 0 then (some ((-3 : Int32), u)) else (zzlp (sX5_spans_19 u) zzFU ((0 : Int32), (1 : Int32), u)))
set_option maxHeartbeats 4000000 in
set_option maxRecDepth 100000 in
theorem kX5_spans (l : Launch) (g : zzG) (q : Nat → Nat) (sz : Nat) (u : zzS)  (x : Int32 × zzS) (hf : fX5_spans u = some x) : zzI l g yX5_spans wsX5_spans rX5_spans [.ref (q 0)] (zzY g q u) (zzY g q x.2) sz x.1 := by
  refine zz_mi (cc := cX5_spans) (mL := 4) (own := RX5) (fun x : Int32 × zzS => x.1) (fun x : Int32 × zzS => (zzY g q x.2)) x (by decide) rfl rfl (Nat.le_of_ble_eq_true rfl) ?_
  intro p e s m below meth c A Q ls C ret hP hD hS hl
  have hl : lv_has ls 4 [(0, .ref (q 0))] := hl
  have hx := C.1.1
  have hb := C.1.2.1
  have hml := C.1.2.2.1
  have hown := C.1.2.2.2.1
  have hts := C.1.2.2.2.2
  have hK := C.2.1
  have iX5 : ∀ w ∈ wsX50, w ∈ wsX5_spans := fun _ h => List.mem_cons_of_mem _ (List.mem_append_right _ h)
  unfold fX5_spans at hf
  refine lv_aload_n hx hb dX5_spans_0 rfl (lv_at hl 0 rfl) ?_
  refine va_get (D := g.1) (ci := 5) (v := .int (u.1 5)) (C := RX5) (T := TX5) (N := 29) hx hb hts iX5 hown hK hP 0 rfl rfl 5 (by decide) (zz_mem hts 1 rfl) (fun _ h9 => h9) rfl dX5_spans_1 ?_
  refine lv_if_ne (tgt := 10) hx hb dX5_spans_4 (by decide) (fun c1 => ?_) (fun c1 => ?_)
  · have hf := zz_f c1 hf
    refine lv_aload_n hx hb dX5_spans_10 rfl (lv_at hl 0 rfl) ?_
    refine va_get (D := g.1) (ci := 5) (v := .int (u.1 6)) (C := RX5) (T := TX5) (N := 29) hx hb hts iX5 hown hK hP 0 rfl rfl 6 (by decide) (zz_mem hts 2 rfl) (fun _ h9 => h9) rfl dX5_spans_11 ?_
    refine lv_istore_n (lv' := [(1, .int (u.1 6)), (0, .ref (q 0))]) hx hb dX5_spans_14 rfl hl (by decide) rfl (fun ls hl => ?_)
    refine lv_iconst (v := (0 : Int32)) hx hb dX5_spans_15 (by decide) ?_
    refine lv_istore_n (lv' := [(2, .int (0 : Int32)), (1, .int (u.1 6)), (0, .ref (q 0))]) hx hb dX5_spans_16 rfl hl (by decide) rfl (fun ls hl => ?_)
    refine lv_iconst (v := (1 : Int32)) hx hb dX5_spans_17 (by decide) ?_
    refine lv_istore_n (lv' := [(3, .int (1 : Int32)), (2, .int (0 : Int32)), (1, .int (u.1 6)), (0, .ref (q 0))]) hx hb dX5_spans_18 rfl hl (by decide) rfl (fun ls hl => ?_)
    exact wX5_spans_19 l g q u x C ret  _ _ hf _ _ _ hP hD hS (lv_sub hl [3, 2, 1, 0] rfl)
  · have hf := zz_t c1 hf
    refine lv_bipush (v := (-3 : Int32)) hx hb dX5_spans_7 (by decide) ?_
    exact ret _ _ _ _ ((-3 : Int32), u) hf dX5_spans_9 hP hD hS
abbrev rX5_inLeastTerms : Room := ({ frames := 0, cells := 0, slots := 0, locals := 0 })
theorem mX5_inLeastTerms : zzM yX5_inLeastTerms wsX5_inLeastTerms cX5_inLeastTerms 11 (some .long) RX5 3 := ⟨⟨_, rfl⟩, by decide +kernel⟩
def sX5_inLeastTerms_6 (p0 : Int64) (p1 : Int64) (p2 : Int32) : (Int64 × Int64) → ((Int64 × Int64) → Option Int64) → Option Int64 := fun v1 rec2 => (if (lg_cmp v1.2 (0 : Int64)) = 0 then (if p2 = 0 then (zznl v1.1 (some (p0 / v1.1))) else (zznl v1.1 (some (p1 / v1.1)))) else (zznl v1.2 (rec2 (v1.2, (v1.1 - v1.1 / v1.2 * v1.2)))))
set_option maxHeartbeats 4000000 in
set_option maxRecDepth 100000 in
theorem wX5_inLeastTerms_6 (l : Launch) (g : zzG) (w : va_W) (p0 : Int64) (p1 : Int64) (p2 : Int32) (x : Int64) {p : Program} {e : Env} {s : State} {m : MethodId} {below : List Frame} {meth : Method} {c : Code} {A : Nat → Prop} {Q : State → Prop} (C : zzC g p s m ([.long p0, .long p1, .int p2] : List Value).toArray c cX5_inLeastTerms 11 RX5 wsX5_inLeastTerms A) (ret : zzRL l g rX5_inLeastTerms cX5_inLeastTerms [.long p0, .long p1, .int p2] (fun x : Int64 => x) (fun x : Int64 => w) x p e s m below meth c A Q)  (n : Nat) (v1 : Int64 × Int64) (hf : zzlp (sX5_inLeastTerms_6 p0 p1 p2) n v1 = some x) : ∀ (H : Heap) (locs : List Loc) (ls : Array Slot), va_P g.1 vwCl w H → va_D A w → va_S A s.heap H locs → lv_has ls 11 [(0, .long p0), (2, .long p1), (4, .int p2), (5, .long (v1.1)), (7, .long (v1.2))] → W p l e rX5_inLeastTerms s m ([.long p0, .long p1, .int p2] : List Value).toArray below meth c H locs 0 0 Q (F0 m 6 ls []) := by
  have hx := C.1.1
  have hb := C.1.2.1
  have hml := C.1.2.2.1
  have hown := C.1.2.2.2.1
  have hts := C.1.2.2.2.2
  have hK := C.2.1
  refine zz_lp (P := fun (v1 : Int64 × Int64) => ∀ (H : Heap) (locs : List Loc) (ls : Array Slot), va_P g.1 vwCl w H → va_D A w → va_S A s.heap H locs → lv_has ls 11 [(0, .long p0), (2, .long p1), (4, .int p2), (5, .long (v1.1)), (7, .long (v1.2))] → W p l e rX5_inLeastTerms s m ([.long p0, .long p1, .int p2] : List Value).toArray below meth c H locs 0 0 Q (F0 m 6 ls [])) (fun v1 rec2 ih3 hf H locs ls hP hD hS hl => ?_) n v1 hf
  unfold sX5_inLeastTerms_6 at hf
  refine lv_lload hx hb dX5_inLeastTerms_6 (lv_at hl 4 rfl) ?_
  refine lv_lconst (v := (0 : Int64)) hx hb dX5_inLeastTerms_8 rfl ?_
  refine W.lcmp hx hb dX5_inLeastTerms_9 ?_
  refine lv_if_eq (tgt := 31) hx hb dX5_inLeastTerms_10 (by decide) (fun c4 => ?_) (fun c4 => ?_)
  · have hf := zz_t c4 hf
    refine lv_iload hx hb dX5_inLeastTerms_31 (lv_at hl 2 rfl) ?_
    refine lv_if_ne (tgt := 43) hx hb dX5_inLeastTerms_33 (by decide) (fun c5 => ?_) (fun c5 => ?_)
    · have hf := zz_f c5 hf
      refine lv_lload_n hx hb dX5_inLeastTerms_43 rfl (lv_at hl 1 rfl) ?_
      refine lv_lload hx hb dX5_inLeastTerms_44 (lv_at hl 3 rfl) ?_
      obtain ⟨h6, hf⟩ := zz_nl hf
      refine lv_ldiv hx hb dX5_inLeastTerms_46 h6 ?_
      exact ret _ _ _ _ (p1 / v1.1) hf dX5_inLeastTerms_47 hP hD hS
    · have hf := zz_t c5 hf
      refine lv_lload_n hx hb dX5_inLeastTerms_36 rfl (lv_at hl 0 rfl) ?_
      refine lv_lload hx hb dX5_inLeastTerms_37 (lv_at hl 3 rfl) ?_
      obtain ⟨h7, hf⟩ := zz_nl hf
      refine lv_ldiv hx hb dX5_inLeastTerms_39 h7 ?_
      refine lv_goto (tgt := 47) hx hb dX5_inLeastTerms_40 (by decide) ?_
      exact ret _ _ _ _ (p0 / v1.1) hf dX5_inLeastTerms_47 hP hD hS
  · have hf := zz_f c4 hf
    refine lv_lload hx hb dX5_inLeastTerms_13 (lv_at hl 3 rfl) ?_
    refine lv_lload hx hb dX5_inLeastTerms_15 (lv_at hl 4 rfl) ?_
    obtain ⟨h8, hf⟩ := zz_nl hf
    refine lv_lrem hx hb dX5_inLeastTerms_17 h8 ?_
    refine lv_lstore (lv' := [(9, .long (v1.1 - v1.1 / v1.2 * v1.2)), (0, .long p0), (2, .long p1), (4, .int p2), (5, .long (v1.1)), (7, .long (v1.2))]) hx hb dX5_inLeastTerms_18 hl (by decide) rfl (fun ls hl => ?_)
    refine lv_lload hx hb dX5_inLeastTerms_20 (lv_at hl 5 rfl) ?_
    refine lv_lstore (lv' := [(5, .long (v1.2)), (9, .long (v1.1 - v1.1 / v1.2 * v1.2)), (0, .long p0), (2, .long p1), (4, .int p2), (7, .long (v1.2))]) hx hb dX5_inLeastTerms_22 hl (by decide) rfl (fun ls hl => ?_)
    refine lv_lload hx hb dX5_inLeastTerms_24 (lv_at hl 1 rfl) ?_
    refine lv_lstore (lv' := [(7, .long (v1.1 - v1.1 / v1.2 * v1.2)), (5, .long (v1.2)), (9, .long (v1.1 - v1.1 / v1.2 * v1.2)), (0, .long p0), (2, .long p1), (4, .int p2)]) hx hb dX5_inLeastTerms_26 hl (by decide) rfl (fun ls hl => ?_)
    refine lv_goto (tgt := 6) hx hb dX5_inLeastTerms_28 (by decide) ?_
    exact ih3 _ hf _ _ _ hP hD hS (lv_sub hl [3, 4, 5, 1, 0] rfl)
def fX5_inLeastTerms (p0 : Int64) (p1 : Int64) (p2 : Int32) : Option Int64 := (zzlp (sX5_inLeastTerms_6 p0 p1 p2) zzFU (p0, p1))
set_option maxHeartbeats 4000000 in
set_option maxRecDepth 100000 in
theorem kX5_inLeastTerms (l : Launch) (g : zzG) (w : va_W) (sz : Nat)  (p0 : Int64) (p1 : Int64) (p2 : Int32) (x : Int64) (hf : fX5_inLeastTerms p0 p1 p2 = some x) : zzL l g yX5_inLeastTerms wsX5_inLeastTerms rX5_inLeastTerms [.long p0, .long p1, .int p2] w w sz x := by
  refine zz_ml (cc := cX5_inLeastTerms) (mL := 11) (own := RX5) (fun x : Int64 => x) (fun x : Int64 => w) x (by decide) rfl rfl (Nat.le_of_ble_eq_true rfl) ?_
  intro p e s m below meth c A Q ls C ret hP hD hS hl
  have hl : lv_has ls 11 [(0, .long p0), (2, .long p1), (4, .int p2)] := hl
  have hx := C.1.1
  have hb := C.1.2.1
  have hml := C.1.2.2.1
  have hown := C.1.2.2.2.1
  have hts := C.1.2.2.2.2
  have hK := C.2.1
  unfold fX5_inLeastTerms at hf
  refine lv_lload_n hx hb dX5_inLeastTerms_0 rfl (lv_at hl 0 rfl) ?_
  refine lv_lstore (lv' := [(5, .long p0), (0, .long p0), (2, .long p1), (4, .int p2)]) hx hb dX5_inLeastTerms_1 hl (by decide) rfl (fun ls hl => ?_)
  refine lv_lload_n hx hb dX5_inLeastTerms_3 rfl (lv_at hl 2 rfl) ?_
  refine lv_lstore (lv' := [(7, .long p1), (5, .long p0), (0, .long p0), (2, .long p1), (4, .int p2)]) hx hb dX5_inLeastTerms_4 hl (by decide) rfl (fun ls hl => ?_)
  exact wX5_inLeastTerms_6 l g w p0 p1 p2 x C ret  _ _ hf _ _ _ hP hD hS (lv_sub hl [2, 3, 4, 1, 0] rfl)
abbrev rX5_odds : Room := ({ frames := 4, cells := 0, slots := 0, locals := 91 })
theorem mX5_odds : zzM yX5_odds wsX5_odds cX5_odds 6 (some .long) RX5 3 := ⟨⟨_, rfl⟩, by decide +kernel⟩
def sX5_odds_53 (p0 : Int32) (p1 : Int32) (p2 : Int32) (u : zzS) : (Int32 × zzS) → ((Int32 × zzS) → Option (Int64 × zzS)) → Option (Int64 × zzS) := fun v8 rec9 => (if ((1 : Int32) <<< ((u.1 5) &&& 31)) ≤ (v8.2.1 11) then ((fX5_inLeastTerms (v8.1.toInt64) (((1 : Int32) <<< ((u.1 5) &&& 31)).toInt64) p2).bind (fun r12 => (some (r12, (zzi v8.2 11 (0 : Int32)))))) else ((fX5_censusOf v8.2 p0).bind (fun r13 => (if r13.1 = p1 then (rec9 ((v8.1 + (1 : Int32)), (zzi r13.2 11 ((r13.2.1 11) + (1 : Int32))))) else (rec9 ((v8.1 + (0 : Int32)), (zzi r13.2 11 ((r13.2.1 11) + (1 : Int32)))))))))
set_option maxHeartbeats 4000000 in
set_option maxRecDepth 100000 in
theorem wX5_odds_53 (l : Launch) (g : zzG) (q : Nat → Nat) (p0 : Int32) (p1 : Int32) (p2 : Int32) (u : zzS) (x : Int64 × zzS) {p : Program} {e : Env} {s : State} {m : MethodId} {below : List Frame} {meth : Method} {c : Code} {A : Nat → Prop} {Q : State → Prop} (C : zzC g p s m ([.ref (q 0), .int p0, .int p1, .int p2] : List Value).toArray c cX5_odds 6 RX5 wsX5_odds A) (ret : zzRL l g rX5_odds cX5_odds [.ref (q 0), .int p0, .int p1, .int p2] (fun x : Int64 × zzS => x.1) (fun x : Int64 × zzS => (zzY g q x.2)) x p e s m below meth c A Q)  (n : Nat) (v8 : Int32 × zzS) (hf : zzlp (sX5_odds_53 p0 p1 p2 u) n v8 = some x) : ∀ (H : Heap) (locs : List Loc) (ls : Array Slot), va_P g.1 vwCl (zzY g q v8.2) H → va_D A (zzY g q v8.2) → va_S A s.heap H locs → lv_has ls 6 [(0, .ref (q 0)), (1, .int p0), (2, .int p1), (3, .int p2), (4, .int (v8.1)), (5, .int ((1 : Int32) <<< ((u.1 5) &&& 31)))] → W p l e rX5_odds s m ([.ref (q 0), .int p0, .int p1, .int p2] : List Value).toArray below meth c H locs 0 0 Q (F0 m 53 ls []) := by
  have hx := C.1.1
  have hb := C.1.2.1
  have hml := C.1.2.2.1
  have hown := C.1.2.2.2.1
  have hts := C.1.2.2.2.2
  have hK := C.2.1
  have iX5 : ∀ w ∈ wsX50, w ∈ wsX5_odds := fun _ h => List.mem_cons_of_mem _ (List.mem_append_right _ h)
  refine zz_lp (P := fun (v8 : Int32 × zzS) => ∀ (H : Heap) (locs : List Loc) (ls : Array Slot), va_P g.1 vwCl (zzY g q v8.2) H → va_D A (zzY g q v8.2) → va_S A s.heap H locs → lv_has ls 6 [(0, .ref (q 0)), (1, .int p0), (2, .int p1), (3, .int p2), (4, .int (v8.1)), (5, .int ((1 : Int32) <<< ((u.1 5) &&& 31)))] → W p l e rX5_odds s m ([.ref (q 0), .int p0, .int p1, .int p2] : List Value).toArray below meth c H locs 0 0 Q (F0 m 53 ls [])) (fun v8 rec9 ih10 hf H locs ls hP hD hS hl => ?_) n v8 hf
  unfold sX5_odds_53 at hf
  refine lv_aload_n hx hb dX5_odds_53 rfl (lv_at hl 0 rfl) ?_
  refine va_get (D := g.1) (ci := 5) (v := .int (v8.2.1 11)) (C := RX5) (T := TX5) (N := 29) hx hb hts iX5 hown hK hP 0 rfl rfl 11 (by decide) (zz_mem hts 3 rfl) (fun _ h9 => h9) rfl dX5_odds_54 ?_
  refine lv_iload hx hb dX5_odds_57 (lv_at hl 5 rfl) ?_
  refine lv_icmp_ge (tgt := 94) hx hb dX5_odds_59 (by decide) (fun c11 => ?_) (fun c11 => ?_)
  · have hf := zz_t c11 hf
    refine lv_aload_n hx hb dX5_odds_94 rfl (lv_at hl 0 rfl) ?_
    refine lv_iconst (v := (0 : Int32)) hx hb dX5_odds_95 (by decide) ?_
    refine va_put (D := g.1) (ci := 5) (v := .int (0 : Int32)) (ty := .int) (C := RX5) (T := TX5) (N := 29) hx hb hts iX5 tyX5 tyX5_ok nmX5 hown hK hP hD hS 0 rfl rfl 11 (by decide) (zz_mem hts 3 rfl) (fun _ h9 => h9) rfl (tyX5_ok 11 (by decide)) rfl rfl (Nat.le_of_ble_eq_true rfl) dX5_odds_96 (fun H locs hP hD hS => ?_)
    have hP : va_P g.1 vwCl (zzY g q (zzi v8.2 11 (0 : Int32))) H := Eq.mp (congrArg (fun w => va_P g.1 vwCl w H) (zyo_0_11 g q v8.2 (0 : Int32))) hP
    have hD : va_D A (zzY g q (zzi v8.2 11 (0 : Int32))) := Eq.mp (congrArg (va_D A) (zyo_0_11 g q v8.2 (0 : Int32))) hD
    refine lv_iload hx hb dX5_odds_99 (lv_at hl 4 rfl) ?_
    refine lv_i2l hx hb dX5_odds_101 rfl ?_
    refine lv_iload hx hb dX5_odds_102 (lv_at hl 5 rfl) ?_
    refine lv_i2l hx hb dX5_odds_104 rfl ?_
    refine lv_iload_n hx hb dX5_odds_105 rfl (lv_at hl 3 rfl) ?_
    obtain ⟨r12, hc12, hf⟩ := zz_bs hf
    refine zz_cSl C hP hD hS (kX5_inLeastTerms l g (zzY g q (zzi v8.2 11 (0 : Int32))) _ (v8.1.toInt64) (((1 : Int32) <<< ((u.1 5) &&& 31)).toInt64) p2 r12 hc12) gX5_odds_X5_inLeastTerms mX5_inLeastTerms (by decide) ⟨Nat.zero_le _, Nat.zero_le _⟩ rfl (rest := []) rfl hl.1 (Nat.le_of_ble_eq_true rfl) dX5_odds_106 (fun H locs hP hD hS => ?_)
    exact ret _ _ _ _ (r12, (zzi v8.2 11 (0 : Int32))) hf dX5_odds_109 hP hD hS
  · have hf := zz_f c11 hf
    refine lv_iload hx hb dX5_odds_62 (lv_at hl 4 rfl) ?_
    refine lv_aload_n hx hb dX5_odds_64 rfl (lv_at hl 0 rfl) ?_
    refine lv_iload_n hx hb dX5_odds_65 rfl (lv_at hl 1 rfl) ?_
    obtain ⟨r13, hc13, hf⟩ := zz_bs hf
    refine zz_cVi C hP hD hS (kX5_censusOf l g q _ v8.2 p0 r13 hc13) gX5_odds_X5_censusOf mX5_censusOf (by decide) ⟨Nat.zero_le _, Nat.zero_le _⟩ 0 rfl rfl rfl rfl (rest := [.int (v8.1)]) rfl hl.1 (Nat.le_of_ble_eq_true rfl) dX5_odds_66 (fun H locs hP hD hS => ?_)
    refine lv_iload_n hx hb dX5_odds_69 rfl (lv_at hl 2 rfl) ?_
    refine lv_icmp_ne (tgt := 77) hx hb dX5_odds_70 (by decide) (fun c14 => ?_) (fun c14 => ?_)
    · have hf := zz_f c14 hf
      refine lv_iconst (v := (0 : Int32)) hx hb dX5_odds_77 (by decide) ?_
      refine lv_iadd hx hb dX5_odds_78 ?_
      refine lv_istore (lv' := [(4, .int (v8.1 + (0 : Int32))), (0, .ref (q 0)), (1, .int p0), (2, .int p1), (3, .int p2), (5, .int ((1 : Int32) <<< ((u.1 5) &&& 31)))]) hx hb dX5_odds_79 hl (by decide) rfl (fun ls hl => ?_)
      refine lv_aload_n hx hb dX5_odds_81 rfl (lv_at hl 1 rfl) ?_
      refine lv_dup hx hb dX5_odds_82 rfl ?_
      refine va_get (D := g.1) (ci := 5) (v := .int (r13.2.1 11)) (C := RX5) (T := TX5) (N := 29) hx hb hts iX5 hown hK hP 0 rfl rfl 11 (by decide) (zz_mem hts 3 rfl) (fun _ h9 => h9) rfl dX5_odds_83 ?_
      refine lv_iconst (v := (1 : Int32)) hx hb dX5_odds_86 (by decide) ?_
      refine lv_iadd hx hb dX5_odds_87 ?_
      refine va_put (D := g.1) (ci := 5) (v := .int ((r13.2.1 11) + (1 : Int32))) (ty := .int) (C := RX5) (T := TX5) (N := 29) hx hb hts iX5 tyX5 tyX5_ok nmX5 hown hK hP hD hS 0 rfl rfl 11 (by decide) (zz_mem hts 3 rfl) (fun _ h9 => h9) rfl (tyX5_ok 11 (by decide)) rfl rfl (Nat.le_of_ble_eq_true rfl) dX5_odds_88 (fun H locs hP hD hS => ?_)
      have hP : va_P g.1 vwCl (zzY g q (zzi r13.2 11 ((r13.2.1 11) + (1 : Int32)))) H := Eq.mp (congrArg (fun w => va_P g.1 vwCl w H) (zyo_0_11 g q r13.2 ((r13.2.1 11) + (1 : Int32)))) hP
      have hD : va_D A (zzY g q (zzi r13.2 11 ((r13.2.1 11) + (1 : Int32)))) := Eq.mp (congrArg (va_D A) (zyo_0_11 g q r13.2 ((r13.2.1 11) + (1 : Int32)))) hD
      refine lv_goto (tgt := 53) hx hb dX5_odds_91 (by decide) ?_
      exact ih10 _ hf _ _ _ hP hD hS (lv_sub hl [1, 2, 3, 4, 0, 5] rfl)
    · have hf := zz_t c14 hf
      refine lv_iconst (v := (1 : Int32)) hx hb dX5_odds_73 (by decide) ?_
      refine lv_goto (tgt := 78) hx hb dX5_odds_74 (by decide) ?_
      refine lv_iadd hx hb dX5_odds_78 ?_
      refine lv_istore (lv' := [(4, .int (v8.1 + (1 : Int32))), (0, .ref (q 0)), (1, .int p0), (2, .int p1), (3, .int p2), (5, .int ((1 : Int32) <<< ((u.1 5) &&& 31)))]) hx hb dX5_odds_79 hl (by decide) rfl (fun ls hl => ?_)
      refine lv_aload_n hx hb dX5_odds_81 rfl (lv_at hl 1 rfl) ?_
      refine lv_dup hx hb dX5_odds_82 rfl ?_
      refine va_get (D := g.1) (ci := 5) (v := .int (r13.2.1 11)) (C := RX5) (T := TX5) (N := 29) hx hb hts iX5 hown hK hP 0 rfl rfl 11 (by decide) (zz_mem hts 3 rfl) (fun _ h9 => h9) rfl dX5_odds_83 ?_
      refine lv_iconst (v := (1 : Int32)) hx hb dX5_odds_86 (by decide) ?_
      refine lv_iadd hx hb dX5_odds_87 ?_
      refine va_put (D := g.1) (ci := 5) (v := .int ((r13.2.1 11) + (1 : Int32))) (ty := .int) (C := RX5) (T := TX5) (N := 29) hx hb hts iX5 tyX5 tyX5_ok nmX5 hown hK hP hD hS 0 rfl rfl 11 (by decide) (zz_mem hts 3 rfl) (fun _ h9 => h9) rfl (tyX5_ok 11 (by decide)) rfl rfl (Nat.le_of_ble_eq_true rfl) dX5_odds_88 (fun H locs hP hD hS => ?_)
      have hP : va_P g.1 vwCl (zzY g q (zzi r13.2 11 ((r13.2.1 11) + (1 : Int32)))) H := Eq.mp (congrArg (fun w => va_P g.1 vwCl w H) (zyo_0_11 g q r13.2 ((r13.2.1 11) + (1 : Int32)))) hP
      have hD : va_D A (zzY g q (zzi r13.2 11 ((r13.2.1 11) + (1 : Int32)))) := Eq.mp (congrArg (va_D A) (zyo_0_11 g q r13.2 ((r13.2.1 11) + (1 : Int32)))) hD
      refine lv_goto (tgt := 53) hx hb dX5_odds_91 (by decide) ?_
      exact ih10 _ hf _ _ _ hP hD hS (lv_sub hl [1, 2, 3, 4, 0, 5] rfl)
def fX5_odds (u : zzS) (p0 : Int32) (p1 : Int32) (p2 : Int32) : Option (Int64 × zzS) := ((fX5_isSun p0).bind (fun r1 => (if r1 = 0 then (some (((-9223372036854775808) : Int64), u)) else ((fX5_within p1 (0 : Int32) (99 : Int32)).bind (fun r3 => (if r3 = 0 then (some (((-9223372036854775808) : Int64), u)) else ((fX5_within p2 (0 : Int32) (1 : Int32)).bind (fun r5 => (if r5 = 0 then (some (((-9223372036854775808) : Int64), u)) else (if (u.1 5) = 0 then (some (((-9223372036854775808) : Int64), u)) else (zzlp (sX5_odds_53 p0 p1 p2 u) zzFU ((0 : Int32), (zzi u 11 (0 : Int32))))))))))))))
set_option maxHeartbeats 4000000 in
set_option maxRecDepth 100000 in
theorem kX5_odds (l : Launch) (g : zzG) (q : Nat → Nat) (sz : Nat) (u : zzS) (p0 : Int32) (p1 : Int32) (p2 : Int32) (x : Int64 × zzS) (hf : fX5_odds u p0 p1 p2 = some x) : zzL l g yX5_odds wsX5_odds rX5_odds [.ref (q 0), .int p0, .int p1, .int p2] (zzY g q u) (zzY g q x.2) sz x.1 := by
  refine zz_ml (cc := cX5_odds) (mL := 6) (own := RX5) (fun x : Int64 × zzS => x.1) (fun x : Int64 × zzS => (zzY g q x.2)) x (by decide) rfl rfl (Nat.le_of_ble_eq_true rfl) ?_
  intro p e s m below meth c A Q ls C ret hP hD hS hl
  have hl : lv_has ls 6 [(0, .ref (q 0)), (1, .int p0), (2, .int p1), (3, .int p2)] := hl
  have hx := C.1.1
  have hb := C.1.2.1
  have hml := C.1.2.2.1
  have hown := C.1.2.2.2.1
  have hts := C.1.2.2.2.2
  have hK := C.2.1
  have iX5 : ∀ w ∈ wsX50, w ∈ wsX5_odds := fun _ h => List.mem_cons_of_mem _ (List.mem_append_right _ h)
  unfold fX5_odds at hf
  refine lv_iload_n hx hb dX5_odds_0 rfl (lv_at hl 1 rfl) ?_
  obtain ⟨r1, hc1, hf⟩ := zz_bs hf
  refine zz_cSz C hP hD hS (kX5_isSun l g (zzY g q u) _ p0 r1 hc1) gX5_odds_X5_isSun mX5_isSun (by decide) ⟨Nat.zero_le _, Nat.zero_le _⟩ rfl (rest := []) rfl hl.1 (Nat.le_of_ble_eq_true rfl) dX5_odds_1 (fun hz1 H locs hP hD hS => ?_)
  refine lv_if_eq (tgt := 33) hx hb dX5_odds_4 (by decide) (fun c2 => ?_) (fun c2 => ?_)
  · have hf := zz_t c2 hf
    refine lv_ldc2 (v := ((-9223372036854775808) : Int64)) hx hb hown (zz_mem hts 2 rfl) dX5_odds_33 ?_
    exact ret _ _ _ _ (((-9223372036854775808) : Int64), u) hf dX5_odds_36 hP hD hS
  · have hf := zz_f c2 hf
    refine lv_iload_n hx hb dX5_odds_7 rfl (lv_at hl 2 rfl) ?_
    refine lv_iconst (v := (0 : Int32)) hx hb dX5_odds_8 (by decide) ?_
    refine lv_bipush (v := (99 : Int32)) hx hb dX5_odds_9 (by decide) ?_
    obtain ⟨r3, hc3, hf⟩ := zz_bs hf
    refine zz_cSz C hP hD hS (kX5_within l g (zzY g q u) _ p1 (0 : Int32) (99 : Int32) r3 hc3) gX5_odds_X5_within mX5_within (by decide) ⟨Nat.zero_le _, Nat.zero_le _⟩ rfl (rest := []) rfl hl.1 (Nat.le_of_ble_eq_true rfl) dX5_odds_11 (fun hz3 H locs hP hD hS => ?_)
    refine lv_if_eq (tgt := 33) hx hb dX5_odds_14 (by decide) (fun c4 => ?_) (fun c4 => ?_)
    · have hf := zz_t c4 hf
      refine lv_ldc2 (v := ((-9223372036854775808) : Int64)) hx hb hown (zz_mem hts 2 rfl) dX5_odds_33 ?_
      exact ret _ _ _ _ (((-9223372036854775808) : Int64), u) hf dX5_odds_36 hP hD hS
    · have hf := zz_f c4 hf
      refine lv_iload_n hx hb dX5_odds_17 rfl (lv_at hl 3 rfl) ?_
      refine lv_iconst (v := (0 : Int32)) hx hb dX5_odds_18 (by decide) ?_
      refine lv_iconst (v := (1 : Int32)) hx hb dX5_odds_19 (by decide) ?_
      obtain ⟨r5, hc5, hf⟩ := zz_bs hf
      refine zz_cSz C hP hD hS (kX5_within l g (zzY g q u) _ p2 (0 : Int32) (1 : Int32) r5 hc5) gX5_odds_X5_within mX5_within (by decide) ⟨Nat.zero_le _, Nat.zero_le _⟩ rfl (rest := []) rfl hl.1 (Nat.le_of_ble_eq_true rfl) dX5_odds_20 (fun hz5 H locs hP hD hS => ?_)
      refine lv_if_eq (tgt := 33) hx hb dX5_odds_23 (by decide) (fun c6 => ?_) (fun c6 => ?_)
      · have hf := zz_t c6 hf
        refine lv_ldc2 (v := ((-9223372036854775808) : Int64)) hx hb hown (zz_mem hts 2 rfl) dX5_odds_33 ?_
        exact ret _ _ _ _ (((-9223372036854775808) : Int64), u) hf dX5_odds_36 hP hD hS
      · have hf := zz_f c6 hf
        refine lv_aload_n hx hb dX5_odds_26 rfl (lv_at hl 0 rfl) ?_
        refine va_get (D := g.1) (ci := 5) (v := .int (u.1 5)) (C := RX5) (T := TX5) (N := 29) hx hb hts iX5 hown hK hP 0 rfl rfl 5 (by decide) (zz_mem hts 1 rfl) (fun _ h9 => h9) rfl dX5_odds_27 ?_
        refine lv_if_ne (tgt := 37) hx hb dX5_odds_30 (by decide) (fun c7 => ?_) (fun c7 => ?_)
        · have hf := zz_f c7 hf
          refine lv_iconst (v := (0 : Int32)) hx hb dX5_odds_37 (by decide) ?_
          refine lv_istore (lv' := [(4, .int (0 : Int32)), (0, .ref (q 0)), (1, .int p0), (2, .int p1), (3, .int p2)]) hx hb dX5_odds_38 hl (by decide) rfl (fun ls hl => ?_)
          refine lv_iconst (v := (1 : Int32)) hx hb dX5_odds_40 (by decide) ?_
          refine lv_aload_n hx hb dX5_odds_41 rfl (lv_at hl 1 rfl) ?_
          refine va_get (D := g.1) (ci := 5) (v := .int (u.1 5)) (C := RX5) (T := TX5) (N := 29) hx hb hts iX5 hown hK hP 0 rfl rfl 5 (by decide) (zz_mem hts 1 rfl) (fun _ h9 => h9) rfl dX5_odds_42 ?_
          refine lv_ishl hx hb dX5_odds_45 ?_
          refine lv_istore (lv' := [(5, .int ((1 : Int32) <<< ((u.1 5) &&& 31))), (4, .int (0 : Int32)), (0, .ref (q 0)), (1, .int p0), (2, .int p1), (3, .int p2)]) hx hb dX5_odds_46 hl (by decide) rfl (fun ls hl => ?_)
          refine lv_aload_n hx hb dX5_odds_48 rfl (lv_at hl 2 rfl) ?_
          refine lv_iconst (v := (0 : Int32)) hx hb dX5_odds_49 (by decide) ?_
          refine va_put (D := g.1) (ci := 5) (v := .int (0 : Int32)) (ty := .int) (C := RX5) (T := TX5) (N := 29) hx hb hts iX5 tyX5 tyX5_ok nmX5 hown hK hP hD hS 0 rfl rfl 11 (by decide) (zz_mem hts 3 rfl) (fun _ h9 => h9) rfl (tyX5_ok 11 (by decide)) rfl rfl (Nat.le_of_ble_eq_true rfl) dX5_odds_50 (fun H locs hP hD hS => ?_)
          have hP : va_P g.1 vwCl (zzY g q (zzi u 11 (0 : Int32))) H := Eq.mp (congrArg (fun w => va_P g.1 vwCl w H) (zyo_0_11 g q u (0 : Int32))) hP
          have hD : va_D A (zzY g q (zzi u 11 (0 : Int32))) := Eq.mp (congrArg (va_D A) (zyo_0_11 g q u (0 : Int32))) hD
          exact wX5_odds_53 l g q p0 p1 p2 u x C ret  _ _ hf _ _ _ hP hD hS (lv_sub hl [2, 3, 4, 5, 1, 0] rfl)
        · have hf := zz_t c7 hf
          refine lv_ldc2 (v := ((-9223372036854775808) : Int64)) hx hb hown (zz_mem hts 2 rfl) dX5_odds_33 ?_
          exact ret _ _ _ _ (((-9223372036854775808) : Int64), u) hf dX5_odds_36 hP hD hS
abbrev rX5_sheet : Room := ({ frames := 2, cells := 0, slots := 0, locals := 42 })
theorem mX5_sheet : zzM yX5_sheet wsX5_sheet cX5_sheet 5 (some .int) RX5 3 := ⟨⟨_, rfl⟩, by decide +kernel⟩
def sX5_sheet_57 (p0 : Int32) (p1 : Int32) (p2 : Int32) : (Int32 × zzS) → ((Int32 × zzS) → Option (Int32 × zzS)) → Option (Int32 × zzS) := fun v9 rec10 => (if (60 : Int32) ≤ v9.1 then (some ((1 : Int32), v9.2)) else (zzpa 240 (((60 : Int32) * p0) + v9.1) (rec10 ((v9.1 + (1 : Int32)), (zza v9.2 4 (((60 : Int32) * p0) + v9.1).toNatClampNeg (0 : Int32))))))
set_option maxHeartbeats 4000000 in
set_option maxRecDepth 100000 in
theorem wX5_sheet_57 (l : Launch) (g : zzG) (q : Nat → Nat) (p0 : Int32) (p1 : Int32) (p2 : Int32) (x : Int32 × zzS) {p : Program} {e : Env} {s : State} {m : MethodId} {below : List Frame} {meth : Method} {c : Code} {A : Nat → Prop} {Q : State → Prop} (C : zzC g p s m ([.ref (q 0), .int p0, .int p1, .int p2] : List Value).toArray c cX5_sheet 5 RX5 wsX5_sheet A) (ret : zzRI l g rX5_sheet cX5_sheet [.ref (q 0), .int p0, .int p1, .int p2] (fun x : Int32 × zzS => x.1) (fun x : Int32 × zzS => (zzY g q x.2)) x p e s m below meth c A Q)  (n : Nat) (v9 : Int32 × zzS) (hf : zzlp (sX5_sheet_57 p0 p1 p2) n v9 = some x) : ∀ (H : Heap) (locs : List Loc) (ls : Array Slot), va_P g.1 vwCl (zzY g q v9.2) H → va_D A (zzY g q v9.2) → va_S A s.heap H locs → lv_has ls 5 [(0, .ref (q 0)), (1, .int p0), (4, .int (v9.1))] → W p l e rX5_sheet s m ([.ref (q 0), .int p0, .int p1, .int p2] : List Value).toArray below meth c H locs 0 0 Q (F0 m 57 ls []) := by
  have hx := C.1.1
  have hb := C.1.2.1
  have hml := C.1.2.2.1
  have hown := C.1.2.2.2.1
  have hts := C.1.2.2.2.2
  have hK := C.2.1
  have iX5 : ∀ w ∈ wsX50, w ∈ wsX5_sheet := fun _ h => List.mem_cons_of_mem _ (List.mem_append_right _ h)
  refine zz_lp (P := fun (v9 : Int32 × zzS) => ∀ (H : Heap) (locs : List Loc) (ls : Array Slot), va_P g.1 vwCl (zzY g q v9.2) H → va_D A (zzY g q v9.2) → va_S A s.heap H locs → lv_has ls 5 [(0, .ref (q 0)), (1, .int p0), (4, .int (v9.1))] → W p l e rX5_sheet s m ([.ref (q 0), .int p0, .int p1, .int p2] : List Value).toArray below meth c H locs 0 0 Q (F0 m 57 ls [])) (fun v9 rec10 ih11 hf H locs ls hP hD hS hl => ?_) n v9 hf
  unfold sX5_sheet_57 at hf
  refine lv_iload hx hb dX5_sheet_57 (lv_at hl 2 rfl) ?_
  refine lv_bipush (v := (60 : Int32)) hx hb dX5_sheet_59 (by decide) ?_
  refine lv_icmp_ge (tgt := 83) hx hb dX5_sheet_61 (by decide) (fun c12 => ?_) (fun c12 => ?_)
  · have hf := zz_t c12 hf
    refine lv_iconst (v := (1 : Int32)) hx hb dX5_sheet_83 (by decide) ?_
    exact ret _ _ _ _ ((1 : Int32), v9.2) hf dX5_sheet_84 hP hD hS
  · have hf := zz_f c12 hf
    refine lv_aload_n hx hb dX5_sheet_64 rfl (lv_at hl 0 rfl) ?_
    refine va_get (D := g.1) (ci := 5) (v := .ref (q 4)) (C := RX5) (T := TX5) (N := 29) hx hb hts iX5 hown hK hP 0 rfl rfl 4 (by decide) (zz_mem hts 4 rfl) (fun _ h9 => h9) rfl dX5_sheet_65 ?_
    refine lv_bipush (v := (60 : Int32)) hx hb dX5_sheet_68 (by decide) ?_
    refine lv_iload_n hx hb dX5_sheet_70 rfl (lv_at hl 1 rfl) ?_
    refine lv_imul hx hb dX5_sheet_71 ?_
    refine lv_iload hx hb dX5_sheet_72 (lv_at hl 2 rfl) ?_
    refine lv_iadd hx hb dX5_sheet_74 ?_
    refine lv_iconst (v := (0 : Int32)) hx hb dX5_sheet_75 (by decide) ?_
    obtain ⟨h13, hf⟩ := zz_pa hf
    refine va_iast hx hb hK hP hD hS 3 0 rfl rfl h13 dX5_sheet_76 (fun H locs hP hD hS => ?_)
    have hP : va_P g.1 vwCl (zzY g q (zza v9.2 4 (((60 : Int32) * p0) + v9.1).toNatClampNeg (0 : Int32))) H := Eq.mp (congrArg (fun w => va_P g.1 vwCl w H) (zya_3 g q v9.2 (upd (v9.2.2 4) (((60 : Int32) * p0) + v9.1).toNatClampNeg (0 : Int32)))) hP
    have hD : va_D A (zzY g q (zza v9.2 4 (((60 : Int32) * p0) + v9.1).toNatClampNeg (0 : Int32))) := Eq.mp (congrArg (va_D A) (zya_3 g q v9.2 (upd (v9.2.2 4) (((60 : Int32) * p0) + v9.1).toNatClampNeg (0 : Int32)))) hD
    refine lv_iinc (v := (v9.1 + (1 : Int32))) (lv' := [(4, .int (v9.1 + (1 : Int32))), (0, .ref (q 0)), (1, .int p0)]) hx hb dX5_sheet_77 hl (k := 2) rfl rfl (by decide) rfl (fun ls hl => ?_)
    refine lv_goto (tgt := 57) hx hb dX5_sheet_80 (by decide) ?_
    exact ih11 _ hf _ _ _ hP hD hS (lv_sub hl [1, 2, 0] rfl)
def fX5_sheet (u : zzS) (p0 : Int32) (p1 : Int32) (p2 : Int32) : Option (Int32 × zzS) := ((fX5_isSheet p0).bind (fun r1 => (if r1 = 0 then (some ((-1 : Int32), (zzi u 0 (0 : Int32)))) else ((fX5_isSort p1).bind (fun r3 => (if r3 = 0 then (some ((-2 : Int32), (zzi u 0 (0 : Int32)))) else (if p2 ≤ (60 : Int32) then (if (0 : Int32) ≤ p2 then (zzpa 4 p0 (zzpa 4 p0 (zzlp (sX5_sheet_57 p0 p1 p2) zzFU ((0 : Int32), (zza (zza (zzi u 0 (0 : Int32)) 2 p0.toNatClampNeg p1) 3 p0.toNatClampNeg p2))))) else ((fX5_fails (zzi u 0 (0 : Int32)) (4 : Int32)).bind (fun r14 => (some (r14.1, r14.2))))) else (some ((-2 : Int32), (zzi u 0 (0 : Int32)))))))))))
set_option maxHeartbeats 4000000 in
set_option maxRecDepth 100000 in
theorem kX5_sheet (l : Launch) (g : zzG) (q : Nat → Nat) (sz : Nat) (u : zzS) (p0 : Int32) (p1 : Int32) (p2 : Int32) (x : Int32 × zzS) (hf : fX5_sheet u p0 p1 p2 = some x) : zzI l g yX5_sheet wsX5_sheet rX5_sheet [.ref (q 0), .int p0, .int p1, .int p2] (zzY g q u) (zzY g q x.2) sz x.1 := by
  refine zz_mi (cc := cX5_sheet) (mL := 5) (own := RX5) (fun x : Int32 × zzS => x.1) (fun x : Int32 × zzS => (zzY g q x.2)) x (by decide) rfl rfl (Nat.le_of_ble_eq_true rfl) ?_
  intro p e s m below meth c A Q ls C ret hP hD hS hl
  have hl : lv_has ls 5 [(0, .ref (q 0)), (1, .int p0), (2, .int p1), (3, .int p2)] := hl
  have hx := C.1.1
  have hb := C.1.2.1
  have hml := C.1.2.2.1
  have hown := C.1.2.2.2.1
  have hts := C.1.2.2.2.2
  have hK := C.2.1
  have iX5 : ∀ w ∈ wsX50, w ∈ wsX5_sheet := fun _ h => List.mem_cons_of_mem _ (List.mem_append_right _ h)
  unfold fX5_sheet at hf
  refine lv_aload_n hx hb dX5_sheet_0 rfl (lv_at hl 0 rfl) ?_
  refine lv_iconst (v := (0 : Int32)) hx hb dX5_sheet_1 (by decide) ?_
  refine va_put (D := g.1) (ci := 5) (v := .int (0 : Int32)) (ty := .int) (C := RX5) (T := TX5) (N := 29) hx hb hts iX5 tyX5 tyX5_ok nmX5 hown hK hP hD hS 0 rfl rfl 0 (by decide) (zz_mem hts 1 rfl) (fun _ h9 => h9) rfl (tyX5_ok 0 (by decide)) rfl rfl (Nat.le_of_ble_eq_true rfl) dX5_sheet_2 (fun H locs hP hD hS => ?_)
  have hP : va_P g.1 vwCl (zzY g q (zzi u 0 (0 : Int32))) H := Eq.mp (congrArg (fun w => va_P g.1 vwCl w H) (zyo_0_0 g q u (0 : Int32))) hP
  have hD : va_D A (zzY g q (zzi u 0 (0 : Int32))) := Eq.mp (congrArg (va_D A) (zyo_0_0 g q u (0 : Int32))) hD
  refine lv_iload_n hx hb dX5_sheet_5 rfl (lv_at hl 1 rfl) ?_
  obtain ⟨r1, hc1, hf⟩ := zz_bs hf
  refine zz_cSz C hP hD hS (kX5_isSheet l g (zzY g q (zzi u 0 (0 : Int32))) _ p0 r1 hc1) gX5_sheet_X5_isSheet mX5_isSheet (by decide) ⟨Nat.zero_le _, Nat.zero_le _⟩ rfl (rest := []) rfl hl.1 (Nat.le_of_ble_eq_true rfl) dX5_sheet_6 (fun hz1 H locs hP hD hS => ?_)
  refine lv_if_ne (tgt := 14) hx hb dX5_sheet_9 (by decide) (fun c2 => ?_) (fun c2 => ?_)
  · have hf := zz_f c2 hf
    refine lv_iload_n hx hb dX5_sheet_14 rfl (lv_at hl 2 rfl) ?_
    obtain ⟨r3, hc3, hf⟩ := zz_bs hf
    refine zz_cSz C hP hD hS (kX5_isSort l g (zzY g q (zzi u 0 (0 : Int32))) _ p1 r3 hc3) gX5_sheet_X5_isSort mX5_isSort (by decide) ⟨Nat.zero_le _, Nat.zero_le _⟩ rfl (rest := []) rfl hl.1 (Nat.le_of_ble_eq_true rfl) dX5_sheet_15 (fun hz3 H locs hP hD hS => ?_)
    refine lv_if_eq (tgt := 27) hx hb dX5_sheet_18 (by decide) (fun c4 => ?_) (fun c4 => ?_)
    · have hf := zz_t c4 hf
      refine lv_bipush (v := (-2 : Int32)) hx hb dX5_sheet_27 (by decide) ?_
      exact ret _ _ _ _ ((-2 : Int32), (zzi u 0 (0 : Int32))) hf dX5_sheet_29 hP hD hS
    · have hf := zz_f c4 hf
      refine lv_iload_n hx hb dX5_sheet_21 rfl (lv_at hl 3 rfl) ?_
      refine lv_bipush (v := (60 : Int32)) hx hb dX5_sheet_22 (by decide) ?_
      refine lv_icmp_le (tgt := 30) hx hb dX5_sheet_24 (by decide) (fun c5 => ?_) (fun c5 => ?_)
      · have hf := zz_t c5 hf
        refine lv_iload_n hx hb dX5_sheet_30 rfl (lv_at hl 3 rfl) ?_
        refine lv_if_ge (tgt := 40) hx hb dX5_sheet_31 (by decide) (fun c6 => ?_) (fun c6 => ?_)
        · have hf := zz_t c6 hf
          refine lv_aload_n hx hb dX5_sheet_40 rfl (lv_at hl 0 rfl) ?_
          refine va_get (D := g.1) (ci := 5) (v := .ref (q 2)) (C := RX5) (T := TX5) (N := 29) hx hb hts iX5 hown hK hP 0 rfl rfl 2 (by decide) (zz_mem hts 2 rfl) (fun _ h9 => h9) rfl dX5_sheet_41 ?_
          refine lv_iload_n hx hb dX5_sheet_44 rfl (lv_at hl 1 rfl) ?_
          refine lv_iload_n hx hb dX5_sheet_45 rfl (lv_at hl 2 rfl) ?_
          obtain ⟨h7, hf⟩ := zz_pa hf
          refine va_iast hx hb hK hP hD hS 1 0 rfl rfl h7 dX5_sheet_46 (fun H locs hP hD hS => ?_)
          have hP : va_P g.1 vwCl (zzY g q (zza (zzi u 0 (0 : Int32)) 2 p0.toNatClampNeg p1)) H := Eq.mp (congrArg (fun w => va_P g.1 vwCl w H) (zya_1 g q (zzi u 0 (0 : Int32)) (upd ((zzi u 0 (0 : Int32)).2 2) p0.toNatClampNeg p1))) hP
          have hD : va_D A (zzY g q (zza (zzi u 0 (0 : Int32)) 2 p0.toNatClampNeg p1)) := Eq.mp (congrArg (va_D A) (zya_1 g q (zzi u 0 (0 : Int32)) (upd ((zzi u 0 (0 : Int32)).2 2) p0.toNatClampNeg p1))) hD
          refine lv_aload_n hx hb dX5_sheet_47 rfl (lv_at hl 0 rfl) ?_
          refine va_get (D := g.1) (ci := 5) (v := .ref (q 3)) (C := RX5) (T := TX5) (N := 29) hx hb hts iX5 hown hK hP 0 rfl rfl 3 (by decide) (zz_mem hts 3 rfl) (fun _ h9 => h9) rfl dX5_sheet_48 ?_
          refine lv_iload_n hx hb dX5_sheet_51 rfl (lv_at hl 1 rfl) ?_
          refine lv_iload_n hx hb dX5_sheet_52 rfl (lv_at hl 3 rfl) ?_
          obtain ⟨h8, hf⟩ := zz_pa hf
          refine va_iast hx hb hK hP hD hS 2 0 rfl rfl h8 dX5_sheet_53 (fun H locs hP hD hS => ?_)
          have hP : va_P g.1 vwCl (zzY g q (zza (zza (zzi u 0 (0 : Int32)) 2 p0.toNatClampNeg p1) 3 p0.toNatClampNeg p2)) H := Eq.mp (congrArg (fun w => va_P g.1 vwCl w H) (zya_2 g q (zza (zzi u 0 (0 : Int32)) 2 p0.toNatClampNeg p1) (upd ((zza (zzi u 0 (0 : Int32)) 2 p0.toNatClampNeg p1).2 3) p0.toNatClampNeg p2))) hP
          have hD : va_D A (zzY g q (zza (zza (zzi u 0 (0 : Int32)) 2 p0.toNatClampNeg p1) 3 p0.toNatClampNeg p2)) := Eq.mp (congrArg (va_D A) (zya_2 g q (zza (zzi u 0 (0 : Int32)) 2 p0.toNatClampNeg p1) (upd ((zza (zzi u 0 (0 : Int32)) 2 p0.toNatClampNeg p1).2 3) p0.toNatClampNeg p2))) hD
          refine lv_iconst (v := (0 : Int32)) hx hb dX5_sheet_54 (by decide) ?_
          refine lv_istore (lv' := [(4, .int (0 : Int32)), (0, .ref (q 0)), (1, .int p0), (2, .int p1), (3, .int p2)]) hx hb dX5_sheet_55 hl (by decide) rfl (fun ls hl => ?_)
          exact wX5_sheet_57 l g q p0 p1 p2 x C ret  _ _ hf _ _ _ hP hD hS (lv_sub hl [1, 2, 0] rfl)
        · have hf := zz_f c6 hf
          refine lv_aload_n hx hb dX5_sheet_34 rfl (lv_at hl 0 rfl) ?_
          refine lv_iconst (v := (4 : Int32)) hx hb dX5_sheet_35 (by decide) ?_
          obtain ⟨r14, hc14, hf⟩ := zz_bs hf
          refine zz_cVi C hP hD hS (kX5_fails l g q _ (zzi u 0 (0 : Int32)) (4 : Int32) r14 hc14) gX5_sheet_X5_fails mX5_fails (by decide) ⟨Nat.zero_le _, Nat.zero_le _⟩ 0 rfl rfl rfl rfl (rest := []) rfl hl.1 (Nat.le_of_ble_eq_true rfl) dX5_sheet_36 (fun H locs hP hD hS => ?_)
          exact ret _ _ _ _ (r14.1, r14.2) hf dX5_sheet_39 hP hD hS
      · have hf := zz_f c5 hf
        refine lv_bipush (v := (-2 : Int32)) hx hb dX5_sheet_27 (by decide) ?_
        exact ret _ _ _ _ ((-2 : Int32), (zzi u 0 (0 : Int32))) hf dX5_sheet_29 hP hD hS
  · have hf := zz_t c2 hf
    refine lv_iconst (v := (-1 : Int32)) hx hb dX5_sheet_12 (by decide) ?_
    exact ret _ _ _ _ ((-1 : Int32), (zzi u 0 (0 : Int32))) hf dX5_sheet_13 hP hD hS
abbrev rX5_lose : Room := ({ frames := 2, cells := 0, slots := 0, locals := 42 })
theorem mX5_lose : zzM yX5_lose wsX5_lose cX5_lose 3 (some .int) RX5 1 := ⟨⟨_, rfl⟩, by decide +kernel⟩
def fX5_lose (u : zzS) (p0 : Int32) : Option (Int32 × zzS) := ((fX5_isSheet p0).bind (fun r1 => (if r1 = 0 then (some ((-1 : Int32), u)) else (zzga (u.2 2) 4 p0 (fun x4 => (if x4 = (-9 : Int32) then (zzpa 4 p0 (some ((0 : Int32), (zza u 2 p0.toNatClampNeg (-9 : Int32))))) else (zzpa 4 p0 (some ((1 : Int32), (zza u 2 p0.toNatClampNeg (-9 : Int32)))))))))))
set_option maxHeartbeats 4000000 in
set_option maxRecDepth 100000 in
theorem kX5_lose (l : Launch) (g : zzG) (q : Nat → Nat) (sz : Nat) (u : zzS) (p0 : Int32) (x : Int32 × zzS) (hf : fX5_lose u p0 = some x) : zzI l g yX5_lose wsX5_lose rX5_lose [.ref (q 0), .int p0] (zzY g q u) (zzY g q x.2) sz x.1 := by
  refine zz_mi (cc := cX5_lose) (mL := 3) (own := RX5) (fun x : Int32 × zzS => x.1) (fun x : Int32 × zzS => (zzY g q x.2)) x (by decide) rfl rfl (Nat.le_of_ble_eq_true rfl) ?_
  intro p e s m below meth c A Q ls C ret hP hD hS hl
  have hl : lv_has ls 3 [(0, .ref (q 0)), (1, .int p0)] := hl
  have hx := C.1.1
  have hb := C.1.2.1
  have hml := C.1.2.2.1
  have hown := C.1.2.2.2.1
  have hts := C.1.2.2.2.2
  have hK := C.2.1
  have iX5 : ∀ w ∈ wsX50, w ∈ wsX5_lose := fun _ h => List.mem_cons_of_mem _ (List.mem_append_right _ h)
  unfold fX5_lose at hf
  refine lv_iload_n hx hb dX5_lose_0 rfl (lv_at hl 1 rfl) ?_
  obtain ⟨r1, hc1, hf⟩ := zz_bs hf
  refine zz_cSz C hP hD hS (kX5_isSheet l g (zzY g q u) _ p0 r1 hc1) gX5_lose_X5_isSheet mX5_isSheet (by decide) ⟨Nat.zero_le _, Nat.zero_le _⟩ rfl (rest := []) rfl hl.1 (Nat.le_of_ble_eq_true rfl) dX5_lose_1 (fun hz1 H locs hP hD hS => ?_)
  refine lv_if_ne (tgt := 9) hx hb dX5_lose_4 (by decide) (fun c2 => ?_) (fun c2 => ?_)
  · have hf := zz_f c2 hf
    refine lv_aload_n hx hb dX5_lose_9 rfl (lv_at hl 0 rfl) ?_
    refine va_get (D := g.1) (ci := 5) (v := .ref (q 2)) (C := RX5) (T := TX5) (N := 29) hx hb hts iX5 hown hK hP 0 rfl rfl 2 (by decide) (zz_mem hts 1 rfl) (fun _ h9 => h9) rfl dX5_lose_10 ?_
    refine lv_iload_n hx hb dX5_lose_13 rfl (lv_at hl 1 rfl) ?_
    obtain ⟨x4, h3, ex4, hf⟩ := zz_gx hf
    refine zz_iald hx hb hK hP 1 0 rfl rfl h3 ex4 dX5_lose_14 ?_
    refine lv_bipush (v := (-9 : Int32)) hx hb dX5_lose_15 (by decide) ?_
    refine lv_icmp_ne (tgt := 24) hx hb dX5_lose_17 (by decide) (fun c5 => ?_) (fun c5 => ?_)
    · have hf := zz_f c5 hf
      refine lv_iconst (v := (1 : Int32)) hx hb dX5_lose_24 (by decide) ?_
      refine lv_istore_n (lv' := [(2, .int (1 : Int32)), (0, .ref (q 0)), (1, .int p0)]) hx hb dX5_lose_25 rfl hl (by decide) rfl (fun ls hl => ?_)
      refine lv_aload_n hx hb dX5_lose_26 rfl (lv_at hl 1 rfl) ?_
      refine va_get (D := g.1) (ci := 5) (v := .ref (q 2)) (C := RX5) (T := TX5) (N := 29) hx hb hts iX5 hown hK hP 0 rfl rfl 2 (by decide) (zz_mem hts 1 rfl) (fun _ h9 => h9) rfl dX5_lose_27 ?_
      refine lv_iload_n hx hb dX5_lose_30 rfl (lv_at hl 2 rfl) ?_
      refine lv_bipush (v := (-9 : Int32)) hx hb dX5_lose_31 (by decide) ?_
      obtain ⟨h6, hf⟩ := zz_pa hf
      refine va_iast hx hb hK hP hD hS 1 0 rfl rfl h6 dX5_lose_33 (fun H locs hP hD hS => ?_)
      have hP : va_P g.1 vwCl (zzY g q (zza u 2 p0.toNatClampNeg (-9 : Int32))) H := Eq.mp (congrArg (fun w => va_P g.1 vwCl w H) (zya_1 g q u (upd (u.2 2) p0.toNatClampNeg (-9 : Int32)))) hP
      have hD : va_D A (zzY g q (zza u 2 p0.toNatClampNeg (-9 : Int32))) := Eq.mp (congrArg (va_D A) (zya_1 g q u (upd (u.2 2) p0.toNatClampNeg (-9 : Int32)))) hD
      refine lv_iload_n hx hb dX5_lose_34 rfl (lv_at hl 0 rfl) ?_
      exact ret _ _ _ _ ((1 : Int32), (zza u 2 p0.toNatClampNeg (-9 : Int32))) hf dX5_lose_35 hP hD hS
    · have hf := zz_t c5 hf
      refine lv_iconst (v := (0 : Int32)) hx hb dX5_lose_20 (by decide) ?_
      refine lv_goto (tgt := 25) hx hb dX5_lose_21 (by decide) ?_
      refine lv_istore_n (lv' := [(2, .int (0 : Int32)), (0, .ref (q 0)), (1, .int p0)]) hx hb dX5_lose_25 rfl hl (by decide) rfl (fun ls hl => ?_)
      refine lv_aload_n hx hb dX5_lose_26 rfl (lv_at hl 1 rfl) ?_
      refine va_get (D := g.1) (ci := 5) (v := .ref (q 2)) (C := RX5) (T := TX5) (N := 29) hx hb hts iX5 hown hK hP 0 rfl rfl 2 (by decide) (zz_mem hts 1 rfl) (fun _ h9 => h9) rfl dX5_lose_27 ?_
      refine lv_iload_n hx hb dX5_lose_30 rfl (lv_at hl 2 rfl) ?_
      refine lv_bipush (v := (-9 : Int32)) hx hb dX5_lose_31 (by decide) ?_
      obtain ⟨h7, hf⟩ := zz_pa hf
      refine va_iast hx hb hK hP hD hS 1 0 rfl rfl h7 dX5_lose_33 (fun H locs hP hD hS => ?_)
      have hP : va_P g.1 vwCl (zzY g q (zza u 2 p0.toNatClampNeg (-9 : Int32))) H := Eq.mp (congrArg (fun w => va_P g.1 vwCl w H) (zya_1 g q u (upd (u.2 2) p0.toNatClampNeg (-9 : Int32)))) hP
      have hD : va_D A (zzY g q (zza u 2 p0.toNatClampNeg (-9 : Int32))) := Eq.mp (congrArg (va_D A) (zya_1 g q u (upd (u.2 2) p0.toNatClampNeg (-9 : Int32)))) hD
      refine lv_iload_n hx hb dX5_lose_34 rfl (lv_at hl 0 rfl) ?_
      exact ret _ _ _ _ ((0 : Int32), (zza u 2 p0.toNatClampNeg (-9 : Int32))) hf dX5_lose_35 hP hD hS
  · have hf := zz_t c2 hf
    refine lv_iconst (v := (-1 : Int32)) hx hb dX5_lose_7 (by decide) ?_
    exact ret _ _ _ _ ((-1 : Int32), u) hf dX5_lose_8 hP hD hS
abbrev rX5_put : Room := ({ frames := 2, cells := 0, slots := 0, locals := 42 })
theorem mX5_put : zzM yX5_put wsX5_put cX5_put 4 (some .int) RX5 3 := ⟨⟨_, rfl⟩, by decide +kernel⟩
def fX5_put (u : zzS) (p0 : Int32) (p1 : Int32) (p2 : Int32) : Option (Int32 × zzS) := ((fX5_isSheet p0).bind (fun r1 => (if r1 = 0 then (some ((-1 : Int32), (zzi u 0 (0 : Int32)))) else (zzga ((zzi u 0 (0 : Int32)).2 2) 4 p0 (fun x4 => (if x4 = (-9 : Int32) then ((fX5_fails (zzi u 0 (0 : Int32)) (1 : Int32)).bind (fun r20 => (some (r20.1, r20.2)))) else (zzga ((zzi u 0 (0 : Int32)).2 3) 4 p0 (fun x7 => ((fX5_within p1 (0 : Int32) (x7 - (1 : Int32))).bind (fun r8 => (if r8 = 0 then ((fX5_fails (zzi u 0 (0 : Int32)) (3 : Int32)).bind (fun r19 => (some (r19.1, r19.2)))) else (zzga ((zzi u 0 (0 : Int32)).2 2) 4 p0 (fun x11 => (if x11 = 0 then (zzpa 240 (((60 : Int32) * p0) + p1) (some ((1 : Int32), (zza (zzi u 0 (0 : Int32)) 4 (((60 : Int32) * p0) + p1).toNatClampNeg (p2.toInt8.toInt32))))) else (zzga ((zzi u 0 (0 : Int32)).2 2) 4 p0 (fun x14 => (if x14 = (1 : Int32) then (zzpa 240 (((60 : Int32) * p0) + p1) (some ((1 : Int32), (zza (zzi u 0 (0 : Int32)) 4 (((60 : Int32) * p0) + p1).toNatClampNeg (p2.toInt16.toInt32))))) else (zzpa 240 (((60 : Int32) * p0) + p1) (some ((1 : Int32), (zza (zzi u 0 (0 : Int32)) 4 (((60 : Int32) * p0) + p1).toNatClampNeg p2)))))))))))))))))))))
set_option maxHeartbeats 4000000 in
set_option maxRecDepth 100000 in
theorem kX5_put (l : Launch) (g : zzG) (q : Nat → Nat) (sz : Nat) (u : zzS) (p0 : Int32) (p1 : Int32) (p2 : Int32) (x : Int32 × zzS) (hf : fX5_put u p0 p1 p2 = some x) : zzI l g yX5_put wsX5_put rX5_put [.ref (q 0), .int p0, .int p1, .int p2] (zzY g q u) (zzY g q x.2) sz x.1 := by
  refine zz_mi (cc := cX5_put) (mL := 4) (own := RX5) (fun x : Int32 × zzS => x.1) (fun x : Int32 × zzS => (zzY g q x.2)) x (by decide) rfl rfl (Nat.le_of_ble_eq_true rfl) ?_
  intro p e s m below meth c A Q ls C ret hP hD hS hl
  have hl : lv_has ls 4 [(0, .ref (q 0)), (1, .int p0), (2, .int p1), (3, .int p2)] := hl
  have hx := C.1.1
  have hb := C.1.2.1
  have hml := C.1.2.2.1
  have hown := C.1.2.2.2.1
  have hts := C.1.2.2.2.2
  have hK := C.2.1
  have iX5 : ∀ w ∈ wsX50, w ∈ wsX5_put := fun _ h => List.mem_cons_of_mem _ (List.mem_append_right _ h)
  unfold fX5_put at hf
  refine lv_aload_n hx hb dX5_put_0 rfl (lv_at hl 0 rfl) ?_
  refine lv_iconst (v := (0 : Int32)) hx hb dX5_put_1 (by decide) ?_
  refine va_put (D := g.1) (ci := 5) (v := .int (0 : Int32)) (ty := .int) (C := RX5) (T := TX5) (N := 29) hx hb hts iX5 tyX5 tyX5_ok nmX5 hown hK hP hD hS 0 rfl rfl 0 (by decide) (zz_mem hts 1 rfl) (fun _ h9 => h9) rfl (tyX5_ok 0 (by decide)) rfl rfl (Nat.le_of_ble_eq_true rfl) dX5_put_2 (fun H locs hP hD hS => ?_)
  have hP : va_P g.1 vwCl (zzY g q (zzi u 0 (0 : Int32))) H := Eq.mp (congrArg (fun w => va_P g.1 vwCl w H) (zyo_0_0 g q u (0 : Int32))) hP
  have hD : va_D A (zzY g q (zzi u 0 (0 : Int32))) := Eq.mp (congrArg (va_D A) (zyo_0_0 g q u (0 : Int32))) hD
  refine lv_iload_n hx hb dX5_put_5 rfl (lv_at hl 1 rfl) ?_
  obtain ⟨r1, hc1, hf⟩ := zz_bs hf
  refine zz_cSz C hP hD hS (kX5_isSheet l g (zzY g q (zzi u 0 (0 : Int32))) _ p0 r1 hc1) gX5_put_X5_isSheet mX5_isSheet (by decide) ⟨Nat.zero_le _, Nat.zero_le _⟩ rfl (rest := []) rfl hl.1 (Nat.le_of_ble_eq_true rfl) dX5_put_6 (fun hz1 H locs hP hD hS => ?_)
  refine lv_if_ne (tgt := 14) hx hb dX5_put_9 (by decide) (fun c2 => ?_) (fun c2 => ?_)
  · have hf := zz_f c2 hf
    refine lv_aload_n hx hb dX5_put_14 rfl (lv_at hl 0 rfl) ?_
    refine va_get (D := g.1) (ci := 5) (v := .ref (q 2)) (C := RX5) (T := TX5) (N := 29) hx hb hts iX5 hown hK hP 0 rfl rfl 2 (by decide) (zz_mem hts 2 rfl) (fun _ h9 => h9) rfl dX5_put_15 ?_
    refine lv_iload_n hx hb dX5_put_18 rfl (lv_at hl 1 rfl) ?_
    obtain ⟨x4, h3, ex4, hf⟩ := zz_gx hf
    refine zz_iald hx hb hK hP 1 0 rfl rfl h3 ex4 dX5_put_19 ?_
    refine lv_bipush (v := (-9 : Int32)) hx hb dX5_put_20 (by decide) ?_
    refine lv_icmp_ne (tgt := 31) hx hb dX5_put_22 (by decide) (fun c5 => ?_) (fun c5 => ?_)
    · have hf := zz_f c5 hf
      refine lv_iload_n hx hb dX5_put_31 rfl (lv_at hl 2 rfl) ?_
      refine lv_iconst (v := (0 : Int32)) hx hb dX5_put_32 (by decide) ?_
      refine lv_aload_n hx hb dX5_put_33 rfl (lv_at hl 0 rfl) ?_
      refine va_get (D := g.1) (ci := 5) (v := .ref (q 3)) (C := RX5) (T := TX5) (N := 29) hx hb hts iX5 hown hK hP 0 rfl rfl 3 (by decide) (zz_mem hts 3 rfl) (fun _ h9 => h9) rfl dX5_put_34 ?_
      refine lv_iload_n hx hb dX5_put_37 rfl (lv_at hl 1 rfl) ?_
      obtain ⟨x7, h6, ex7, hf⟩ := zz_gx hf
      refine zz_iald hx hb hK hP 2 0 rfl rfl h6 ex7 dX5_put_38 ?_
      refine lv_iconst (v := (1 : Int32)) hx hb dX5_put_39 (by decide) ?_
      refine lv_isub hx hb dX5_put_40 ?_
      obtain ⟨r8, hc8, hf⟩ := zz_bs hf
      refine zz_cSz C hP hD hS (kX5_within l g (zzY g q (zzi u 0 (0 : Int32))) _ p1 (0 : Int32) (x7 - (1 : Int32)) r8 hc8) gX5_put_X5_within mX5_within (by decide) ⟨Nat.zero_le _, Nat.zero_le _⟩ rfl (rest := []) rfl hl.1 (Nat.le_of_ble_eq_true rfl) dX5_put_41 (fun hz8 H locs hP hD hS => ?_)
      refine lv_if_ne (tgt := 53) hx hb dX5_put_44 (by decide) (fun c9 => ?_) (fun c9 => ?_)
      · have hf := zz_f c9 hf
        refine lv_aload_n hx hb dX5_put_53 rfl (lv_at hl 0 rfl) ?_
        refine va_get (D := g.1) (ci := 5) (v := .ref (q 4)) (C := RX5) (T := TX5) (N := 29) hx hb hts iX5 hown hK hP 0 rfl rfl 4 (by decide) (zz_mem hts 4 rfl) (fun _ h9 => h9) rfl dX5_put_54 ?_
        refine lv_bipush (v := (60 : Int32)) hx hb dX5_put_57 (by decide) ?_
        refine lv_iload_n hx hb dX5_put_59 rfl (lv_at hl 1 rfl) ?_
        refine lv_imul hx hb dX5_put_60 ?_
        refine lv_iload_n hx hb dX5_put_61 rfl (lv_at hl 2 rfl) ?_
        refine lv_iadd hx hb dX5_put_62 ?_
        refine lv_aload_n hx hb dX5_put_63 rfl (lv_at hl 0 rfl) ?_
        refine va_get (D := g.1) (ci := 5) (v := .ref (q 2)) (C := RX5) (T := TX5) (N := 29) hx hb hts iX5 hown hK hP 0 rfl rfl 2 (by decide) (zz_mem hts 2 rfl) (fun _ h9 => h9) rfl dX5_put_64 ?_
        refine lv_iload_n hx hb dX5_put_67 rfl (lv_at hl 1 rfl) ?_
        obtain ⟨x11, h10, ex11, hf⟩ := zz_gx hf
        refine zz_iald hx hb hK hP 1 0 rfl rfl h10 ex11 dX5_put_68 ?_
        refine lv_if_ne (tgt := 77) hx hb dX5_put_69 (by decide) (fun c12 => ?_) (fun c12 => ?_)
        · have hf := zz_f c12 hf
          refine lv_aload_n hx hb dX5_put_77 rfl (lv_at hl 0 rfl) ?_
          refine va_get (D := g.1) (ci := 5) (v := .ref (q 2)) (C := RX5) (T := TX5) (N := 29) hx hb hts iX5 hown hK hP 0 rfl rfl 2 (by decide) (zz_mem hts 2 rfl) (fun _ h9 => h9) rfl dX5_put_78 ?_
          refine lv_iload_n hx hb dX5_put_81 rfl (lv_at hl 1 rfl) ?_
          obtain ⟨x14, h13, ex14, hf⟩ := zz_gx hf
          refine zz_iald hx hb hK hP 1 0 rfl rfl h13 ex14 dX5_put_82 ?_
          refine lv_iconst (v := (1 : Int32)) hx hb dX5_put_83 (by decide) ?_
          refine lv_icmp_ne (tgt := 92) hx hb dX5_put_84 (by decide) (fun c15 => ?_) (fun c15 => ?_)
          · have hf := zz_f c15 hf
            refine lv_iload_n hx hb dX5_put_92 rfl (lv_at hl 3 rfl) ?_
            obtain ⟨h16, hf⟩ := zz_pa hf
            refine va_iast hx hb hK hP hD hS 3 0 rfl rfl h16 dX5_put_93 (fun H locs hP hD hS => ?_)
            have hP : va_P g.1 vwCl (zzY g q (zza (zzi u 0 (0 : Int32)) 4 (((60 : Int32) * p0) + p1).toNatClampNeg p2)) H := Eq.mp (congrArg (fun w => va_P g.1 vwCl w H) (zya_3 g q (zzi u 0 (0 : Int32)) (upd ((zzi u 0 (0 : Int32)).2 4) (((60 : Int32) * p0) + p1).toNatClampNeg p2))) hP
            have hD : va_D A (zzY g q (zza (zzi u 0 (0 : Int32)) 4 (((60 : Int32) * p0) + p1).toNatClampNeg p2)) := Eq.mp (congrArg (va_D A) (zya_3 g q (zzi u 0 (0 : Int32)) (upd ((zzi u 0 (0 : Int32)).2 4) (((60 : Int32) * p0) + p1).toNatClampNeg p2))) hD
            refine lv_iconst (v := (1 : Int32)) hx hb dX5_put_94 (by decide) ?_
            exact ret _ _ _ _ ((1 : Int32), (zza (zzi u 0 (0 : Int32)) 4 (((60 : Int32) * p0) + p1).toNatClampNeg p2)) hf dX5_put_95 hP hD hS
          · have hf := zz_t c15 hf
            refine lv_iload_n hx hb dX5_put_87 rfl (lv_at hl 3 rfl) ?_
            refine lv_i2s hx hb dX5_put_88 rfl ?_
            refine lv_goto (tgt := 93) hx hb dX5_put_89 (by decide) ?_
            obtain ⟨h17, hf⟩ := zz_pa hf
            refine va_iast hx hb hK hP hD hS 3 0 rfl rfl h17 dX5_put_93 (fun H locs hP hD hS => ?_)
            have hP : va_P g.1 vwCl (zzY g q (zza (zzi u 0 (0 : Int32)) 4 (((60 : Int32) * p0) + p1).toNatClampNeg (p2.toInt16.toInt32))) H := Eq.mp (congrArg (fun w => va_P g.1 vwCl w H) (zya_3 g q (zzi u 0 (0 : Int32)) (upd ((zzi u 0 (0 : Int32)).2 4) (((60 : Int32) * p0) + p1).toNatClampNeg (p2.toInt16.toInt32)))) hP
            have hD : va_D A (zzY g q (zza (zzi u 0 (0 : Int32)) 4 (((60 : Int32) * p0) + p1).toNatClampNeg (p2.toInt16.toInt32))) := Eq.mp (congrArg (va_D A) (zya_3 g q (zzi u 0 (0 : Int32)) (upd ((zzi u 0 (0 : Int32)).2 4) (((60 : Int32) * p0) + p1).toNatClampNeg (p2.toInt16.toInt32)))) hD
            refine lv_iconst (v := (1 : Int32)) hx hb dX5_put_94 (by decide) ?_
            exact ret _ _ _ _ ((1 : Int32), (zza (zzi u 0 (0 : Int32)) 4 (((60 : Int32) * p0) + p1).toNatClampNeg (p2.toInt16.toInt32))) hf dX5_put_95 hP hD hS
        · have hf := zz_t c12 hf
          refine lv_iload_n hx hb dX5_put_72 rfl (lv_at hl 3 rfl) ?_
          refine lv_i2b hx hb dX5_put_73 rfl ?_
          refine lv_goto (tgt := 93) hx hb dX5_put_74 (by decide) ?_
          obtain ⟨h18, hf⟩ := zz_pa hf
          refine va_iast hx hb hK hP hD hS 3 0 rfl rfl h18 dX5_put_93 (fun H locs hP hD hS => ?_)
          have hP : va_P g.1 vwCl (zzY g q (zza (zzi u 0 (0 : Int32)) 4 (((60 : Int32) * p0) + p1).toNatClampNeg (p2.toInt8.toInt32))) H := Eq.mp (congrArg (fun w => va_P g.1 vwCl w H) (zya_3 g q (zzi u 0 (0 : Int32)) (upd ((zzi u 0 (0 : Int32)).2 4) (((60 : Int32) * p0) + p1).toNatClampNeg (p2.toInt8.toInt32)))) hP
          have hD : va_D A (zzY g q (zza (zzi u 0 (0 : Int32)) 4 (((60 : Int32) * p0) + p1).toNatClampNeg (p2.toInt8.toInt32))) := Eq.mp (congrArg (va_D A) (zya_3 g q (zzi u 0 (0 : Int32)) (upd ((zzi u 0 (0 : Int32)).2 4) (((60 : Int32) * p0) + p1).toNatClampNeg (p2.toInt8.toInt32)))) hD
          refine lv_iconst (v := (1 : Int32)) hx hb dX5_put_94 (by decide) ?_
          exact ret _ _ _ _ ((1 : Int32), (zza (zzi u 0 (0 : Int32)) 4 (((60 : Int32) * p0) + p1).toNatClampNeg (p2.toInt8.toInt32))) hf dX5_put_95 hP hD hS
      · have hf := zz_t c9 hf
        refine lv_aload_n hx hb dX5_put_47 rfl (lv_at hl 0 rfl) ?_
        refine lv_iconst (v := (3 : Int32)) hx hb dX5_put_48 (by decide) ?_
        obtain ⟨r19, hc19, hf⟩ := zz_bs hf
        refine zz_cVi C hP hD hS (kX5_fails l g q _ (zzi u 0 (0 : Int32)) (3 : Int32) r19 hc19) gX5_put_X5_fails mX5_fails (by decide) ⟨Nat.zero_le _, Nat.zero_le _⟩ 0 rfl rfl rfl rfl (rest := []) rfl hl.1 (Nat.le_of_ble_eq_true rfl) dX5_put_49 (fun H locs hP hD hS => ?_)
        exact ret _ _ _ _ (r19.1, r19.2) hf dX5_put_52 hP hD hS
    · have hf := zz_t c5 hf
      refine lv_aload_n hx hb dX5_put_25 rfl (lv_at hl 0 rfl) ?_
      refine lv_iconst (v := (1 : Int32)) hx hb dX5_put_26 (by decide) ?_
      obtain ⟨r20, hc20, hf⟩ := zz_bs hf
      refine zz_cVi C hP hD hS (kX5_fails l g q _ (zzi u 0 (0 : Int32)) (1 : Int32) r20 hc20) gX5_put_X5_fails mX5_fails (by decide) ⟨Nat.zero_le _, Nat.zero_le _⟩ 0 rfl rfl rfl rfl (rest := []) rfl hl.1 (Nat.le_of_ble_eq_true rfl) dX5_put_27 (fun H locs hP hD hS => ?_)
      exact ret _ _ _ _ (r20.1, r20.2) hf dX5_put_30 hP hD hS
  · have hf := zz_t c2 hf
    refine lv_iconst (v := (-1 : Int32)) hx hb dX5_put_12 (by decide) ?_
    exact ret _ _ _ _ ((-1 : Int32), (zzi u 0 (0 : Int32))) hf dX5_put_13 hP hD hS
abbrev rX5_cell : Room := ({ frames := 2, cells := 0, slots := 0, locals := 42 })
theorem mX5_cell : zzM yX5_cell wsX5_cell cX5_cell 4 (some .long) RX5 3 := ⟨⟨_, rfl⟩, by decide +kernel⟩
def fX5_cell (u : zzS) (p0 : Int32) (p1 : Int32) (p2 : Int32) : Option (Int64 × zzS) := ((fX5_isSheet p0).bind (fun r1 => (if r1 = 0 then (some (((-9223372036854775808) : Int64), (zzi u 0 (0 : Int32)))) else ((fX5_isSort p2).bind (fun r3 => (if r3 = 0 then (some (((-9223372036854775808) : Int64), (zzi u 0 (0 : Int32)))) else (zzga ((zzi u 0 (0 : Int32)).2 2) 4 p0 (fun x6 => (if x6 = (-9 : Int32) then (zzga ((zzi u 0 (0 : Int32)).2 2) 4 p0 (fun x9 => (if x9 = (-9 : Int32) then ((fX5_lost (zzi u 0 (0 : Int32)) (1 : Int32)).bind (fun r18 => (some (r18.1, r18.2)))) else (zzga ((zzi u 0 (0 : Int32)).2 3) 4 p0 (fun x12 => ((fX5_within p1 (0 : Int32) (x12 - (1 : Int32))).bind (fun r13 => (if r13 = 0 then ((fX5_lost (zzi u 0 (0 : Int32)) (3 : Int32)).bind (fun r17 => (some (r17.1, r17.2)))) else (zzga ((zzi u 0 (0 : Int32)).2 4) 240 (((60 : Int32) * p0) + p1) (fun x16 => (some ((x16.toInt64), (zzi u 0 (0 : Int32)))))))))))))) else (zzga ((zzi u 0 (0 : Int32)).2 2) 4 p0 (fun x20 => (if x20 = p2 then (zzga ((zzi u 0 (0 : Int32)).2 2) 4 p0 (fun x23 => (if x23 = (-9 : Int32) then ((fX5_lost (zzi u 0 (0 : Int32)) (1 : Int32)).bind (fun r32 => (some (r32.1, r32.2)))) else (zzga ((zzi u 0 (0 : Int32)).2 3) 4 p0 (fun x26 => ((fX5_within p1 (0 : Int32) (x26 - (1 : Int32))).bind (fun r27 => (if r27 = 0 then ((fX5_lost (zzi u 0 (0 : Int32)) (3 : Int32)).bind (fun r31 => (some (r31.1, r31.2)))) else (zzga ((zzi u 0 (0 : Int32)).2 4) 240 (((60 : Int32) * p0) + p1) (fun x30 => (some ((x30.toInt64), (zzi u 0 (0 : Int32)))))))))))))) else ((fX5_lost (zzi u 0 (0 : Int32)) (2 : Int32)).bind (fun r33 => (some (r33.1, r33.2))))))))))))))))
set_option maxHeartbeats 4000000 in
set_option maxRecDepth 100000 in
theorem kX5_cell (l : Launch) (g : zzG) (q : Nat → Nat) (sz : Nat) (u : zzS) (p0 : Int32) (p1 : Int32) (p2 : Int32) (x : Int64 × zzS) (hf : fX5_cell u p0 p1 p2 = some x) : zzL l g yX5_cell wsX5_cell rX5_cell [.ref (q 0), .int p0, .int p1, .int p2] (zzY g q u) (zzY g q x.2) sz x.1 := by
  refine zz_ml (cc := cX5_cell) (mL := 4) (own := RX5) (fun x : Int64 × zzS => x.1) (fun x : Int64 × zzS => (zzY g q x.2)) x (by decide) rfl rfl (Nat.le_of_ble_eq_true rfl) ?_
  intro p e s m below meth c A Q ls C ret hP hD hS hl
  have hl : lv_has ls 4 [(0, .ref (q 0)), (1, .int p0), (2, .int p1), (3, .int p2)] := hl
  have hx := C.1.1
  have hb := C.1.2.1
  have hml := C.1.2.2.1
  have hown := C.1.2.2.2.1
  have hts := C.1.2.2.2.2
  have hK := C.2.1
  have iX5 : ∀ w ∈ wsX50, w ∈ wsX5_cell := fun _ h => List.mem_cons_of_mem _ (List.mem_append_right _ h)
  unfold fX5_cell at hf
  refine lv_aload_n hx hb dX5_cell_0 rfl (lv_at hl 0 rfl) ?_
  refine lv_iconst (v := (0 : Int32)) hx hb dX5_cell_1 (by decide) ?_
  refine va_put (D := g.1) (ci := 5) (v := .int (0 : Int32)) (ty := .int) (C := RX5) (T := TX5) (N := 29) hx hb hts iX5 tyX5 tyX5_ok nmX5 hown hK hP hD hS 0 rfl rfl 0 (by decide) (zz_mem hts 1 rfl) (fun _ h9 => h9) rfl (tyX5_ok 0 (by decide)) rfl rfl (Nat.le_of_ble_eq_true rfl) dX5_cell_2 (fun H locs hP hD hS => ?_)
  have hP : va_P g.1 vwCl (zzY g q (zzi u 0 (0 : Int32))) H := Eq.mp (congrArg (fun w => va_P g.1 vwCl w H) (zyo_0_0 g q u (0 : Int32))) hP
  have hD : va_D A (zzY g q (zzi u 0 (0 : Int32))) := Eq.mp (congrArg (va_D A) (zyo_0_0 g q u (0 : Int32))) hD
  refine lv_iload_n hx hb dX5_cell_5 rfl (lv_at hl 1 rfl) ?_
  obtain ⟨r1, hc1, hf⟩ := zz_bs hf
  refine zz_cSz C hP hD hS (kX5_isSheet l g (zzY g q (zzi u 0 (0 : Int32))) _ p0 r1 hc1) gX5_cell_X5_isSheet mX5_isSheet (by decide) ⟨Nat.zero_le _, Nat.zero_le _⟩ rfl (rest := []) rfl hl.1 (Nat.le_of_ble_eq_true rfl) dX5_cell_6 (fun hz1 H locs hP hD hS => ?_)
  refine lv_if_eq (tgt := 19) hx hb dX5_cell_9 (by decide) (fun c2 => ?_) (fun c2 => ?_)
  · have hf := zz_t c2 hf
    refine lv_ldc2 (v := ((-9223372036854775808) : Int64)) hx hb hown (zz_mem hts 2 rfl) dX5_cell_19 ?_
    exact ret _ _ _ _ (((-9223372036854775808) : Int64), (zzi u 0 (0 : Int32))) hf dX5_cell_22 hP hD hS
  · have hf := zz_f c2 hf
    refine lv_iload_n hx hb dX5_cell_12 rfl (lv_at hl 3 rfl) ?_
    obtain ⟨r3, hc3, hf⟩ := zz_bs hf
    refine zz_cSz C hP hD hS (kX5_isSort l g (zzY g q (zzi u 0 (0 : Int32))) _ p2 r3 hc3) gX5_cell_X5_isSort mX5_isSort (by decide) ⟨Nat.zero_le _, Nat.zero_le _⟩ rfl (rest := []) rfl hl.1 (Nat.le_of_ble_eq_true rfl) dX5_cell_13 (fun hz3 H locs hP hD hS => ?_)
    refine lv_if_ne (tgt := 23) hx hb dX5_cell_16 (by decide) (fun c4 => ?_) (fun c4 => ?_)
    · have hf := zz_f c4 hf
      refine lv_aload_n hx hb dX5_cell_23 rfl (lv_at hl 0 rfl) ?_
      refine va_get (D := g.1) (ci := 5) (v := .ref (q 2)) (C := RX5) (T := TX5) (N := 29) hx hb hts iX5 hown hK hP 0 rfl rfl 2 (by decide) (zz_mem hts 3 rfl) (fun _ h9 => h9) rfl dX5_cell_24 ?_
      refine lv_iload_n hx hb dX5_cell_27 rfl (lv_at hl 1 rfl) ?_
      obtain ⟨x6, h5, ex6, hf⟩ := zz_gx hf
      refine zz_iald hx hb hK hP 1 0 rfl rfl h5 ex6 dX5_cell_28 ?_
      refine lv_bipush (v := (-9 : Int32)) hx hb dX5_cell_29 (by decide) ?_
      refine lv_icmp_eq (tgt := 50) hx hb dX5_cell_31 (by decide) (fun c7 => ?_) (fun c7 => ?_)
      · have hf := zz_t c7 hf
        refine lv_aload_n hx hb dX5_cell_50 rfl (lv_at hl 0 rfl) ?_
        refine va_get (D := g.1) (ci := 5) (v := .ref (q 2)) (C := RX5) (T := TX5) (N := 29) hx hb hts iX5 hown hK hP 0 rfl rfl 2 (by decide) (zz_mem hts 3 rfl) (fun _ h9 => h9) rfl dX5_cell_51 ?_
        refine lv_iload_n hx hb dX5_cell_54 rfl (lv_at hl 1 rfl) ?_
        obtain ⟨x9, h8, ex9, hf⟩ := zz_gx hf
        refine zz_iald hx hb hK hP 1 0 rfl rfl h8 ex9 dX5_cell_55 ?_
        refine lv_bipush (v := (-9 : Int32)) hx hb dX5_cell_56 (by decide) ?_
        refine lv_icmp_ne (tgt := 67) hx hb dX5_cell_58 (by decide) (fun c10 => ?_) (fun c10 => ?_)
        · have hf := zz_f c10 hf
          refine lv_iload_n hx hb dX5_cell_67 rfl (lv_at hl 2 rfl) ?_
          refine lv_iconst (v := (0 : Int32)) hx hb dX5_cell_68 (by decide) ?_
          refine lv_aload_n hx hb dX5_cell_69 rfl (lv_at hl 0 rfl) ?_
          refine va_get (D := g.1) (ci := 5) (v := .ref (q 3)) (C := RX5) (T := TX5) (N := 29) hx hb hts iX5 hown hK hP 0 rfl rfl 3 (by decide) (zz_mem hts 4 rfl) (fun _ h9 => h9) rfl dX5_cell_70 ?_
          refine lv_iload_n hx hb dX5_cell_73 rfl (lv_at hl 1 rfl) ?_
          obtain ⟨x12, h11, ex12, hf⟩ := zz_gx hf
          refine zz_iald hx hb hK hP 2 0 rfl rfl h11 ex12 dX5_cell_74 ?_
          refine lv_iconst (v := (1 : Int32)) hx hb dX5_cell_75 (by decide) ?_
          refine lv_isub hx hb dX5_cell_76 ?_
          obtain ⟨r13, hc13, hf⟩ := zz_bs hf
          refine zz_cSz C hP hD hS (kX5_within l g (zzY g q (zzi u 0 (0 : Int32))) _ p1 (0 : Int32) (x12 - (1 : Int32)) r13 hc13) gX5_cell_X5_within mX5_within (by decide) ⟨Nat.zero_le _, Nat.zero_le _⟩ rfl (rest := []) rfl hl.1 (Nat.le_of_ble_eq_true rfl) dX5_cell_77 (fun hz13 H locs hP hD hS => ?_)
          refine lv_if_ne (tgt := 89) hx hb dX5_cell_80 (by decide) (fun c14 => ?_) (fun c14 => ?_)
          · have hf := zz_f c14 hf
            refine lv_aload_n hx hb dX5_cell_89 rfl (lv_at hl 0 rfl) ?_
            refine va_get (D := g.1) (ci := 5) (v := .ref (q 4)) (C := RX5) (T := TX5) (N := 29) hx hb hts iX5 hown hK hP 0 rfl rfl 4 (by decide) (zz_mem hts 5 rfl) (fun _ h9 => h9) rfl dX5_cell_90 ?_
            refine lv_bipush (v := (60 : Int32)) hx hb dX5_cell_93 (by decide) ?_
            refine lv_iload_n hx hb dX5_cell_95 rfl (lv_at hl 1 rfl) ?_
            refine lv_imul hx hb dX5_cell_96 ?_
            refine lv_iload_n hx hb dX5_cell_97 rfl (lv_at hl 2 rfl) ?_
            refine lv_iadd hx hb dX5_cell_98 ?_
            obtain ⟨x16, h15, ex16, hf⟩ := zz_gx hf
            refine zz_iald hx hb hK hP 3 0 rfl rfl h15 ex16 dX5_cell_99 ?_
            refine lv_i2l hx hb dX5_cell_100 rfl ?_
            exact ret _ _ _ _ ((x16.toInt64), (zzi u 0 (0 : Int32))) hf dX5_cell_101 hP hD hS
          · have hf := zz_t c14 hf
            refine lv_aload_n hx hb dX5_cell_83 rfl (lv_at hl 0 rfl) ?_
            refine lv_iconst (v := (3 : Int32)) hx hb dX5_cell_84 (by decide) ?_
            obtain ⟨r17, hc17, hf⟩ := zz_bs hf
            refine zz_cVl C hP hD hS (kX5_lost l g q _ (zzi u 0 (0 : Int32)) (3 : Int32) r17 hc17) gX5_cell_X5_lost mX5_lost (by decide) ⟨Nat.zero_le _, Nat.zero_le _⟩ 0 rfl rfl rfl rfl (rest := []) rfl hl.1 (Nat.le_of_ble_eq_true rfl) dX5_cell_85 (fun H locs hP hD hS => ?_)
            exact ret _ _ _ _ (r17.1, r17.2) hf dX5_cell_88 hP hD hS
        · have hf := zz_t c10 hf
          refine lv_aload_n hx hb dX5_cell_61 rfl (lv_at hl 0 rfl) ?_
          refine lv_iconst (v := (1 : Int32)) hx hb dX5_cell_62 (by decide) ?_
          obtain ⟨r18, hc18, hf⟩ := zz_bs hf
          refine zz_cVl C hP hD hS (kX5_lost l g q _ (zzi u 0 (0 : Int32)) (1 : Int32) r18 hc18) gX5_cell_X5_lost mX5_lost (by decide) ⟨Nat.zero_le _, Nat.zero_le _⟩ 0 rfl rfl rfl rfl (rest := []) rfl hl.1 (Nat.le_of_ble_eq_true rfl) dX5_cell_63 (fun H locs hP hD hS => ?_)
          exact ret _ _ _ _ (r18.1, r18.2) hf dX5_cell_66 hP hD hS
      · have hf := zz_f c7 hf
        refine lv_aload_n hx hb dX5_cell_34 rfl (lv_at hl 0 rfl) ?_
        refine va_get (D := g.1) (ci := 5) (v := .ref (q 2)) (C := RX5) (T := TX5) (N := 29) hx hb hts iX5 hown hK hP 0 rfl rfl 2 (by decide) (zz_mem hts 3 rfl) (fun _ h9 => h9) rfl dX5_cell_35 ?_
        refine lv_iload_n hx hb dX5_cell_38 rfl (lv_at hl 1 rfl) ?_
        obtain ⟨x20, h19, ex20, hf⟩ := zz_gx hf
        refine zz_iald hx hb hK hP 1 0 rfl rfl h19 ex20 dX5_cell_39 ?_
        refine lv_iload_n hx hb dX5_cell_40 rfl (lv_at hl 3 rfl) ?_
        refine lv_icmp_eq (tgt := 50) hx hb dX5_cell_41 (by decide) (fun c21 => ?_) (fun c21 => ?_)
        · have hf := zz_t c21 hf
          refine lv_aload_n hx hb dX5_cell_50 rfl (lv_at hl 0 rfl) ?_
          refine va_get (D := g.1) (ci := 5) (v := .ref (q 2)) (C := RX5) (T := TX5) (N := 29) hx hb hts iX5 hown hK hP 0 rfl rfl 2 (by decide) (zz_mem hts 3 rfl) (fun _ h9 => h9) rfl dX5_cell_51 ?_
          refine lv_iload_n hx hb dX5_cell_54 rfl (lv_at hl 1 rfl) ?_
          obtain ⟨x23, h22, ex23, hf⟩ := zz_gx hf
          refine zz_iald hx hb hK hP 1 0 rfl rfl h22 ex23 dX5_cell_55 ?_
          refine lv_bipush (v := (-9 : Int32)) hx hb dX5_cell_56 (by decide) ?_
          refine lv_icmp_ne (tgt := 67) hx hb dX5_cell_58 (by decide) (fun c24 => ?_) (fun c24 => ?_)
          · have hf := zz_f c24 hf
            refine lv_iload_n hx hb dX5_cell_67 rfl (lv_at hl 2 rfl) ?_
            refine lv_iconst (v := (0 : Int32)) hx hb dX5_cell_68 (by decide) ?_
            refine lv_aload_n hx hb dX5_cell_69 rfl (lv_at hl 0 rfl) ?_
            refine va_get (D := g.1) (ci := 5) (v := .ref (q 3)) (C := RX5) (T := TX5) (N := 29) hx hb hts iX5 hown hK hP 0 rfl rfl 3 (by decide) (zz_mem hts 4 rfl) (fun _ h9 => h9) rfl dX5_cell_70 ?_
            refine lv_iload_n hx hb dX5_cell_73 rfl (lv_at hl 1 rfl) ?_
            obtain ⟨x26, h25, ex26, hf⟩ := zz_gx hf
            refine zz_iald hx hb hK hP 2 0 rfl rfl h25 ex26 dX5_cell_74 ?_
            refine lv_iconst (v := (1 : Int32)) hx hb dX5_cell_75 (by decide) ?_
            refine lv_isub hx hb dX5_cell_76 ?_
            obtain ⟨r27, hc27, hf⟩ := zz_bs hf
            refine zz_cSz C hP hD hS (kX5_within l g (zzY g q (zzi u 0 (0 : Int32))) _ p1 (0 : Int32) (x26 - (1 : Int32)) r27 hc27) gX5_cell_X5_within mX5_within (by decide) ⟨Nat.zero_le _, Nat.zero_le _⟩ rfl (rest := []) rfl hl.1 (Nat.le_of_ble_eq_true rfl) dX5_cell_77 (fun hz27 H locs hP hD hS => ?_)
            refine lv_if_ne (tgt := 89) hx hb dX5_cell_80 (by decide) (fun c28 => ?_) (fun c28 => ?_)
            · have hf := zz_f c28 hf
              refine lv_aload_n hx hb dX5_cell_89 rfl (lv_at hl 0 rfl) ?_
              refine va_get (D := g.1) (ci := 5) (v := .ref (q 4)) (C := RX5) (T := TX5) (N := 29) hx hb hts iX5 hown hK hP 0 rfl rfl 4 (by decide) (zz_mem hts 5 rfl) (fun _ h9 => h9) rfl dX5_cell_90 ?_
              refine lv_bipush (v := (60 : Int32)) hx hb dX5_cell_93 (by decide) ?_
              refine lv_iload_n hx hb dX5_cell_95 rfl (lv_at hl 1 rfl) ?_
              refine lv_imul hx hb dX5_cell_96 ?_
              refine lv_iload_n hx hb dX5_cell_97 rfl (lv_at hl 2 rfl) ?_
              refine lv_iadd hx hb dX5_cell_98 ?_
              obtain ⟨x30, h29, ex30, hf⟩ := zz_gx hf
              refine zz_iald hx hb hK hP 3 0 rfl rfl h29 ex30 dX5_cell_99 ?_
              refine lv_i2l hx hb dX5_cell_100 rfl ?_
              exact ret _ _ _ _ ((x30.toInt64), (zzi u 0 (0 : Int32))) hf dX5_cell_101 hP hD hS
            · have hf := zz_t c28 hf
              refine lv_aload_n hx hb dX5_cell_83 rfl (lv_at hl 0 rfl) ?_
              refine lv_iconst (v := (3 : Int32)) hx hb dX5_cell_84 (by decide) ?_
              obtain ⟨r31, hc31, hf⟩ := zz_bs hf
              refine zz_cVl C hP hD hS (kX5_lost l g q _ (zzi u 0 (0 : Int32)) (3 : Int32) r31 hc31) gX5_cell_X5_lost mX5_lost (by decide) ⟨Nat.zero_le _, Nat.zero_le _⟩ 0 rfl rfl rfl rfl (rest := []) rfl hl.1 (Nat.le_of_ble_eq_true rfl) dX5_cell_85 (fun H locs hP hD hS => ?_)
              exact ret _ _ _ _ (r31.1, r31.2) hf dX5_cell_88 hP hD hS
          · have hf := zz_t c24 hf
            refine lv_aload_n hx hb dX5_cell_61 rfl (lv_at hl 0 rfl) ?_
            refine lv_iconst (v := (1 : Int32)) hx hb dX5_cell_62 (by decide) ?_
            obtain ⟨r32, hc32, hf⟩ := zz_bs hf
            refine zz_cVl C hP hD hS (kX5_lost l g q _ (zzi u 0 (0 : Int32)) (1 : Int32) r32 hc32) gX5_cell_X5_lost mX5_lost (by decide) ⟨Nat.zero_le _, Nat.zero_le _⟩ 0 rfl rfl rfl rfl (rest := []) rfl hl.1 (Nat.le_of_ble_eq_true rfl) dX5_cell_63 (fun H locs hP hD hS => ?_)
            exact ret _ _ _ _ (r32.1, r32.2) hf dX5_cell_66 hP hD hS
        · have hf := zz_f c21 hf
          refine lv_aload_n hx hb dX5_cell_44 rfl (lv_at hl 0 rfl) ?_
          refine lv_iconst (v := (2 : Int32)) hx hb dX5_cell_45 (by decide) ?_
          obtain ⟨r33, hc33, hf⟩ := zz_bs hf
          refine zz_cVl C hP hD hS (kX5_lost l g q _ (zzi u 0 (0 : Int32)) (2 : Int32) r33 hc33) gX5_cell_X5_lost mX5_lost (by decide) ⟨Nat.zero_le _, Nat.zero_le _⟩ 0 rfl rfl rfl rfl (rest := []) rfl hl.1 (Nat.le_of_ble_eq_true rfl) dX5_cell_46 (fun H locs hP hD hS => ?_)
          exact ret _ _ _ _ (r33.1, r33.2) hf dX5_cell_49 hP hD hS
    · have hf := zz_t c4 hf
      refine lv_ldc2 (v := ((-9223372036854775808) : Int64)) hx hb hown (zz_mem hts 2 rfl) dX5_cell_19 ?_
      exact ret _ _ _ _ (((-9223372036854775808) : Int64), (zzi u 0 (0 : Int32))) hf dX5_cell_22 hP hD hS
abbrev rX5_copy : Room := ({ frames := 2, cells := 0, slots := 0, locals := 42 })
theorem mX5_copy : zzM yX5_copy wsX5_copy cX5_copy 10 (some .int) RX5 5 := ⟨⟨_, rfl⟩, by decide +kernel⟩
def sX5_copy_166 (p0 : Int32) (p1 : Int32) (p2 : Int32) (p3 : Int32) (p4 : Int32) (v29 : Int32 × zzS) : (Int32 × zzS) → ((Int32 × zzS) → Option (Int32 × zzS)) → Option (Int32 × zzS) := fun v30 rec31 => (if p4 ≤ v30.1 then (some (p4, v30.2)) else (if v29.1 = 0 then (zzga (v30.2.2 4) 240 ((((60 : Int32) * p0) + p1) + v30.1) (fun x36 => (zzpa 240 ((((60 : Int32) * p2) + p3) + v30.1) (rec31 ((v30.1 + (1 : Int32)), (zza v30.2 4 ((((60 : Int32) * p2) + p3) + v30.1).toNatClampNeg x36)))))) else (zzga (v30.2.2 4) 240 ((((60 : Int32) * p0) + p1) + ((p4 - (1 : Int32)) - v30.1)) (fun x39 => (zzpa 240 ((((60 : Int32) * p2) + p3) + ((p4 - (1 : Int32)) - v30.1)) (rec31 ((v30.1 + (1 : Int32)), (zza v30.2 4 ((((60 : Int32) * p2) + p3) + ((p4 - (1 : Int32)) - v30.1)).toNatClampNeg x39))))))))
set_option maxHeartbeats 4000000 in
set_option maxRecDepth 100000 in
theorem wX5_copy_166 (l : Launch) (g : zzG) (q : Nat → Nat) (p0 : Int32) (p1 : Int32) (p2 : Int32) (p3 : Int32) (p4 : Int32) (v29 : Int32 × zzS) (x : Int32 × zzS) {p : Program} {e : Env} {s : State} {m : MethodId} {below : List Frame} {meth : Method} {c : Code} {A : Nat → Prop} {Q : State → Prop} (C : zzC g p s m ([.ref (q 0), .int p0, .int p1, .int p2, .int p3, .int p4] : List Value).toArray c cX5_copy 10 RX5 wsX5_copy A) (ret : zzRI l g rX5_copy cX5_copy [.ref (q 0), .int p0, .int p1, .int p2, .int p3, .int p4] (fun x : Int32 × zzS => x.1) (fun x : Int32 × zzS => (zzY g q x.2)) x p e s m below meth c A Q)  (n : Nat) (v30 : Int32 × zzS) (hf : zzlp (sX5_copy_166 p0 p1 p2 p3 p4 v29) n v30 = some x) : ∀ (H : Heap) (locs : List Loc) (ls : Array Slot), va_P g.1 vwCl (zzY g q v30.2) H → va_D A (zzY g q v30.2) → va_S A s.heap H locs → lv_has ls 10 [(0, .ref (q 0)), (1, .int p0), (2, .int p1), (3, .int p2), (4, .int p3), (5, .int p4), (7, .int (v29.1)), (8, .int (v30.1))] → W p l e rX5_copy s m ([.ref (q 0), .int p0, .int p1, .int p2, .int p3, .int p4] : List Value).toArray below meth c H locs 0 0 Q (F0 m 166 ls []) := by
  have hx := C.1.1
  have hb := C.1.2.1
  have hml := C.1.2.2.1
  have hown := C.1.2.2.2.1
  have hts := C.1.2.2.2.2
  have hK := C.2.1
  have iX5 : ∀ w ∈ wsX50, w ∈ wsX5_copy := fun _ h => List.mem_cons_of_mem _ (List.mem_append_right _ h)
  refine zz_lp (P := fun (v30 : Int32 × zzS) => ∀ (H : Heap) (locs : List Loc) (ls : Array Slot), va_P g.1 vwCl (zzY g q v30.2) H → va_D A (zzY g q v30.2) → va_S A s.heap H locs → lv_has ls 10 [(0, .ref (q 0)), (1, .int p0), (2, .int p1), (3, .int p2), (4, .int p3), (5, .int p4), (7, .int (v29.1)), (8, .int (v30.1))] → W p l e rX5_copy s m ([.ref (q 0), .int p0, .int p1, .int p2, .int p3, .int p4] : List Value).toArray below meth c H locs 0 0 Q (F0 m 166 ls [])) (fun v30 rec31 ih32 hf H locs ls hP hD hS hl => ?_) n v30 hf
  unfold sX5_copy_166 at hf
  refine lv_iload hx hb dX5_copy_166 (lv_at hl 7 rfl) ?_
  refine lv_iload hx hb dX5_copy_168 (lv_at hl 5 rfl) ?_
  refine lv_icmp_ge (tgt := 227) hx hb dX5_copy_170 (by decide) (fun c33 => ?_) (fun c33 => ?_)
  · have hf := zz_t c33 hf
    refine lv_iload hx hb dX5_copy_227 (lv_at hl 5 rfl) ?_
    exact ret _ _ _ _ (p4, v30.2) hf dX5_copy_229 hP hD hS
  · have hf := zz_f c33 hf
    refine lv_iload hx hb dX5_copy_173 (lv_at hl 6 rfl) ?_
    refine lv_if_eq (tgt := 188) hx hb dX5_copy_175 (by decide) (fun c34 => ?_) (fun c34 => ?_)
    · have hf := zz_t c34 hf
      refine lv_iload hx hb dX5_copy_188 (lv_at hl 7 rfl) ?_
      refine lv_istore (lv' := [(9, .int (v30.1)), (0, .ref (q 0)), (1, .int p0), (2, .int p1), (3, .int p2), (4, .int p3), (5, .int p4), (7, .int (v29.1)), (8, .int (v30.1))]) hx hb dX5_copy_190 hl (by decide) rfl (fun ls hl => ?_)
      refine lv_aload_n hx hb dX5_copy_192 rfl (lv_at hl 1 rfl) ?_
      refine va_get (D := g.1) (ci := 5) (v := .ref (q 4)) (C := RX5) (T := TX5) (N := 29) hx hb hts iX5 hown hK hP 0 rfl rfl 4 (by decide) (zz_mem hts 4 rfl) (fun _ h9 => h9) rfl dX5_copy_193 ?_
      refine lv_bipush (v := (60 : Int32)) hx hb dX5_copy_196 (by decide) ?_
      refine lv_iload_n hx hb dX5_copy_198 rfl (lv_at hl 4 rfl) ?_
      refine lv_imul hx hb dX5_copy_199 ?_
      refine lv_iload hx hb dX5_copy_200 (lv_at hl 5 rfl) ?_
      refine lv_iadd hx hb dX5_copy_202 ?_
      refine lv_iload hx hb dX5_copy_203 (lv_at hl 0 rfl) ?_
      refine lv_iadd hx hb dX5_copy_205 ?_
      refine lv_aload_n hx hb dX5_copy_206 rfl (lv_at hl 1 rfl) ?_
      refine va_get (D := g.1) (ci := 5) (v := .ref (q 4)) (C := RX5) (T := TX5) (N := 29) hx hb hts iX5 hown hK hP 0 rfl rfl 4 (by decide) (zz_mem hts 4 rfl) (fun _ h9 => h9) rfl dX5_copy_207 ?_
      refine lv_bipush (v := (60 : Int32)) hx hb dX5_copy_210 (by decide) ?_
      refine lv_iload_n hx hb dX5_copy_212 rfl (lv_at hl 2 rfl) ?_
      refine lv_imul hx hb dX5_copy_213 ?_
      refine lv_iload_n hx hb dX5_copy_214 rfl (lv_at hl 3 rfl) ?_
      refine lv_iadd hx hb dX5_copy_215 ?_
      refine lv_iload hx hb dX5_copy_216 (lv_at hl 0 rfl) ?_
      refine lv_iadd hx hb dX5_copy_218 ?_
      obtain ⟨x36, h35, ex36, hf⟩ := zz_gx hf
      refine zz_iald hx hb hK hP 3 0 rfl rfl h35 ex36 dX5_copy_219 ?_
      obtain ⟨h37, hf⟩ := zz_pa hf
      refine va_iast hx hb hK hP hD hS 3 0 rfl rfl h37 dX5_copy_220 (fun H locs hP hD hS => ?_)
      have hP : va_P g.1 vwCl (zzY g q (zza v30.2 4 ((((60 : Int32) * p2) + p3) + v30.1).toNatClampNeg x36)) H := Eq.mp (congrArg (fun w => va_P g.1 vwCl w H) (zya_3 g q v30.2 (upd (v30.2.2 4) ((((60 : Int32) * p2) + p3) + v30.1).toNatClampNeg x36))) hP
      have hD : va_D A (zzY g q (zza v30.2 4 ((((60 : Int32) * p2) + p3) + v30.1).toNatClampNeg x36)) := Eq.mp (congrArg (va_D A) (zya_3 g q v30.2 (upd (v30.2.2 4) ((((60 : Int32) * p2) + p3) + v30.1).toNatClampNeg x36))) hD
      refine lv_iinc (v := (v30.1 + (1 : Int32))) (lv' := [(8, .int (v30.1 + (1 : Int32))), (9, .int (v30.1)), (0, .ref (q 0)), (1, .int p0), (2, .int p1), (3, .int p2), (4, .int p3), (5, .int p4), (7, .int (v29.1))]) hx hb dX5_copy_221 hl (k := 8) rfl rfl (by decide) rfl (fun ls hl => ?_)
      refine lv_goto (tgt := 166) hx hb dX5_copy_224 (by decide) ?_
      exact ih32 _ hf _ _ _ hP hD hS (lv_sub hl [2, 3, 4, 5, 6, 7, 8, 0] rfl)
    · have hf := zz_f c34 hf
      refine lv_iload hx hb dX5_copy_178 (lv_at hl 5 rfl) ?_
      refine lv_iconst (v := (1 : Int32)) hx hb dX5_copy_180 (by decide) ?_
      refine lv_isub hx hb dX5_copy_181 ?_
      refine lv_iload hx hb dX5_copy_182 (lv_at hl 7 rfl) ?_
      refine lv_isub hx hb dX5_copy_184 ?_
      refine lv_goto (tgt := 190) hx hb dX5_copy_185 (by decide) ?_
      refine lv_istore (lv' := [(9, .int ((p4 - (1 : Int32)) - v30.1)), (0, .ref (q 0)), (1, .int p0), (2, .int p1), (3, .int p2), (4, .int p3), (5, .int p4), (7, .int (v29.1)), (8, .int (v30.1))]) hx hb dX5_copy_190 hl (by decide) rfl (fun ls hl => ?_)
      refine lv_aload_n hx hb dX5_copy_192 rfl (lv_at hl 1 rfl) ?_
      refine va_get (D := g.1) (ci := 5) (v := .ref (q 4)) (C := RX5) (T := TX5) (N := 29) hx hb hts iX5 hown hK hP 0 rfl rfl 4 (by decide) (zz_mem hts 4 rfl) (fun _ h9 => h9) rfl dX5_copy_193 ?_
      refine lv_bipush (v := (60 : Int32)) hx hb dX5_copy_196 (by decide) ?_
      refine lv_iload_n hx hb dX5_copy_198 rfl (lv_at hl 4 rfl) ?_
      refine lv_imul hx hb dX5_copy_199 ?_
      refine lv_iload hx hb dX5_copy_200 (lv_at hl 5 rfl) ?_
      refine lv_iadd hx hb dX5_copy_202 ?_
      refine lv_iload hx hb dX5_copy_203 (lv_at hl 0 rfl) ?_
      refine lv_iadd hx hb dX5_copy_205 ?_
      refine lv_aload_n hx hb dX5_copy_206 rfl (lv_at hl 1 rfl) ?_
      refine va_get (D := g.1) (ci := 5) (v := .ref (q 4)) (C := RX5) (T := TX5) (N := 29) hx hb hts iX5 hown hK hP 0 rfl rfl 4 (by decide) (zz_mem hts 4 rfl) (fun _ h9 => h9) rfl dX5_copy_207 ?_
      refine lv_bipush (v := (60 : Int32)) hx hb dX5_copy_210 (by decide) ?_
      refine lv_iload_n hx hb dX5_copy_212 rfl (lv_at hl 2 rfl) ?_
      refine lv_imul hx hb dX5_copy_213 ?_
      refine lv_iload_n hx hb dX5_copy_214 rfl (lv_at hl 3 rfl) ?_
      refine lv_iadd hx hb dX5_copy_215 ?_
      refine lv_iload hx hb dX5_copy_216 (lv_at hl 0 rfl) ?_
      refine lv_iadd hx hb dX5_copy_218 ?_
      obtain ⟨x39, h38, ex39, hf⟩ := zz_gx hf
      refine zz_iald hx hb hK hP 3 0 rfl rfl h38 ex39 dX5_copy_219 ?_
      obtain ⟨h40, hf⟩ := zz_pa hf
      refine va_iast hx hb hK hP hD hS 3 0 rfl rfl h40 dX5_copy_220 (fun H locs hP hD hS => ?_)
      have hP : va_P g.1 vwCl (zzY g q (zza v30.2 4 ((((60 : Int32) * p2) + p3) + ((p4 - (1 : Int32)) - v30.1)).toNatClampNeg x39)) H := Eq.mp (congrArg (fun w => va_P g.1 vwCl w H) (zya_3 g q v30.2 (upd (v30.2.2 4) ((((60 : Int32) * p2) + p3) + ((p4 - (1 : Int32)) - v30.1)).toNatClampNeg x39))) hP
      have hD : va_D A (zzY g q (zza v30.2 4 ((((60 : Int32) * p2) + p3) + ((p4 - (1 : Int32)) - v30.1)).toNatClampNeg x39)) := Eq.mp (congrArg (va_D A) (zya_3 g q v30.2 (upd (v30.2.2 4) ((((60 : Int32) * p2) + p3) + ((p4 - (1 : Int32)) - v30.1)).toNatClampNeg x39))) hD
      refine lv_iinc (v := (v30.1 + (1 : Int32))) (lv' := [(8, .int (v30.1 + (1 : Int32))), (9, .int ((p4 - (1 : Int32)) - v30.1)), (0, .ref (q 0)), (1, .int p0), (2, .int p1), (3, .int p2), (4, .int p3), (5, .int p4), (7, .int (v29.1))]) hx hb dX5_copy_221 hl (k := 8) rfl rfl (by decide) rfl (fun ls hl => ?_)
      refine lv_goto (tgt := 166) hx hb dX5_copy_224 (by decide) ?_
      exact ih32 _ hf _ _ _ hP hD hS (lv_sub hl [2, 3, 4, 5, 6, 7, 8, 0] rfl)
def sX5_copy_161 (p0 : Int32) (p1 : Int32) (p2 : Int32) (p3 : Int32) (p4 : Int32) (v29 : Int32 × zzS) : Option (Int32 × zzS) := (zzlp (sX5_copy_166 p0 p1 p2 p3 p4 v29) zzFU ((0 : Int32), v29.2))
set_option maxHeartbeats 4000000 in
set_option maxRecDepth 100000 in
theorem wX5_copy_161 (l : Launch) (g : zzG) (q : Nat → Nat) (p0 : Int32) (p1 : Int32) (p2 : Int32) (p3 : Int32) (p4 : Int32) (x : Int32 × zzS) {p : Program} {e : Env} {s : State} {m : MethodId} {below : List Frame} {meth : Method} {c : Code} {A : Nat → Prop} {Q : State → Prop} (C : zzC g p s m ([.ref (q 0), .int p0, .int p1, .int p2, .int p3, .int p4] : List Value).toArray c cX5_copy 10 RX5 wsX5_copy A) (ret : zzRI l g rX5_copy cX5_copy [.ref (q 0), .int p0, .int p1, .int p2, .int p3, .int p4] (fun x : Int32 × zzS => x.1) (fun x : Int32 × zzS => (zzY g q x.2)) x p e s m below meth c A Q)  (v29 : Int32 × zzS) (hf : sX5_copy_161 p0 p1 p2 p3 p4 v29 = some x) (H : Heap) (locs : List Loc) (ls : Array Slot) (hP : va_P g.1 vwCl (zzY g q v29.2) H) (hD : va_D A (zzY g q v29.2)) (hS : va_S A s.heap H locs) (hl : lv_has ls 10 [(0, .ref (q 0)), (1, .int p0), (2, .int p1), (3, .int p2), (4, .int p3), (5, .int p4)]) : W p l e rX5_copy s m ([.ref (q 0), .int p0, .int p1, .int p2, .int p3, .int p4] : List Value).toArray below meth c H locs 0 0 Q (F0 m 161 ls [.int (v29.1)]) := by
  have hx := C.1.1
  have hb := C.1.2.1
  have hml := C.1.2.2.1
  have hown := C.1.2.2.2.1
  have hts := C.1.2.2.2.2
  have hK := C.2.1
  have iX5 : ∀ w ∈ wsX50, w ∈ wsX5_copy := fun _ h => List.mem_cons_of_mem _ (List.mem_append_right _ h)
  unfold sX5_copy_161 at hf
  refine lv_istore (lv' := [(7, .int (v29.1)), (0, .ref (q 0)), (1, .int p0), (2, .int p1), (3, .int p2), (4, .int p3), (5, .int p4)]) hx hb dX5_copy_161 hl (by decide) rfl (fun ls hl => ?_)
  refine lv_iconst (v := (0 : Int32)) hx hb dX5_copy_163 (by decide) ?_
  refine lv_istore (lv' := [(8, .int (0 : Int32)), (7, .int (v29.1)), (0, .ref (q 0)), (1, .int p0), (2, .int p1), (3, .int p2), (4, .int p3), (5, .int p4)]) hx hb dX5_copy_164 hl (by decide) rfl (fun ls hl => ?_)
  exact wX5_copy_166 l g q p0 p1 p2 p3 p4 v29 x C ret  _ _ hf _ _ _ hP hD hS (lv_sub hl [2, 3, 4, 5, 6, 7, 1, 0] rfl)
def sX5_copy_110 (p0 : Int32) (p1 : Int32) (p2 : Int32) (p3 : Int32) (p4 : Int32) (v18 : Int32 × zzS) : Option (Int32 × zzS) := (if v18.1 = 0 then ((fX5_fails v18.2 (3 : Int32)).bind (fun r20 => (some (r20.1, r20.2)))) else (zzga (v18.2.2 3) 4 p0 (fun x22 => (if (x22 - p1) < p4 then ((fX5_fails v18.2 (3 : Int32)).bind (fun r24 => (some (r24.1, r24.2)))) else (zzga (v18.2.2 3) 4 p2 (fun x26 => (if p4 ≤ (x26 - p3) then (if p3 ≤ p1 then (sX5_copy_161 p0 p1 p2 p3 p4 ((0 : Int32), v18.2)) else (sX5_copy_161 p0 p1 p2 p3 p4 ((1 : Int32), v18.2))) else ((fX5_fails v18.2 (3 : Int32)).bind (fun r41 => (some (r41.1, r41.2)))))))))))
set_option maxHeartbeats 4000000 in
set_option maxRecDepth 100000 in
theorem wX5_copy_110 (l : Launch) (g : zzG) (q : Nat → Nat) (p0 : Int32) (p1 : Int32) (p2 : Int32) (p3 : Int32) (p4 : Int32) (x : Int32 × zzS) {p : Program} {e : Env} {s : State} {m : MethodId} {below : List Frame} {meth : Method} {c : Code} {A : Nat → Prop} {Q : State → Prop} (C : zzC g p s m ([.ref (q 0), .int p0, .int p1, .int p2, .int p3, .int p4] : List Value).toArray c cX5_copy 10 RX5 wsX5_copy A) (ret : zzRI l g rX5_copy cX5_copy [.ref (q 0), .int p0, .int p1, .int p2, .int p3, .int p4] (fun x : Int32 × zzS => x.1) (fun x : Int32 × zzS => (zzY g q x.2)) x p e s m below meth c A Q)  (v18 : Int32 × zzS) (hf : sX5_copy_110 p0 p1 p2 p3 p4 v18 = some x) (H : Heap) (locs : List Loc) (ls : Array Slot) (hP : va_P g.1 vwCl (zzY g q v18.2) H) (hD : va_D A (zzY g q v18.2)) (hS : va_S A s.heap H locs) (hl : lv_has ls 10 [(0, .ref (q 0)), (1, .int p0), (2, .int p1), (3, .int p2), (4, .int p3), (5, .int p4)]) : W p l e rX5_copy s m ([.ref (q 0), .int p0, .int p1, .int p2, .int p3, .int p4] : List Value).toArray below meth c H locs 0 0 Q (F0 m 110 ls [.int (v18.1)]) := by
  have hx := C.1.1
  have hb := C.1.2.1
  have hml := C.1.2.2.1
  have hown := C.1.2.2.2.1
  have hts := C.1.2.2.2.2
  have hK := C.2.1
  have iX5 : ∀ w ∈ wsX50, w ∈ wsX5_copy := fun _ h => List.mem_cons_of_mem _ (List.mem_append_right _ h)
  unfold sX5_copy_110 at hf
  refine lv_istore (lv' := [(6, .int (v18.1)), (0, .ref (q 0)), (1, .int p0), (2, .int p1), (3, .int p2), (4, .int p3), (5, .int p4)]) hx hb dX5_copy_110 hl (by decide) rfl (fun ls hl => ?_)
  refine lv_iload hx hb dX5_copy_112 (lv_at hl 0 rfl) ?_
  refine lv_if_eq (tgt := 144) hx hb dX5_copy_114 (by decide) (fun c19 => ?_) (fun c19 => ?_)
  · have hf := zz_t c19 hf
    refine lv_aload_n hx hb dX5_copy_144 rfl (lv_at hl 1 rfl) ?_
    refine lv_iconst (v := (3 : Int32)) hx hb dX5_copy_145 (by decide) ?_
    obtain ⟨r20, hc20, hf⟩ := zz_bs hf
    refine zz_cVi C hP hD hS (kX5_fails l g q _ v18.2 (3 : Int32) r20 hc20) gX5_copy_X5_fails mX5_fails (by decide) ⟨Nat.zero_le _, Nat.zero_le _⟩ 0 rfl rfl rfl rfl (rest := []) rfl hl.1 (Nat.le_of_ble_eq_true rfl) dX5_copy_146 (fun H locs hP hD hS => ?_)
    exact ret _ _ _ _ (r20.1, r20.2) hf dX5_copy_149 hP hD hS
  · have hf := zz_f c19 hf
    refine lv_iload hx hb dX5_copy_117 (lv_at hl 6 rfl) ?_
    refine lv_aload_n hx hb dX5_copy_119 rfl (lv_at hl 1 rfl) ?_
    refine va_get (D := g.1) (ci := 5) (v := .ref (q 3)) (C := RX5) (T := TX5) (N := 29) hx hb hts iX5 hown hK hP 0 rfl rfl 3 (by decide) (zz_mem hts 3 rfl) (fun _ h9 => h9) rfl dX5_copy_120 ?_
    refine lv_iload_n hx hb dX5_copy_123 rfl (lv_at hl 2 rfl) ?_
    obtain ⟨x22, h21, ex22, hf⟩ := zz_gx hf
    refine zz_iald hx hb hK hP 2 0 rfl rfl h21 ex22 dX5_copy_124 ?_
    refine lv_iload_n hx hb dX5_copy_125 rfl (lv_at hl 3 rfl) ?_
    refine lv_isub hx hb dX5_copy_126 ?_
    refine lv_icmp_gt (tgt := 144) hx hb dX5_copy_127 (by decide) (fun c23 => ?_) (fun c23 => ?_)
    · have hf := zz_t c23 hf
      refine lv_aload_n hx hb dX5_copy_144 rfl (lv_at hl 1 rfl) ?_
      refine lv_iconst (v := (3 : Int32)) hx hb dX5_copy_145 (by decide) ?_
      obtain ⟨r24, hc24, hf⟩ := zz_bs hf
      refine zz_cVi C hP hD hS (kX5_fails l g q _ v18.2 (3 : Int32) r24 hc24) gX5_copy_X5_fails mX5_fails (by decide) ⟨Nat.zero_le _, Nat.zero_le _⟩ 0 rfl rfl rfl rfl (rest := []) rfl hl.1 (Nat.le_of_ble_eq_true rfl) dX5_copy_146 (fun H locs hP hD hS => ?_)
      exact ret _ _ _ _ (r24.1, r24.2) hf dX5_copy_149 hP hD hS
    · have hf := zz_f c23 hf
      refine lv_iload hx hb dX5_copy_130 (lv_at hl 6 rfl) ?_
      refine lv_aload_n hx hb dX5_copy_132 rfl (lv_at hl 1 rfl) ?_
      refine va_get (D := g.1) (ci := 5) (v := .ref (q 3)) (C := RX5) (T := TX5) (N := 29) hx hb hts iX5 hown hK hP 0 rfl rfl 3 (by decide) (zz_mem hts 3 rfl) (fun _ h9 => h9) rfl dX5_copy_133 ?_
      refine lv_iload_n hx hb dX5_copy_136 rfl (lv_at hl 4 rfl) ?_
      obtain ⟨x26, h25, ex26, hf⟩ := zz_gx hf
      refine zz_iald hx hb hK hP 2 0 rfl rfl h25 ex26 dX5_copy_137 ?_
      refine lv_iload hx hb dX5_copy_138 (lv_at hl 5 rfl) ?_
      refine lv_isub hx hb dX5_copy_140 ?_
      refine lv_icmp_le (tgt := 150) hx hb dX5_copy_141 (by decide) (fun c27 => ?_) (fun c27 => ?_)
      · have hf := zz_t c27 hf
        refine lv_iload_n hx hb dX5_copy_150 rfl (lv_at hl 3 rfl) ?_
        refine lv_iload hx hb dX5_copy_151 (lv_at hl 5 rfl) ?_
        refine lv_icmp_ge (tgt := 160) hx hb dX5_copy_153 (by decide) (fun c28 => ?_) (fun c28 => ?_)
        · have hf := zz_t c28 hf
          refine lv_iconst (v := (0 : Int32)) hx hb dX5_copy_160 (by decide) ?_
          exact wX5_copy_161 l g q p0 p1 p2 p3 p4 x C ret  ((0 : Int32), v18.2) hf _ _ _ hP hD hS (lv_sub hl [1, 2, 3, 4, 5, 6] rfl)
        · have hf := zz_f c28 hf
          refine lv_iconst (v := (1 : Int32)) hx hb dX5_copy_156 (by decide) ?_
          refine lv_goto (tgt := 161) hx hb dX5_copy_157 (by decide) ?_
          exact wX5_copy_161 l g q p0 p1 p2 p3 p4 x C ret  ((1 : Int32), v18.2) hf _ _ _ hP hD hS (lv_sub hl [1, 2, 3, 4, 5, 6] rfl)
      · have hf := zz_f c27 hf
        refine lv_aload_n hx hb dX5_copy_144 rfl (lv_at hl 1 rfl) ?_
        refine lv_iconst (v := (3 : Int32)) hx hb dX5_copy_145 (by decide) ?_
        obtain ⟨r41, hc41, hf⟩ := zz_bs hf
        refine zz_cVi C hP hD hS (kX5_fails l g q _ v18.2 (3 : Int32) r41 hc41) gX5_copy_X5_fails mX5_fails (by decide) ⟨Nat.zero_le _, Nat.zero_le _⟩ 0 rfl rfl rfl rfl (rest := []) rfl hl.1 (Nat.le_of_ble_eq_true rfl) dX5_copy_146 (fun H locs hP hD hS => ?_)
        exact ret _ _ _ _ (r41.1, r41.2) hf dX5_copy_149 hP hD hS
def fX5_copy (u : zzS) (p0 : Int32) (p1 : Int32) (p2 : Int32) (p3 : Int32) (p4 : Int32) : Option (Int32 × zzS) := ((fX5_isSheet p0).bind (fun r1 => (if r1 = 0 then (some ((-1 : Int32), (zzi u 0 (0 : Int32)))) else ((fX5_isSheet p2).bind (fun r3 => (if r3 = 0 then (some ((-1 : Int32), (zzi u 0 (0 : Int32)))) else (zzga ((zzi u 0 (0 : Int32)).2 2) 4 p0 (fun x6 => (if x6 = (-9 : Int32) then ((fX5_fails (zzi u 0 (0 : Int32)) (1 : Int32)).bind (fun r8 => (some (r8.1, r8.2)))) else (zzga ((zzi u 0 (0 : Int32)).2 2) 4 p2 (fun x10 => (if x10 = (-9 : Int32) then ((fX5_fails (zzi u 0 (0 : Int32)) (1 : Int32)).bind (fun r51 => (some (r51.1, r51.2)))) else (zzga ((zzi u 0 (0 : Int32)).2 2) 4 p0 (fun x13 => (zzga ((zzi u 0 (0 : Int32)).2 2) 4 p2 (fun x15 => (if x13 = x15 then (if p1 < 0 then (sX5_copy_110 p0 p1 p2 p3 p4 ((0 : Int32), (zzi u 0 (0 : Int32)))) else (if p3 < 0 then (sX5_copy_110 p0 p1 p2 p3 p4 ((0 : Int32), (zzi u 0 (0 : Int32)))) else (if p4 < 0 then (sX5_copy_110 p0 p1 p2 p3 p4 ((0 : Int32), (zzi u 0 (0 : Int32)))) else (zzga ((zzi u 0 (0 : Int32)).2 3) 4 p0 (fun x45 => (if x45 < p1 then (sX5_copy_110 p0 p1 p2 p3 p4 ((0 : Int32), (zzi u 0 (0 : Int32)))) else (zzga ((zzi u 0 (0 : Int32)).2 3) 4 p2 (fun x48 => (if x48 < p3 then (sX5_copy_110 p0 p1 p2 p3 p4 ((0 : Int32), (zzi u 0 (0 : Int32)))) else (sX5_copy_110 p0 p1 p2 p3 p4 ((1 : Int32), (zzi u 0 (0 : Int32))))))))))))) else ((fX5_fails (zzi u 0 (0 : Int32)) (2 : Int32)).bind (fun r50 => (some (r50.1, r50.2)))))))))))))))))))))
set_option maxHeartbeats 4000000 in
set_option maxRecDepth 100000 in
theorem kX5_copy (l : Launch) (g : zzG) (q : Nat → Nat) (sz : Nat) (u : zzS) (p0 : Int32) (p1 : Int32) (p2 : Int32) (p3 : Int32) (p4 : Int32) (x : Int32 × zzS) (hf : fX5_copy u p0 p1 p2 p3 p4 = some x) : zzI l g yX5_copy wsX5_copy rX5_copy [.ref (q 0), .int p0, .int p1, .int p2, .int p3, .int p4] (zzY g q u) (zzY g q x.2) sz x.1 := by
  refine zz_mi (cc := cX5_copy) (mL := 10) (own := RX5) (fun x : Int32 × zzS => x.1) (fun x : Int32 × zzS => (zzY g q x.2)) x (by decide) rfl rfl (Nat.le_of_ble_eq_true rfl) ?_
  intro p e s m below meth c A Q ls C ret hP hD hS hl
  have hl : lv_has ls 10 [(0, .ref (q 0)), (1, .int p0), (2, .int p1), (3, .int p2), (4, .int p3), (5, .int p4)] := hl
  have hx := C.1.1
  have hb := C.1.2.1
  have hml := C.1.2.2.1
  have hown := C.1.2.2.2.1
  have hts := C.1.2.2.2.2
  have hK := C.2.1
  have iX5 : ∀ w ∈ wsX50, w ∈ wsX5_copy := fun _ h => List.mem_cons_of_mem _ (List.mem_append_right _ h)
  unfold fX5_copy at hf
  refine lv_aload_n hx hb dX5_copy_0 rfl (lv_at hl 0 rfl) ?_
  refine lv_iconst (v := (0 : Int32)) hx hb dX5_copy_1 (by decide) ?_
  refine va_put (D := g.1) (ci := 5) (v := .int (0 : Int32)) (ty := .int) (C := RX5) (T := TX5) (N := 29) hx hb hts iX5 tyX5 tyX5_ok nmX5 hown hK hP hD hS 0 rfl rfl 0 (by decide) (zz_mem hts 1 rfl) (fun _ h9 => h9) rfl (tyX5_ok 0 (by decide)) rfl rfl (Nat.le_of_ble_eq_true rfl) dX5_copy_2 (fun H locs hP hD hS => ?_)
  have hP : va_P g.1 vwCl (zzY g q (zzi u 0 (0 : Int32))) H := Eq.mp (congrArg (fun w => va_P g.1 vwCl w H) (zyo_0_0 g q u (0 : Int32))) hP
  have hD : va_D A (zzY g q (zzi u 0 (0 : Int32))) := Eq.mp (congrArg (va_D A) (zyo_0_0 g q u (0 : Int32))) hD
  refine lv_iload_n hx hb dX5_copy_5 rfl (lv_at hl 1 rfl) ?_
  obtain ⟨r1, hc1, hf⟩ := zz_bs hf
  refine zz_cSz C hP hD hS (kX5_isSheet l g (zzY g q (zzi u 0 (0 : Int32))) _ p0 r1 hc1) gX5_copy_X5_isSheet mX5_isSheet (by decide) ⟨Nat.zero_le _, Nat.zero_le _⟩ rfl (rest := []) rfl hl.1 (Nat.le_of_ble_eq_true rfl) dX5_copy_6 (fun hz1 H locs hP hD hS => ?_)
  refine lv_if_eq (tgt := 19) hx hb dX5_copy_9 (by decide) (fun c2 => ?_) (fun c2 => ?_)
  · have hf := zz_t c2 hf
    refine lv_iconst (v := (-1 : Int32)) hx hb dX5_copy_19 (by decide) ?_
    exact ret _ _ _ _ ((-1 : Int32), (zzi u 0 (0 : Int32))) hf dX5_copy_20 hP hD hS
  · have hf := zz_f c2 hf
    refine lv_iload_n hx hb dX5_copy_12 rfl (lv_at hl 3 rfl) ?_
    obtain ⟨r3, hc3, hf⟩ := zz_bs hf
    refine zz_cSz C hP hD hS (kX5_isSheet l g (zzY g q (zzi u 0 (0 : Int32))) _ p2 r3 hc3) gX5_copy_X5_isSheet mX5_isSheet (by decide) ⟨Nat.zero_le _, Nat.zero_le _⟩ rfl (rest := []) rfl hl.1 (Nat.le_of_ble_eq_true rfl) dX5_copy_13 (fun hz3 H locs hP hD hS => ?_)
    refine lv_if_ne (tgt := 21) hx hb dX5_copy_16 (by decide) (fun c4 => ?_) (fun c4 => ?_)
    · have hf := zz_f c4 hf
      refine lv_aload_n hx hb dX5_copy_21 rfl (lv_at hl 0 rfl) ?_
      refine va_get (D := g.1) (ci := 5) (v := .ref (q 2)) (C := RX5) (T := TX5) (N := 29) hx hb hts iX5 hown hK hP 0 rfl rfl 2 (by decide) (zz_mem hts 2 rfl) (fun _ h9 => h9) rfl dX5_copy_22 ?_
      refine lv_iload_n hx hb dX5_copy_25 rfl (lv_at hl 1 rfl) ?_
      obtain ⟨x6, h5, ex6, hf⟩ := zz_gx hf
      refine zz_iald hx hb hK hP 1 0 rfl rfl h5 ex6 dX5_copy_26 ?_
      refine lv_bipush (v := (-9 : Int32)) hx hb dX5_copy_27 (by decide) ?_
      refine lv_icmp_eq (tgt := 43) hx hb dX5_copy_29 (by decide) (fun c7 => ?_) (fun c7 => ?_)
      · have hf := zz_t c7 hf
        refine lv_aload_n hx hb dX5_copy_43 rfl (lv_at hl 0 rfl) ?_
        refine lv_iconst (v := (1 : Int32)) hx hb dX5_copy_44 (by decide) ?_
        obtain ⟨r8, hc8, hf⟩ := zz_bs hf
        refine zz_cVi C hP hD hS (kX5_fails l g q _ (zzi u 0 (0 : Int32)) (1 : Int32) r8 hc8) gX5_copy_X5_fails mX5_fails (by decide) ⟨Nat.zero_le _, Nat.zero_le _⟩ 0 rfl rfl rfl rfl (rest := []) rfl hl.1 (Nat.le_of_ble_eq_true rfl) dX5_copy_45 (fun H locs hP hD hS => ?_)
        exact ret _ _ _ _ (r8.1, r8.2) hf dX5_copy_48 hP hD hS
      · have hf := zz_f c7 hf
        refine lv_aload_n hx hb dX5_copy_32 rfl (lv_at hl 0 rfl) ?_
        refine va_get (D := g.1) (ci := 5) (v := .ref (q 2)) (C := RX5) (T := TX5) (N := 29) hx hb hts iX5 hown hK hP 0 rfl rfl 2 (by decide) (zz_mem hts 2 rfl) (fun _ h9 => h9) rfl dX5_copy_33 ?_
        refine lv_iload_n hx hb dX5_copy_36 rfl (lv_at hl 3 rfl) ?_
        obtain ⟨x10, h9, ex10, hf⟩ := zz_gx hf
        refine zz_iald hx hb hK hP 1 0 rfl rfl h9 ex10 dX5_copy_37 ?_
        refine lv_bipush (v := (-9 : Int32)) hx hb dX5_copy_38 (by decide) ?_
        refine lv_icmp_ne (tgt := 49) hx hb dX5_copy_40 (by decide) (fun c11 => ?_) (fun c11 => ?_)
        · have hf := zz_f c11 hf
          refine lv_aload_n hx hb dX5_copy_49 rfl (lv_at hl 0 rfl) ?_
          refine va_get (D := g.1) (ci := 5) (v := .ref (q 2)) (C := RX5) (T := TX5) (N := 29) hx hb hts iX5 hown hK hP 0 rfl rfl 2 (by decide) (zz_mem hts 2 rfl) (fun _ h9 => h9) rfl dX5_copy_50 ?_
          refine lv_iload_n hx hb dX5_copy_53 rfl (lv_at hl 1 rfl) ?_
          obtain ⟨x13, h12, ex13, hf⟩ := zz_gx hf
          refine zz_iald hx hb hK hP 1 0 rfl rfl h12 ex13 dX5_copy_54 ?_
          refine lv_aload_n hx hb dX5_copy_55 rfl (lv_at hl 0 rfl) ?_
          refine va_get (D := g.1) (ci := 5) (v := .ref (q 2)) (C := RX5) (T := TX5) (N := 29) hx hb hts iX5 hown hK hP 0 rfl rfl 2 (by decide) (zz_mem hts 2 rfl) (fun _ h9 => h9) rfl dX5_copy_56 ?_
          refine lv_iload_n hx hb dX5_copy_59 rfl (lv_at hl 3 rfl) ?_
          obtain ⟨x15, h14, ex15, hf⟩ := zz_gx hf
          refine zz_iald hx hb hK hP 1 0 rfl rfl h14 ex15 dX5_copy_60 ?_
          refine lv_icmp_eq (tgt := 70) hx hb dX5_copy_61 (by decide) (fun c16 => ?_) (fun c16 => ?_)
          · have hf := zz_t c16 hf
            refine lv_iload_n hx hb dX5_copy_70 rfl (lv_at hl 2 rfl) ?_
            refine lv_if_lt (tgt := 109) hx hb dX5_copy_71 (by decide) (fun c17 => ?_) (fun c17 => ?_)
            · have hf := zz_t c17 hf
              refine lv_iconst (v := (0 : Int32)) hx hb dX5_copy_109 (by decide) ?_
              exact wX5_copy_110 l g q p0 p1 p2 p3 p4 x C ret  ((0 : Int32), (zzi u 0 (0 : Int32))) hf _ _ _ hP hD hS (lv_sub hl [0, 1, 2, 3, 4, 5] rfl)
            · have hf := zz_f c17 hf
              refine lv_iload hx hb dX5_copy_74 (lv_at hl 4 rfl) ?_
              refine lv_if_lt (tgt := 109) hx hb dX5_copy_76 (by decide) (fun c42 => ?_) (fun c42 => ?_)
              · have hf := zz_t c42 hf
                refine lv_iconst (v := (0 : Int32)) hx hb dX5_copy_109 (by decide) ?_
                exact wX5_copy_110 l g q p0 p1 p2 p3 p4 x C ret  ((0 : Int32), (zzi u 0 (0 : Int32))) hf _ _ _ hP hD hS (lv_sub hl [0, 1, 2, 3, 4, 5] rfl)
              · have hf := zz_f c42 hf
                refine lv_iload hx hb dX5_copy_79 (lv_at hl 5 rfl) ?_
                refine lv_if_lt (tgt := 109) hx hb dX5_copy_81 (by decide) (fun c43 => ?_) (fun c43 => ?_)
                · have hf := zz_t c43 hf
                  refine lv_iconst (v := (0 : Int32)) hx hb dX5_copy_109 (by decide) ?_
                  exact wX5_copy_110 l g q p0 p1 p2 p3 p4 x C ret  ((0 : Int32), (zzi u 0 (0 : Int32))) hf _ _ _ hP hD hS (lv_sub hl [0, 1, 2, 3, 4, 5] rfl)
                · have hf := zz_f c43 hf
                  refine lv_iload_n hx hb dX5_copy_84 rfl (lv_at hl 2 rfl) ?_
                  refine lv_aload_n hx hb dX5_copy_85 rfl (lv_at hl 0 rfl) ?_
                  refine va_get (D := g.1) (ci := 5) (v := .ref (q 3)) (C := RX5) (T := TX5) (N := 29) hx hb hts iX5 hown hK hP 0 rfl rfl 3 (by decide) (zz_mem hts 3 rfl) (fun _ h9 => h9) rfl dX5_copy_86 ?_
                  refine lv_iload_n hx hb dX5_copy_89 rfl (lv_at hl 1 rfl) ?_
                  obtain ⟨x45, h44, ex45, hf⟩ := zz_gx hf
                  refine zz_iald hx hb hK hP 2 0 rfl rfl h44 ex45 dX5_copy_90 ?_
                  refine lv_icmp_gt (tgt := 109) hx hb dX5_copy_91 (by decide) (fun c46 => ?_) (fun c46 => ?_)
                  · have hf := zz_t c46 hf
                    refine lv_iconst (v := (0 : Int32)) hx hb dX5_copy_109 (by decide) ?_
                    exact wX5_copy_110 l g q p0 p1 p2 p3 p4 x C ret  ((0 : Int32), (zzi u 0 (0 : Int32))) hf _ _ _ hP hD hS (lv_sub hl [0, 1, 2, 3, 4, 5] rfl)
                  · have hf := zz_f c46 hf
                    refine lv_iload hx hb dX5_copy_94 (lv_at hl 4 rfl) ?_
                    refine lv_aload_n hx hb dX5_copy_96 rfl (lv_at hl 0 rfl) ?_
                    refine va_get (D := g.1) (ci := 5) (v := .ref (q 3)) (C := RX5) (T := TX5) (N := 29) hx hb hts iX5 hown hK hP 0 rfl rfl 3 (by decide) (zz_mem hts 3 rfl) (fun _ h9 => h9) rfl dX5_copy_97 ?_
                    refine lv_iload_n hx hb dX5_copy_100 rfl (lv_at hl 3 rfl) ?_
                    obtain ⟨x48, h47, ex48, hf⟩ := zz_gx hf
                    refine zz_iald hx hb hK hP 2 0 rfl rfl h47 ex48 dX5_copy_101 ?_
                    refine lv_icmp_gt (tgt := 109) hx hb dX5_copy_102 (by decide) (fun c49 => ?_) (fun c49 => ?_)
                    · have hf := zz_t c49 hf
                      refine lv_iconst (v := (0 : Int32)) hx hb dX5_copy_109 (by decide) ?_
                      exact wX5_copy_110 l g q p0 p1 p2 p3 p4 x C ret  ((0 : Int32), (zzi u 0 (0 : Int32))) hf _ _ _ hP hD hS (lv_sub hl [0, 1, 2, 3, 4, 5] rfl)
                    · have hf := zz_f c49 hf
                      refine lv_iconst (v := (1 : Int32)) hx hb dX5_copy_105 (by decide) ?_
                      refine lv_goto (tgt := 110) hx hb dX5_copy_106 (by decide) ?_
                      exact wX5_copy_110 l g q p0 p1 p2 p3 p4 x C ret  ((1 : Int32), (zzi u 0 (0 : Int32))) hf _ _ _ hP hD hS (lv_sub hl [0, 1, 2, 3, 4, 5] rfl)
          · have hf := zz_f c16 hf
            refine lv_aload_n hx hb dX5_copy_64 rfl (lv_at hl 0 rfl) ?_
            refine lv_iconst (v := (2 : Int32)) hx hb dX5_copy_65 (by decide) ?_
            obtain ⟨r50, hc50, hf⟩ := zz_bs hf
            refine zz_cVi C hP hD hS (kX5_fails l g q _ (zzi u 0 (0 : Int32)) (2 : Int32) r50 hc50) gX5_copy_X5_fails mX5_fails (by decide) ⟨Nat.zero_le _, Nat.zero_le _⟩ 0 rfl rfl rfl rfl (rest := []) rfl hl.1 (Nat.le_of_ble_eq_true rfl) dX5_copy_66 (fun H locs hP hD hS => ?_)
            exact ret _ _ _ _ (r50.1, r50.2) hf dX5_copy_69 hP hD hS
        · have hf := zz_t c11 hf
          refine lv_aload_n hx hb dX5_copy_43 rfl (lv_at hl 0 rfl) ?_
          refine lv_iconst (v := (1 : Int32)) hx hb dX5_copy_44 (by decide) ?_
          obtain ⟨r51, hc51, hf⟩ := zz_bs hf
          refine zz_cVi C hP hD hS (kX5_fails l g q _ (zzi u 0 (0 : Int32)) (1 : Int32) r51 hc51) gX5_copy_X5_fails mX5_fails (by decide) ⟨Nat.zero_le _, Nat.zero_le _⟩ 0 rfl rfl rfl rfl (rest := []) rfl hl.1 (Nat.le_of_ble_eq_true rfl) dX5_copy_45 (fun H locs hP hD hS => ?_)
          exact ret _ _ _ _ (r51.1, r51.2) hf dX5_copy_48 hP hD hS
    · have hf := zz_t c4 hf
      refine lv_iconst (v := (-1 : Int32)) hx hb dX5_copy_19 (by decide) ?_
      exact ret _ _ _ _ ((-1 : Int32), (zzi u 0 (0 : Int32))) hf dX5_copy_20 hP hD hS
abbrev rX5_begins : Room := ({ frames := 0, cells := 0, slots := 0, locals := 0 })
theorem mX5_begins : zzM yX5_begins wsX5_begins cX5_begins 2 none RX5 1 := ⟨⟨_, rfl⟩, by decide +kernel⟩
def fX5_begins (u : zzS) (p0 : Int32) : Option zzS := (some (zzi u 1 (((31 : Int32) * (u.1 1)) + p0)))
set_option maxHeartbeats 4000000 in
set_option maxRecDepth 100000 in
theorem kX5_begins (l : Launch) (g : zzG) (q : Nat → Nat) (sz : Nat) (u : zzS) (p0 : Int32) (x : zzS) (hf : fX5_begins u p0 = some x) : zzV l g yX5_begins wsX5_begins rX5_begins [.ref (q 0), .int p0] (zzY g q u) (zzY g q x) sz := by
  refine zz_mv (cc := cX5_begins) (mL := 2) (own := RX5) (fun x : zzS => (zzY g q x)) x (by decide) rfl rfl (Nat.le_of_ble_eq_true rfl) ?_
  intro p e s m below meth c A Q ls C ret hP hD hS hl
  have hl : lv_has ls 2 [(0, .ref (q 0)), (1, .int p0)] := hl
  have hx := C.1.1
  have hb := C.1.2.1
  have hml := C.1.2.2.1
  have hown := C.1.2.2.2.1
  have hts := C.1.2.2.2.2
  have hK := C.2.1
  have iX5 : ∀ w ∈ wsX50, w ∈ wsX5_begins := fun _ h => List.mem_cons_of_mem _ (List.mem_append_right _ h)
  unfold fX5_begins at hf
  refine lv_aload_n hx hb dX5_begins_0 rfl (lv_at hl 0 rfl) ?_
  refine lv_bipush (v := (31 : Int32)) hx hb dX5_begins_1 (by decide) ?_
  refine lv_aload_n hx hb dX5_begins_3 rfl (lv_at hl 0 rfl) ?_
  refine va_get (D := g.1) (ci := 5) (v := .int (u.1 1)) (C := RX5) (T := TX5) (N := 29) hx hb hts iX5 hown hK hP 0 rfl rfl 1 (by decide) (zz_mem hts 1 rfl) (fun _ h9 => h9) rfl dX5_begins_4 ?_
  refine lv_imul hx hb dX5_begins_7 ?_
  refine lv_iload_n hx hb dX5_begins_8 rfl (lv_at hl 1 rfl) ?_
  refine lv_iadd hx hb dX5_begins_9 ?_
  refine va_put (D := g.1) (ci := 5) (v := .int (((31 : Int32) * (u.1 1)) + p0)) (ty := .int) (C := RX5) (T := TX5) (N := 29) hx hb hts iX5 tyX5 tyX5_ok nmX5 hown hK hP hD hS 0 rfl rfl 1 (by decide) (zz_mem hts 1 rfl) (fun _ h9 => h9) rfl (tyX5_ok 1 (by decide)) rfl rfl (Nat.le_of_ble_eq_true rfl) dX5_begins_10 (fun H locs hP hD hS => ?_)
  have hP : va_P g.1 vwCl (zzY g q (zzi u 1 (((31 : Int32) * (u.1 1)) + p0))) H := Eq.mp (congrArg (fun w => va_P g.1 vwCl w H) (zyo_0_1 g q u (((31 : Int32) * (u.1 1)) + p0))) hP
  have hD : va_D A (zzY g q (zzi u 1 (((31 : Int32) * (u.1 1)) + p0))) := Eq.mp (congrArg (va_D A) (zyo_0_1 g q u (((31 : Int32) * (u.1 1)) + p0))) hD
  exact ret _ _ _ _ (zzi u 1 (((31 : Int32) * (u.1 1)) + p0)) hf dX5_begins_13 hP hD hS
abbrev rX5_tell : Room := ({ frames := 1, cells := 0, slots := 0, locals := 21 })
theorem mX5_tell : zzM yX5_tell wsX5_tell cX5_tell 3 (some .int) RX5 1 := ⟨⟨_, rfl⟩, by decide +kernel⟩
def fX5_tell (u : zzS) (p0 : Int32) : Option (Int32 × zzS) := ((fX5_isStander u p0).bind (fun r1 => (if r1 = 0 then (some ((-1 : Int32), u)) else (zzga (u.2 10) 5 p0 (fun x4 => (zzga (u.2 8) 5 p0 (fun x6 => (if x6 = (1 : Int32) then ((fX5_begins u (2 : Int32)).bind (fun r8 => ((fX5_begins r8 (1 : Int32)).bind (fun r9 => (some ((x4 + (100 : Int32)), r9)))))) else (if x6 = (2 : Int32) then ((fX5_begins u (3 : Int32)).bind (fun r11 => ((fX5_begins r11 (2 : Int32)).bind (fun r12 => ((fX5_begins r12 (1 : Int32)).bind (fun r13 => ((fX5_begins r13 (1 : Int32)).bind (fun r14 => (some ((((2 : Int32) * x4) + (100 : Int32)), r14)))))))))) else ((fX5_begins u (1 : Int32)).bind (fun r15 => (some (x4, r15)))))))))))))
set_option maxHeartbeats 4000000 in
set_option maxRecDepth 100000 in
theorem kX5_tell (l : Launch) (g : zzG) (q : Nat → Nat) (sz : Nat) (u : zzS) (p0 : Int32) (x : Int32 × zzS) (hf : fX5_tell u p0 = some x) : zzI l g yX5_tell wsX5_tell rX5_tell [.ref (q 0), .int p0] (zzY g q u) (zzY g q x.2) sz x.1 := by
  refine zz_mi (cc := cX5_tell) (mL := 3) (own := RX5) (fun x : Int32 × zzS => x.1) (fun x : Int32 × zzS => (zzY g q x.2)) x (by decide) rfl rfl (Nat.le_of_ble_eq_true rfl) ?_
  intro p e s m below meth c A Q ls C ret hP hD hS hl
  have hl : lv_has ls 3 [(0, .ref (q 0)), (1, .int p0)] := hl
  have hx := C.1.1
  have hb := C.1.2.1
  have hml := C.1.2.2.1
  have hown := C.1.2.2.2.1
  have hts := C.1.2.2.2.2
  have hK := C.2.1
  have iX5 : ∀ w ∈ wsX50, w ∈ wsX5_tell := fun _ h => List.mem_cons_of_mem _ (List.mem_append_right _ h)
  unfold fX5_tell at hf
  refine lv_aload_n hx hb dX5_tell_0 rfl (lv_at hl 0 rfl) ?_
  refine lv_iload_n hx hb dX5_tell_1 rfl (lv_at hl 1 rfl) ?_
  obtain ⟨r1, hc1, hf⟩ := zz_bs hf
  refine zz_cVz C hP hD hS (kX5_isStander l g q _ u p0 r1 hc1) gX5_tell_X5_isStander mX5_isStander (by decide) ⟨Nat.zero_le _, Nat.zero_le _⟩ 0 rfl rfl rfl rfl (rest := []) rfl hl.1 (Nat.le_of_ble_eq_true rfl) dX5_tell_2 (fun hz1 H locs hP hD hS => ?_)
  refine lv_if_ne (tgt := 10) hx hb dX5_tell_5 (by decide) (fun c2 => ?_) (fun c2 => ?_)
  · have hf := zz_f c2 hf
    refine lv_aload_n hx hb dX5_tell_10 rfl (lv_at hl 0 rfl) ?_
    refine va_get (D := g.1) (ci := 5) (v := .ref (q 10)) (C := RX5) (T := TX5) (N := 29) hx hb hts iX5 hown hK hP 0 rfl rfl 10 (by decide) (zz_mem hts 1 rfl) (fun _ h9 => h9) rfl dX5_tell_11 ?_
    refine lv_iload_n hx hb dX5_tell_14 rfl (lv_at hl 1 rfl) ?_
    obtain ⟨x4, h3, ex4, hf⟩ := zz_gx hf
    refine zz_iald hx hb hK hP 6 0 rfl rfl h3 ex4 dX5_tell_15 ?_
    refine lv_istore_n (lv' := [(2, .int x4), (0, .ref (q 0)), (1, .int p0)]) hx hb dX5_tell_16 rfl hl (by decide) rfl (fun ls hl => ?_)
    refine lv_aload_n hx hb dX5_tell_17 rfl (lv_at hl 1 rfl) ?_
    refine va_get (D := g.1) (ci := 5) (v := .ref (q 8)) (C := RX5) (T := TX5) (N := 29) hx hb hts iX5 hown hK hP 0 rfl rfl 8 (by decide) (zz_mem hts 2 rfl) (fun _ h9 => h9) rfl dX5_tell_18 ?_
    refine lv_iload_n hx hb dX5_tell_21 rfl (lv_at hl 2 rfl) ?_
    obtain ⟨x6, h5, ex6, hf⟩ := zz_gx hf
    refine zz_iald hx hb hK hP 4 0 rfl rfl h5 ex6 dX5_tell_22 ?_
    by_cases c7 : x6 = (1 : Int32)
    · have hf := zz_t c7 hf
      refine lv_lookup (tgt := 48) (off := 25) hx hb dX5_tell_23 (by decide) (by rw [c7]; decide) (by decide) ?_
      refine lv_aload_n hx hb dX5_tell_48 rfl (lv_at hl 1 rfl) ?_
      refine lv_iconst (v := (2 : Int32)) hx hb dX5_tell_49 (by decide) ?_
      obtain ⟨r8, hc8, hf⟩ := zz_bs hf
      refine zz_cVv C hP hD hS (kX5_begins l g q _ u (2 : Int32) r8 hc8) gX5_tell_X5_begins mX5_begins (by decide) ⟨Nat.zero_le _, Nat.zero_le _⟩ 0 rfl rfl rfl rfl (rest := []) rfl hl.1 (Nat.le_of_ble_eq_true rfl) dX5_tell_50 (fun H locs hP hD hS => ?_)
      refine lv_aload_n hx hb dX5_tell_53 rfl (lv_at hl 1 rfl) ?_
      refine lv_iconst (v := (1 : Int32)) hx hb dX5_tell_54 (by decide) ?_
      obtain ⟨r9, hc9, hf⟩ := zz_bs hf
      refine zz_cVv C hP hD hS (kX5_begins l g q _ r8 (1 : Int32) r9 hc9) gX5_tell_X5_begins mX5_begins (by decide) ⟨Nat.zero_le _, Nat.zero_le _⟩ 0 rfl rfl rfl rfl (rest := []) rfl hl.1 (Nat.le_of_ble_eq_true rfl) dX5_tell_55 (fun H locs hP hD hS => ?_)
      refine lv_iload_n hx hb dX5_tell_58 rfl (lv_at hl 0 rfl) ?_
      refine lv_bipush (v := (100 : Int32)) hx hb dX5_tell_59 (by decide) ?_
      refine lv_iadd hx hb dX5_tell_61 ?_
      exact ret _ _ _ _ ((x4 + (100 : Int32)), r9) hf dX5_tell_62 hP hD hS
    · have hf := zz_f c7 hf
      by_cases c10 : x6 = (2 : Int32)
      · have hf := zz_t c10 hf
        refine lv_lookup (tgt := 63) (off := 40) hx hb dX5_tell_23 (by decide) (by rw [c10]; decide) (by decide) ?_
        refine lv_aload_n hx hb dX5_tell_63 rfl (lv_at hl 1 rfl) ?_
        refine lv_iconst (v := (3 : Int32)) hx hb dX5_tell_64 (by decide) ?_
        obtain ⟨r11, hc11, hf⟩ := zz_bs hf
        refine zz_cVv C hP hD hS (kX5_begins l g q _ u (3 : Int32) r11 hc11) gX5_tell_X5_begins mX5_begins (by decide) ⟨Nat.zero_le _, Nat.zero_le _⟩ 0 rfl rfl rfl rfl (rest := []) rfl hl.1 (Nat.le_of_ble_eq_true rfl) dX5_tell_65 (fun H locs hP hD hS => ?_)
        refine lv_aload_n hx hb dX5_tell_68 rfl (lv_at hl 1 rfl) ?_
        refine lv_iconst (v := (2 : Int32)) hx hb dX5_tell_69 (by decide) ?_
        obtain ⟨r12, hc12, hf⟩ := zz_bs hf
        refine zz_cVv C hP hD hS (kX5_begins l g q _ r11 (2 : Int32) r12 hc12) gX5_tell_X5_begins mX5_begins (by decide) ⟨Nat.zero_le _, Nat.zero_le _⟩ 0 rfl rfl rfl rfl (rest := []) rfl hl.1 (Nat.le_of_ble_eq_true rfl) dX5_tell_70 (fun H locs hP hD hS => ?_)
        refine lv_aload_n hx hb dX5_tell_73 rfl (lv_at hl 1 rfl) ?_
        refine lv_iconst (v := (1 : Int32)) hx hb dX5_tell_74 (by decide) ?_
        obtain ⟨r13, hc13, hf⟩ := zz_bs hf
        refine zz_cVv C hP hD hS (kX5_begins l g q _ r12 (1 : Int32) r13 hc13) gX5_tell_X5_begins mX5_begins (by decide) ⟨Nat.zero_le _, Nat.zero_le _⟩ 0 rfl rfl rfl rfl (rest := []) rfl hl.1 (Nat.le_of_ble_eq_true rfl) dX5_tell_75 (fun H locs hP hD hS => ?_)
        refine lv_aload_n hx hb dX5_tell_78 rfl (lv_at hl 1 rfl) ?_
        refine lv_iconst (v := (1 : Int32)) hx hb dX5_tell_79 (by decide) ?_
        obtain ⟨r14, hc14, hf⟩ := zz_bs hf
        refine zz_cVv C hP hD hS (kX5_begins l g q _ r13 (1 : Int32) r14 hc14) gX5_tell_X5_begins mX5_begins (by decide) ⟨Nat.zero_le _, Nat.zero_le _⟩ 0 rfl rfl rfl rfl (rest := []) rfl hl.1 (Nat.le_of_ble_eq_true rfl) dX5_tell_80 (fun H locs hP hD hS => ?_)
        refine lv_iconst (v := (2 : Int32)) hx hb dX5_tell_83 (by decide) ?_
        refine lv_iload_n hx hb dX5_tell_84 rfl (lv_at hl 0 rfl) ?_
        refine lv_imul hx hb dX5_tell_85 ?_
        refine lv_bipush (v := (100 : Int32)) hx hb dX5_tell_86 (by decide) ?_
        refine lv_iadd hx hb dX5_tell_88 ?_
        exact ret _ _ _ _ ((((2 : Int32) * x4) + (100 : Int32)), r14) hf dX5_tell_89 hP hD hS
      · have hf := zz_f c10 hf
        have ac7 : x6.toInt ≠ 1 := fun h => c7 (Int32.toInt_inj.mp (h.trans (by decide)))
        have ac10 : x6.toInt ≠ 2 := fun h => c10 (Int32.toInt_inj.mp (h.trans (by decide)))
        refine lv_lookup (tgt := 90) (off := 67) hx hb dX5_tell_23 (by decide) (zz_lk2 ac7 ac10) (by decide) ?_
        refine lv_aload_n hx hb dX5_tell_90 rfl (lv_at hl 1 rfl) ?_
        refine lv_iconst (v := (1 : Int32)) hx hb dX5_tell_91 (by decide) ?_
        obtain ⟨r15, hc15, hf⟩ := zz_bs hf
        refine zz_cVv C hP hD hS (kX5_begins l g q _ u (1 : Int32) r15 hc15) gX5_tell_X5_begins mX5_begins (by decide) ⟨Nat.zero_le _, Nat.zero_le _⟩ 0 rfl rfl rfl rfl (rest := []) rfl hl.1 (Nat.le_of_ble_eq_true rfl) dX5_tell_92 (fun H locs hP hD hS => ?_)
        refine lv_iload_n hx hb dX5_tell_95 rfl (lv_at hl 0 rfl) ?_
        exact ret _ _ _ _ (x4, r15) hf dX5_tell_96 hP hD hS
  · have hf := zz_t c2 hf
    refine lv_iconst (v := (-1 : Int32)) hx hb dX5_tell_8 (by decide) ?_
    exact ret _ _ _ _ ((-1 : Int32), u) hf dX5_tell_9 hP hD hS
abbrev rX5_tax : Room := ({ frames := 1, cells := 0, slots := 0, locals := 21 })
theorem mX5_tax : zzM yX5_tax wsX5_tax cX5_tax 2 (some .int) RX5 1 := ⟨⟨_, rfl⟩, by decide +kernel⟩
def fX5_tax (u : zzS) (p0 : Int32) : Option (Int32 × zzS) := ((fX5_isStander u p0).bind (fun r1 => (if r1 = 0 then (some ((-1 : Int32), u)) else (zzga (u.2 8) 5 p0 (fun x4 => (if x4 = (2 : Int32) then ((fX5_begins u (5 : Int32)).bind (fun r10 => (zzga (r10.2 8) 5 p0 (fun x12 => (if x12 = (2 : Int32) then (some ((60 : Int32), r10)) else (some (p0, r10))))))) else ((fX5_begins u (4 : Int32)).bind (fun r6 => (zzga (r6.2 8) 5 p0 (fun x8 => (if x8 = (2 : Int32) then (some ((60 : Int32), r6)) else (some (p0, r6)))))))))))))
set_option maxHeartbeats 4000000 in
set_option maxRecDepth 100000 in
theorem kX5_tax (l : Launch) (g : zzG) (q : Nat → Nat) (sz : Nat) (u : zzS) (p0 : Int32) (x : Int32 × zzS) (hf : fX5_tax u p0 = some x) : zzI l g yX5_tax wsX5_tax rX5_tax [.ref (q 0), .int p0] (zzY g q u) (zzY g q x.2) sz x.1 := by
  refine zz_mi (cc := cX5_tax) (mL := 2) (own := RX5) (fun x : Int32 × zzS => x.1) (fun x : Int32 × zzS => (zzY g q x.2)) x (by decide) rfl rfl (Nat.le_of_ble_eq_true rfl) ?_
  intro p e s m below meth c A Q ls C ret hP hD hS hl
  have hl : lv_has ls 2 [(0, .ref (q 0)), (1, .int p0)] := hl
  have hx := C.1.1
  have hb := C.1.2.1
  have hml := C.1.2.2.1
  have hown := C.1.2.2.2.1
  have hts := C.1.2.2.2.2
  have hK := C.2.1
  have iX5 : ∀ w ∈ wsX50, w ∈ wsX5_tax := fun _ h => List.mem_cons_of_mem _ (List.mem_append_right _ h)
  unfold fX5_tax at hf
  refine lv_aload_n hx hb dX5_tax_0 rfl (lv_at hl 0 rfl) ?_
  refine lv_iload_n hx hb dX5_tax_1 rfl (lv_at hl 1 rfl) ?_
  obtain ⟨r1, hc1, hf⟩ := zz_bs hf
  refine zz_cVz C hP hD hS (kX5_isStander l g q _ u p0 r1 hc1) gX5_tax_X5_isStander mX5_isStander (by decide) ⟨Nat.zero_le _, Nat.zero_le _⟩ 0 rfl rfl rfl rfl (rest := []) rfl hl.1 (Nat.le_of_ble_eq_true rfl) dX5_tax_2 (fun hz1 H locs hP hD hS => ?_)
  refine lv_if_ne (tgt := 10) hx hb dX5_tax_5 (by decide) (fun c2 => ?_) (fun c2 => ?_)
  · have hf := zz_f c2 hf
    refine lv_aload_n hx hb dX5_tax_10 rfl (lv_at hl 0 rfl) ?_
    refine lv_aload_n hx hb dX5_tax_11 rfl (lv_at hl 0 rfl) ?_
    refine va_get (D := g.1) (ci := 5) (v := .ref (q 8)) (C := RX5) (T := TX5) (N := 29) hx hb hts iX5 hown hK hP 0 rfl rfl 8 (by decide) (zz_mem hts 1 rfl) (fun _ h9 => h9) rfl dX5_tax_12 ?_
    refine lv_iload_n hx hb dX5_tax_15 rfl (lv_at hl 1 rfl) ?_
    obtain ⟨x4, h3, ex4, hf⟩ := zz_gx hf
    refine zz_iald hx hb hK hP 4 0 rfl rfl h3 ex4 dX5_tax_16 ?_
    refine lv_iconst (v := (2 : Int32)) hx hb dX5_tax_17 (by decide) ?_
    refine lv_icmp_ne (tgt := 25) hx hb dX5_tax_18 (by decide) (fun c5 => ?_) (fun c5 => ?_)
    · have hf := zz_f c5 hf
      refine lv_iconst (v := (4 : Int32)) hx hb dX5_tax_25 (by decide) ?_
      obtain ⟨r6, hc6, hf⟩ := zz_bs hf
      refine zz_cVv C hP hD hS (kX5_begins l g q _ u (4 : Int32) r6 hc6) gX5_tax_X5_begins mX5_begins (by decide) ⟨Nat.zero_le _, Nat.zero_le _⟩ 0 rfl rfl rfl rfl (rest := []) rfl hl.1 (Nat.le_of_ble_eq_true rfl) dX5_tax_26 (fun H locs hP hD hS => ?_)
      refine lv_aload_n hx hb dX5_tax_29 rfl (lv_at hl 0 rfl) ?_
      refine va_get (D := g.1) (ci := 5) (v := .ref (q 8)) (C := RX5) (T := TX5) (N := 29) hx hb hts iX5 hown hK hP 0 rfl rfl 8 (by decide) (zz_mem hts 1 rfl) (fun _ h9 => h9) rfl dX5_tax_30 ?_
      refine lv_iload_n hx hb dX5_tax_33 rfl (lv_at hl 1 rfl) ?_
      obtain ⟨x8, h7, ex8, hf⟩ := zz_gx hf
      refine zz_iald hx hb hK hP 4 0 rfl rfl h7 ex8 dX5_tax_34 ?_
      refine lv_iconst (v := (2 : Int32)) hx hb dX5_tax_35 (by decide) ?_
      refine lv_icmp_ne (tgt := 44) hx hb dX5_tax_36 (by decide) (fun c9 => ?_) (fun c9 => ?_)
      · have hf := zz_f c9 hf
        refine lv_iload_n hx hb dX5_tax_44 rfl (lv_at hl 1 rfl) ?_
        exact ret _ _ _ _ (p0, r6) hf dX5_tax_45 hP hD hS
      · have hf := zz_t c9 hf
        refine lv_bipush (v := (60 : Int32)) hx hb dX5_tax_39 (by decide) ?_
        refine lv_goto (tgt := 45) hx hb dX5_tax_41 (by decide) ?_
        exact ret _ _ _ _ ((60 : Int32), r6) hf dX5_tax_45 hP hD hS
    · have hf := zz_t c5 hf
      refine lv_iconst (v := (5 : Int32)) hx hb dX5_tax_21 (by decide) ?_
      refine lv_goto (tgt := 26) hx hb dX5_tax_22 (by decide) ?_
      obtain ⟨r10, hc10, hf⟩ := zz_bs hf
      refine zz_cVv C hP hD hS (kX5_begins l g q _ u (5 : Int32) r10 hc10) gX5_tax_X5_begins mX5_begins (by decide) ⟨Nat.zero_le _, Nat.zero_le _⟩ 0 rfl rfl rfl rfl (rest := []) rfl hl.1 (Nat.le_of_ble_eq_true rfl) dX5_tax_26 (fun H locs hP hD hS => ?_)
      refine lv_aload_n hx hb dX5_tax_29 rfl (lv_at hl 0 rfl) ?_
      refine va_get (D := g.1) (ci := 5) (v := .ref (q 8)) (C := RX5) (T := TX5) (N := 29) hx hb hts iX5 hown hK hP 0 rfl rfl 8 (by decide) (zz_mem hts 1 rfl) (fun _ h9 => h9) rfl dX5_tax_30 ?_
      refine lv_iload_n hx hb dX5_tax_33 rfl (lv_at hl 1 rfl) ?_
      obtain ⟨x12, h11, ex12, hf⟩ := zz_gx hf
      refine zz_iald hx hb hK hP 4 0 rfl rfl h11 ex12 dX5_tax_34 ?_
      refine lv_iconst (v := (2 : Int32)) hx hb dX5_tax_35 (by decide) ?_
      refine lv_icmp_ne (tgt := 44) hx hb dX5_tax_36 (by decide) (fun c13 => ?_) (fun c13 => ?_)
      · have hf := zz_f c13 hf
        refine lv_iload_n hx hb dX5_tax_44 rfl (lv_at hl 1 rfl) ?_
        exact ret _ _ _ _ (p0, r10) hf dX5_tax_45 hP hD hS
      · have hf := zz_t c13 hf
        refine lv_bipush (v := (60 : Int32)) hx hb dX5_tax_39 (by decide) ?_
        refine lv_goto (tgt := 45) hx hb dX5_tax_41 (by decide) ?_
        exact ret _ _ _ _ ((60 : Int32), r10) hf dX5_tax_45 hP hD hS
  · have hf := zz_t c2 hf
    refine lv_iconst (v := (-1 : Int32)) hx hb dX5_tax_8 (by decide) ?_
    exact ret _ _ _ _ ((-1 : Int32), u) hf dX5_tax_9 hP hD hS
abbrev rX5_as : Room := ({ frames := 1, cells := 0, slots := 0, locals := 22 })
theorem mX5_as : zzM yX5_as wsX5_as cX5_as 3 (some .int) RX5 2 := ⟨⟨_, rfl⟩, by decide +kernel⟩
def fX5_as (u : zzS) (p0 : Int32) (p1 : Int32) : Option (Int32 × zzS) := ((fX5_isStander (zzi u 0 (0 : Int32)) p0).bind (fun r1 => (if r1 = 0 then (some ((-1 : Int32), (zzi u 0 (0 : Int32)))) else ((fX5_within p1 (0 : Int32) (2 : Int32)).bind (fun r3 => (if r3 = 0 then (some ((-2 : Int32), (zzi u 0 (0 : Int32)))) else (zzga ((zzi u 0 (0 : Int32)).2 8) 5 p0 (fun x6 => (if x6 < p1 then ((fX5_fails (zzi u 0 (0 : Int32)) (2 : Int32)).bind (fun r8 => (some (r8.1, r8.2)))) else (some ((1 : Int32), (zzi u 0 (0 : Int32)))))))))))))
set_option maxHeartbeats 4000000 in
set_option maxRecDepth 100000 in
theorem kX5_as (l : Launch) (g : zzG) (q : Nat → Nat) (sz : Nat) (u : zzS) (p0 : Int32) (p1 : Int32) (x : Int32 × zzS) (hf : fX5_as u p0 p1 = some x) : zzI l g yX5_as wsX5_as rX5_as [.ref (q 0), .int p0, .int p1] (zzY g q u) (zzY g q x.2) sz x.1 := by
  refine zz_mi (cc := cX5_as) (mL := 3) (own := RX5) (fun x : Int32 × zzS => x.1) (fun x : Int32 × zzS => (zzY g q x.2)) x (by decide) rfl rfl (Nat.le_of_ble_eq_true rfl) ?_
  intro p e s m below meth c A Q ls C ret hP hD hS hl
  have hl : lv_has ls 3 [(0, .ref (q 0)), (1, .int p0), (2, .int p1)] := hl
  have hx := C.1.1
  have hb := C.1.2.1
  have hml := C.1.2.2.1
  have hown := C.1.2.2.2.1
  have hts := C.1.2.2.2.2
  have hK := C.2.1
  have iX5 : ∀ w ∈ wsX50, w ∈ wsX5_as := fun _ h => List.mem_cons_of_mem _ (List.mem_append_right _ h)
  unfold fX5_as at hf
  refine lv_aload_n hx hb dX5_as_0 rfl (lv_at hl 0 rfl) ?_
  refine lv_iconst (v := (0 : Int32)) hx hb dX5_as_1 (by decide) ?_
  refine va_put (D := g.1) (ci := 5) (v := .int (0 : Int32)) (ty := .int) (C := RX5) (T := TX5) (N := 29) hx hb hts iX5 tyX5 tyX5_ok nmX5 hown hK hP hD hS 0 rfl rfl 0 (by decide) (zz_mem hts 1 rfl) (fun _ h9 => h9) rfl (tyX5_ok 0 (by decide)) rfl rfl (Nat.le_of_ble_eq_true rfl) dX5_as_2 (fun H locs hP hD hS => ?_)
  have hP : va_P g.1 vwCl (zzY g q (zzi u 0 (0 : Int32))) H := Eq.mp (congrArg (fun w => va_P g.1 vwCl w H) (zyo_0_0 g q u (0 : Int32))) hP
  have hD : va_D A (zzY g q (zzi u 0 (0 : Int32))) := Eq.mp (congrArg (va_D A) (zyo_0_0 g q u (0 : Int32))) hD
  refine lv_aload_n hx hb dX5_as_5 rfl (lv_at hl 0 rfl) ?_
  refine lv_iload_n hx hb dX5_as_6 rfl (lv_at hl 1 rfl) ?_
  obtain ⟨r1, hc1, hf⟩ := zz_bs hf
  refine zz_cVz C hP hD hS (kX5_isStander l g q _ (zzi u 0 (0 : Int32)) p0 r1 hc1) gX5_as_X5_isStander mX5_isStander (by decide) ⟨Nat.zero_le _, Nat.zero_le _⟩ 0 rfl rfl rfl rfl (rest := []) rfl hl.1 (Nat.le_of_ble_eq_true rfl) dX5_as_7 (fun hz1 H locs hP hD hS => ?_)
  refine lv_if_ne (tgt := 15) hx hb dX5_as_10 (by decide) (fun c2 => ?_) (fun c2 => ?_)
  · have hf := zz_f c2 hf
    refine lv_iload_n hx hb dX5_as_15 rfl (lv_at hl 2 rfl) ?_
    refine lv_iconst (v := (0 : Int32)) hx hb dX5_as_16 (by decide) ?_
    refine lv_iconst (v := (2 : Int32)) hx hb dX5_as_17 (by decide) ?_
    obtain ⟨r3, hc3, hf⟩ := zz_bs hf
    refine zz_cSz C hP hD hS (kX5_within l g (zzY g q (zzi u 0 (0 : Int32))) _ p1 (0 : Int32) (2 : Int32) r3 hc3) gX5_as_X5_within mX5_within (by decide) ⟨Nat.zero_le _, Nat.zero_le _⟩ rfl (rest := []) rfl hl.1 (Nat.le_of_ble_eq_true rfl) dX5_as_18 (fun hz3 H locs hP hD hS => ?_)
    refine lv_if_ne (tgt := 27) hx hb dX5_as_21 (by decide) (fun c4 => ?_) (fun c4 => ?_)
    · have hf := zz_f c4 hf
      refine lv_aload_n hx hb dX5_as_27 rfl (lv_at hl 0 rfl) ?_
      refine va_get (D := g.1) (ci := 5) (v := .ref (q 8)) (C := RX5) (T := TX5) (N := 29) hx hb hts iX5 hown hK hP 0 rfl rfl 8 (by decide) (zz_mem hts 2 rfl) (fun _ h9 => h9) rfl dX5_as_28 ?_
      refine lv_iload_n hx hb dX5_as_31 rfl (lv_at hl 1 rfl) ?_
      obtain ⟨x6, h5, ex6, hf⟩ := zz_gx hf
      refine zz_iald hx hb hK hP 4 0 rfl rfl h5 ex6 dX5_as_32 ?_
      refine lv_iload_n hx hb dX5_as_33 rfl (lv_at hl 2 rfl) ?_
      refine lv_icmp_lt (tgt := 41) hx hb dX5_as_34 (by decide) (fun c7 => ?_) (fun c7 => ?_)
      · have hf := zz_t c7 hf
        refine lv_aload_n hx hb dX5_as_41 rfl (lv_at hl 0 rfl) ?_
        refine lv_iconst (v := (2 : Int32)) hx hb dX5_as_42 (by decide) ?_
        obtain ⟨r8, hc8, hf⟩ := zz_bs hf
        refine zz_cVi C hP hD hS (kX5_fails l g q _ (zzi u 0 (0 : Int32)) (2 : Int32) r8 hc8) gX5_as_X5_fails mX5_fails (by decide) ⟨Nat.zero_le _, Nat.zero_le _⟩ 0 rfl rfl rfl rfl (rest := []) rfl hl.1 (Nat.le_of_ble_eq_true rfl) dX5_as_43 (fun H locs hP hD hS => ?_)
        exact ret _ _ _ _ (r8.1, r8.2) hf dX5_as_46 hP hD hS
      · have hf := zz_f c7 hf
        refine lv_iconst (v := (1 : Int32)) hx hb dX5_as_37 (by decide) ?_
        refine lv_goto (tgt := 46) hx hb dX5_as_38 (by decide) ?_
        exact ret _ _ _ _ ((1 : Int32), (zzi u 0 (0 : Int32))) hf dX5_as_46 hP hD hS
    · have hf := zz_t c4 hf
      refine lv_bipush (v := (-2 : Int32)) hx hb dX5_as_24 (by decide) ?_
      exact ret _ _ _ _ ((-2 : Int32), (zzi u 0 (0 : Int32))) hf dX5_as_26 hP hD hS
  · have hf := zz_t c2 hf
    refine lv_iconst (v := (-1 : Int32)) hx hb dX5_as_13 (by decide) ?_
    exact ret _ _ _ _ ((-1 : Int32), (zzi u 0 (0 : Int32))) hf dX5_as_14 hP hD hS
abbrev rX5_trace : Room := ({ frames := 0, cells := 0, slots := 0, locals := 0 })
theorem mX5_trace : zzM yX5_trace wsX5_trace cX5_trace 1 (some .int) RX5 0 := ⟨⟨_, rfl⟩, by decide +kernel⟩
def fX5_trace (u : zzS) : Option Int32 := (some (u.1 1))
set_option maxHeartbeats 4000000 in
set_option maxRecDepth 100000 in
theorem kX5_trace (l : Launch) (g : zzG) (q : Nat → Nat) (sz : Nat) (u : zzS)  (x : Int32) (hf : fX5_trace u = some x) : zzI l g yX5_trace wsX5_trace rX5_trace [.ref (q 0)] (zzY g q u) (zzY g q u) sz x := by
  refine zz_mi (cc := cX5_trace) (mL := 1) (own := RX5) (fun x : Int32 => x) (fun x : Int32 => (zzY g q u)) x (by decide) rfl rfl (Nat.le_of_ble_eq_true rfl) ?_
  intro p e s m below meth c A Q ls C ret hP hD hS hl
  have hl : lv_has ls 1 [(0, .ref (q 0))] := hl
  have hx := C.1.1
  have hb := C.1.2.1
  have hml := C.1.2.2.1
  have hown := C.1.2.2.2.1
  have hts := C.1.2.2.2.2
  have hK := C.2.1
  have iX5 : ∀ w ∈ wsX50, w ∈ wsX5_trace := fun _ h => List.mem_cons_of_mem _ (List.mem_append_right _ h)
  unfold fX5_trace at hf
  refine lv_aload_n hx hb dX5_trace_0 rfl (lv_at hl 0 rfl) ?_
  refine va_get (D := g.1) (ci := 5) (v := .int (u.1 1)) (C := RX5) (T := TX5) (N := 29) hx hb hts iX5 hown hK hP 0 rfl rfl 1 (by decide) (zz_mem hts 1 rfl) (fun _ h9 => h9) rfl dX5_trace_1 ?_
  exact ret _ _ _ _ (u.1 1) hf dX5_trace_4 hP hD hS
abbrev rX5_fault : Room := ({ frames := 0, cells := 0, slots := 0, locals := 0 })
theorem mX5_fault : zzM yX5_fault wsX5_fault cX5_fault 1 (some .int) RX5 0 := ⟨⟨_, rfl⟩, by decide +kernel⟩
def fX5_fault (u : zzS) : Option Int32 := (some (u.1 0))
set_option maxHeartbeats 4000000 in
set_option maxRecDepth 100000 in
theorem kX5_fault (l : Launch) (g : zzG) (q : Nat → Nat) (sz : Nat) (u : zzS)  (x : Int32) (hf : fX5_fault u = some x) : zzI l g yX5_fault wsX5_fault rX5_fault [.ref (q 0)] (zzY g q u) (zzY g q u) sz x := by
  refine zz_mi (cc := cX5_fault) (mL := 1) (own := RX5) (fun x : Int32 => x) (fun x : Int32 => (zzY g q u)) x (by decide) rfl rfl (Nat.le_of_ble_eq_true rfl) ?_
  intro p e s m below meth c A Q ls C ret hP hD hS hl
  have hl : lv_has ls 1 [(0, .ref (q 0))] := hl
  have hx := C.1.1
  have hb := C.1.2.1
  have hml := C.1.2.2.1
  have hown := C.1.2.2.2.1
  have hts := C.1.2.2.2.2
  have hK := C.2.1
  have iX5 : ∀ w ∈ wsX50, w ∈ wsX5_fault := fun _ h => List.mem_cons_of_mem _ (List.mem_append_right _ h)
  unfold fX5_fault at hf
  refine lv_aload_n hx hb dX5_fault_0 rfl (lv_at hl 0 rfl) ?_
  refine va_get (D := g.1) (ci := 5) (v := .int (u.1 0)) (C := RX5) (T := TX5) (N := 29) hx hb hts iX5 hown hK hP 0 rfl rfl 0 (by decide) (zz_mem hts 1 rfl) (fun _ h9 => h9) rfl dX5_fault_1 ?_
  exact ret _ _ _ _ (u.1 0) hf dX5_fault_4 hP hD hS
abbrev rX5_many : Room := ({ frames := 0, cells := 0, slots := 0, locals := 0 })
theorem mX5_many : zzM yX5_many wsX5_many cX5_many 2 (some .int) RX5 1 := ⟨⟨_, rfl⟩, by decide +kernel⟩
def fX5_many (u : zzS) (p0 : Int32) : Option Int32 := (if p0 = 0 then (some (u.1 5)) else (if p0 = (1 : Int32) then (some (u.1 6)) else (if p0 = (2 : Int32) then (some (u.1 7)) else (if p0 = (3 : Int32) then (some (u.1 26)) else (some (-2 : Int32))))))
set_option maxHeartbeats 4000000 in
set_option maxRecDepth 100000 in
theorem kX5_many (l : Launch) (g : zzG) (q : Nat → Nat) (sz : Nat) (u : zzS) (p0 : Int32) (x : Int32) (hf : fX5_many u p0 = some x) : zzI l g yX5_many wsX5_many rX5_many [.ref (q 0), .int p0] (zzY g q u) (zzY g q u) sz x := by
  refine zz_mi (cc := cX5_many) (mL := 2) (own := RX5) (fun x : Int32 => x) (fun x : Int32 => (zzY g q u)) x (by decide) rfl rfl (Nat.le_of_ble_eq_true rfl) ?_
  intro p e s m below meth c A Q ls C ret hP hD hS hl
  have hl : lv_has ls 2 [(0, .ref (q 0)), (1, .int p0)] := hl
  have hx := C.1.1
  have hb := C.1.2.1
  have hml := C.1.2.2.1
  have hown := C.1.2.2.2.1
  have hts := C.1.2.2.2.2
  have hK := C.2.1
  have iX5 : ∀ w ∈ wsX50, w ∈ wsX5_many := fun _ h => List.mem_cons_of_mem _ (List.mem_append_right _ h)
  unfold fX5_many at hf
  refine lv_iload_n hx hb dX5_many_0 rfl (lv_at hl 1 rfl) ?_
  refine lv_if_ne (tgt := 11) hx hb dX5_many_1 (by decide) (fun c1 => ?_) (fun c1 => ?_)
  · have hf := zz_f c1 hf
    refine lv_iload_n hx hb dX5_many_11 rfl (lv_at hl 1 rfl) ?_
    refine lv_iconst (v := (1 : Int32)) hx hb dX5_many_12 (by decide) ?_
    refine lv_icmp_ne (tgt := 23) hx hb dX5_many_13 (by decide) (fun c2 => ?_) (fun c2 => ?_)
    · have hf := zz_f c2 hf
      refine lv_iload_n hx hb dX5_many_23 rfl (lv_at hl 1 rfl) ?_
      refine lv_iconst (v := (2 : Int32)) hx hb dX5_many_24 (by decide) ?_
      refine lv_icmp_ne (tgt := 35) hx hb dX5_many_25 (by decide) (fun c3 => ?_) (fun c3 => ?_)
      · have hf := zz_f c3 hf
        refine lv_iload_n hx hb dX5_many_35 rfl (lv_at hl 1 rfl) ?_
        refine lv_iconst (v := (3 : Int32)) hx hb dX5_many_36 (by decide) ?_
        refine lv_icmp_ne (tgt := 47) hx hb dX5_many_37 (by decide) (fun c4 => ?_) (fun c4 => ?_)
        · have hf := zz_f c4 hf
          refine lv_bipush (v := (-2 : Int32)) hx hb dX5_many_47 (by decide) ?_
          exact ret _ _ _ _ (-2 : Int32) hf dX5_many_49 hP hD hS
        · have hf := zz_t c4 hf
          refine lv_aload_n hx hb dX5_many_40 rfl (lv_at hl 0 rfl) ?_
          refine va_get (D := g.1) (ci := 5) (v := .int (u.1 26)) (C := RX5) (T := TX5) (N := 29) hx hb hts iX5 hown hK hP 0 rfl rfl 26 (by decide) (zz_mem hts 4 rfl) (fun _ h9 => h9) rfl dX5_many_41 ?_
          refine lv_goto (tgt := 49) hx hb dX5_many_44 (by decide) ?_
          exact ret _ _ _ _ (u.1 26) hf dX5_many_49 hP hD hS
      · have hf := zz_t c3 hf
        refine lv_aload_n hx hb dX5_many_28 rfl (lv_at hl 0 rfl) ?_
        refine va_get (D := g.1) (ci := 5) (v := .int (u.1 7)) (C := RX5) (T := TX5) (N := 29) hx hb hts iX5 hown hK hP 0 rfl rfl 7 (by decide) (zz_mem hts 3 rfl) (fun _ h9 => h9) rfl dX5_many_29 ?_
        refine lv_goto (tgt := 49) hx hb dX5_many_32 (by decide) ?_
        exact ret _ _ _ _ (u.1 7) hf dX5_many_49 hP hD hS
    · have hf := zz_t c2 hf
      refine lv_aload_n hx hb dX5_many_16 rfl (lv_at hl 0 rfl) ?_
      refine va_get (D := g.1) (ci := 5) (v := .int (u.1 6)) (C := RX5) (T := TX5) (N := 29) hx hb hts iX5 hown hK hP 0 rfl rfl 6 (by decide) (zz_mem hts 2 rfl) (fun _ h9 => h9) rfl dX5_many_17 ?_
      refine lv_goto (tgt := 49) hx hb dX5_many_20 (by decide) ?_
      exact ret _ _ _ _ (u.1 6) hf dX5_many_49 hP hD hS
  · have hf := zz_t c1 hf
    refine lv_aload_n hx hb dX5_many_4 rfl (lv_at hl 0 rfl) ?_
    refine va_get (D := g.1) (ci := 5) (v := .int (u.1 5)) (C := RX5) (T := TX5) (N := 29) hx hb hts iX5 hown hK hP 0 rfl rfl 5 (by decide) (zz_mem hts 1 rfl) (fun _ h9 => h9) rfl dX5_many_5 ?_
    refine lv_goto (tgt := 49) hx hb dX5_many_8 (by decide) ?_
    exact ret _ _ _ _ (u.1 5) hf dX5_many_49 hP hD hS
