abbrev rX0_note : Room := ({ frames := 0, cells := 0, slots := 0, locals := 0 })
theorem mX0_note : zzM yX0_note wsX0_note cX0_note 3 (some .boolean) RX0 2 := ⟨⟨_, rfl⟩, by decide +kernel⟩
def fX0_note (u : zzS) (p0 : Int32) (p1 : Int32) : Option (Int32 × zzS) := (if (u.1 10) < 0 then (some ((0 : Int32), u)) else (if (u.1 10) < (8 : Int32) then (zzpa 8 (u.1 10) (zzpa 8 ((zza u 6 (u.1 10).toNatClampNeg p0).1 10) (some ((1 : Int32), (zzi (zza (zza u 6 (u.1 10).toNatClampNeg p0) 7 ((zza u 6 (u.1 10).toNatClampNeg p0).1 10).toNatClampNeg p1) 10 (((zza (zza u 6 (u.1 10).toNatClampNeg p0) 7 ((zza u 6 (u.1 10).toNatClampNeg p0).1 10).toNatClampNeg p1).1 10) + (1 : Int32))))))) else (some ((0 : Int32), u))))
set_option maxHeartbeats 4000000 in
set_option maxRecDepth 100000 in
theorem kX0_note (l : Launch) (g : zzG) (q : Nat → Nat) (sz : Nat) (u : zzS) (p0 : Int32) (p1 : Int32) (x : Int32 × zzS) (hf : fX0_note u p0 p1 = some x) : zzZ l g yX0_note wsX0_note rX0_note [.ref (q 10), .int p0, .int p1] (zzX g q u) (zzX g q x.2) sz x.1 := by
  refine zz_mz (cc := cX0_note) (mL := 3) (own := RX0) (fun x : Int32 × zzS => x.1) (fun x : Int32 × zzS => (zzX g q x.2)) x (by decide) rfl rfl (Nat.le_of_ble_eq_true rfl) ?_
  intro p e s m below meth c A Q ls C ret hP hD hS hl
  have hl : lv_has ls 3 [(0, .ref (q 10)), (1, .int p0), (2, .int p1)] := hl
  have hx := C.1.1
  have hb := C.1.2.1
  have hml := C.1.2.2.1
  have hown := C.1.2.2.2.1
  have hts := C.1.2.2.2.2
  have hK := C.2.1
  have iX0 : ∀ w ∈ wsX00, w ∈ wsX0_note := fun _ h => List.mem_cons_of_mem _ (List.mem_append_right _ h)
  unfold fX0_note at hf
  refine lv_aload_n hx hb dX0_note_0 rfl (lv_at hl 0 rfl) ?_
  refine va_get (D := g.1) (ci := 0) (v := .int (u.1 10)) (C := RX0) (T := TX0) (N := 3) hx hb hts iX0 hown hK hP 10 rfl rfl 2 (by decide) (zz_mem hts 1 rfl) (fun _ h9 => h9) rfl dX0_note_1 ?_
  refine lv_if_lt (tgt := 16) hx hb dX0_note_4 (by decide) (fun c1 => ?_) (fun c1 => ?_)
  · have hf := zz_t c1 hf
    refine lv_iconst (v := (0 : Int32)) hx hb dX0_note_16 (by decide) ?_
    exact ret _ _ _ _ ((0 : Int32), u) hf dX0_note_17 zz_n0 hP hD hS
  · have hf := zz_f c1 hf
    refine lv_aload_n hx hb dX0_note_7 rfl (lv_at hl 0 rfl) ?_
    refine va_get (D := g.1) (ci := 0) (v := .int (u.1 10)) (C := RX0) (T := TX0) (N := 3) hx hb hts iX0 hown hK hP 10 rfl rfl 2 (by decide) (zz_mem hts 1 rfl) (fun _ h9 => h9) rfl dX0_note_8 ?_
    refine lv_bipush (v := (8 : Int32)) hx hb dX0_note_11 (by decide) ?_
    refine lv_icmp_lt (tgt := 18) hx hb dX0_note_13 (by decide) (fun c2 => ?_) (fun c2 => ?_)
    · have hf := zz_t c2 hf
      refine lv_aload_n hx hb dX0_note_18 rfl (lv_at hl 0 rfl) ?_
      refine va_get (D := g.1) (ci := 0) (v := .ref (q 11)) (C := RX0) (T := TX0) (N := 3) hx hb hts iX0 hown hK hP 10 rfl rfl 0 (by decide) (zz_mem hts 2 rfl) (fun _ h9 => h9) rfl dX0_note_19 ?_
      refine lv_aload_n hx hb dX0_note_22 rfl (lv_at hl 0 rfl) ?_
      refine va_get (D := g.1) (ci := 0) (v := .int (u.1 10)) (C := RX0) (T := TX0) (N := 3) hx hb hts iX0 hown hK hP 10 rfl rfl 2 (by decide) (zz_mem hts 1 rfl) (fun _ h9 => h9) rfl dX0_note_23 ?_
      refine lv_iload_n hx hb dX0_note_26 rfl (lv_at hl 1 rfl) ?_
      obtain ⟨h3, hf⟩ := zz_pa hf
      refine va_iast hx hb hK hP hD hS 11 0 rfl rfl h3 dX0_note_27 (fun H locs hP hD hS => ?_)
      have hP : va_P g.1 vwCl (zzX g q (zza u 6 (u.1 10).toNatClampNeg p0)) H := Eq.mp (congrArg (fun w => va_P g.1 vwCl w H) (zxa_11 g q u (upd (u.2 6) (u.1 10).toNatClampNeg p0))) hP
      have hD : va_D A (zzX g q (zza u 6 (u.1 10).toNatClampNeg p0)) := Eq.mp (congrArg (va_D A) (zxa_11 g q u (upd (u.2 6) (u.1 10).toNatClampNeg p0))) hD
      refine lv_aload_n hx hb dX0_note_28 rfl (lv_at hl 0 rfl) ?_
      refine va_get (D := g.1) (ci := 0) (v := .ref (q 12)) (C := RX0) (T := TX0) (N := 3) hx hb hts iX0 hown hK hP 10 rfl rfl 1 (by decide) (zz_mem hts 3 rfl) (fun _ h9 => h9) rfl dX0_note_29 ?_
      refine lv_aload_n hx hb dX0_note_32 rfl (lv_at hl 0 rfl) ?_
      refine va_get (D := g.1) (ci := 0) (v := .int ((zza u 6 (u.1 10).toNatClampNeg p0).1 10)) (C := RX0) (T := TX0) (N := 3) hx hb hts iX0 hown hK hP 10 rfl rfl 2 (by decide) (zz_mem hts 1 rfl) (fun _ h9 => h9) rfl dX0_note_33 ?_
      refine lv_iload_n hx hb dX0_note_36 rfl (lv_at hl 2 rfl) ?_
      obtain ⟨h4, hf⟩ := zz_pa hf
      refine va_iast hx hb hK hP hD hS 12 0 rfl rfl h4 dX0_note_37 (fun H locs hP hD hS => ?_)
      have hP : va_P g.1 vwCl (zzX g q (zza (zza u 6 (u.1 10).toNatClampNeg p0) 7 ((zza u 6 (u.1 10).toNatClampNeg p0).1 10).toNatClampNeg p1)) H := Eq.mp (congrArg (fun w => va_P g.1 vwCl w H) (zxa_12 g q (zza u 6 (u.1 10).toNatClampNeg p0) (upd ((zza u 6 (u.1 10).toNatClampNeg p0).2 7) ((zza u 6 (u.1 10).toNatClampNeg p0).1 10).toNatClampNeg p1))) hP
      have hD : va_D A (zzX g q (zza (zza u 6 (u.1 10).toNatClampNeg p0) 7 ((zza u 6 (u.1 10).toNatClampNeg p0).1 10).toNatClampNeg p1)) := Eq.mp (congrArg (va_D A) (zxa_12 g q (zza u 6 (u.1 10).toNatClampNeg p0) (upd ((zza u 6 (u.1 10).toNatClampNeg p0).2 7) ((zza u 6 (u.1 10).toNatClampNeg p0).1 10).toNatClampNeg p1))) hD
      refine lv_aload_n hx hb dX0_note_38 rfl (lv_at hl 0 rfl) ?_
      refine lv_dup hx hb dX0_note_39 rfl ?_
      refine va_get (D := g.1) (ci := 0) (v := .int ((zza (zza u 6 (u.1 10).toNatClampNeg p0) 7 ((zza u 6 (u.1 10).toNatClampNeg p0).1 10).toNatClampNeg p1).1 10)) (C := RX0) (T := TX0) (N := 3) hx hb hts iX0 hown hK hP 10 rfl rfl 2 (by decide) (zz_mem hts 1 rfl) (fun _ h9 => h9) rfl dX0_note_40 ?_
      refine lv_iconst (v := (1 : Int32)) hx hb dX0_note_43 (by decide) ?_
      refine lv_iadd hx hb dX0_note_44 ?_
      refine va_put (D := g.1) (ci := 0) (v := .int (((zza (zza u 6 (u.1 10).toNatClampNeg p0) 7 ((zza u 6 (u.1 10).toNatClampNeg p0).1 10).toNatClampNeg p1).1 10) + (1 : Int32))) (ty := .int) (C := RX0) (T := TX0) (N := 3) hx hb hts iX0 tyX0 tyX0_ok nmX0 hown hK hP hD hS 10 rfl rfl 2 (by decide) (zz_mem hts 1 rfl) (fun _ h9 => h9) rfl (tyX0_ok 2 (by decide)) rfl rfl (Nat.le_of_ble_eq_true rfl) dX0_note_45 (fun H locs hP hD hS => ?_)
      have hP : va_P g.1 vwCl (zzX g q (zzi (zza (zza u 6 (u.1 10).toNatClampNeg p0) 7 ((zza u 6 (u.1 10).toNatClampNeg p0).1 10).toNatClampNeg p1) 10 (((zza (zza u 6 (u.1 10).toNatClampNeg p0) 7 ((zza u 6 (u.1 10).toNatClampNeg p0).1 10).toNatClampNeg p1).1 10) + (1 : Int32)))) H := Eq.mp (congrArg (fun w => va_P g.1 vwCl w H) (zxo_10_2 g q (zza (zza u 6 (u.1 10).toNatClampNeg p0) 7 ((zza u 6 (u.1 10).toNatClampNeg p0).1 10).toNatClampNeg p1) (((zza (zza u 6 (u.1 10).toNatClampNeg p0) 7 ((zza u 6 (u.1 10).toNatClampNeg p0).1 10).toNatClampNeg p1).1 10) + (1 : Int32)))) hP
      have hD : va_D A (zzX g q (zzi (zza (zza u 6 (u.1 10).toNatClampNeg p0) 7 ((zza u 6 (u.1 10).toNatClampNeg p0).1 10).toNatClampNeg p1) 10 (((zza (zza u 6 (u.1 10).toNatClampNeg p0) 7 ((zza u 6 (u.1 10).toNatClampNeg p0).1 10).toNatClampNeg p1).1 10) + (1 : Int32)))) := Eq.mp (congrArg (va_D A) (zxo_10_2 g q (zza (zza u 6 (u.1 10).toNatClampNeg p0) 7 ((zza u 6 (u.1 10).toNatClampNeg p0).1 10).toNatClampNeg p1) (((zza (zza u 6 (u.1 10).toNatClampNeg p0) 7 ((zza u 6 (u.1 10).toNatClampNeg p0).1 10).toNatClampNeg p1).1 10) + (1 : Int32)))) hD
      refine lv_iconst (v := (1 : Int32)) hx hb dX0_note_48 (by decide) ?_
      exact ret _ _ _ _ ((1 : Int32), (zzi (zza (zza u 6 (u.1 10).toNatClampNeg p0) 7 ((zza u 6 (u.1 10).toNatClampNeg p0).1 10).toNatClampNeg p1) 10 (((zza (zza u 6 (u.1 10).toNatClampNeg p0) 7 ((zza u 6 (u.1 10).toNatClampNeg p0).1 10).toNatClampNeg p1).1 10) + (1 : Int32)))) hf dX0_note_49 zz_n1 hP hD hS
    · have hf := zz_f c2 hf
      refine lv_iconst (v := (0 : Int32)) hx hb dX0_note_16 (by decide) ?_
      exact ret _ _ _ _ ((0 : Int32), u) hf dX0_note_17 zz_n0 hP hD hS
abbrev rX1_closeRun : Room := ({ frames := 1, cells := 0, slots := 0, locals := 30 })
theorem mX1_closeRun : zzM yX1_closeRun wsX1_closeRun cX1_closeRun 3 none RX1 2 := ⟨⟨_, rfl⟩, by decide +kernel⟩
def fX1_closeRun (u : zzS) (p0 : Int32) (p1 : Int32) : Option zzS := (if p0 < (1 : Int32) then (some u) else (if (1 : Int32) ≤ p1 then (zznz p1 (some (zzi (zzi (zzi u 6 ((u.1 6) + (1 : Int32))) 7 (if ((zzi u 6 ((u.1 6) + (1 : Int32))).1 7) < p0 then p0 else ((zzi u 6 ((u.1 6) + (1 : Int32))).1 7))) 8 (((zzi (zzi u 6 ((u.1 6) + (1 : Int32))) 7 (if ((zzi u 6 ((u.1 6) + (1 : Int32))).1 7) < p0 then p0 else ((zzi u 6 ((u.1 6) + (1 : Int32))).1 7))).1 8) + (((p0 + p1) - (1 : Int32)) / p1))))) else (some u)))
set_option maxHeartbeats 4000000 in
set_option maxRecDepth 100000 in
theorem kX1_closeRun (l : Launch) (g : zzG) (q : Nat → Nat) (sz : Nat) (u : zzS) (p0 : Int32) (p1 : Int32) (x : zzS) (hf : fX1_closeRun u p0 p1 = some x) : zzV l g yX1_closeRun wsX1_closeRun rX1_closeRun [.ref (q 9), .int p0, .int p1] (zzX g q u) (zzX g q x) sz := by
  refine zz_mv (cc := cX1_closeRun) (mL := 3) (own := RX1) (fun x : zzS => (zzX g q x)) x (by decide) rfl rfl (Nat.le_of_ble_eq_true rfl) ?_
  intro p e s m below meth c A Q ls C ret hP hD hS hl
  have hl : lv_has ls 3 [(0, .ref (q 9)), (1, .int p0), (2, .int p1)] := hl
  have hx := C.1.1
  have hb := C.1.2.1
  have hml := C.1.2.2.1
  have hown := C.1.2.2.2.1
  have hts := C.1.2.2.2.2
  have hK := C.2.1
  have iX1 : ∀ w ∈ wsX10, w ∈ wsX1_closeRun := fun _ h => List.mem_cons_of_mem _ (List.mem_append_right _ h)
  unfold fX1_closeRun at hf
  refine lv_iload_n hx hb dX1_closeRun_0 rfl (lv_at hl 1 rfl) ?_
  refine lv_iconst (v := (1 : Int32)) hx hb dX1_closeRun_1 (by decide) ?_
  refine lv_icmp_lt (tgt := 10) hx hb dX1_closeRun_2 (by decide) (fun c1 => ?_) (fun c1 => ?_)
  · have hf := zz_t c1 hf
    exact ret _ _ _ _ u hf dX1_closeRun_10 hP hD hS
  · have hf := zz_f c1 hf
    refine lv_iload_n hx hb dX1_closeRun_5 rfl (lv_at hl 2 rfl) ?_
    refine lv_iconst (v := (1 : Int32)) hx hb dX1_closeRun_6 (by decide) ?_
    refine lv_icmp_ge (tgt := 11) hx hb dX1_closeRun_7 (by decide) (fun c2 => ?_) (fun c2 => ?_)
    · have hf := zz_t c2 hf
      refine lv_aload_n hx hb dX1_closeRun_11 rfl (lv_at hl 0 rfl) ?_
      refine lv_dup hx hb dX1_closeRun_12 rfl ?_
      refine va_get (D := g.1) (ci := 1) (v := .int (u.1 6)) (C := RX1) (T := TX1) (N := 4) hx hb hts iX1 hown hK hP 9 rfl rfl 0 (by decide) (zz_mem hts 1 rfl) (fun _ h9 => h9) rfl dX1_closeRun_13 ?_
      refine lv_iconst (v := (1 : Int32)) hx hb dX1_closeRun_16 (by decide) ?_
      refine lv_iadd hx hb dX1_closeRun_17 ?_
      refine va_put (D := g.1) (ci := 1) (v := .int ((u.1 6) + (1 : Int32))) (ty := .int) (C := RX1) (T := TX1) (N := 4) hx hb hts iX1 tyX1 tyX1_ok nmX1 hown hK hP hD hS 9 rfl rfl 0 (by decide) (zz_mem hts 1 rfl) (fun _ h9 => h9) rfl (tyX1_ok 0 (by decide)) rfl rfl (Nat.le_of_ble_eq_true rfl) dX1_closeRun_18 (fun H locs hP hD hS => ?_)
      have hP : va_P g.1 vwCl (zzX g q (zzi u 6 ((u.1 6) + (1 : Int32)))) H := Eq.mp (congrArg (fun w => va_P g.1 vwCl w H) (zxo_9_0 g q u ((u.1 6) + (1 : Int32)))) hP
      have hD : va_D A (zzX g q (zzi u 6 ((u.1 6) + (1 : Int32)))) := Eq.mp (congrArg (va_D A) (zxo_9_0 g q u ((u.1 6) + (1 : Int32)))) hD
      refine lv_aload_n hx hb dX1_closeRun_21 rfl (lv_at hl 0 rfl) ?_
      refine lv_aload_n hx hb dX1_closeRun_22 rfl (lv_at hl 0 rfl) ?_
      refine va_get (D := g.1) (ci := 1) (v := .int ((zzi u 6 ((u.1 6) + (1 : Int32))).1 7)) (C := RX1) (T := TX1) (N := 4) hx hb hts iX1 hown hK hP 9 rfl rfl 1 (by decide) (zz_mem hts 2 rfl) (fun _ h9 => h9) rfl dX1_closeRun_23 ?_
      refine lv_iload_n hx hb dX1_closeRun_26 rfl (lv_at hl 1 rfl) ?_
      refine va_mmax hx hb (by rw [hml]; exact hl.1.symm) hown (zz_mem hts 3 rfl) (zz_mem hts 4 rfl) (zz_mem hts 5 rfl) (zz_mem hts 6 rfl) (by decide) (Nat.le_of_ble_eq_true rfl) (Nat.zero_le _) (Nat.zero_le _) dX1_closeRun_27 ?_
      refine va_put (D := g.1) (ci := 1) (v := .int (if ((zzi u 6 ((u.1 6) + (1 : Int32))).1 7) < p0 then p0 else ((zzi u 6 ((u.1 6) + (1 : Int32))).1 7))) (ty := .int) (C := RX1) (T := TX1) (N := 4) hx hb hts iX1 tyX1 tyX1_ok nmX1 hown hK hP hD hS 9 rfl rfl 1 (by decide) (zz_mem hts 2 rfl) (fun _ h9 => h9) rfl (tyX1_ok 1 (by decide)) rfl rfl (Nat.le_of_ble_eq_true rfl) dX1_closeRun_30 (fun H locs hP hD hS => ?_)
      have hP : va_P g.1 vwCl (zzX g q (zzi (zzi u 6 ((u.1 6) + (1 : Int32))) 7 (if ((zzi u 6 ((u.1 6) + (1 : Int32))).1 7) < p0 then p0 else ((zzi u 6 ((u.1 6) + (1 : Int32))).1 7)))) H := Eq.mp (congrArg (fun w => va_P g.1 vwCl w H) (zxo_9_1 g q (zzi u 6 ((u.1 6) + (1 : Int32))) (if ((zzi u 6 ((u.1 6) + (1 : Int32))).1 7) < p0 then p0 else ((zzi u 6 ((u.1 6) + (1 : Int32))).1 7)))) hP
      have hD : va_D A (zzX g q (zzi (zzi u 6 ((u.1 6) + (1 : Int32))) 7 (if ((zzi u 6 ((u.1 6) + (1 : Int32))).1 7) < p0 then p0 else ((zzi u 6 ((u.1 6) + (1 : Int32))).1 7)))) := Eq.mp (congrArg (va_D A) (zxo_9_1 g q (zzi u 6 ((u.1 6) + (1 : Int32))) (if ((zzi u 6 ((u.1 6) + (1 : Int32))).1 7) < p0 then p0 else ((zzi u 6 ((u.1 6) + (1 : Int32))).1 7)))) hD
      refine lv_aload_n hx hb dX1_closeRun_33 rfl (lv_at hl 0 rfl) ?_
      refine lv_dup hx hb dX1_closeRun_34 rfl ?_
      refine va_get (D := g.1) (ci := 1) (v := .int ((zzi (zzi u 6 ((u.1 6) + (1 : Int32))) 7 (if ((zzi u 6 ((u.1 6) + (1 : Int32))).1 7) < p0 then p0 else ((zzi u 6 ((u.1 6) + (1 : Int32))).1 7))).1 8)) (C := RX1) (T := TX1) (N := 4) hx hb hts iX1 hown hK hP 9 rfl rfl 2 (by decide) (zz_mem hts 7 rfl) (fun _ h9 => h9) rfl dX1_closeRun_35 ?_
      refine lv_iload_n hx hb dX1_closeRun_38 rfl (lv_at hl 1 rfl) ?_
      refine lv_iload_n hx hb dX1_closeRun_39 rfl (lv_at hl 2 rfl) ?_
      refine lv_iadd hx hb dX1_closeRun_40 ?_
      refine lv_iconst (v := (1 : Int32)) hx hb dX1_closeRun_41 (by decide) ?_
      refine lv_isub hx hb dX1_closeRun_42 ?_
      refine lv_iload_n hx hb dX1_closeRun_43 rfl (lv_at hl 2 rfl) ?_
      obtain ⟨h3, hf⟩ := zz_nz hf
      refine lv_idiv hx hb dX1_closeRun_44 h3 ?_
      refine lv_iadd hx hb dX1_closeRun_45 ?_
      refine va_put (D := g.1) (ci := 1) (v := .int (((zzi (zzi u 6 ((u.1 6) + (1 : Int32))) 7 (if ((zzi u 6 ((u.1 6) + (1 : Int32))).1 7) < p0 then p0 else ((zzi u 6 ((u.1 6) + (1 : Int32))).1 7))).1 8) + (((p0 + p1) - (1 : Int32)) / p1))) (ty := .int) (C := RX1) (T := TX1) (N := 4) hx hb hts iX1 tyX1 tyX1_ok nmX1 hown hK hP hD hS 9 rfl rfl 2 (by decide) (zz_mem hts 7 rfl) (fun _ h9 => h9) rfl (tyX1_ok 2 (by decide)) rfl rfl (Nat.le_of_ble_eq_true rfl) dX1_closeRun_46 (fun H locs hP hD hS => ?_)
      have hP : va_P g.1 vwCl (zzX g q (zzi (zzi (zzi u 6 ((u.1 6) + (1 : Int32))) 7 (if ((zzi u 6 ((u.1 6) + (1 : Int32))).1 7) < p0 then p0 else ((zzi u 6 ((u.1 6) + (1 : Int32))).1 7))) 8 (((zzi (zzi u 6 ((u.1 6) + (1 : Int32))) 7 (if ((zzi u 6 ((u.1 6) + (1 : Int32))).1 7) < p0 then p0 else ((zzi u 6 ((u.1 6) + (1 : Int32))).1 7))).1 8) + (((p0 + p1) - (1 : Int32)) / p1)))) H := Eq.mp (congrArg (fun w => va_P g.1 vwCl w H) (zxo_9_2 g q (zzi (zzi u 6 ((u.1 6) + (1 : Int32))) 7 (if ((zzi u 6 ((u.1 6) + (1 : Int32))).1 7) < p0 then p0 else ((zzi u 6 ((u.1 6) + (1 : Int32))).1 7))) (((zzi (zzi u 6 ((u.1 6) + (1 : Int32))) 7 (if ((zzi u 6 ((u.1 6) + (1 : Int32))).1 7) < p0 then p0 else ((zzi u 6 ((u.1 6) + (1 : Int32))).1 7))).1 8) + (((p0 + p1) - (1 : Int32)) / p1)))) hP
      have hD : va_D A (zzX g q (zzi (zzi (zzi u 6 ((u.1 6) + (1 : Int32))) 7 (if ((zzi u 6 ((u.1 6) + (1 : Int32))).1 7) < p0 then p0 else ((zzi u 6 ((u.1 6) + (1 : Int32))).1 7))) 8 (((zzi (zzi u 6 ((u.1 6) + (1 : Int32))) 7 (if ((zzi u 6 ((u.1 6) + (1 : Int32))).1 7) < p0 then p0 else ((zzi u 6 ((u.1 6) + (1 : Int32))).1 7))).1 8) + (((p0 + p1) - (1 : Int32)) / p1)))) := Eq.mp (congrArg (va_D A) (zxo_9_2 g q (zzi (zzi u 6 ((u.1 6) + (1 : Int32))) 7 (if ((zzi u 6 ((u.1 6) + (1 : Int32))).1 7) < p0 then p0 else ((zzi u 6 ((u.1 6) + (1 : Int32))).1 7))) (((zzi (zzi u 6 ((u.1 6) + (1 : Int32))) 7 (if ((zzi u 6 ((u.1 6) + (1 : Int32))).1 7) < p0 then p0 else ((zzi u 6 ((u.1 6) + (1 : Int32))).1 7))).1 8) + (((p0 + p1) - (1 : Int32)) / p1)))) hD
      exact ret _ _ _ _ (zzi (zzi (zzi u 6 ((u.1 6) + (1 : Int32))) 7 (if ((zzi u 6 ((u.1 6) + (1 : Int32))).1 7) < p0 then p0 else ((zzi u 6 ((u.1 6) + (1 : Int32))).1 7))) 8 (((zzi (zzi u 6 ((u.1 6) + (1 : Int32))) 7 (if ((zzi u 6 ((u.1 6) + (1 : Int32))).1 7) < p0 then p0 else ((zzi u 6 ((u.1 6) + (1 : Int32))).1 7))).1 8) + (((p0 + p1) - (1 : Int32)) / p1))) hf dX1_closeRun_49 hP hD hS
    · have hf := zz_f c2 hf
      exact ret _ _ _ _ u hf dX1_closeRun_10 hP hD hS
abbrev rX1_measure : Room := ({ frames := 2, cells := 0, slots := 0, locals := 52 })
theorem mX1_measure : zzM yX1_measure wsX1_measure cX1_measure 6 none RX1 2 := ⟨⟨_, rfl⟩, by decide +kernel⟩
def sX1_measure_21 (p0 : Int64) (p1 : Int32) : (Int32 × Int32 × zzS) → ((Int32 × Int32 × zzS) → Option zzS) → Option zzS := fun v1 rec2 => (if (37 : Int32) ≤ v1.2.1 then ((fX1_closeRun v1.2.2 v1.1 p1).bind (fun r5 => (some (zzi r5 9 v1.2.1)))) else (if (lg_cmp (p0 >>> (v1.2.1.toInt64 &&& 63)) (0 : Int64)) = 0 then ((fX1_closeRun v1.2.2 v1.1 p1).bind (fun r7 => (some (zzi r7 9 v1.2.1)))) else (if (lg_cmp ((p0 >>> (v1.2.1.toInt64 &&& 63)) &&& (1 : Int64)) (0 : Int64)) = 0 then ((fX1_closeRun v1.2.2 v1.1 p1).bind (fun r9 => (rec2 ((0 : Int32), (v1.2.1 + (1 : Int32)), r9)))) else (rec2 ((v1.1 + (1 : Int32)), (v1.2.1 + (1 : Int32)), v1.2.2)))))
set_option maxHeartbeats 4000000 in
set_option maxRecDepth 100000 in
theorem wX1_measure_21 (l : Launch) (g : zzG) (q : Nat → Nat) (p0 : Int64) (p1 : Int32) (x : zzS) {p : Program} {e : Env} {s : State} {m : MethodId} {below : List Frame} {meth : Method} {c : Code} {A : Nat → Prop} {Q : State → Prop} (C : zzC g p s m ([.ref (q 9), .long p0, .int p1] : List Value).toArray c cX1_measure 6 RX1 wsX1_measure A) (ret : zzRV l g rX1_measure cX1_measure [.ref (q 9), .long p0, .int p1] (fun x : zzS => (zzX g q x)) x p e s m below meth c A Q)  (n : Nat) (v1 : Int32 × Int32 × zzS) (hf : zzlp (sX1_measure_21 p0 p1) n v1 = some x) : ∀ (H : Heap) (locs : List Loc) (ls : Array Slot), va_P g.1 vwCl (zzX g q v1.2.2) H → va_D A (zzX g q v1.2.2) → va_S A s.heap H locs → lv_has ls 6 [(0, .ref (q 9)), (1, .long p0), (3, .int p1), (4, .int (v1.1)), (5, .int (v1.2.1))] → W p l e rX1_measure s m ([.ref (q 9), .long p0, .int p1] : List Value).toArray below meth c H locs 0 0 Q (F0 m 21 ls []) := by
  have hx := C.1.1
  have hb := C.1.2.1
  have hml := C.1.2.2.1
  have hown := C.1.2.2.2.1
  have hts := C.1.2.2.2.2
  have hK := C.2.1
  have iX1 : ∀ w ∈ wsX10, w ∈ wsX1_measure := fun _ h => List.mem_cons_of_mem _ (List.mem_append_right _ h)
  refine zz_lp (P := fun (v1 : Int32 × Int32 × zzS) => ∀ (H : Heap) (locs : List Loc) (ls : Array Slot), va_P g.1 vwCl (zzX g q v1.2.2) H → va_D A (zzX g q v1.2.2) → va_S A s.heap H locs → lv_has ls 6 [(0, .ref (q 9)), (1, .long p0), (3, .int p1), (4, .int (v1.1)), (5, .int (v1.2.1))] → W p l e rX1_measure s m ([.ref (q 9), .long p0, .int p1] : List Value).toArray below meth c H locs 0 0 Q (F0 m 21 ls [])) (fun v1 rec2 ih3 hf H locs ls hP hD hS hl => ?_) n v1 hf
  unfold sX1_measure_21 at hf
  refine lv_iload hx hb dX1_measure_21 (lv_at hl 4 rfl) ?_
  refine lv_bipush (v := (37 : Int32)) hx hb dX1_measure_23 (by decide) ?_
  refine lv_icmp_ge (tgt := 70) hx hb dX1_measure_25 (by decide) (fun c4 => ?_) (fun c4 => ?_)
  · have hf := zz_t c4 hf
    refine lv_aload_n hx hb dX1_measure_70 rfl (lv_at hl 0 rfl) ?_
    refine lv_iload hx hb dX1_measure_71 (lv_at hl 3 rfl) ?_
    refine lv_iload_n hx hb dX1_measure_73 rfl (lv_at hl 2 rfl) ?_
    obtain ⟨r5, hc5, hf⟩ := zz_bs hf
    refine zz_cVv C hP hD hS (kX1_closeRun l g q _ v1.2.2 v1.1 p1 r5 hc5) gX1_measure_X1_closeRun mX1_closeRun (by decide) ⟨Nat.zero_le _, Nat.zero_le _⟩ 9 rfl rfl rfl rfl (rest := []) rfl hl.1 (Nat.le_of_ble_eq_true rfl) dX1_measure_74 (fun H locs hP hD hS => ?_)
    refine lv_aload_n hx hb dX1_measure_77 rfl (lv_at hl 0 rfl) ?_
    refine lv_iload hx hb dX1_measure_78 (lv_at hl 4 rfl) ?_
    refine va_put (D := g.1) (ci := 1) (v := .int (v1.2.1)) (ty := .int) (C := RX1) (T := TX1) (N := 4) hx hb hts iX1 tyX1 tyX1_ok nmX1 hown hK hP hD hS 9 rfl rfl 3 (by decide) (zz_mem hts 4 rfl) (fun _ h9 => h9) rfl (tyX1_ok 3 (by decide)) rfl rfl (Nat.le_of_ble_eq_true rfl) dX1_measure_80 (fun H locs hP hD hS => ?_)
    have hP : va_P g.1 vwCl (zzX g q (zzi r5 9 v1.2.1)) H := Eq.mp (congrArg (fun w => va_P g.1 vwCl w H) (zxo_9_3 g q r5 v1.2.1)) hP
    have hD : va_D A (zzX g q (zzi r5 9 v1.2.1)) := Eq.mp (congrArg (va_D A) (zxo_9_3 g q r5 v1.2.1)) hD
    exact ret _ _ _ _ (zzi r5 9 v1.2.1) hf dX1_measure_83 hP hD hS
  · have hf := zz_f c4 hf
    refine lv_lload_n hx hb dX1_measure_28 rfl (lv_at hl 1 rfl) ?_
    refine lv_iload hx hb dX1_measure_29 (lv_at hl 4 rfl) ?_
    refine lv_lshr hx hb dX1_measure_31 rfl ?_
    refine lv_lconst (v := (0 : Int64)) hx hb dX1_measure_32 rfl ?_
    refine W.lcmp hx hb dX1_measure_33 ?_
    refine lv_if_eq (tgt := 70) hx hb dX1_measure_34 (by decide) (fun c6 => ?_) (fun c6 => ?_)
    · have hf := zz_t c6 hf
      refine lv_aload_n hx hb dX1_measure_70 rfl (lv_at hl 0 rfl) ?_
      refine lv_iload hx hb dX1_measure_71 (lv_at hl 3 rfl) ?_
      refine lv_iload_n hx hb dX1_measure_73 rfl (lv_at hl 2 rfl) ?_
      obtain ⟨r7, hc7, hf⟩ := zz_bs hf
      refine zz_cVv C hP hD hS (kX1_closeRun l g q _ v1.2.2 v1.1 p1 r7 hc7) gX1_measure_X1_closeRun mX1_closeRun (by decide) ⟨Nat.zero_le _, Nat.zero_le _⟩ 9 rfl rfl rfl rfl (rest := []) rfl hl.1 (Nat.le_of_ble_eq_true rfl) dX1_measure_74 (fun H locs hP hD hS => ?_)
      refine lv_aload_n hx hb dX1_measure_77 rfl (lv_at hl 0 rfl) ?_
      refine lv_iload hx hb dX1_measure_78 (lv_at hl 4 rfl) ?_
      refine va_put (D := g.1) (ci := 1) (v := .int (v1.2.1)) (ty := .int) (C := RX1) (T := TX1) (N := 4) hx hb hts iX1 tyX1 tyX1_ok nmX1 hown hK hP hD hS 9 rfl rfl 3 (by decide) (zz_mem hts 4 rfl) (fun _ h9 => h9) rfl (tyX1_ok 3 (by decide)) rfl rfl (Nat.le_of_ble_eq_true rfl) dX1_measure_80 (fun H locs hP hD hS => ?_)
      have hP : va_P g.1 vwCl (zzX g q (zzi r7 9 v1.2.1)) H := Eq.mp (congrArg (fun w => va_P g.1 vwCl w H) (zxo_9_3 g q r7 v1.2.1)) hP
      have hD : va_D A (zzX g q (zzi r7 9 v1.2.1)) := Eq.mp (congrArg (va_D A) (zxo_9_3 g q r7 v1.2.1)) hD
      exact ret _ _ _ _ (zzi r7 9 v1.2.1) hf dX1_measure_83 hP hD hS
    · have hf := zz_f c6 hf
      refine lv_lload_n hx hb dX1_measure_37 rfl (lv_at hl 1 rfl) ?_
      refine lv_iload hx hb dX1_measure_38 (lv_at hl 4 rfl) ?_
      refine lv_lshr hx hb dX1_measure_40 rfl ?_
      refine lv_lconst (v := (1 : Int64)) hx hb dX1_measure_41 rfl ?_
      refine lv_land hx hb dX1_measure_42 ?_
      refine lv_lconst (v := (0 : Int64)) hx hb dX1_measure_43 rfl ?_
      refine W.lcmp hx hb dX1_measure_44 ?_
      refine lv_if_eq (tgt := 54) hx hb dX1_measure_45 (by decide) (fun c8 => ?_) (fun c8 => ?_)
      · have hf := zz_t c8 hf
        refine lv_aload_n hx hb dX1_measure_54 rfl (lv_at hl 0 rfl) ?_
        refine lv_iload hx hb dX1_measure_55 (lv_at hl 3 rfl) ?_
        refine lv_iload_n hx hb dX1_measure_57 rfl (lv_at hl 2 rfl) ?_
        obtain ⟨r9, hc9, hf⟩ := zz_bs hf
        refine zz_cVv C hP hD hS (kX1_closeRun l g q _ v1.2.2 v1.1 p1 r9 hc9) gX1_measure_X1_closeRun mX1_closeRun (by decide) ⟨Nat.zero_le _, Nat.zero_le _⟩ 9 rfl rfl rfl rfl (rest := []) rfl hl.1 (Nat.le_of_ble_eq_true rfl) dX1_measure_58 (fun H locs hP hD hS => ?_)
        refine lv_iconst (v := (0 : Int32)) hx hb dX1_measure_61 (by decide) ?_
        refine lv_istore (lv' := [(4, .int (0 : Int32)), (0, .ref (q 9)), (1, .long p0), (3, .int p1), (5, .int (v1.2.1))]) hx hb dX1_measure_62 hl (by decide) rfl (fun ls hl => ?_)
        refine lv_iinc (v := (v1.2.1 + (1 : Int32))) (lv' := [(5, .int (v1.2.1 + (1 : Int32))), (4, .int (0 : Int32)), (0, .ref (q 9)), (1, .long p0), (3, .int p1)]) hx hb dX1_measure_64 hl (k := 4) rfl rfl (by decide) rfl (fun ls hl => ?_)
        refine lv_goto (tgt := 21) hx hb dX1_measure_67 (by decide) ?_
        exact ih3 _ hf _ _ _ hP hD hS (lv_sub hl [2, 3, 4, 1, 0] rfl)
      · have hf := zz_f c8 hf
        refine lv_iinc (v := (v1.1 + (1 : Int32))) (lv' := [(4, .int (v1.1 + (1 : Int32))), (0, .ref (q 9)), (1, .long p0), (3, .int p1), (5, .int (v1.2.1))]) hx hb dX1_measure_48 hl (k := 3) rfl rfl (by decide) rfl (fun ls hl => ?_)
        refine lv_goto (tgt := 64) hx hb dX1_measure_51 (by decide) ?_
        refine lv_iinc (v := (v1.2.1 + (1 : Int32))) (lv' := [(5, .int (v1.2.1 + (1 : Int32))), (4, .int (v1.1 + (1 : Int32))), (0, .ref (q 9)), (1, .long p0), (3, .int p1)]) hx hb dX1_measure_64 hl (k := 4) rfl rfl (by decide) rfl (fun ls hl => ?_)
        refine lv_goto (tgt := 21) hx hb dX1_measure_67 (by decide) ?_
        exact ih3 _ hf _ _ _ hP hD hS (lv_sub hl [2, 3, 4, 1, 0] rfl)
def fX1_measure (u : zzS) (p0 : Int64) (p1 : Int32) : Option zzS := (zzlp (sX1_measure_21 p0 p1) zzFU ((0 : Int32), (0 : Int32), (zzi (zzi (zzi u 6 (0 : Int32)) 7 (0 : Int32)) 8 (0 : Int32))))
set_option maxHeartbeats 4000000 in
set_option maxRecDepth 100000 in
theorem kX1_measure (l : Launch) (g : zzG) (q : Nat → Nat) (sz : Nat) (u : zzS) (p0 : Int64) (p1 : Int32) (x : zzS) (hf : fX1_measure u p0 p1 = some x) : zzV l g yX1_measure wsX1_measure rX1_measure [.ref (q 9), .long p0, .int p1] (zzX g q u) (zzX g q x) sz := by
  refine zz_mv (cc := cX1_measure) (mL := 6) (own := RX1) (fun x : zzS => (zzX g q x)) x (by decide) rfl rfl (Nat.le_of_ble_eq_true rfl) ?_
  intro p e s m below meth c A Q ls C ret hP hD hS hl
  have hl : lv_has ls 6 [(0, .ref (q 9)), (1, .long p0), (3, .int p1)] := hl
  have hx := C.1.1
  have hb := C.1.2.1
  have hml := C.1.2.2.1
  have hown := C.1.2.2.2.1
  have hts := C.1.2.2.2.2
  have hK := C.2.1
  have iX1 : ∀ w ∈ wsX10, w ∈ wsX1_measure := fun _ h => List.mem_cons_of_mem _ (List.mem_append_right _ h)
  unfold fX1_measure at hf
  refine lv_aload_n hx hb dX1_measure_0 rfl (lv_at hl 0 rfl) ?_
  refine lv_iconst (v := (0 : Int32)) hx hb dX1_measure_1 (by decide) ?_
  refine va_put (D := g.1) (ci := 1) (v := .int (0 : Int32)) (ty := .int) (C := RX1) (T := TX1) (N := 4) hx hb hts iX1 tyX1 tyX1_ok nmX1 hown hK hP hD hS 9 rfl rfl 0 (by decide) (zz_mem hts 1 rfl) (fun _ h9 => h9) rfl (tyX1_ok 0 (by decide)) rfl rfl (Nat.le_of_ble_eq_true rfl) dX1_measure_2 (fun H locs hP hD hS => ?_)
  have hP : va_P g.1 vwCl (zzX g q (zzi u 6 (0 : Int32))) H := Eq.mp (congrArg (fun w => va_P g.1 vwCl w H) (zxo_9_0 g q u (0 : Int32))) hP
  have hD : va_D A (zzX g q (zzi u 6 (0 : Int32))) := Eq.mp (congrArg (va_D A) (zxo_9_0 g q u (0 : Int32))) hD
  refine lv_aload_n hx hb dX1_measure_5 rfl (lv_at hl 0 rfl) ?_
  refine lv_iconst (v := (0 : Int32)) hx hb dX1_measure_6 (by decide) ?_
  refine va_put (D := g.1) (ci := 1) (v := .int (0 : Int32)) (ty := .int) (C := RX1) (T := TX1) (N := 4) hx hb hts iX1 tyX1 tyX1_ok nmX1 hown hK hP hD hS 9 rfl rfl 1 (by decide) (zz_mem hts 2 rfl) (fun _ h9 => h9) rfl (tyX1_ok 1 (by decide)) rfl rfl (Nat.le_of_ble_eq_true rfl) dX1_measure_7 (fun H locs hP hD hS => ?_)
  have hP : va_P g.1 vwCl (zzX g q (zzi (zzi u 6 (0 : Int32)) 7 (0 : Int32))) H := Eq.mp (congrArg (fun w => va_P g.1 vwCl w H) (zxo_9_1 g q (zzi u 6 (0 : Int32)) (0 : Int32))) hP
  have hD : va_D A (zzX g q (zzi (zzi u 6 (0 : Int32)) 7 (0 : Int32))) := Eq.mp (congrArg (va_D A) (zxo_9_1 g q (zzi u 6 (0 : Int32)) (0 : Int32))) hD
  refine lv_aload_n hx hb dX1_measure_10 rfl (lv_at hl 0 rfl) ?_
  refine lv_iconst (v := (0 : Int32)) hx hb dX1_measure_11 (by decide) ?_
  refine va_put (D := g.1) (ci := 1) (v := .int (0 : Int32)) (ty := .int) (C := RX1) (T := TX1) (N := 4) hx hb hts iX1 tyX1 tyX1_ok nmX1 hown hK hP hD hS 9 rfl rfl 2 (by decide) (zz_mem hts 3 rfl) (fun _ h9 => h9) rfl (tyX1_ok 2 (by decide)) rfl rfl (Nat.le_of_ble_eq_true rfl) dX1_measure_12 (fun H locs hP hD hS => ?_)
  have hP : va_P g.1 vwCl (zzX g q (zzi (zzi (zzi u 6 (0 : Int32)) 7 (0 : Int32)) 8 (0 : Int32))) H := Eq.mp (congrArg (fun w => va_P g.1 vwCl w H) (zxo_9_2 g q (zzi (zzi u 6 (0 : Int32)) 7 (0 : Int32)) (0 : Int32))) hP
  have hD : va_D A (zzX g q (zzi (zzi (zzi u 6 (0 : Int32)) 7 (0 : Int32)) 8 (0 : Int32))) := Eq.mp (congrArg (va_D A) (zxo_9_2 g q (zzi (zzi u 6 (0 : Int32)) 7 (0 : Int32)) (0 : Int32))) hD
  refine lv_iconst (v := (0 : Int32)) hx hb dX1_measure_15 (by decide) ?_
  refine lv_istore (lv' := [(4, .int (0 : Int32)), (0, .ref (q 9)), (1, .long p0), (3, .int p1)]) hx hb dX1_measure_16 hl (by decide) rfl (fun ls hl => ?_)
  refine lv_iconst (v := (0 : Int32)) hx hb dX1_measure_18 (by decide) ?_
  refine lv_istore (lv' := [(5, .int (0 : Int32)), (4, .int (0 : Int32)), (0, .ref (q 9)), (1, .long p0), (3, .int p1)]) hx hb dX1_measure_19 hl (by decide) rfl (fun ls hl => ?_)
  exact wX1_measure_21 l g q p0 p1 x C ret  _ _ hf _ _ _ hP hD hS (lv_sub hl [2, 3, 4, 1, 0] rfl)
abbrev rX2_renew : Room := ({ frames := 0, cells := 0, slots := 0, locals := 0 })
theorem mX2_renew : zzM yX2_renew wsX2_renew cX2_renew 4 none RX2 2 := ⟨⟨_, rfl⟩, by decide +kernel⟩
def sX2_renew_17 (p0 : Int32) (p1 : Int32) (j : Nat) : (Int32 × zzS) → ((Int32 × zzS) → Option zzS) → Option zzS := fun v1 rec2 => (if (60 : Int32) ≤ v1.1 then (some v1.2) else (zzpa 60 v1.1 (rec2 ((v1.1 + (1 : Int32)), (zza v1.2 (8 + j) v1.1.toNatClampNeg (0 : Int32))))))
set_option maxHeartbeats 4000000 in
set_option maxRecDepth 100000 in
theorem wX2_renew_17 (l : Launch) (g : zzG) (q : Nat → Nat) (p0 : Int32) (p1 : Int32) (j : Nat) (x : zzS) {p : Program} {e : Env} {s : State} {m : MethodId} {below : List Frame} {meth : Method} {c : Code} {A : Nat → Prop} {Q : State → Prop} (C : zzC g p s m ([.ref (q (14 + 2 * j)), .int p0, .int p1] : List Value).toArray c cX2_renew 4 RX2 wsX2_renew A) (ret : zzRV l g rX2_renew cX2_renew [.ref (q (14 + 2 * j)), .int p0, .int p1] (fun x : zzS => (zzX g q x)) x p e s m below meth c A Q) (hj : j < 4) (n : Nat) (v1 : Int32 × zzS) (hf : zzlp (sX2_renew_17 p0 p1 j) n v1 = some x) : ∀ (H : Heap) (locs : List Loc) (ls : Array Slot), va_P g.1 vwCl (zzX g q v1.2) H → va_D A (zzX g q v1.2) → va_S A s.heap H locs → lv_has ls 4 [(0, .ref (q (14 + 2 * j))), (3, .int (v1.1))] → W p l e rX2_renew s m ([.ref (q (14 + 2 * j)), .int p0, .int p1] : List Value).toArray below meth c H locs 0 0 Q (F0 m 17 ls []) := by
  have hx := C.1.1
  have hb := C.1.2.1
  have hml := C.1.2.2.1
  have hown := C.1.2.2.2.1
  have hts := C.1.2.2.2.2
  have hK := C.2.1
  have iX2 : ∀ w ∈ wsX20, w ∈ wsX2_renew := fun _ h => List.mem_cons_of_mem _ (List.mem_append_right _ h)
  refine zz_lp (P := fun (v1 : Int32 × zzS) => ∀ (H : Heap) (locs : List Loc) (ls : Array Slot), va_P g.1 vwCl (zzX g q v1.2) H → va_D A (zzX g q v1.2) → va_S A s.heap H locs → lv_has ls 4 [(0, .ref (q (14 + 2 * j))), (3, .int (v1.1))] → W p l e rX2_renew s m ([.ref (q (14 + 2 * j)), .int p0, .int p1] : List Value).toArray below meth c H locs 0 0 Q (F0 m 17 ls [])) (fun v1 rec2 ih3 hf H locs ls hP hD hS hl => ?_) n v1 hf
  unfold sX2_renew_17 at hf
  refine lv_iload_n hx hb dX2_renew_17 rfl (lv_at hl 1 rfl) ?_
  refine lv_bipush (v := (60 : Int32)) hx hb dX2_renew_18 (by decide) ?_
  refine lv_icmp_ge (tgt := 36) hx hb dX2_renew_20 (by decide) (fun c4 => ?_) (fun c4 => ?_)
  · have hf := zz_t c4 hf
    exact ret _ _ _ _ v1.2 hf dX2_renew_36 hP hD hS
  · have hf := zz_f c4 hf
    refine lv_aload_n hx hb dX2_renew_23 rfl (lv_at hl 0 rfl) ?_
    refine va_get (D := g.1) (ci := 2) (v := .ref (q (15 + 2 * j))) (C := RX2) (T := TX2) (N := 4) hx hb hts iX2 hown hK hP (14 + 2 * j) (zx_sh g q v1.2 hj) rfl 0 (by decide) (zz_mem hts 4 rfl) (fun _ h9 => h9) rfl dX2_renew_24 ?_
    refine lv_iload_n hx hb dX2_renew_27 rfl (lv_at hl 1 rfl) ?_
    refine lv_iconst (v := (0 : Int32)) hx hb dX2_renew_28 (by decide) ?_
    obtain ⟨h5, hf⟩ := zz_pa hf
    refine va_iast hx hb hK hP hD hS (15 + 2 * j) 0 (zx_sha g q v1.2 hj) rfl h5 dX2_renew_29 (fun H locs hP hD hS => ?_)
    have hP : va_P g.1 vwCl (zzX g q (zza v1.2 (8 + j) v1.1.toNatClampNeg (0 : Int32))) H := Eq.mp (congrArg (fun w => va_P g.1 vwCl w H) (zx_shA g q v1.2 hj (upd (v1.2.2 (8 + j)) v1.1.toNatClampNeg (0 : Int32)))) hP
    have hD : va_D A (zzX g q (zza v1.2 (8 + j) v1.1.toNatClampNeg (0 : Int32))) := Eq.mp (congrArg (va_D A) (zx_shA g q v1.2 hj (upd (v1.2.2 (8 + j)) v1.1.toNatClampNeg (0 : Int32)))) hD
    refine lv_iinc (v := (v1.1 + (1 : Int32))) (lv' := [(3, .int (v1.1 + (1 : Int32))), (0, .ref (q (14 + 2 * j)))]) hx hb dX2_renew_30 hl (k := 1) rfl rfl (by decide) rfl (fun ls hl => ?_)
    refine lv_goto (tgt := 17) hx hb dX2_renew_33 (by decide) ?_
    exact ih3 _ hf _ _ _ hP hD hS (lv_sub hl [1, 0] rfl)
def fX2_renew (j : Nat) (u : zzS) (p0 : Int32) (p1 : Int32) : Option zzS := (zzlp (sX2_renew_17 p0 p1 j) zzFU ((0 : Int32), (zzi (zzi (zzi u (13 + 3 * j) (1 : Int32)) (14 + 3 * j) p0) (15 + 3 * j) p1)))
set_option maxHeartbeats 4000000 in
set_option maxRecDepth 100000 in
theorem kX2_renew (l : Launch) (g : zzG) (q : Nat → Nat) (sz : Nat) (j : Nat) (hj : j < 4) (u : zzS) (p0 : Int32) (p1 : Int32) (x : zzS) (hf : fX2_renew j u p0 p1 = some x) : zzV l g yX2_renew wsX2_renew rX2_renew [.ref (q (14 + 2 * j)), .int p0, .int p1] (zzX g q u) (zzX g q x) sz := by
  refine zz_mv (cc := cX2_renew) (mL := 4) (own := RX2) (fun x : zzS => (zzX g q x)) x (by decide) rfl rfl (Nat.le_of_ble_eq_true rfl) ?_
  intro p e s m below meth c A Q ls C ret hP hD hS hl
  have hl : lv_has ls 4 [(0, .ref (q (14 + 2 * j))), (1, .int p0), (2, .int p1)] := hl
  have hx := C.1.1
  have hb := C.1.2.1
  have hml := C.1.2.2.1
  have hown := C.1.2.2.2.1
  have hts := C.1.2.2.2.2
  have hK := C.2.1
  have iX2 : ∀ w ∈ wsX20, w ∈ wsX2_renew := fun _ h => List.mem_cons_of_mem _ (List.mem_append_right _ h)
  unfold fX2_renew at hf
  refine lv_aload_n hx hb dX2_renew_0 rfl (lv_at hl 0 rfl) ?_
  refine lv_iconst (v := (1 : Int32)) hx hb dX2_renew_1 (by decide) ?_
  refine va_put (D := g.1) (ci := 2) (v := .int (1 : Int32)) (ty := .boolean) (C := RX2) (T := TX2) (N := 4) hx hb hts iX2 tyX2 tyX2_ok nmX2 hown hK hP hD hS (14 + 2 * j) (zx_sh g q u hj) rfl 1 (by decide) (zz_mem hts 1 rfl) (fun _ h9 => h9) rfl (tyX2_ok 1 (by decide)) rfl rfl (Nat.le_of_ble_eq_true rfl) dX2_renew_2 (fun H locs hP hD hS => ?_)
  have hP : va_P g.1 vwCl (zzX g q (zzi u (13 + 3 * j) (1 : Int32))) H := Eq.mp (congrArg (fun w => va_P g.1 vwCl w H) (zx_sh1 g q u hj (1 : Int32))) hP
  have hD : va_D A (zzX g q (zzi u (13 + 3 * j) (1 : Int32))) := Eq.mp (congrArg (va_D A) (zx_sh1 g q u hj (1 : Int32))) hD
  refine lv_aload_n hx hb dX2_renew_5 rfl (lv_at hl 0 rfl) ?_
  refine lv_iload_n hx hb dX2_renew_6 rfl (lv_at hl 1 rfl) ?_
  refine va_put (D := g.1) (ci := 2) (v := .int p0) (ty := .int) (C := RX2) (T := TX2) (N := 4) hx hb hts iX2 tyX2 tyX2_ok nmX2 hown hK hP hD hS (14 + 2 * j) (zx_sh g q (zzi u (13 + 3 * j) (1 : Int32)) hj) rfl 2 (by decide) (zz_mem hts 2 rfl) (fun _ h9 => h9) rfl (tyX2_ok 2 (by decide)) rfl rfl (Nat.le_of_ble_eq_true rfl) dX2_renew_7 (fun H locs hP hD hS => ?_)
  have hP : va_P g.1 vwCl (zzX g q (zzi (zzi u (13 + 3 * j) (1 : Int32)) (14 + 3 * j) p0)) H := Eq.mp (congrArg (fun w => va_P g.1 vwCl w H) (zx_sh2 g q (zzi u (13 + 3 * j) (1 : Int32)) hj p0)) hP
  have hD : va_D A (zzX g q (zzi (zzi u (13 + 3 * j) (1 : Int32)) (14 + 3 * j) p0)) := Eq.mp (congrArg (va_D A) (zx_sh2 g q (zzi u (13 + 3 * j) (1 : Int32)) hj p0)) hD
  refine lv_aload_n hx hb dX2_renew_10 rfl (lv_at hl 0 rfl) ?_
  refine lv_iload_n hx hb dX2_renew_11 rfl (lv_at hl 2 rfl) ?_
  refine va_put (D := g.1) (ci := 2) (v := .int p1) (ty := .int) (C := RX2) (T := TX2) (N := 4) hx hb hts iX2 tyX2 tyX2_ok nmX2 hown hK hP hD hS (14 + 2 * j) (zx_sh g q (zzi (zzi u (13 + 3 * j) (1 : Int32)) (14 + 3 * j) p0) hj) rfl 3 (by decide) (zz_mem hts 3 rfl) (fun _ h9 => h9) rfl (tyX2_ok 3 (by decide)) rfl rfl (Nat.le_of_ble_eq_true rfl) dX2_renew_12 (fun H locs hP hD hS => ?_)
  have hP : va_P g.1 vwCl (zzX g q (zzi (zzi (zzi u (13 + 3 * j) (1 : Int32)) (14 + 3 * j) p0) (15 + 3 * j) p1)) H := Eq.mp (congrArg (fun w => va_P g.1 vwCl w H) (zx_sh3 g q (zzi (zzi u (13 + 3 * j) (1 : Int32)) (14 + 3 * j) p0) hj p1)) hP
  have hD : va_D A (zzX g q (zzi (zzi (zzi u (13 + 3 * j) (1 : Int32)) (14 + 3 * j) p0) (15 + 3 * j) p1)) := Eq.mp (congrArg (va_D A) (zx_sh3 g q (zzi (zzi u (13 + 3 * j) (1 : Int32)) (14 + 3 * j) p0) hj p1)) hD
  refine lv_iconst (v := (0 : Int32)) hx hb dX2_renew_15 (by decide) ?_
  refine lv_istore_n (lv' := [(3, .int (0 : Int32)), (0, .ref (q (14 + 2 * j))), (1, .int p0), (2, .int p1)]) hx hb dX2_renew_16 rfl hl (by decide) rfl (fun ls hl => ?_)
  exact wX2_renew_17 l g q p0 p1 j x C ret hj _ _ hf _ _ _ hP hD hS (lv_sub hl [1, 0] rfl)
abbrev rX2_empty : Room := ({ frames := 0, cells := 0, slots := 0, locals := 0 })
theorem mX2_empty : zzM yX2_empty wsX2_empty cX2_empty 1 none RX2 0 := ⟨⟨_, rfl⟩, by decide +kernel⟩
def fX2_empty (j : Nat) (u : zzS) : Option zzS := (some (zzi (zzi u (13 + 3 * j) (0 : Int32)) (15 + 3 * j) (0 : Int32)))
set_option maxHeartbeats 4000000 in
set_option maxRecDepth 100000 in
theorem kX2_empty (l : Launch) (g : zzG) (q : Nat → Nat) (sz : Nat) (j : Nat) (hj : j < 4) (u : zzS)  (x : zzS) (hf : fX2_empty j u = some x) : zzV l g yX2_empty wsX2_empty rX2_empty [.ref (q (14 + 2 * j))] (zzX g q u) (zzX g q x) sz := by
  refine zz_mv (cc := cX2_empty) (mL := 1) (own := RX2) (fun x : zzS => (zzX g q x)) x (by decide) rfl rfl (Nat.le_of_ble_eq_true rfl) ?_
  intro p e s m below meth c A Q ls C ret hP hD hS hl
  have hl : lv_has ls 1 [(0, .ref (q (14 + 2 * j)))] := hl
  have hx := C.1.1
  have hb := C.1.2.1
  have hml := C.1.2.2.1
  have hown := C.1.2.2.2.1
  have hts := C.1.2.2.2.2
  have hK := C.2.1
  have iX2 : ∀ w ∈ wsX20, w ∈ wsX2_empty := fun _ h => List.mem_cons_of_mem _ (List.mem_append_right _ h)
  unfold fX2_empty at hf
  refine lv_aload_n hx hb dX2_empty_0 rfl (lv_at hl 0 rfl) ?_
  refine lv_iconst (v := (0 : Int32)) hx hb dX2_empty_1 (by decide) ?_
  refine va_put (D := g.1) (ci := 2) (v := .int (0 : Int32)) (ty := .boolean) (C := RX2) (T := TX2) (N := 4) hx hb hts iX2 tyX2 tyX2_ok nmX2 hown hK hP hD hS (14 + 2 * j) (zx_sh g q u hj) rfl 1 (by decide) (zz_mem hts 1 rfl) (fun _ h9 => h9) rfl (tyX2_ok 1 (by decide)) rfl rfl (Nat.le_of_ble_eq_true rfl) dX2_empty_2 (fun H locs hP hD hS => ?_)
  have hP : va_P g.1 vwCl (zzX g q (zzi u (13 + 3 * j) (0 : Int32))) H := Eq.mp (congrArg (fun w => va_P g.1 vwCl w H) (zx_sh1 g q u hj (0 : Int32))) hP
  have hD : va_D A (zzX g q (zzi u (13 + 3 * j) (0 : Int32))) := Eq.mp (congrArg (va_D A) (zx_sh1 g q u hj (0 : Int32))) hD
  refine lv_aload_n hx hb dX2_empty_5 rfl (lv_at hl 0 rfl) ?_
  refine lv_iconst (v := (0 : Int32)) hx hb dX2_empty_6 (by decide) ?_
  refine va_put (D := g.1) (ci := 2) (v := .int (0 : Int32)) (ty := .int) (C := RX2) (T := TX2) (N := 4) hx hb hts iX2 tyX2 tyX2_ok nmX2 hown hK hP hD hS (14 + 2 * j) (zx_sh g q (zzi u (13 + 3 * j) (0 : Int32)) hj) rfl 3 (by decide) (zz_mem hts 2 rfl) (fun _ h9 => h9) rfl (tyX2_ok 3 (by decide)) rfl rfl (Nat.le_of_ble_eq_true rfl) dX2_empty_7 (fun H locs hP hD hS => ?_)
  have hP : va_P g.1 vwCl (zzX g q (zzi (zzi u (13 + 3 * j) (0 : Int32)) (15 + 3 * j) (0 : Int32))) H := Eq.mp (congrArg (fun w => va_P g.1 vwCl w H) (zx_sh3 g q (zzi u (13 + 3 * j) (0 : Int32)) hj (0 : Int32))) hP
  have hD : va_D A (zzX g q (zzi (zzi u (13 + 3 * j) (0 : Int32)) (15 + 3 * j) (0 : Int32))) := Eq.mp (congrArg (va_D A) (zx_sh3 g q (zzi u (13 + 3 * j) (0 : Int32)) hj (0 : Int32))) hD
  exact ret _ _ _ _ (zzi (zzi u (13 + 3 * j) (0 : Int32)) (15 + 3 * j) (0 : Int32)) hf dX2_empty_10 hP hD hS
abbrev rX2_faultAs : Room := ({ frames := 0, cells := 0, slots := 0, locals := 0 })
theorem mX2_faultAs : zzM yX2_faultAs wsX2_faultAs cX2_faultAs 2 (some .int) RX2 1 := ⟨⟨_, rfl⟩, by decide +kernel⟩
def fX2_faultAs (j : Nat) (u : zzS) (p0 : Int32) : Option Int32 := (if (u.1 (13 + 3 * j)) = 0 then (some (1 : Int32)) else (if (u.1 (14 + 3 * j)) = p0 then (some (0 : Int32)) else (some (2 : Int32))))
set_option maxHeartbeats 4000000 in
set_option maxRecDepth 100000 in
theorem kX2_faultAs (l : Launch) (g : zzG) (q : Nat → Nat) (sz : Nat) (j : Nat) (hj : j < 4) (u : zzS) (p0 : Int32) (x : Int32) (hf : fX2_faultAs j u p0 = some x) : zzI l g yX2_faultAs wsX2_faultAs rX2_faultAs [.ref (q (14 + 2 * j)), .int p0] (zzX g q u) (zzX g q u) sz x := by
  refine zz_mi (cc := cX2_faultAs) (mL := 2) (own := RX2) (fun x : Int32 => x) (fun x : Int32 => (zzX g q u)) x (by decide) rfl rfl (Nat.le_of_ble_eq_true rfl) ?_
  intro p e s m below meth c A Q ls C ret hP hD hS hl
  have hl : lv_has ls 2 [(0, .ref (q (14 + 2 * j))), (1, .int p0)] := hl
  have hx := C.1.1
  have hb := C.1.2.1
  have hml := C.1.2.2.1
  have hown := C.1.2.2.2.1
  have hts := C.1.2.2.2.2
  have hK := C.2.1
  have iX2 : ∀ w ∈ wsX20, w ∈ wsX2_faultAs := fun _ h => List.mem_cons_of_mem _ (List.mem_append_right _ h)
  unfold fX2_faultAs at hf
  refine lv_aload_n hx hb dX2_faultAs_0 rfl (lv_at hl 0 rfl) ?_
  refine va_get (D := g.1) (ci := 2) (v := .int (u.1 (13 + 3 * j))) (C := RX2) (T := TX2) (N := 4) hx hb hts iX2 hown hK hP (14 + 2 * j) (zx_sh g q u hj) rfl 1 (by decide) (zz_mem hts 1 rfl) (fun _ h9 => h9) rfl dX2_faultAs_1 ?_
  refine lv_if_ne (tgt := 9) hx hb dX2_faultAs_4 (by decide) (fun c1 => ?_) (fun c1 => ?_)
  · have hf := zz_f c1 hf
    refine lv_aload_n hx hb dX2_faultAs_9 rfl (lv_at hl 0 rfl) ?_
    refine va_get (D := g.1) (ci := 2) (v := .int (u.1 (14 + 3 * j))) (C := RX2) (T := TX2) (N := 4) hx hb hts iX2 hown hK hP (14 + 2 * j) (zx_sh g q u hj) rfl 2 (by decide) (zz_mem hts 2 rfl) (fun _ h9 => h9) rfl dX2_faultAs_10 ?_
    refine lv_iload_n hx hb dX2_faultAs_13 rfl (lv_at hl 1 rfl) ?_
    refine lv_icmp_ne (tgt := 21) hx hb dX2_faultAs_14 (by decide) (fun c2 => ?_) (fun c2 => ?_)
    · have hf := zz_f c2 hf
      refine lv_iconst (v := (2 : Int32)) hx hb dX2_faultAs_21 (by decide) ?_
      exact ret _ _ _ _ (2 : Int32) hf dX2_faultAs_22 hP hD hS
    · have hf := zz_t c2 hf
      refine lv_iconst (v := (0 : Int32)) hx hb dX2_faultAs_17 (by decide) ?_
      refine lv_goto (tgt := 22) hx hb dX2_faultAs_18 (by decide) ?_
      exact ret _ _ _ _ (0 : Int32) hf dX2_faultAs_22 hP hD hS
  · have hf := zz_t c1 hf
    refine lv_iconst (v := (1 : Int32)) hx hb dX2_faultAs_7 (by decide) ?_
    exact ret _ _ _ _ (1 : Int32) hf dX2_faultAs_8 hP hD hS
abbrev rX2_hasCell : Room := ({ frames := 0, cells := 0, slots := 0, locals := 0 })
theorem mX2_hasCell : zzM yX2_hasCell wsX2_hasCell cX2_hasCell 2 (some .boolean) RX2 1 := ⟨⟨_, rfl⟩, by decide +kernel⟩
def fX2_hasCell (j : Nat) (u : zzS) (p0 : Int32) : Option Int32 := (if p0 < 0 then (some (0 : Int32)) else (if (u.1 (15 + 3 * j)) ≤ p0 then (some (0 : Int32)) else (if (60 : Int32) ≤ p0 then (some (0 : Int32)) else (some (1 : Int32)))))
set_option maxHeartbeats 4000000 in
set_option maxRecDepth 100000 in
theorem kX2_hasCell (l : Launch) (g : zzG) (q : Nat → Nat) (sz : Nat) (j : Nat) (hj : j < 4) (u : zzS) (p0 : Int32) (x : Int32) (hf : fX2_hasCell j u p0 = some x) : zzZ l g yX2_hasCell wsX2_hasCell rX2_hasCell [.ref (q (14 + 2 * j)), .int p0] (zzX g q u) (zzX g q u) sz x := by
  refine zz_mz (cc := cX2_hasCell) (mL := 2) (own := RX2) (fun x : Int32 => x) (fun x : Int32 => (zzX g q u)) x (by decide) rfl rfl (Nat.le_of_ble_eq_true rfl) ?_
  intro p e s m below meth c A Q ls C ret hP hD hS hl
  have hl : lv_has ls 2 [(0, .ref (q (14 + 2 * j))), (1, .int p0)] := hl
  have hx := C.1.1
  have hb := C.1.2.1
  have hml := C.1.2.2.1
  have hown := C.1.2.2.2.1
  have hts := C.1.2.2.2.2
  have hK := C.2.1
  have iX2 : ∀ w ∈ wsX20, w ∈ wsX2_hasCell := fun _ h => List.mem_cons_of_mem _ (List.mem_append_right _ h)
  unfold fX2_hasCell at hf
  refine lv_iload_n hx hb dX2_hasCell_0 rfl (lv_at hl 1 rfl) ?_
  refine lv_if_lt (tgt := 22) hx hb dX2_hasCell_1 (by decide) (fun c1 => ?_) (fun c1 => ?_)
  · have hf := zz_t c1 hf
    refine lv_iconst (v := (0 : Int32)) hx hb dX2_hasCell_22 (by decide) ?_
    exact ret _ _ _ _ (0 : Int32) hf dX2_hasCell_23 zz_n0 hP hD hS
  · have hf := zz_f c1 hf
    refine lv_iload_n hx hb dX2_hasCell_4 rfl (lv_at hl 1 rfl) ?_
    refine lv_aload_n hx hb dX2_hasCell_5 rfl (lv_at hl 0 rfl) ?_
    refine va_get (D := g.1) (ci := 2) (v := .int (u.1 (15 + 3 * j))) (C := RX2) (T := TX2) (N := 4) hx hb hts iX2 hown hK hP (14 + 2 * j) (zx_sh g q u hj) rfl 3 (by decide) (zz_mem hts 1 rfl) (fun _ h9 => h9) rfl dX2_hasCell_6 ?_
    refine lv_icmp_ge (tgt := 22) hx hb dX2_hasCell_9 (by decide) (fun c2 => ?_) (fun c2 => ?_)
    · have hf := zz_t c2 hf
      refine lv_iconst (v := (0 : Int32)) hx hb dX2_hasCell_22 (by decide) ?_
      exact ret _ _ _ _ (0 : Int32) hf dX2_hasCell_23 zz_n0 hP hD hS
    · have hf := zz_f c2 hf
      refine lv_iload_n hx hb dX2_hasCell_12 rfl (lv_at hl 1 rfl) ?_
      refine lv_bipush (v := (60 : Int32)) hx hb dX2_hasCell_13 (by decide) ?_
      refine lv_icmp_ge (tgt := 22) hx hb dX2_hasCell_15 (by decide) (fun c3 => ?_) (fun c3 => ?_)
      · have hf := zz_t c3 hf
        refine lv_iconst (v := (0 : Int32)) hx hb dX2_hasCell_22 (by decide) ?_
        exact ret _ _ _ _ (0 : Int32) hf dX2_hasCell_23 zz_n0 hP hD hS
      · have hf := zz_f c3 hf
        refine lv_iconst (v := (1 : Int32)) hx hb dX2_hasCell_18 (by decide) ?_
        refine lv_goto (tgt := 23) hx hb dX2_hasCell_19 (by decide) ?_
        exact ret _ _ _ _ (1 : Int32) hf dX2_hasCell_23 zz_n1 hP hD hS
abbrev rX2_holds : Room := ({ frames := 0, cells := 0, slots := 0, locals := 0 })
theorem mX2_holds : zzM yX2_holds wsX2_holds cX2_holds 3 (some .boolean) RX2 2 := ⟨⟨_, rfl⟩, by decide +kernel⟩
def fX2_holds (j : Nat) (u : zzS) (p0 : Int32) (p1 : Int32) : Option Int32 := (if p0 < 0 then (some (0 : Int32)) else (if (u.1 (15 + 3 * j)) < p0 then (some (0 : Int32)) else (if p1 < 0 then (some (0 : Int32)) else (if ((u.1 (15 + 3 * j)) - p0) < p1 then (some (0 : Int32)) else (some (1 : Int32))))))
set_option maxHeartbeats 4000000 in
set_option maxRecDepth 100000 in
theorem kX2_holds (l : Launch) (g : zzG) (q : Nat → Nat) (sz : Nat) (j : Nat) (hj : j < 4) (u : zzS) (p0 : Int32) (p1 : Int32) (x : Int32) (hf : fX2_holds j u p0 p1 = some x) : zzZ l g yX2_holds wsX2_holds rX2_holds [.ref (q (14 + 2 * j)), .int p0, .int p1] (zzX g q u) (zzX g q u) sz x := by
  refine zz_mz (cc := cX2_holds) (mL := 3) (own := RX2) (fun x : Int32 => x) (fun x : Int32 => (zzX g q u)) x (by decide) rfl rfl (Nat.le_of_ble_eq_true rfl) ?_
  intro p e s m below meth c A Q ls C ret hP hD hS hl
  have hl : lv_has ls 3 [(0, .ref (q (14 + 2 * j))), (1, .int p0), (2, .int p1)] := hl
  have hx := C.1.1
  have hb := C.1.2.1
  have hml := C.1.2.2.1
  have hown := C.1.2.2.2.1
  have hts := C.1.2.2.2.2
  have hK := C.2.1
  have iX2 : ∀ w ∈ wsX20, w ∈ wsX2_holds := fun _ h => List.mem_cons_of_mem _ (List.mem_append_right _ h)
  unfold fX2_holds at hf
  refine lv_iload_n hx hb dX2_holds_0 rfl (lv_at hl 1 rfl) ?_
  refine lv_if_lt (tgt := 30) hx hb dX2_holds_1 (by decide) (fun c1 => ?_) (fun c1 => ?_)
  · have hf := zz_t c1 hf
    refine lv_iconst (v := (0 : Int32)) hx hb dX2_holds_30 (by decide) ?_
    exact ret _ _ _ _ (0 : Int32) hf dX2_holds_31 zz_n0 hP hD hS
  · have hf := zz_f c1 hf
    refine lv_iload_n hx hb dX2_holds_4 rfl (lv_at hl 1 rfl) ?_
    refine lv_aload_n hx hb dX2_holds_5 rfl (lv_at hl 0 rfl) ?_
    refine va_get (D := g.1) (ci := 2) (v := .int (u.1 (15 + 3 * j))) (C := RX2) (T := TX2) (N := 4) hx hb hts iX2 hown hK hP (14 + 2 * j) (zx_sh g q u hj) rfl 3 (by decide) (zz_mem hts 1 rfl) (fun _ h9 => h9) rfl dX2_holds_6 ?_
    refine lv_icmp_gt (tgt := 30) hx hb dX2_holds_9 (by decide) (fun c2 => ?_) (fun c2 => ?_)
    · have hf := zz_t c2 hf
      refine lv_iconst (v := (0 : Int32)) hx hb dX2_holds_30 (by decide) ?_
      exact ret _ _ _ _ (0 : Int32) hf dX2_holds_31 zz_n0 hP hD hS
    · have hf := zz_f c2 hf
      refine lv_iload_n hx hb dX2_holds_12 rfl (lv_at hl 2 rfl) ?_
      refine lv_if_lt (tgt := 30) hx hb dX2_holds_13 (by decide) (fun c3 => ?_) (fun c3 => ?_)
      · have hf := zz_t c3 hf
        refine lv_iconst (v := (0 : Int32)) hx hb dX2_holds_30 (by decide) ?_
        exact ret _ _ _ _ (0 : Int32) hf dX2_holds_31 zz_n0 hP hD hS
      · have hf := zz_f c3 hf
        refine lv_iload_n hx hb dX2_holds_16 rfl (lv_at hl 2 rfl) ?_
        refine lv_aload_n hx hb dX2_holds_17 rfl (lv_at hl 0 rfl) ?_
        refine va_get (D := g.1) (ci := 2) (v := .int (u.1 (15 + 3 * j))) (C := RX2) (T := TX2) (N := 4) hx hb hts iX2 hown hK hP (14 + 2 * j) (zx_sh g q u hj) rfl 3 (by decide) (zz_mem hts 1 rfl) (fun _ h9 => h9) rfl dX2_holds_18 ?_
        refine lv_iload_n hx hb dX2_holds_21 rfl (lv_at hl 1 rfl) ?_
        refine lv_isub hx hb dX2_holds_22 ?_
        refine lv_icmp_gt (tgt := 30) hx hb dX2_holds_23 (by decide) (fun c4 => ?_) (fun c4 => ?_)
        · have hf := zz_t c4 hf
          refine lv_iconst (v := (0 : Int32)) hx hb dX2_holds_30 (by decide) ?_
          exact ret _ _ _ _ (0 : Int32) hf dX2_holds_31 zz_n0 hP hD hS
        · have hf := zz_f c4 hf
          refine lv_iconst (v := (1 : Int32)) hx hb dX2_holds_26 (by decide) ?_
          refine lv_goto (tgt := 31) hx hb dX2_holds_27 (by decide) ?_
          exact ret _ _ _ _ (1 : Int32) hf dX2_holds_31 zz_n1 hP hD hS
abbrev rX2_at : Room := ({ frames := 1, cells := 0, slots := 0, locals := 21 })
theorem mX2_at : zzM yX2_at wsX2_at cX2_at 2 (some .int) RX2 1 := ⟨⟨_, rfl⟩, by decide +kernel⟩
def fX2_at (j : Nat) (u : zzS) (p0 : Int32) : Option Int32 := ((fX2_hasCell j u p0).bind (fun r1 => (if r1 = 0 then (some (0 : Int32)) else (zzga (u.2 (8 + j)) 60 p0 (fun x4 => (some x4))))))
set_option maxHeartbeats 4000000 in
set_option maxRecDepth 100000 in
theorem kX2_at (l : Launch) (g : zzG) (q : Nat → Nat) (sz : Nat) (j : Nat) (hj : j < 4) (u : zzS) (p0 : Int32) (x : Int32) (hf : fX2_at j u p0 = some x) : zzI l g yX2_at wsX2_at rX2_at [.ref (q (14 + 2 * j)), .int p0] (zzX g q u) (zzX g q u) sz x := by
  refine zz_mi (cc := cX2_at) (mL := 2) (own := RX2) (fun x : Int32 => x) (fun x : Int32 => (zzX g q u)) x (by decide) rfl rfl (Nat.le_of_ble_eq_true rfl) ?_
  intro p e s m below meth c A Q ls C ret hP hD hS hl
  have hl : lv_has ls 2 [(0, .ref (q (14 + 2 * j))), (1, .int p0)] := hl
  have hx := C.1.1
  have hb := C.1.2.1
  have hml := C.1.2.2.1
  have hown := C.1.2.2.2.1
  have hts := C.1.2.2.2.2
  have hK := C.2.1
  have iX2 : ∀ w ∈ wsX20, w ∈ wsX2_at := fun _ h => List.mem_cons_of_mem _ (List.mem_append_right _ h)
  unfold fX2_at at hf
  refine lv_aload_n hx hb dX2_at_0 rfl (lv_at hl 0 rfl) ?_
  refine lv_iload_n hx hb dX2_at_1 rfl (lv_at hl 1 rfl) ?_
  obtain ⟨r1, hc1, hf⟩ := zz_bs hf
  refine zz_cVz C hP hD hS (kX2_hasCell l g q _ j hj u p0 r1 hc1) gX2_at_X2_hasCell mX2_hasCell (by decide) ⟨Nat.zero_le _, Nat.zero_le _⟩ (14 + 2 * j) (zx_sh g q u hj) rfl rfl rfl (rest := []) rfl hl.1 (Nat.le_of_ble_eq_true rfl) dX2_at_2 (fun hz1 H locs hP hD hS => ?_)
  refine lv_if_eq (tgt := 17) hx hb dX2_at_5 (by decide) (fun c2 => ?_) (fun c2 => ?_)
  · have hf := zz_t c2 hf
    refine lv_iconst (v := (0 : Int32)) hx hb dX2_at_17 (by decide) ?_
    exact ret _ _ _ _ (0 : Int32) hf dX2_at_18 hP hD hS
  · have hf := zz_f c2 hf
    refine lv_aload_n hx hb dX2_at_8 rfl (lv_at hl 0 rfl) ?_
    refine va_get (D := g.1) (ci := 2) (v := .ref (q (15 + 2 * j))) (C := RX2) (T := TX2) (N := 4) hx hb hts iX2 hown hK hP (14 + 2 * j) (zx_sh g q u hj) rfl 0 (by decide) (zz_mem hts 1 rfl) (fun _ h9 => h9) rfl dX2_at_9 ?_
    refine lv_iload_n hx hb dX2_at_12 rfl (lv_at hl 1 rfl) ?_
    obtain ⟨x4, h3, ex4, hf⟩ := zz_gx hf
    refine zz_iald hx hb hK hP (15 + 2 * j) 0 (zx_sha g q u hj) rfl h3 ex4 dX2_at_13 ?_
    refine lv_goto (tgt := 18) hx hb dX2_at_14 (by decide) ?_
    exact ret _ _ _ _ x4 hf dX2_at_18 hP hD hS
abbrev rX2_cutToLane : Room := ({ frames := 0, cells := 0, slots := 0, locals := 0 })
theorem mX2_cutToLane : zzM yX2_cutToLane wsX2_cutToLane cX2_cutToLane 2 (some .int) RX2 1 := ⟨⟨_, rfl⟩, by decide +kernel⟩
def fX2_cutToLane (j : Nat) (u : zzS) (p0 : Int32) : Option Int32 := (if (u.1 (14 + 3 * j)) = (0 : Int32) then (some (p0.toInt8.toInt32)) else (if (u.1 (14 + 3 * j)) = (1 : Int32) then (some (p0.toInt16.toInt32)) else (some p0)))
set_option maxHeartbeats 4000000 in
set_option maxRecDepth 100000 in
theorem kX2_cutToLane (l : Launch) (g : zzG) (q : Nat → Nat) (sz : Nat) (j : Nat) (hj : j < 4) (u : zzS) (p0 : Int32) (x : Int32) (hf : fX2_cutToLane j u p0 = some x) : zzI l g yX2_cutToLane wsX2_cutToLane rX2_cutToLane [.ref (q (14 + 2 * j)), .int p0] (zzX g q u) (zzX g q u) sz x := by
  refine zz_mi (cc := cX2_cutToLane) (mL := 2) (own := RX2) (fun x : Int32 => x) (fun x : Int32 => (zzX g q u)) x (by decide) rfl rfl (Nat.le_of_ble_eq_true rfl) ?_
  intro p e s m below meth c A Q ls C ret hP hD hS hl
  have hl : lv_has ls 2 [(0, .ref (q (14 + 2 * j))), (1, .int p0)] := hl
  have hx := C.1.1
  have hb := C.1.2.1
  have hml := C.1.2.2.1
  have hown := C.1.2.2.2.1
  have hts := C.1.2.2.2.2
  have hK := C.2.1
  have iX2 : ∀ w ∈ wsX20, w ∈ wsX2_cutToLane := fun _ h => List.mem_cons_of_mem _ (List.mem_append_right _ h)
  unfold fX2_cutToLane at hf
  refine lv_aload_n hx hb dX2_cutToLane_0 rfl (lv_at hl 0 rfl) ?_
  refine va_get (D := g.1) (ci := 2) (v := .int (u.1 (14 + 3 * j))) (C := RX2) (T := TX2) (N := 4) hx hb hts iX2 hown hK hP (14 + 2 * j) (zx_sh g q u hj) rfl 2 (by decide) (zz_mem hts 1 rfl) (fun _ h9 => h9) rfl dX2_cutToLane_1 ?_
  by_cases c1 : (u.1 (14 + 3 * j)) = (0 : Int32)
  · have hf := zz_t c1 hf
    refine lv_lookup (tgt := 32) (off := 28) hx hb dX2_cutToLane_4 (by decide) (by rw [c1]; decide) (by decide) ?_
    refine lv_iload_n hx hb dX2_cutToLane_32 rfl (lv_at hl 1 rfl) ?_
    refine lv_i2b hx hb dX2_cutToLane_33 rfl ?_
    exact ret _ _ _ _ (p0.toInt8.toInt32) hf dX2_cutToLane_34 hP hD hS
  · have hf := zz_f c1 hf
    by_cases c2 : (u.1 (14 + 3 * j)) = (1 : Int32)
    · have hf := zz_t c2 hf
      refine lv_lookup (tgt := 35) (off := 31) hx hb dX2_cutToLane_4 (by decide) (by rw [c2]; decide) (by decide) ?_
      refine lv_iload_n hx hb dX2_cutToLane_35 rfl (lv_at hl 1 rfl) ?_
      refine lv_i2s hx hb dX2_cutToLane_36 rfl ?_
      exact ret _ _ _ _ (p0.toInt16.toInt32) hf dX2_cutToLane_37 hP hD hS
    · have hf := zz_f c2 hf
      have ac1 : (u.1 (14 + 3 * j)).toInt ≠ 0 := fun h => c1 (Int32.toInt_inj.mp (h.trans (by decide)))
      have ac2 : (u.1 (14 + 3 * j)).toInt ≠ 1 := fun h => c2 (Int32.toInt_inj.mp (h.trans (by decide)))
      refine lv_lookup (tgt := 38) (off := 34) hx hb dX2_cutToLane_4 (by decide) (zz_lk2 ac1 ac2) (by decide) ?_
      refine lv_iload_n hx hb dX2_cutToLane_38 rfl (lv_at hl 1 rfl) ?_
      exact ret _ _ _ _ p0 hf dX2_cutToLane_39 hP hD hS
abbrev rX3_isLaid : Room := ({ frames := 0, cells := 0, slots := 0, locals := 0 })
theorem mX3_isLaid : zzM yX3_isLaid wsX3_isLaid cX3_isLaid 1 (some .boolean) RX3 0 := ⟨⟨_, rfl⟩, by decide +kernel⟩
def fX3_isLaid (t : Nat) (u : zzS) : Option Int32 := (if (u.1 (3 * t)) ≤ 0 then (some (0 : Int32)) else (some (1 : Int32)))
set_option maxHeartbeats 4000000 in
set_option maxRecDepth 100000 in
theorem kX3_isLaid (l : Launch) (g : zzG) (q : Nat → Nat) (sz : Nat) (t : Nat) (ht : t < 2) (u : zzS)  (x : Int32) (hf : fX3_isLaid t u = some x) : zzZ l g yX3_isLaid wsX3_isLaid rX3_isLaid [.ref (q (1 + 4 * t))] (zzX g q u) (zzX g q u) sz x := by
  refine zz_mz (cc := cX3_isLaid) (mL := 1) (own := RX3) (fun x : Int32 => x) (fun x : Int32 => (zzX g q u)) x (by decide) rfl rfl (Nat.le_of_ble_eq_true rfl) ?_
  intro p e s m below meth c A Q ls C ret hP hD hS hl
  have hl : lv_has ls 1 [(0, .ref (q (1 + 4 * t)))] := hl
  have hx := C.1.1
  have hb := C.1.2.1
  have hml := C.1.2.2.1
  have hown := C.1.2.2.2.1
  have hts := C.1.2.2.2.2
  have hK := C.2.1
  have iX3 : ∀ w ∈ wsX30, w ∈ wsX3_isLaid := fun _ h => List.mem_cons_of_mem _ (List.mem_append_right _ h)
  unfold fX3_isLaid at hf
  refine lv_aload_n hx hb dX3_isLaid_0 rfl (lv_at hl 0 rfl) ?_
  refine va_get (D := g.1) (ci := 3) (v := .int (u.1 (3 * t))) (C := RX3) (T := TX3) (N := 6) hx hb hts iX3 hown hK hP (1 + 4 * t) (zx_sn g q u ht) rfl 3 (by decide) (zz_mem hts 1 rfl) (fun _ h9 => h9) rfl dX3_isLaid_1 ?_
  refine lv_if_le (tgt := 11) hx hb dX3_isLaid_4 (by decide) (fun c1 => ?_) (fun c1 => ?_)
  · have hf := zz_t c1 hf
    refine lv_iconst (v := (0 : Int32)) hx hb dX3_isLaid_11 (by decide) ?_
    exact ret _ _ _ _ (0 : Int32) hf dX3_isLaid_12 zz_n0 hP hD hS
  · have hf := zz_f c1 hf
    refine lv_iconst (v := (1 : Int32)) hx hb dX3_isLaid_7 (by decide) ?_
    refine lv_goto (tgt := 12) hx hb dX3_isLaid_8 (by decide) ?_
    exact ret _ _ _ _ (1 : Int32) hf dX3_isLaid_12 zz_n1 hP hD hS
abbrev rX3_has : Room := ({ frames := 0, cells := 0, slots := 0, locals := 0 })
theorem mX3_has : zzM yX3_has wsX3_has cX3_has 2 (some .boolean) RX3 1 := ⟨⟨_, rfl⟩, by decide +kernel⟩
def fX3_has (t : Nat) (u : zzS) (p0 : Int32) : Option Int32 := (if p0 < 0 then (some (0 : Int32)) else (if (u.1 (3 * t)) ≤ p0 then (some (0 : Int32)) else (if (5 : Int32) ≤ p0 then (some (0 : Int32)) else (some (1 : Int32)))))
set_option maxHeartbeats 4000000 in
set_option maxRecDepth 100000 in
theorem kX3_has (l : Launch) (g : zzG) (q : Nat → Nat) (sz : Nat) (t : Nat) (ht : t < 2) (u : zzS) (p0 : Int32) (x : Int32) (hf : fX3_has t u p0 = some x) : zzZ l g yX3_has wsX3_has rX3_has [.ref (q (1 + 4 * t)), .int p0] (zzX g q u) (zzX g q u) sz x := by
  refine zz_mz (cc := cX3_has) (mL := 2) (own := RX3) (fun x : Int32 => x) (fun x : Int32 => (zzX g q u)) x (by decide) rfl rfl (Nat.le_of_ble_eq_true rfl) ?_
  intro p e s m below meth c A Q ls C ret hP hD hS hl
  have hl : lv_has ls 2 [(0, .ref (q (1 + 4 * t))), (1, .int p0)] := hl
  have hx := C.1.1
  have hb := C.1.2.1
  have hml := C.1.2.2.1
  have hown := C.1.2.2.2.1
  have hts := C.1.2.2.2.2
  have hK := C.2.1
  have iX3 : ∀ w ∈ wsX30, w ∈ wsX3_has := fun _ h => List.mem_cons_of_mem _ (List.mem_append_right _ h)
  unfold fX3_has at hf
  refine lv_iload_n hx hb dX3_has_0 rfl (lv_at hl 1 rfl) ?_
  refine lv_if_lt (tgt := 21) hx hb dX3_has_1 (by decide) (fun c1 => ?_) (fun c1 => ?_)
  · have hf := zz_t c1 hf
    refine lv_iconst (v := (0 : Int32)) hx hb dX3_has_21 (by decide) ?_
    exact ret _ _ _ _ (0 : Int32) hf dX3_has_22 zz_n0 hP hD hS
  · have hf := zz_f c1 hf
    refine lv_iload_n hx hb dX3_has_4 rfl (lv_at hl 1 rfl) ?_
    refine lv_aload_n hx hb dX3_has_5 rfl (lv_at hl 0 rfl) ?_
    refine va_get (D := g.1) (ci := 3) (v := .int (u.1 (3 * t))) (C := RX3) (T := TX3) (N := 6) hx hb hts iX3 hown hK hP (1 + 4 * t) (zx_sn g q u ht) rfl 3 (by decide) (zz_mem hts 1 rfl) (fun _ h9 => h9) rfl dX3_has_6 ?_
    refine lv_icmp_ge (tgt := 21) hx hb dX3_has_9 (by decide) (fun c2 => ?_) (fun c2 => ?_)
    · have hf := zz_t c2 hf
      refine lv_iconst (v := (0 : Int32)) hx hb dX3_has_21 (by decide) ?_
      exact ret _ _ _ _ (0 : Int32) hf dX3_has_22 zz_n0 hP hD hS
    · have hf := zz_f c2 hf
      refine lv_iload_n hx hb dX3_has_12 rfl (lv_at hl 1 rfl) ?_
      refine lv_iconst (v := (5 : Int32)) hx hb dX3_has_13 (by decide) ?_
      refine lv_icmp_ge (tgt := 21) hx hb dX3_has_14 (by decide) (fun c3 => ?_) (fun c3 => ?_)
      · have hf := zz_t c3 hf
        refine lv_iconst (v := (0 : Int32)) hx hb dX3_has_21 (by decide) ?_
        exact ret _ _ _ _ (0 : Int32) hf dX3_has_22 zz_n0 hP hD hS
      · have hf := zz_f c3 hf
        refine lv_iconst (v := (1 : Int32)) hx hb dX3_has_17 (by decide) ?_
        refine lv_goto (tgt := 22) hx hb dX3_has_18 (by decide) ?_
        exact ret _ _ _ _ (1 : Int32) hf dX3_has_22 zz_n1 hP hD hS
abbrev rX3_everyone : Room := ({ frames := 0, cells := 0, slots := 0, locals := 0 })
theorem mX3_everyone : zzM yX3_everyone wsX3_everyone cX3_everyone 1 (some .int) RX3 0 := ⟨⟨_, rfl⟩, by decide +kernel⟩
def fX3_everyone (t : Nat) (u : zzS) : Option Int32 := (some (((1 : Int32) <<< ((u.1 (3 * t)) &&& 31)) - (1 : Int32)))
set_option maxHeartbeats 4000000 in
set_option maxRecDepth 100000 in
theorem kX3_everyone (l : Launch) (g : zzG) (q : Nat → Nat) (sz : Nat) (t : Nat) (ht : t < 2) (u : zzS)  (x : Int32) (hf : fX3_everyone t u = some x) : zzI l g yX3_everyone wsX3_everyone rX3_everyone [.ref (q (1 + 4 * t))] (zzX g q u) (zzX g q u) sz x := by
  refine zz_mi (cc := cX3_everyone) (mL := 1) (own := RX3) (fun x : Int32 => x) (fun x : Int32 => (zzX g q u)) x (by decide) rfl rfl (Nat.le_of_ble_eq_true rfl) ?_
  intro p e s m below meth c A Q ls C ret hP hD hS hl
  have hl : lv_has ls 1 [(0, .ref (q (1 + 4 * t)))] := hl
  have hx := C.1.1
  have hb := C.1.2.1
  have hml := C.1.2.2.1
  have hown := C.1.2.2.2.1
  have hts := C.1.2.2.2.2
  have hK := C.2.1
  have iX3 : ∀ w ∈ wsX30, w ∈ wsX3_everyone := fun _ h => List.mem_cons_of_mem _ (List.mem_append_right _ h)
  unfold fX3_everyone at hf
  refine lv_iconst (v := (1 : Int32)) hx hb dX3_everyone_0 (by decide) ?_
  refine lv_aload_n hx hb dX3_everyone_1 rfl (lv_at hl 0 rfl) ?_
  refine va_get (D := g.1) (ci := 3) (v := .int (u.1 (3 * t))) (C := RX3) (T := TX3) (N := 6) hx hb hts iX3 hown hK hP (1 + 4 * t) (zx_sn g q u ht) rfl 3 (by decide) (zz_mem hts 1 rfl) (fun _ h9 => h9) rfl dX3_everyone_2 ?_
  refine lv_ishl hx hb dX3_everyone_5 ?_
  refine lv_iconst (v := (1 : Int32)) hx hb dX3_everyone_6 (by decide) ?_
  refine lv_isub hx hb dX3_everyone_7 ?_
  exact ret _ _ _ _ (((1 : Int32) <<< ((u.1 (3 * t)) &&& 31)) - (1 : Int32)) hf dX3_everyone_8 hP hD hS
abbrev rX3_becomeLike : Room := ({ frames := 0, cells := 0, slots := 0, locals := 0 })
theorem mX3_becomeLike : zzM yX3_becomeLike wsX3_becomeLike cX3_becomeLike 3 none RX3 1 := ⟨⟨_, rfl⟩, by decide +kernel⟩
def sX3_becomeLike_2  : (Int32 × zzS) → ((Int32 × zzS) → Option zzS) → Option zzS := fun v1 rec2 => (if (5 : Int32) ≤ v1.1 then (some (zzi (zzi (zzi v1.2 3 (v1.2.1 0)) 4 ((zzi v1.2 3 (v1.2.1 0)).1 1)) 5 ((zzi (zzi v1.2 3 (v1.2.1 0)) 4 ((zzi v1.2 3 (v1.2.1 0)).1 1)).1 2))) else (zzga (v1.2.2 0) 5 v1.1 (fun x6 => (zzpa 5 v1.1 (zzga ((zza v1.2 3 v1.1.toNatClampNeg x6).2 1) 5 v1.1 (fun x9 => (zzpa 5 v1.1 (zzga ((zza (zza v1.2 3 v1.1.toNatClampNeg x6) 4 v1.1.toNatClampNeg x9).2 2) 5 v1.1 (fun x12 => (zzpa 5 v1.1 (rec2 ((v1.1 + (1 : Int32)), (zza (zza (zza v1.2 3 v1.1.toNatClampNeg x6) 4 v1.1.toNatClampNeg x9) 5 v1.1.toNatClampNeg x12)))))))))))))
set_option maxHeartbeats 4000000 in
set_option maxRecDepth 100000 in
theorem wX3_becomeLike_2 (l : Launch) (g : zzG) (q : Nat → Nat)  (x : zzS) {p : Program} {e : Env} {s : State} {m : MethodId} {below : List Frame} {meth : Method} {c : Code} {A : Nat → Prop} {Q : State → Prop} (C : zzC g p s m ([.ref (q 5), .ref (q 1)] : List Value).toArray c cX3_becomeLike 3 RX3 wsX3_becomeLike A) (ret : zzRV l g rX3_becomeLike cX3_becomeLike [.ref (q 5), .ref (q 1)] (fun x : zzS => (zzX g q x)) x p e s m below meth c A Q)  (n : Nat) (v1 : Int32 × zzS) (hf : zzlp (sX3_becomeLike_2 ) n v1 = some x) : ∀ (H : Heap) (locs : List Loc) (ls : Array Slot), va_P g.1 vwCl (zzX g q v1.2) H → va_D A (zzX g q v1.2) → va_S A s.heap H locs → lv_has ls 3 [(0, .ref (q 5)), (1, .ref (q 1)), (2, .int (v1.1))] → W p l e rX3_becomeLike s m ([.ref (q 5), .ref (q 1)] : List Value).toArray below meth c H locs 0 0 Q (F0 m 2 ls []) := by
  have hx := C.1.1
  have hb := C.1.2.1
  have hml := C.1.2.2.1
  have hown := C.1.2.2.2.1
  have hts := C.1.2.2.2.2
  have hK := C.2.1
  have iX3 : ∀ w ∈ wsX30, w ∈ wsX3_becomeLike := fun _ h => List.mem_cons_of_mem _ (List.mem_append_right _ h)
  refine zz_lp (P := fun (v1 : Int32 × zzS) => ∀ (H : Heap) (locs : List Loc) (ls : Array Slot), va_P g.1 vwCl (zzX g q v1.2) H → va_D A (zzX g q v1.2) → va_S A s.heap H locs → lv_has ls 3 [(0, .ref (q 5)), (1, .ref (q 1)), (2, .int (v1.1))] → W p l e rX3_becomeLike s m ([.ref (q 5), .ref (q 1)] : List Value).toArray below meth c H locs 0 0 Q (F0 m 2 ls [])) (fun v1 rec2 ih3 hf H locs ls hP hD hS hl => ?_) n v1 hf
  unfold sX3_becomeLike_2 at hf
  refine lv_iload_n hx hb dX3_becomeLike_2 rfl (lv_at hl 2 rfl) ?_
  refine lv_iconst (v := (5 : Int32)) hx hb dX3_becomeLike_3 (by decide) ?_
  refine lv_icmp_ge (tgt := 49) hx hb dX3_becomeLike_4 (by decide) (fun c4 => ?_) (fun c4 => ?_)
  · have hf := zz_t c4 hf
    refine lv_aload_n hx hb dX3_becomeLike_49 rfl (lv_at hl 0 rfl) ?_
    refine lv_aload_n hx hb dX3_becomeLike_50 rfl (lv_at hl 1 rfl) ?_
    refine va_get (D := g.1) (ci := 3) (v := .int (v1.2.1 0)) (C := RX3) (T := TX3) (N := 6) hx hb hts iX3 hown hK hP 1 rfl rfl 3 (by decide) (zz_mem hts 4 rfl) (fun _ h9 => h9) rfl dX3_becomeLike_51 ?_
    refine va_put (D := g.1) (ci := 3) (v := .int (v1.2.1 0)) (ty := .int) (C := RX3) (T := TX3) (N := 6) hx hb hts iX3 tyX3 tyX3_ok nmX3 hown hK hP hD hS 5 rfl rfl 3 (by decide) (zz_mem hts 4 rfl) (fun _ h9 => h9) rfl (tyX3_ok 3 (by decide)) rfl rfl (Nat.le_of_ble_eq_true rfl) dX3_becomeLike_54 (fun H locs hP hD hS => ?_)
    have hP : va_P g.1 vwCl (zzX g q (zzi v1.2 3 (v1.2.1 0))) H := Eq.mp (congrArg (fun w => va_P g.1 vwCl w H) (zxo_5_3 g q v1.2 (v1.2.1 0))) hP
    have hD : va_D A (zzX g q (zzi v1.2 3 (v1.2.1 0))) := Eq.mp (congrArg (va_D A) (zxo_5_3 g q v1.2 (v1.2.1 0))) hD
    refine lv_aload_n hx hb dX3_becomeLike_57 rfl (lv_at hl 0 rfl) ?_
    refine lv_aload_n hx hb dX3_becomeLike_58 rfl (lv_at hl 1 rfl) ?_
    refine va_get (D := g.1) (ci := 3) (v := .int ((zzi v1.2 3 (v1.2.1 0)).1 1)) (C := RX3) (T := TX3) (N := 6) hx hb hts iX3 hown hK hP 1 rfl rfl 4 (by decide) (zz_mem hts 5 rfl) (fun _ h9 => h9) rfl dX3_becomeLike_59 ?_
    refine va_put (D := g.1) (ci := 3) (v := .int ((zzi v1.2 3 (v1.2.1 0)).1 1)) (ty := .int) (C := RX3) (T := TX3) (N := 6) hx hb hts iX3 tyX3 tyX3_ok nmX3 hown hK hP hD hS 5 rfl rfl 4 (by decide) (zz_mem hts 5 rfl) (fun _ h9 => h9) rfl (tyX3_ok 4 (by decide)) rfl rfl (Nat.le_of_ble_eq_true rfl) dX3_becomeLike_62 (fun H locs hP hD hS => ?_)
    have hP : va_P g.1 vwCl (zzX g q (zzi (zzi v1.2 3 (v1.2.1 0)) 4 ((zzi v1.2 3 (v1.2.1 0)).1 1))) H := Eq.mp (congrArg (fun w => va_P g.1 vwCl w H) (zxo_5_4 g q (zzi v1.2 3 (v1.2.1 0)) ((zzi v1.2 3 (v1.2.1 0)).1 1))) hP
    have hD : va_D A (zzX g q (zzi (zzi v1.2 3 (v1.2.1 0)) 4 ((zzi v1.2 3 (v1.2.1 0)).1 1))) := Eq.mp (congrArg (va_D A) (zxo_5_4 g q (zzi v1.2 3 (v1.2.1 0)) ((zzi v1.2 3 (v1.2.1 0)).1 1))) hD
    refine lv_aload_n hx hb dX3_becomeLike_65 rfl (lv_at hl 0 rfl) ?_
    refine lv_aload_n hx hb dX3_becomeLike_66 rfl (lv_at hl 1 rfl) ?_
    refine va_get (D := g.1) (ci := 3) (v := .int ((zzi (zzi v1.2 3 (v1.2.1 0)) 4 ((zzi v1.2 3 (v1.2.1 0)).1 1)).1 2)) (C := RX3) (T := TX3) (N := 6) hx hb hts iX3 hown hK hP 1 rfl rfl 5 (by decide) (zz_mem hts 6 rfl) (fun _ h9 => h9) rfl dX3_becomeLike_67 ?_
    refine va_put (D := g.1) (ci := 3) (v := .int ((zzi (zzi v1.2 3 (v1.2.1 0)) 4 ((zzi v1.2 3 (v1.2.1 0)).1 1)).1 2)) (ty := .int) (C := RX3) (T := TX3) (N := 6) hx hb hts iX3 tyX3 tyX3_ok nmX3 hown hK hP hD hS 5 rfl rfl 5 (by decide) (zz_mem hts 6 rfl) (fun _ h9 => h9) rfl (tyX3_ok 5 (by decide)) rfl rfl (Nat.le_of_ble_eq_true rfl) dX3_becomeLike_70 (fun H locs hP hD hS => ?_)
    have hP : va_P g.1 vwCl (zzX g q (zzi (zzi (zzi v1.2 3 (v1.2.1 0)) 4 ((zzi v1.2 3 (v1.2.1 0)).1 1)) 5 ((zzi (zzi v1.2 3 (v1.2.1 0)) 4 ((zzi v1.2 3 (v1.2.1 0)).1 1)).1 2))) H := Eq.mp (congrArg (fun w => va_P g.1 vwCl w H) (zxo_5_5 g q (zzi (zzi v1.2 3 (v1.2.1 0)) 4 ((zzi v1.2 3 (v1.2.1 0)).1 1)) ((zzi (zzi v1.2 3 (v1.2.1 0)) 4 ((zzi v1.2 3 (v1.2.1 0)).1 1)).1 2))) hP
    have hD : va_D A (zzX g q (zzi (zzi (zzi v1.2 3 (v1.2.1 0)) 4 ((zzi v1.2 3 (v1.2.1 0)).1 1)) 5 ((zzi (zzi v1.2 3 (v1.2.1 0)) 4 ((zzi v1.2 3 (v1.2.1 0)).1 1)).1 2))) := Eq.mp (congrArg (va_D A) (zxo_5_5 g q (zzi (zzi v1.2 3 (v1.2.1 0)) 4 ((zzi v1.2 3 (v1.2.1 0)).1 1)) ((zzi (zzi v1.2 3 (v1.2.1 0)) 4 ((zzi v1.2 3 (v1.2.1 0)).1 1)).1 2))) hD
    exact ret _ _ _ _ (zzi (zzi (zzi v1.2 3 (v1.2.1 0)) 4 ((zzi v1.2 3 (v1.2.1 0)).1 1)) 5 ((zzi (zzi v1.2 3 (v1.2.1 0)) 4 ((zzi v1.2 3 (v1.2.1 0)).1 1)).1 2)) hf dX3_becomeLike_73 hP hD hS
  · have hf := zz_f c4 hf
    refine lv_aload_n hx hb dX3_becomeLike_7 rfl (lv_at hl 0 rfl) ?_
    refine va_get (D := g.1) (ci := 3) (v := .ref (q 6)) (C := RX3) (T := TX3) (N := 6) hx hb hts iX3 hown hK hP 5 rfl rfl 0 (by decide) (zz_mem hts 1 rfl) (fun _ h9 => h9) rfl dX3_becomeLike_8 ?_
    refine lv_iload_n hx hb dX3_becomeLike_11 rfl (lv_at hl 2 rfl) ?_
    refine lv_aload_n hx hb dX3_becomeLike_12 rfl (lv_at hl 1 rfl) ?_
    refine va_get (D := g.1) (ci := 3) (v := .ref (q 2)) (C := RX3) (T := TX3) (N := 6) hx hb hts iX3 hown hK hP 1 rfl rfl 0 (by decide) (zz_mem hts 1 rfl) (fun _ h9 => h9) rfl dX3_becomeLike_13 ?_
    refine lv_iload_n hx hb dX3_becomeLike_16 rfl (lv_at hl 2 rfl) ?_
    obtain ⟨x6, h5, ex6, hf⟩ := zz_gx hf
    refine zz_iald hx hb hK hP 2 0 rfl rfl h5 ex6 dX3_becomeLike_17 ?_
    obtain ⟨h7, hf⟩ := zz_pa hf
    refine va_iast hx hb hK hP hD hS 6 0 rfl rfl h7 dX3_becomeLike_18 (fun H locs hP hD hS => ?_)
    have hP : va_P g.1 vwCl (zzX g q (zza v1.2 3 v1.1.toNatClampNeg x6)) H := Eq.mp (congrArg (fun w => va_P g.1 vwCl w H) (zxa_6 g q v1.2 (upd (v1.2.2 3) v1.1.toNatClampNeg x6))) hP
    have hD : va_D A (zzX g q (zza v1.2 3 v1.1.toNatClampNeg x6)) := Eq.mp (congrArg (va_D A) (zxa_6 g q v1.2 (upd (v1.2.2 3) v1.1.toNatClampNeg x6))) hD
    refine lv_aload_n hx hb dX3_becomeLike_19 rfl (lv_at hl 0 rfl) ?_
    refine va_get (D := g.1) (ci := 3) (v := .ref (q 7)) (C := RX3) (T := TX3) (N := 6) hx hb hts iX3 hown hK hP 5 rfl rfl 1 (by decide) (zz_mem hts 2 rfl) (fun _ h9 => h9) rfl dX3_becomeLike_20 ?_
    refine lv_iload_n hx hb dX3_becomeLike_23 rfl (lv_at hl 2 rfl) ?_
    refine lv_aload_n hx hb dX3_becomeLike_24 rfl (lv_at hl 1 rfl) ?_
    refine va_get (D := g.1) (ci := 3) (v := .ref (q 3)) (C := RX3) (T := TX3) (N := 6) hx hb hts iX3 hown hK hP 1 rfl rfl 1 (by decide) (zz_mem hts 2 rfl) (fun _ h9 => h9) rfl dX3_becomeLike_25 ?_
    refine lv_iload_n hx hb dX3_becomeLike_28 rfl (lv_at hl 2 rfl) ?_
    obtain ⟨x9, h8, ex9, hf⟩ := zz_gx hf
    refine zz_iald hx hb hK hP 3 0 rfl rfl h8 ex9 dX3_becomeLike_29 ?_
    obtain ⟨h10, hf⟩ := zz_pa hf
    refine va_iast hx hb hK hP hD hS 7 0 rfl rfl h10 dX3_becomeLike_30 (fun H locs hP hD hS => ?_)
    have hP : va_P g.1 vwCl (zzX g q (zza (zza v1.2 3 v1.1.toNatClampNeg x6) 4 v1.1.toNatClampNeg x9)) H := Eq.mp (congrArg (fun w => va_P g.1 vwCl w H) (zxa_7 g q (zza v1.2 3 v1.1.toNatClampNeg x6) (upd ((zza v1.2 3 v1.1.toNatClampNeg x6).2 4) v1.1.toNatClampNeg x9))) hP
    have hD : va_D A (zzX g q (zza (zza v1.2 3 v1.1.toNatClampNeg x6) 4 v1.1.toNatClampNeg x9)) := Eq.mp (congrArg (va_D A) (zxa_7 g q (zza v1.2 3 v1.1.toNatClampNeg x6) (upd ((zza v1.2 3 v1.1.toNatClampNeg x6).2 4) v1.1.toNatClampNeg x9))) hD
    refine lv_aload_n hx hb dX3_becomeLike_31 rfl (lv_at hl 0 rfl) ?_
    refine va_get (D := g.1) (ci := 3) (v := .ref (q 8)) (C := RX3) (T := TX3) (N := 6) hx hb hts iX3 hown hK hP 5 rfl rfl 2 (by decide) (zz_mem hts 3 rfl) (fun _ h9 => h9) rfl dX3_becomeLike_32 ?_
    refine lv_iload_n hx hb dX3_becomeLike_35 rfl (lv_at hl 2 rfl) ?_
    refine lv_aload_n hx hb dX3_becomeLike_36 rfl (lv_at hl 1 rfl) ?_
    refine va_get (D := g.1) (ci := 3) (v := .ref (q 4)) (C := RX3) (T := TX3) (N := 6) hx hb hts iX3 hown hK hP 1 rfl rfl 2 (by decide) (zz_mem hts 3 rfl) (fun _ h9 => h9) rfl dX3_becomeLike_37 ?_
    refine lv_iload_n hx hb dX3_becomeLike_40 rfl (lv_at hl 2 rfl) ?_
    obtain ⟨x12, h11, ex12, hf⟩ := zz_gx hf
    refine zz_iald hx hb hK hP 4 0 rfl rfl h11 ex12 dX3_becomeLike_41 ?_
    obtain ⟨h13, hf⟩ := zz_pa hf
    refine va_iast hx hb hK hP hD hS 8 0 rfl rfl h13 dX3_becomeLike_42 (fun H locs hP hD hS => ?_)
    have hP : va_P g.1 vwCl (zzX g q (zza (zza (zza v1.2 3 v1.1.toNatClampNeg x6) 4 v1.1.toNatClampNeg x9) 5 v1.1.toNatClampNeg x12)) H := Eq.mp (congrArg (fun w => va_P g.1 vwCl w H) (zxa_8 g q (zza (zza v1.2 3 v1.1.toNatClampNeg x6) 4 v1.1.toNatClampNeg x9) (upd ((zza (zza v1.2 3 v1.1.toNatClampNeg x6) 4 v1.1.toNatClampNeg x9).2 5) v1.1.toNatClampNeg x12))) hP
    have hD : va_D A (zzX g q (zza (zza (zza v1.2 3 v1.1.toNatClampNeg x6) 4 v1.1.toNatClampNeg x9) 5 v1.1.toNatClampNeg x12)) := Eq.mp (congrArg (va_D A) (zxa_8 g q (zza (zza v1.2 3 v1.1.toNatClampNeg x6) 4 v1.1.toNatClampNeg x9) (upd ((zza (zza v1.2 3 v1.1.toNatClampNeg x6) 4 v1.1.toNatClampNeg x9).2 5) v1.1.toNatClampNeg x12))) hD
    refine lv_iinc (v := (v1.1 + (1 : Int32))) (lv' := [(2, .int (v1.1 + (1 : Int32))), (0, .ref (q 5)), (1, .ref (q 1))]) hx hb dX3_becomeLike_43 hl (k := 2) rfl rfl (by decide) rfl (fun ls hl => ?_)
    refine lv_goto (tgt := 2) hx hb dX3_becomeLike_46 (by decide) ?_
    exact ih3 _ hf _ _ _ hP hD hS (lv_sub hl [1, 2, 0] rfl)
def fX3_becomeLike (u : zzS) : Option zzS := (zzlp (sX3_becomeLike_2 ) zzFU ((0 : Int32), u))
set_option maxHeartbeats 4000000 in
set_option maxRecDepth 100000 in
theorem kX3_becomeLike (l : Launch) (g : zzG) (q : Nat → Nat) (sz : Nat) (u : zzS)  (x : zzS) (hf : fX3_becomeLike u = some x) : zzV l g yX3_becomeLike wsX3_becomeLike rX3_becomeLike [.ref (q 5), .ref (q 1)] (zzX g q u) (zzX g q x) sz := by
  refine zz_mv (cc := cX3_becomeLike) (mL := 3) (own := RX3) (fun x : zzS => (zzX g q x)) x (by decide) rfl rfl (Nat.le_of_ble_eq_true rfl) ?_
  intro p e s m below meth c A Q ls C ret hP hD hS hl
  have hl : lv_has ls 3 [(0, .ref (q 5)), (1, .ref (q 1))] := hl
  have hx := C.1.1
  have hb := C.1.2.1
  have hml := C.1.2.2.1
  have hown := C.1.2.2.2.1
  have hts := C.1.2.2.2.2
  have hK := C.2.1
  have iX3 : ∀ w ∈ wsX30, w ∈ wsX3_becomeLike := fun _ h => List.mem_cons_of_mem _ (List.mem_append_right _ h)
  unfold fX3_becomeLike at hf
  refine lv_iconst (v := (0 : Int32)) hx hb dX3_becomeLike_0 (by decide) ?_
  refine lv_istore_n (lv' := [(2, .int (0 : Int32)), (0, .ref (q 5)), (1, .ref (q 1))]) hx hb dX3_becomeLike_1 rfl hl (by decide) rfl (fun ls hl => ?_)
  exact wX3_becomeLike_2 l g q  x C ret  _ _ hf _ _ _ hP hD hS (lv_sub hl [1, 2, 0] rfl)
abbrev rX3_shadeOf : Room := ({ frames := 1, cells := 0, slots := 0, locals := 30 })
theorem mX3_shadeOf : zzM yX3_shadeOf wsX3_shadeOf cX3_shadeOf 4 (some .int) RX3 2 := ⟨⟨_, rfl⟩, by decide +kernel⟩
def fX3_shadeOf (t : Nat) (u : zzS) (p0 : Int32) (p1 : Int32) : Option Int32 := ((fX3_has t u p0).bind (fun r1 => (if r1 = 0 then (some (0 : Int32)) else (zzga (u.2 (3 * t + 2)) 5 p0 (fun x4 => (zzga (u.2 (3 * t)) 5 p0 (fun x6 => (if x6 = (1 : Int32) then (some (if ((x4 * p1) - (1 : Int32)) < (0 : Int32) then (0 : Int32) else ((x4 * p1) - (1 : Int32)))) else (if x6 = (2 : Int32) then (some ((x4 * p1) / (2 : Int32))) else (some (x4 * p1)))))))))))
set_option maxHeartbeats 4000000 in
set_option maxRecDepth 100000 in
theorem kX3_shadeOf (l : Launch) (g : zzG) (q : Nat → Nat) (sz : Nat) (t : Nat) (ht : t < 2) (u : zzS) (p0 : Int32) (p1 : Int32) (x : Int32) (hf : fX3_shadeOf t u p0 p1 = some x) : zzI l g yX3_shadeOf wsX3_shadeOf rX3_shadeOf [.ref (q (1 + 4 * t)), .int p0, .int p1] (zzX g q u) (zzX g q u) sz x := by
  refine zz_mi (cc := cX3_shadeOf) (mL := 4) (own := RX3) (fun x : Int32 => x) (fun x : Int32 => (zzX g q u)) x (by decide) rfl rfl (Nat.le_of_ble_eq_true rfl) ?_
  intro p e s m below meth c A Q ls C ret hP hD hS hl
  have hl : lv_has ls 4 [(0, .ref (q (1 + 4 * t))), (1, .int p0), (2, .int p1)] := hl
  have hx := C.1.1
  have hb := C.1.2.1
  have hml := C.1.2.2.1
  have hown := C.1.2.2.2.1
  have hts := C.1.2.2.2.2
  have hK := C.2.1
  have iX3 : ∀ w ∈ wsX30, w ∈ wsX3_shadeOf := fun _ h => List.mem_cons_of_mem _ (List.mem_append_right _ h)
  unfold fX3_shadeOf at hf
  refine lv_aload_n hx hb dX3_shadeOf_0 rfl (lv_at hl 0 rfl) ?_
  refine lv_iload_n hx hb dX3_shadeOf_1 rfl (lv_at hl 1 rfl) ?_
  obtain ⟨r1, hc1, hf⟩ := zz_bs hf
  refine zz_cVz C hP hD hS (kX3_has l g q _ t ht u p0 r1 hc1) gX3_shadeOf_X3_has mX3_has (by decide) ⟨Nat.zero_le _, Nat.zero_le _⟩ (1 + 4 * t) (zx_sn g q u ht) rfl rfl rfl (rest := []) rfl hl.1 (Nat.le_of_ble_eq_true rfl) dX3_shadeOf_2 (fun hz1 H locs hP hD hS => ?_)
  refine lv_if_ne (tgt := 10) hx hb dX3_shadeOf_5 (by decide) (fun c2 => ?_) (fun c2 => ?_)
  · have hf := zz_f c2 hf
    refine lv_aload_n hx hb dX3_shadeOf_10 rfl (lv_at hl 0 rfl) ?_
    refine va_get (D := g.1) (ci := 3) (v := .ref (q (4 + 4 * t))) (C := RX3) (T := TX3) (N := 6) hx hb hts iX3 hown hK hP (1 + 4 * t) (zx_sn g q u ht) rfl 2 (by decide) (zz_mem hts 1 rfl) (fun _ h9 => h9) rfl dX3_shadeOf_11 ?_
    refine lv_iload_n hx hb dX3_shadeOf_14 rfl (lv_at hl 1 rfl) ?_
    obtain ⟨x4, h3, ex4, hf⟩ := zz_gx hf
    refine zz_iald hx hb hK hP (4 + 4 * t) 0 (zx_sn2 g q u ht) rfl h3 ex4 dX3_shadeOf_15 ?_
    refine lv_iload_n hx hb dX3_shadeOf_16 rfl (lv_at hl 2 rfl) ?_
    refine lv_imul hx hb dX3_shadeOf_17 ?_
    refine lv_istore_n (lv' := [(3, .int (x4 * p1)), (0, .ref (q (1 + 4 * t))), (1, .int p0), (2, .int p1)]) hx hb dX3_shadeOf_18 rfl hl (by decide) rfl (fun ls hl => ?_)
    refine lv_aload_n hx hb dX3_shadeOf_19 rfl (lv_at hl 1 rfl) ?_
    refine va_get (D := g.1) (ci := 3) (v := .ref (q (2 + 4 * t))) (C := RX3) (T := TX3) (N := 6) hx hb hts iX3 hown hK hP (1 + 4 * t) (zx_sn g q u ht) rfl 0 (by decide) (zz_mem hts 2 rfl) (fun _ h9 => h9) rfl dX3_shadeOf_20 ?_
    refine lv_iload_n hx hb dX3_shadeOf_23 rfl (lv_at hl 2 rfl) ?_
    obtain ⟨x6, h5, ex6, hf⟩ := zz_gx hf
    refine zz_iald hx hb hK hP (2 + 4 * t) 0 (zx_sn0 g q u ht) rfl h5 ex6 dX3_shadeOf_24 ?_
    by_cases c7 : x6 = (1 : Int32)
    · have hf := zz_t c7 hf
      refine lv_lookup (tgt := 52) (off := 27) hx hb dX3_shadeOf_25 (by decide) (by rw [c7]; decide) (by decide) ?_
      refine lv_iload_n hx hb dX3_shadeOf_52 rfl (lv_at hl 0 rfl) ?_
      refine lv_iconst (v := (1 : Int32)) hx hb dX3_shadeOf_53 (by decide) ?_
      refine lv_isub hx hb dX3_shadeOf_54 ?_
      refine lv_iconst (v := (0 : Int32)) hx hb dX3_shadeOf_55 (by decide) ?_
      refine va_mmax hx hb (by rw [hml]; exact hl.1.symm) hown (zz_mem hts 3 rfl) (zz_mem hts 4 rfl) (zz_mem hts 5 rfl) (zz_mem hts 6 rfl) (by decide) (Nat.le_of_ble_eq_true rfl) (Nat.zero_le _) (Nat.zero_le _) dX3_shadeOf_56 ?_
      exact ret _ _ _ _ (if ((x4 * p1) - (1 : Int32)) < (0 : Int32) then (0 : Int32) else ((x4 * p1) - (1 : Int32))) hf dX3_shadeOf_59 hP hD hS
    · have hf := zz_f c7 hf
      by_cases c8 : x6 = (2 : Int32)
      · have hf := zz_t c8 hf
        refine lv_lookup (tgt := 60) (off := 35) hx hb dX3_shadeOf_25 (by decide) (by rw [c8]; decide) (by decide) ?_
        refine lv_iload_n hx hb dX3_shadeOf_60 rfl (lv_at hl 0 rfl) ?_
        refine lv_iconst (v := (2 : Int32)) hx hb dX3_shadeOf_61 (by decide) ?_
        have h9 : ¬ (2 : Int32) = 0 := by decide
        refine lv_idiv hx hb dX3_shadeOf_62 h9 ?_
        exact ret _ _ _ _ ((x4 * p1) / (2 : Int32)) hf dX3_shadeOf_63 hP hD hS
      · have hf := zz_f c8 hf
        have ac7 : x6.toInt ≠ 1 := fun h => c7 (Int32.toInt_inj.mp (h.trans (by decide)))
        have ac8 : x6.toInt ≠ 2 := fun h => c8 (Int32.toInt_inj.mp (h.trans (by decide)))
        refine lv_lookup (tgt := 64) (off := 39) hx hb dX3_shadeOf_25 (by decide) (zz_lk2 ac7 ac8) (by decide) ?_
        refine lv_iload_n hx hb dX3_shadeOf_64 rfl (lv_at hl 0 rfl) ?_
        exact ret _ _ _ _ (x4 * p1) hf dX3_shadeOf_65 hP hD hS
  · have hf := zz_t c2 hf
    refine lv_iconst (v := (0 : Int32)) hx hb dX3_shadeOf_8 (by decide) ?_
    exact ret _ _ _ _ (0 : Int32) hf dX3_shadeOf_9 hP hD hS
abbrev rX3_firstLitFoot : Room := ({ frames := 0, cells := 0, slots := 0, locals := 0 })
theorem mX3_firstLitFoot : zzM yX3_firstLitFoot wsX3_firstLitFoot cX3_firstLitFoot 2 (some .int) RX3 1 := ⟨⟨_, rfl⟩, by decide +kernel⟩
def fX3_firstLitFoot (t : Nat) (u : zzS) (p0 : Int32) : Option Int32 := (some ((u.1 (3 * t + 2)) * p0))
set_option maxHeartbeats 4000000 in
set_option maxRecDepth 100000 in
theorem kX3_firstLitFoot (l : Launch) (g : zzG) (q : Nat → Nat) (sz : Nat) (t : Nat) (ht : t < 2) (u : zzS) (p0 : Int32) (x : Int32) (hf : fX3_firstLitFoot t u p0 = some x) : zzI l g yX3_firstLitFoot wsX3_firstLitFoot rX3_firstLitFoot [.ref (q (1 + 4 * t)), .int p0] (zzX g q u) (zzX g q u) sz x := by
  refine zz_mi (cc := cX3_firstLitFoot) (mL := 2) (own := RX3) (fun x : Int32 => x) (fun x : Int32 => (zzX g q u)) x (by decide) rfl rfl (Nat.le_of_ble_eq_true rfl) ?_
  intro p e s m below meth c A Q ls C ret hP hD hS hl
  have hl : lv_has ls 2 [(0, .ref (q (1 + 4 * t))), (1, .int p0)] := hl
  have hx := C.1.1
  have hb := C.1.2.1
  have hml := C.1.2.2.1
  have hown := C.1.2.2.2.1
  have hts := C.1.2.2.2.2
  have hK := C.2.1
  have iX3 : ∀ w ∈ wsX30, w ∈ wsX3_firstLitFoot := fun _ h => List.mem_cons_of_mem _ (List.mem_append_right _ h)
  unfold fX3_firstLitFoot at hf
  refine lv_aload_n hx hb dX3_firstLitFoot_0 rfl (lv_at hl 0 rfl) ?_
  refine va_get (D := g.1) (ci := 3) (v := .int (u.1 (3 * t + 2))) (C := RX3) (T := TX3) (N := 6) hx hb hts iX3 hown hK hP (1 + 4 * t) (zx_sn g q u ht) rfl 5 (by decide) (zz_mem hts 1 rfl) (fun _ h9 => h9) rfl dX3_firstLitFoot_1 ?_
  refine lv_iload_n hx hb dX3_firstLitFoot_4 rfl (lv_at hl 1 rfl) ?_
  refine lv_imul hx hb dX3_firstLitFoot_5 ?_
  exact ret _ _ _ _ ((u.1 (3 * t + 2)) * p0) hf dX3_firstLitFoot_6 hP hD hS
abbrev rX3_hiddenSet : Room := ({ frames := 1, cells := 0, slots := 0, locals := 21 })
theorem mX3_hiddenSet : zzM yX3_hiddenSet wsX3_hiddenSet cX3_hiddenSet 4 (some .int) RX3 1 := ⟨⟨_, rfl⟩, by decide +kernel⟩
def sX3_hiddenSet_4 (p0 : Int32) (t : Nat) (u : zzS) : (Int32 × Int32) → ((Int32 × Int32) → Option Int32) → Option Int32 := fun v1 rec2 => (if (5 : Int32) ≤ v1.2 then (some v1.1) else ((fX3_has t u v1.2).bind (fun r5 => (if r5 = 0 then (rec2 (v1.1, (v1.2 + (1 : Int32)))) else (zzga (u.2 (3 * t + 1)) 5 v1.2 (fun x8 => ((fX3_firstLitFoot t u p0).bind (fun r9 => (if r9 ≤ x8 then (rec2 (v1.1, (v1.2 + (1 : Int32)))) else (rec2 ((v1.1 ||| ((1 : Int32) <<< (v1.2 &&& 31))), (v1.2 + (1 : Int32)))))))))))))
set_option maxHeartbeats 4000000 in
set_option maxRecDepth 100000 in
theorem wX3_hiddenSet_4 (l : Launch) (g : zzG) (q : Nat → Nat) (p0 : Int32) (t : Nat) (u : zzS) (x : Int32) {p : Program} {e : Env} {s : State} {m : MethodId} {below : List Frame} {meth : Method} {c : Code} {A : Nat → Prop} {Q : State → Prop} (C : zzC g p s m ([.ref (q (1 + 4 * t)), .int p0] : List Value).toArray c cX3_hiddenSet 4 RX3 wsX3_hiddenSet A) (ret : zzRI l g rX3_hiddenSet cX3_hiddenSet [.ref (q (1 + 4 * t)), .int p0] (fun x : Int32 => x) (fun x : Int32 => (zzX g q u)) x p e s m below meth c A Q) (ht : t < 2) (n : Nat) (v1 : Int32 × Int32) (hf : zzlp (sX3_hiddenSet_4 p0 t u) n v1 = some x) : ∀ (H : Heap) (locs : List Loc) (ls : Array Slot), va_P g.1 vwCl (zzX g q u) H → va_D A (zzX g q u) → va_S A s.heap H locs → lv_has ls 4 [(0, .ref (q (1 + 4 * t))), (1, .int p0), (2, .int (v1.1)), (3, .int (v1.2))] → W p l e rX3_hiddenSet s m ([.ref (q (1 + 4 * t)), .int p0] : List Value).toArray below meth c H locs 0 0 Q (F0 m 4 ls []) := by
  have hx := C.1.1
  have hb := C.1.2.1
  have hml := C.1.2.2.1
  have hown := C.1.2.2.2.1
  have hts := C.1.2.2.2.2
  have hK := C.2.1
  have iX3 : ∀ w ∈ wsX30, w ∈ wsX3_hiddenSet := fun _ h => List.mem_cons_of_mem _ (List.mem_append_right _ h)
  refine zz_lp (P := fun (v1 : Int32 × Int32) => ∀ (H : Heap) (locs : List Loc) (ls : Array Slot), va_P g.1 vwCl (zzX g q u) H → va_D A (zzX g q u) → va_S A s.heap H locs → lv_has ls 4 [(0, .ref (q (1 + 4 * t))), (1, .int p0), (2, .int (v1.1)), (3, .int (v1.2))] → W p l e rX3_hiddenSet s m ([.ref (q (1 + 4 * t)), .int p0] : List Value).toArray below meth c H locs 0 0 Q (F0 m 4 ls [])) (fun v1 rec2 ih3 hf H locs ls hP hD hS hl => ?_) n v1 hf
  unfold sX3_hiddenSet_4 at hf
  refine lv_iload_n hx hb dX3_hiddenSet_4 rfl (lv_at hl 3 rfl) ?_
  refine lv_iconst (v := (5 : Int32)) hx hb dX3_hiddenSet_5 (by decide) ?_
  refine lv_icmp_ge (tgt := 43) hx hb dX3_hiddenSet_6 (by decide) (fun c4 => ?_) (fun c4 => ?_)
  · have hf := zz_t c4 hf
    refine lv_iload_n hx hb dX3_hiddenSet_43 rfl (lv_at hl 2 rfl) ?_
    exact ret _ _ _ _ v1.1 hf dX3_hiddenSet_44 hP hD hS
  · have hf := zz_f c4 hf
    refine lv_aload_n hx hb dX3_hiddenSet_9 rfl (lv_at hl 0 rfl) ?_
    refine lv_iload_n hx hb dX3_hiddenSet_10 rfl (lv_at hl 3 rfl) ?_
    obtain ⟨r5, hc5, hf⟩ := zz_bs hf
    refine zz_cVz C hP hD hS (kX3_has l g q _ t ht u v1.2 r5 hc5) gX3_hiddenSet_X3_has mX3_has (by decide) ⟨Nat.zero_le _, Nat.zero_le _⟩ (1 + 4 * t) (zx_sn g q u ht) rfl rfl rfl (rest := []) rfl hl.1 (Nat.le_of_ble_eq_true rfl) dX3_hiddenSet_11 (fun hz5 H locs hP hD hS => ?_)
    refine lv_if_eq (tgt := 37) hx hb dX3_hiddenSet_14 (by decide) (fun c6 => ?_) (fun c6 => ?_)
    · have hf := zz_t c6 hf
      refine lv_iinc (v := (v1.2 + (1 : Int32))) (lv' := [(3, .int (v1.2 + (1 : Int32))), (0, .ref (q (1 + 4 * t))), (1, .int p0), (2, .int (v1.1))]) hx hb dX3_hiddenSet_37 hl (k := 3) rfl rfl (by decide) rfl (fun ls hl => ?_)
      refine lv_goto (tgt := 4) hx hb dX3_hiddenSet_40 (by decide) ?_
      exact ih3 _ hf _ _ _ hP hD hS (lv_sub hl [1, 2, 3, 0] rfl)
    · have hf := zz_f c6 hf
      refine lv_aload_n hx hb dX3_hiddenSet_17 rfl (lv_at hl 0 rfl) ?_
      refine va_get (D := g.1) (ci := 3) (v := .ref (q (3 + 4 * t))) (C := RX3) (T := TX3) (N := 6) hx hb hts iX3 hown hK hP (1 + 4 * t) (zx_sn g q u ht) rfl 1 (by decide) (zz_mem hts 1 rfl) (fun _ h9 => h9) rfl dX3_hiddenSet_18 ?_
      refine lv_iload_n hx hb dX3_hiddenSet_21 rfl (lv_at hl 3 rfl) ?_
      obtain ⟨x8, h7, ex8, hf⟩ := zz_gx hf
      refine zz_iald hx hb hK hP (3 + 4 * t) 0 (zx_sn1 g q u ht) rfl h7 ex8 dX3_hiddenSet_22 ?_
      refine lv_aload_n hx hb dX3_hiddenSet_23 rfl (lv_at hl 0 rfl) ?_
      refine lv_iload_n hx hb dX3_hiddenSet_24 rfl (lv_at hl 1 rfl) ?_
      obtain ⟨r9, hc9, hf⟩ := zz_bs hf
      refine zz_cVi C hP hD hS (kX3_firstLitFoot l g q _ t ht u p0 r9 hc9) gX3_hiddenSet_X3_firstLitFoot mX3_firstLitFoot (by decide) ⟨Nat.zero_le _, Nat.zero_le _⟩ (1 + 4 * t) (zx_sn g q u ht) rfl rfl rfl (rest := [.int x8]) rfl hl.1 (Nat.le_of_ble_eq_true rfl) dX3_hiddenSet_25 (fun H locs hP hD hS => ?_)
      refine lv_icmp_ge (tgt := 37) hx hb dX3_hiddenSet_28 (by decide) (fun c10 => ?_) (fun c10 => ?_)
      · have hf := zz_t c10 hf
        refine lv_iinc (v := (v1.2 + (1 : Int32))) (lv' := [(3, .int (v1.2 + (1 : Int32))), (0, .ref (q (1 + 4 * t))), (1, .int p0), (2, .int (v1.1))]) hx hb dX3_hiddenSet_37 hl (k := 3) rfl rfl (by decide) rfl (fun ls hl => ?_)
        refine lv_goto (tgt := 4) hx hb dX3_hiddenSet_40 (by decide) ?_
        exact ih3 _ hf _ _ _ hP hD hS (lv_sub hl [1, 2, 3, 0] rfl)
      · have hf := zz_f c10 hf
        refine lv_iload_n hx hb dX3_hiddenSet_31 rfl (lv_at hl 2 rfl) ?_
        refine lv_iconst (v := (1 : Int32)) hx hb dX3_hiddenSet_32 (by decide) ?_
        refine lv_iload_n hx hb dX3_hiddenSet_33 rfl (lv_at hl 3 rfl) ?_
        refine lv_ishl hx hb dX3_hiddenSet_34 ?_
        refine lv_ior hx hb dX3_hiddenSet_35 ?_
        refine lv_istore_n (lv' := [(2, .int (v1.1 ||| ((1 : Int32) <<< (v1.2 &&& 31)))), (0, .ref (q (1 + 4 * t))), (1, .int p0), (3, .int (v1.2))]) hx hb dX3_hiddenSet_36 rfl hl (by decide) rfl (fun ls hl => ?_)
        refine lv_iinc (v := (v1.2 + (1 : Int32))) (lv' := [(3, .int (v1.2 + (1 : Int32))), (2, .int (v1.1 ||| ((1 : Int32) <<< (v1.2 &&& 31)))), (0, .ref (q (1 + 4 * t))), (1, .int p0)]) hx hb dX3_hiddenSet_37 hl (k := 3) rfl rfl (by decide) rfl (fun ls hl => ?_)
        refine lv_goto (tgt := 4) hx hb dX3_hiddenSet_40 (by decide) ?_
        exact ih3 _ hf _ _ _ hP hD hS (lv_sub hl [2, 3, 1, 0] rfl)
def fX3_hiddenSet (t : Nat) (u : zzS) (p0 : Int32) : Option Int32 := (zzlp (sX3_hiddenSet_4 p0 t u) zzFU ((0 : Int32), (0 : Int32)))
set_option maxHeartbeats 4000000 in
set_option maxRecDepth 100000 in
theorem kX3_hiddenSet (l : Launch) (g : zzG) (q : Nat → Nat) (sz : Nat) (t : Nat) (ht : t < 2) (u : zzS) (p0 : Int32) (x : Int32) (hf : fX3_hiddenSet t u p0 = some x) : zzI l g yX3_hiddenSet wsX3_hiddenSet rX3_hiddenSet [.ref (q (1 + 4 * t)), .int p0] (zzX g q u) (zzX g q u) sz x := by
  refine zz_mi (cc := cX3_hiddenSet) (mL := 4) (own := RX3) (fun x : Int32 => x) (fun x : Int32 => (zzX g q u)) x (by decide) rfl rfl (Nat.le_of_ble_eq_true rfl) ?_
  intro p e s m below meth c A Q ls C ret hP hD hS hl
  have hl : lv_has ls 4 [(0, .ref (q (1 + 4 * t))), (1, .int p0)] := hl
  have hx := C.1.1
  have hb := C.1.2.1
  have hml := C.1.2.2.1
  have hown := C.1.2.2.2.1
  have hts := C.1.2.2.2.2
  have hK := C.2.1
  have iX3 : ∀ w ∈ wsX30, w ∈ wsX3_hiddenSet := fun _ h => List.mem_cons_of_mem _ (List.mem_append_right _ h)
  unfold fX3_hiddenSet at hf
  refine lv_iconst (v := (0 : Int32)) hx hb dX3_hiddenSet_0 (by decide) ?_
  refine lv_istore_n (lv' := [(2, .int (0 : Int32)), (0, .ref (q (1 + 4 * t))), (1, .int p0)]) hx hb dX3_hiddenSet_1 rfl hl (by decide) rfl (fun ls hl => ?_)
  refine lv_iconst (v := (0 : Int32)) hx hb dX3_hiddenSet_2 (by decide) ?_
  refine lv_istore_n (lv' := [(3, .int (0 : Int32)), (2, .int (0 : Int32)), (0, .ref (q (1 + 4 * t))), (1, .int p0)]) hx hb dX3_hiddenSet_3 rfl hl (by decide) rfl (fun ls hl => ?_)
  exact wX3_hiddenSet_4 l g q p0 t u x C ret ht _ _ hf _ _ _ hP hD hS (lv_sub hl [2, 3, 1, 0] rfl)
abbrev rX3_isAnotherOn : Room := ({ frames := 1, cells := 0, slots := 0, locals := 21 })
theorem mX3_isAnotherOn : zzM yX3_isAnotherOn wsX3_isAnotherOn cX3_isAnotherOn 4 (some .boolean) RX3 2 := ⟨⟨_, rfl⟩, by decide +kernel⟩
def sX3_isAnotherOn_2 (p0 : Int32) (p1 : Int32) (t : Nat) (u : zzS) : (Int32) → ((Int32) → Option Int32) → Option Int32 := fun v1 rec2 => (if (5 : Int32) ≤ v1 then (some (0 : Int32)) else ((fX3_has t u v1).bind (fun r5 => (if r5 = 0 then (rec2 ((v1 + (1 : Int32)))) else (if v1 = p1 then (rec2 ((v1 + (1 : Int32)))) else (zzga (u.2 (3 * t + 1)) 5 v1 (fun x9 => (if x9 = p0 then (some (1 : Int32)) else (rec2 ((v1 + (1 : Int32))))))))))))
set_option maxHeartbeats 4000000 in
set_option maxRecDepth 100000 in
theorem wX3_isAnotherOn_2 (l : Launch) (g : zzG) (q : Nat → Nat) (p0 : Int32) (p1 : Int32) (t : Nat) (u : zzS) (x : Int32) {p : Program} {e : Env} {s : State} {m : MethodId} {below : List Frame} {meth : Method} {c : Code} {A : Nat → Prop} {Q : State → Prop} (C : zzC g p s m ([.ref (q (1 + 4 * t)), .int p0, .int p1] : List Value).toArray c cX3_isAnotherOn 4 RX3 wsX3_isAnotherOn A) (ret : zzRZ l g rX3_isAnotherOn cX3_isAnotherOn [.ref (q (1 + 4 * t)), .int p0, .int p1] (fun x : Int32 => x) (fun x : Int32 => (zzX g q u)) x p e s m below meth c A Q) (ht : t < 2) (n : Nat) (v1 : Int32) (hf : zzlp (sX3_isAnotherOn_2 p0 p1 t u) n v1 = some x) : ∀ (H : Heap) (locs : List Loc) (ls : Array Slot), va_P g.1 vwCl (zzX g q u) H → va_D A (zzX g q u) → va_S A s.heap H locs → lv_has ls 4 [(0, .ref (q (1 + 4 * t))), (1, .int p0), (2, .int p1), (3, .int v1)] → W p l e rX3_isAnotherOn s m ([.ref (q (1 + 4 * t)), .int p0, .int p1] : List Value).toArray below meth c H locs 0 0 Q (F0 m 2 ls []) := by
  have hx := C.1.1
  have hb := C.1.2.1
  have hml := C.1.2.2.1
  have hown := C.1.2.2.2.1
  have hts := C.1.2.2.2.2
  have hK := C.2.1
  have iX3 : ∀ w ∈ wsX30, w ∈ wsX3_isAnotherOn := fun _ h => List.mem_cons_of_mem _ (List.mem_append_right _ h)
  refine zz_lp (P := fun (v1 : Int32) => ∀ (H : Heap) (locs : List Loc) (ls : Array Slot), va_P g.1 vwCl (zzX g q u) H → va_D A (zzX g q u) → va_S A s.heap H locs → lv_has ls 4 [(0, .ref (q (1 + 4 * t))), (1, .int p0), (2, .int p1), (3, .int v1)] → W p l e rX3_isAnotherOn s m ([.ref (q (1 + 4 * t)), .int p0, .int p1] : List Value).toArray below meth c H locs 0 0 Q (F0 m 2 ls [])) (fun v1 rec2 ih3 hf H locs ls hP hD hS hl => ?_) n v1 hf
  unfold sX3_isAnotherOn_2 at hf
  refine lv_iload_n hx hb dX3_isAnotherOn_2 rfl (lv_at hl 3 rfl) ?_
  refine lv_iconst (v := (5 : Int32)) hx hb dX3_isAnotherOn_3 (by decide) ?_
  refine lv_icmp_ge (tgt := 38) hx hb dX3_isAnotherOn_4 (by decide) (fun c4 => ?_) (fun c4 => ?_)
  · have hf := zz_t c4 hf
    refine lv_iconst (v := (0 : Int32)) hx hb dX3_isAnotherOn_38 (by decide) ?_
    exact ret _ _ _ _ (0 : Int32) hf dX3_isAnotherOn_39 zz_n0 hP hD hS
  · have hf := zz_f c4 hf
    refine lv_aload_n hx hb dX3_isAnotherOn_7 rfl (lv_at hl 0 rfl) ?_
    refine lv_iload_n hx hb dX3_isAnotherOn_8 rfl (lv_at hl 3 rfl) ?_
    obtain ⟨r5, hc5, hf⟩ := zz_bs hf
    refine zz_cVz C hP hD hS (kX3_has l g q _ t ht u v1 r5 hc5) gX3_isAnotherOn_X3_has mX3_has (by decide) ⟨Nat.zero_le _, Nat.zero_le _⟩ (1 + 4 * t) (zx_sn g q u ht) rfl rfl rfl (rest := []) rfl hl.1 (Nat.le_of_ble_eq_true rfl) dX3_isAnotherOn_9 (fun hz5 H locs hP hD hS => ?_)
    refine lv_if_eq (tgt := 32) hx hb dX3_isAnotherOn_12 (by decide) (fun c6 => ?_) (fun c6 => ?_)
    · have hf := zz_t c6 hf
      refine lv_iinc (v := (v1 + (1 : Int32))) (lv' := [(3, .int (v1 + (1 : Int32))), (0, .ref (q (1 + 4 * t))), (1, .int p0), (2, .int p1)]) hx hb dX3_isAnotherOn_32 hl (k := 3) rfl rfl (by decide) rfl (fun ls hl => ?_)
      refine lv_goto (tgt := 2) hx hb dX3_isAnotherOn_35 (by decide) ?_
      exact ih3 _ hf _ _ _ hP hD hS (lv_sub hl [1, 2, 3, 0] rfl)
    · have hf := zz_f c6 hf
      refine lv_iload_n hx hb dX3_isAnotherOn_15 rfl (lv_at hl 3 rfl) ?_
      refine lv_iload_n hx hb dX3_isAnotherOn_16 rfl (lv_at hl 2 rfl) ?_
      refine lv_icmp_eq (tgt := 32) hx hb dX3_isAnotherOn_17 (by decide) (fun c7 => ?_) (fun c7 => ?_)
      · have hf := zz_t c7 hf
        refine lv_iinc (v := (v1 + (1 : Int32))) (lv' := [(3, .int (v1 + (1 : Int32))), (0, .ref (q (1 + 4 * t))), (1, .int p0), (2, .int p1)]) hx hb dX3_isAnotherOn_32 hl (k := 3) rfl rfl (by decide) rfl (fun ls hl => ?_)
        refine lv_goto (tgt := 2) hx hb dX3_isAnotherOn_35 (by decide) ?_
        exact ih3 _ hf _ _ _ hP hD hS (lv_sub hl [1, 2, 3, 0] rfl)
      · have hf := zz_f c7 hf
        refine lv_aload_n hx hb dX3_isAnotherOn_20 rfl (lv_at hl 0 rfl) ?_
        refine va_get (D := g.1) (ci := 3) (v := .ref (q (3 + 4 * t))) (C := RX3) (T := TX3) (N := 6) hx hb hts iX3 hown hK hP (1 + 4 * t) (zx_sn g q u ht) rfl 1 (by decide) (zz_mem hts 1 rfl) (fun _ h9 => h9) rfl dX3_isAnotherOn_21 ?_
        refine lv_iload_n hx hb dX3_isAnotherOn_24 rfl (lv_at hl 3 rfl) ?_
        obtain ⟨x9, h8, ex9, hf⟩ := zz_gx hf
        refine zz_iald hx hb hK hP (3 + 4 * t) 0 (zx_sn1 g q u ht) rfl h8 ex9 dX3_isAnotherOn_25 ?_
        refine lv_iload_n hx hb dX3_isAnotherOn_26 rfl (lv_at hl 1 rfl) ?_
        refine lv_icmp_ne (tgt := 32) hx hb dX3_isAnotherOn_27 (by decide) (fun c10 => ?_) (fun c10 => ?_)
        · have hf := zz_f c10 hf
          refine lv_iinc (v := (v1 + (1 : Int32))) (lv' := [(3, .int (v1 + (1 : Int32))), (0, .ref (q (1 + 4 * t))), (1, .int p0), (2, .int p1)]) hx hb dX3_isAnotherOn_32 hl (k := 3) rfl rfl (by decide) rfl (fun ls hl => ?_)
          refine lv_goto (tgt := 2) hx hb dX3_isAnotherOn_35 (by decide) ?_
          exact ih3 _ hf _ _ _ hP hD hS (lv_sub hl [1, 2, 3, 0] rfl)
        · have hf := zz_t c10 hf
          refine lv_iconst (v := (1 : Int32)) hx hb dX3_isAnotherOn_30 (by decide) ?_
          exact ret _ _ _ _ (1 : Int32) hf dX3_isAnotherOn_31 zz_n1 hP hD hS
def fX3_isAnotherOn (t : Nat) (u : zzS) (p0 : Int32) (p1 : Int32) : Option Int32 := (zzlp (sX3_isAnotherOn_2 p0 p1 t u) zzFU ((0 : Int32)))
set_option maxHeartbeats 4000000 in
set_option maxRecDepth 100000 in
theorem kX3_isAnotherOn (l : Launch) (g : zzG) (q : Nat → Nat) (sz : Nat) (t : Nat) (ht : t < 2) (u : zzS) (p0 : Int32) (p1 : Int32) (x : Int32) (hf : fX3_isAnotherOn t u p0 p1 = some x) : zzZ l g yX3_isAnotherOn wsX3_isAnotherOn rX3_isAnotherOn [.ref (q (1 + 4 * t)), .int p0, .int p1] (zzX g q u) (zzX g q u) sz x := by
  refine zz_mz (cc := cX3_isAnotherOn) (mL := 4) (own := RX3) (fun x : Int32 => x) (fun x : Int32 => (zzX g q u)) x (by decide) rfl rfl (Nat.le_of_ble_eq_true rfl) ?_
  intro p e s m below meth c A Q ls C ret hP hD hS hl
  have hl : lv_has ls 4 [(0, .ref (q (1 + 4 * t))), (1, .int p0), (2, .int p1)] := hl
  have hx := C.1.1
  have hb := C.1.2.1
  have hml := C.1.2.2.1
  have hown := C.1.2.2.2.1
  have hts := C.1.2.2.2.2
  have hK := C.2.1
  have iX3 : ∀ w ∈ wsX30, w ∈ wsX3_isAnotherOn := fun _ h => List.mem_cons_of_mem _ (List.mem_append_right _ h)
  unfold fX3_isAnotherOn at hf
  refine lv_iconst (v := (0 : Int32)) hx hb dX3_isAnotherOn_0 (by decide) ?_
  refine lv_istore_n (lv' := [(3, .int (0 : Int32)), (0, .ref (q (1 + 4 * t))), (1, .int p0), (2, .int p1)]) hx hb dX3_isAnotherOn_1 rfl hl (by decide) rfl (fun ls hl => ?_)
  exact wX3_isAnotherOn_2 l g q p0 p1 t u x C ret ht _ _ hf _ _ _ hP hD hS (lv_sub hl [1, 2, 3, 0] rfl)
abbrev rX3_darkFeet : Room := ({ frames := 2, cells := 0, slots := 0, locals := 53 })
theorem mX3_darkFeet : zzM yX3_darkFeet wsX3_darkFeet cX3_darkFeet 9 (some .long) RX3 2 := ⟨⟨_, rfl⟩, by decide +kernel⟩
def sX3_darkFeet_16 (p0 : Int32) (p1 : Int32) (t : Nat) (u : zzS) (r1 : Int32) : (Int64 × Int32) → ((Int64 × Int32) → Option Int64) → Option Int64 := fun v2 rec3 => (if (5 : Int32) ≤ v2.2 then (some v2.1) else ((fX3_has t u v2.2).bind (fun r6 => (if r6 = 0 then (rec3 (v2.1, (v2.2 + (1 : Int32)))) else (if (((p1 &&& (r1 ^^^ (-1 : Int32))) >>> (v2.2 &&& 31)) &&& (1 : Int32)) = 0 then (rec3 (v2.1, (v2.2 + (1 : Int32)))) else ((fX3_shadeOf t u v2.2 p0).bind (fun r9 => (zzga (u.2 (3 * t + 1)) 5 v2.2 (fun x11 => (rec3 ((v2.1 ||| ((((1 : Int64) <<< ((r9 + (1 : Int32)).toInt64 &&& 63)) - (1 : Int64)) <<< (x11.toInt64 &&& 63))), (v2.2 + (1 : Int32)))))))))))))
set_option maxHeartbeats 4000000 in
set_option maxRecDepth 100000 in
theorem wX3_darkFeet_16 (l : Launch) (g : zzG) (q : Nat → Nat) (p0 : Int32) (p1 : Int32) (t : Nat) (u : zzS) (r1 : Int32) (x : Int64) {p : Program} {e : Env} {s : State} {m : MethodId} {below : List Frame} {meth : Method} {c : Code} {A : Nat → Prop} {Q : State → Prop} (C : zzC g p s m ([.ref (q (1 + 4 * t)), .int p0, .int p1] : List Value).toArray c cX3_darkFeet 9 RX3 wsX3_darkFeet A) (ret : zzRL l g rX3_darkFeet cX3_darkFeet [.ref (q (1 + 4 * t)), .int p0, .int p1] (fun x : Int64 => x) (fun x : Int64 => (zzX g q u)) x p e s m below meth c A Q) (ht : t < 2) (n : Nat) (v2 : Int64 × Int32) (hf : zzlp (sX3_darkFeet_16 p0 p1 t u r1) n v2 = some x) : ∀ (H : Heap) (locs : List Loc) (ls : Array Slot), va_P g.1 vwCl (zzX g q u) H → va_D A (zzX g q u) → va_S A s.heap H locs → lv_has ls 9 [(0, .ref (q (1 + 4 * t))), (1, .int p0), (3, .int (p1 &&& (r1 ^^^ (-1 : Int32)))), (4, .long (v2.1)), (6, .int (v2.2))] → W p l e rX3_darkFeet s m ([.ref (q (1 + 4 * t)), .int p0, .int p1] : List Value).toArray below meth c H locs 0 0 Q (F0 m 16 ls []) := by
  have hx := C.1.1
  have hb := C.1.2.1
  have hml := C.1.2.2.1
  have hown := C.1.2.2.2.1
  have hts := C.1.2.2.2.2
  have hK := C.2.1
  have iX3 : ∀ w ∈ wsX30, w ∈ wsX3_darkFeet := fun _ h => List.mem_cons_of_mem _ (List.mem_append_right _ h)
  refine zz_lp (P := fun (v2 : Int64 × Int32) => ∀ (H : Heap) (locs : List Loc) (ls : Array Slot), va_P g.1 vwCl (zzX g q u) H → va_D A (zzX g q u) → va_S A s.heap H locs → lv_has ls 9 [(0, .ref (q (1 + 4 * t))), (1, .int p0), (3, .int (p1 &&& (r1 ^^^ (-1 : Int32)))), (4, .long (v2.1)), (6, .int (v2.2))] → W p l e rX3_darkFeet s m ([.ref (q (1 + 4 * t)), .int p0, .int p1] : List Value).toArray below meth c H locs 0 0 Q (F0 m 16 ls [])) (fun v2 rec3 ih4 hf H locs ls hP hD hS hl => ?_) n v2 hf
  unfold sX3_darkFeet_16 at hf
  refine lv_iload hx hb dX3_darkFeet_16 (lv_at hl 4 rfl) ?_
  refine lv_iconst (v := (5 : Int32)) hx hb dX3_darkFeet_18 (by decide) ?_
  refine lv_icmp_ge (tgt := 76) hx hb dX3_darkFeet_19 (by decide) (fun c5 => ?_) (fun c5 => ?_)
  · have hf := zz_t c5 hf
    refine lv_lload hx hb dX3_darkFeet_76 (lv_at hl 3 rfl) ?_
    exact ret _ _ _ _ v2.1 hf dX3_darkFeet_78 hP hD hS
  · have hf := zz_f c5 hf
    refine lv_aload_n hx hb dX3_darkFeet_22 rfl (lv_at hl 0 rfl) ?_
    refine lv_iload hx hb dX3_darkFeet_23 (lv_at hl 4 rfl) ?_
    obtain ⟨r6, hc6, hf⟩ := zz_bs hf
    refine zz_cVz C hP hD hS (kX3_has l g q _ t ht u v2.2 r6 hc6) gX3_darkFeet_X3_has mX3_has (by decide) ⟨Nat.zero_le _, Nat.zero_le _⟩ (1 + 4 * t) (zx_sn g q u ht) rfl rfl rfl (rest := []) rfl hl.1 (Nat.le_of_ble_eq_true rfl) dX3_darkFeet_25 (fun hz6 H locs hP hD hS => ?_)
    refine lv_if_eq (tgt := 70) hx hb dX3_darkFeet_28 (by decide) (fun c7 => ?_) (fun c7 => ?_)
    · have hf := zz_t c7 hf
      refine lv_iinc (v := (v2.2 + (1 : Int32))) (lv' := [(6, .int (v2.2 + (1 : Int32))), (0, .ref (q (1 + 4 * t))), (1, .int p0), (3, .int (p1 &&& (r1 ^^^ (-1 : Int32)))), (4, .long (v2.1))]) hx hb dX3_darkFeet_70 hl (k := 4) rfl rfl (by decide) rfl (fun ls hl => ?_)
      refine lv_goto (tgt := 16) hx hb dX3_darkFeet_73 (by decide) ?_
      exact ih4 _ hf _ _ _ hP hD hS (lv_sub hl [1, 2, 3, 4, 0] rfl)
    · have hf := zz_f c7 hf
      refine lv_iload_n hx hb dX3_darkFeet_31 rfl (lv_at hl 2 rfl) ?_
      refine lv_iload hx hb dX3_darkFeet_32 (lv_at hl 4 rfl) ?_
      refine lv_ishr hx hb dX3_darkFeet_34 ?_
      refine lv_iconst (v := (1 : Int32)) hx hb dX3_darkFeet_35 (by decide) ?_
      refine lv_iand hx hb dX3_darkFeet_36 ?_
      refine lv_if_eq (tgt := 70) hx hb dX3_darkFeet_37 (by decide) (fun c8 => ?_) (fun c8 => ?_)
      · have hf := zz_t c8 hf
        refine lv_iinc (v := (v2.2 + (1 : Int32))) (lv' := [(6, .int (v2.2 + (1 : Int32))), (0, .ref (q (1 + 4 * t))), (1, .int p0), (3, .int (p1 &&& (r1 ^^^ (-1 : Int32)))), (4, .long (v2.1))]) hx hb dX3_darkFeet_70 hl (k := 4) rfl rfl (by decide) rfl (fun ls hl => ?_)
        refine lv_goto (tgt := 16) hx hb dX3_darkFeet_73 (by decide) ?_
        exact ih4 _ hf _ _ _ hP hD hS (lv_sub hl [1, 2, 3, 4, 0] rfl)
      · have hf := zz_f c8 hf
        refine lv_lconst (v := (1 : Int64)) hx hb dX3_darkFeet_40 rfl ?_
        refine lv_aload_n hx hb dX3_darkFeet_41 rfl (lv_at hl 0 rfl) ?_
        refine lv_iload hx hb dX3_darkFeet_42 (lv_at hl 4 rfl) ?_
        refine lv_iload_n hx hb dX3_darkFeet_44 rfl (lv_at hl 1 rfl) ?_
        obtain ⟨r9, hc9, hf⟩ := zz_bs hf
        refine zz_cVi C hP hD hS (kX3_shadeOf l g q _ t ht u v2.2 p0 r9 hc9) gX3_darkFeet_X3_shadeOf mX3_shadeOf (by decide) ⟨Nat.zero_le _, Nat.zero_le _⟩ (1 + 4 * t) (zx_sn g q u ht) rfl rfl rfl (rest := [.long (1 : Int64)]) rfl hl.1 (Nat.le_of_ble_eq_true rfl) dX3_darkFeet_45 (fun H locs hP hD hS => ?_)
        refine lv_iconst (v := (1 : Int32)) hx hb dX3_darkFeet_48 (by decide) ?_
        refine lv_iadd hx hb dX3_darkFeet_49 ?_
        refine lv_lshl hx hb dX3_darkFeet_50 rfl ?_
        refine lv_lconst (v := (1 : Int64)) hx hb dX3_darkFeet_51 rfl ?_
        refine lv_lsub hx hb dX3_darkFeet_52 ?_
        refine lv_lstore (lv' := [(7, .long (((1 : Int64) <<< ((r9 + (1 : Int32)).toInt64 &&& 63)) - (1 : Int64))), (0, .ref (q (1 + 4 * t))), (1, .int p0), (3, .int (p1 &&& (r1 ^^^ (-1 : Int32)))), (4, .long (v2.1)), (6, .int (v2.2))]) hx hb dX3_darkFeet_53 hl (by decide) rfl (fun ls hl => ?_)
        refine lv_lload hx hb dX3_darkFeet_55 (lv_at hl 4 rfl) ?_
        refine lv_lload hx hb dX3_darkFeet_57 (lv_at hl 0 rfl) ?_
        refine lv_aload_n hx hb dX3_darkFeet_59 rfl (lv_at hl 1 rfl) ?_
        refine va_get (D := g.1) (ci := 3) (v := .ref (q (3 + 4 * t))) (C := RX3) (T := TX3) (N := 6) hx hb hts iX3 hown hK hP (1 + 4 * t) (zx_sn g q u ht) rfl 1 (by decide) (zz_mem hts 1 rfl) (fun _ h9 => h9) rfl dX3_darkFeet_60 ?_
        refine lv_iload hx hb dX3_darkFeet_63 (lv_at hl 5 rfl) ?_
        obtain ⟨x11, h10, ex11, hf⟩ := zz_gx hf
        refine zz_iald hx hb hK hP (3 + 4 * t) 0 (zx_sn1 g q u ht) rfl h10 ex11 dX3_darkFeet_65 ?_
        refine lv_lshl hx hb dX3_darkFeet_66 rfl ?_
        refine lv_lor hx hb dX3_darkFeet_67 ?_
        refine lv_lstore (lv' := [(4, .long (v2.1 ||| ((((1 : Int64) <<< ((r9 + (1 : Int32)).toInt64 &&& 63)) - (1 : Int64)) <<< (x11.toInt64 &&& 63)))), (7, .long (((1 : Int64) <<< ((r9 + (1 : Int32)).toInt64 &&& 63)) - (1 : Int64))), (0, .ref (q (1 + 4 * t))), (1, .int p0), (3, .int (p1 &&& (r1 ^^^ (-1 : Int32)))), (6, .int (v2.2))]) hx hb dX3_darkFeet_68 hl (by decide) rfl (fun ls hl => ?_)
        refine lv_iinc (v := (v2.2 + (1 : Int32))) (lv' := [(6, .int (v2.2 + (1 : Int32))), (4, .long (v2.1 ||| ((((1 : Int64) <<< ((r9 + (1 : Int32)).toInt64 &&& 63)) - (1 : Int64)) <<< (x11.toInt64 &&& 63)))), (7, .long (((1 : Int64) <<< ((r9 + (1 : Int32)).toInt64 &&& 63)) - (1 : Int64))), (0, .ref (q (1 + 4 * t))), (1, .int p0), (3, .int (p1 &&& (r1 ^^^ (-1 : Int32))))]) hx hb dX3_darkFeet_70 hl (k := 5) rfl rfl (by decide) rfl (fun ls hl => ?_)
        refine lv_goto (tgt := 16) hx hb dX3_darkFeet_73 (by decide) ?_
        exact ih4 _ hf _ _ _ hP hD hS (lv_sub hl [3, 4, 5, 1, 0] rfl)
def fX3_darkFeet (t : Nat) (u : zzS) (p0 : Int32) (p1 : Int32) : Option Int64 := ((fX3_hiddenSet t u p0).bind (fun r1 => (zzlp (sX3_darkFeet_16 p0 p1 t u r1) zzFU ((0 : Int64), (0 : Int32)))))
set_option maxHeartbeats 4000000 in
set_option maxRecDepth 100000 in
theorem kX3_darkFeet (l : Launch) (g : zzG) (q : Nat → Nat) (sz : Nat) (t : Nat) (ht : t < 2) (u : zzS) (p0 : Int32) (p1 : Int32) (x : Int64) (hf : fX3_darkFeet t u p0 p1 = some x) : zzL l g yX3_darkFeet wsX3_darkFeet rX3_darkFeet [.ref (q (1 + 4 * t)), .int p0, .int p1] (zzX g q u) (zzX g q u) sz x := by
  refine zz_ml (cc := cX3_darkFeet) (mL := 9) (own := RX3) (fun x : Int64 => x) (fun x : Int64 => (zzX g q u)) x (by decide) rfl rfl (Nat.le_of_ble_eq_true rfl) ?_
  intro p e s m below meth c A Q ls C ret hP hD hS hl
  have hl : lv_has ls 9 [(0, .ref (q (1 + 4 * t))), (1, .int p0), (2, .int p1)] := hl
  have hx := C.1.1
  have hb := C.1.2.1
  have hml := C.1.2.2.1
  have hown := C.1.2.2.2.1
  have hts := C.1.2.2.2.2
  have hK := C.2.1
  have iX3 : ∀ w ∈ wsX30, w ∈ wsX3_darkFeet := fun _ h => List.mem_cons_of_mem _ (List.mem_append_right _ h)
  unfold fX3_darkFeet at hf
  refine lv_iload_n hx hb dX3_darkFeet_0 rfl (lv_at hl 2 rfl) ?_
  refine lv_aload_n hx hb dX3_darkFeet_1 rfl (lv_at hl 0 rfl) ?_
  refine lv_iload_n hx hb dX3_darkFeet_2 rfl (lv_at hl 1 rfl) ?_
  obtain ⟨r1, hc1, hf⟩ := zz_bs hf
  refine zz_cVi C hP hD hS (kX3_hiddenSet l g q _ t ht u p0 r1 hc1) gX3_darkFeet_X3_hiddenSet mX3_hiddenSet (by decide) ⟨Nat.zero_le _, Nat.zero_le _⟩ (1 + 4 * t) (zx_sn g q u ht) rfl rfl rfl (rest := [.int p1]) rfl hl.1 (Nat.le_of_ble_eq_true rfl) dX3_darkFeet_3 (fun H locs hP hD hS => ?_)
  refine lv_iconst (v := (-1 : Int32)) hx hb dX3_darkFeet_6 (by decide) ?_
  refine lv_ixor hx hb dX3_darkFeet_7 ?_
  refine lv_iand hx hb dX3_darkFeet_8 ?_
  refine lv_istore_n (lv' := [(3, .int (p1 &&& (r1 ^^^ (-1 : Int32)))), (0, .ref (q (1 + 4 * t))), (1, .int p0), (2, .int p1)]) hx hb dX3_darkFeet_9 rfl hl (by decide) rfl (fun ls hl => ?_)
  refine lv_lconst (v := (0 : Int64)) hx hb dX3_darkFeet_10 rfl ?_
  refine lv_lstore (lv' := [(4, .long (0 : Int64)), (3, .int (p1 &&& (r1 ^^^ (-1 : Int32)))), (0, .ref (q (1 + 4 * t))), (1, .int p0), (2, .int p1)]) hx hb dX3_darkFeet_11 hl (by decide) rfl (fun ls hl => ?_)
  refine lv_iconst (v := (0 : Int32)) hx hb dX3_darkFeet_13 (by decide) ?_
  refine lv_istore (lv' := [(6, .int (0 : Int32)), (4, .long (0 : Int64)), (3, .int (p1 &&& (r1 ^^^ (-1 : Int32)))), (0, .ref (q (1 + 4 * t))), (1, .int p0), (2, .int p1)]) hx hb dX3_darkFeet_14 hl (by decide) rfl (fun ls hl => ?_)
  exact wX3_darkFeet_16 l g q p0 p1 t u r1 x C ret ht _ _ hf _ _ _ hP hD hS (lv_sub hl [3, 4, 2, 1, 0] rfl)
abbrev rX4_isLane : Room := ({ frames := 0, cells := 0, slots := 0, locals := 0 })
theorem mX4_isLane : zzM yX4_isLane wsX4_isLane cX4_isLane 1 (some .boolean) RX4 1 := ⟨⟨_, rfl⟩, by decide +kernel⟩
def fX4_isLane (p0 : Int32) : Option Int32 := (if p0 < 0 then (some (0 : Int32)) else (if (2 : Int32) < p0 then (some (0 : Int32)) else (some (1 : Int32))))
set_option maxHeartbeats 4000000 in
set_option maxRecDepth 100000 in
theorem kX4_isLane (l : Launch) (g : zzG) (w : va_W) (sz : Nat)  (p0 : Int32) (x : Int32) (hf : fX4_isLane p0 = some x) : zzZ l g yX4_isLane wsX4_isLane rX4_isLane [.int p0] w w sz x := by
  refine zz_mz (cc := cX4_isLane) (mL := 1) (own := RX4) (fun x : Int32 => x) (fun x : Int32 => w) x (by decide) rfl rfl (Nat.le_of_ble_eq_true rfl) ?_
  intro p e s m below meth c A Q ls C ret hP hD hS hl
  have hl : lv_has ls 1 [(0, .int p0)] := hl
  have hx := C.1.1
  have hb := C.1.2.1
  have hml := C.1.2.2.1
  have hown := C.1.2.2.2.1
  have hts := C.1.2.2.2.2
  have hK := C.2.1
  unfold fX4_isLane at hf
  refine lv_iload_n hx hb dX4_isLane_0 rfl (lv_at hl 0 rfl) ?_
  refine lv_if_lt (tgt := 13) hx hb dX4_isLane_1 (by decide) (fun c1 => ?_) (fun c1 => ?_)
  · have hf := zz_t c1 hf
    refine lv_iconst (v := (0 : Int32)) hx hb dX4_isLane_13 (by decide) ?_
    exact ret _ _ _ _ (0 : Int32) hf dX4_isLane_14 zz_n0 hP hD hS
  · have hf := zz_f c1 hf
    refine lv_iload_n hx hb dX4_isLane_4 rfl (lv_at hl 0 rfl) ?_
    refine lv_iconst (v := (2 : Int32)) hx hb dX4_isLane_5 (by decide) ?_
    refine lv_icmp_gt (tgt := 13) hx hb dX4_isLane_6 (by decide) (fun c2 => ?_) (fun c2 => ?_)
    · have hf := zz_t c2 hf
      refine lv_iconst (v := (0 : Int32)) hx hb dX4_isLane_13 (by decide) ?_
      exact ret _ _ _ _ (0 : Int32) hf dX4_isLane_14 zz_n0 hP hD hS
    · have hf := zz_f c2 hf
      refine lv_iconst (v := (1 : Int32)) hx hb dX4_isLane_9 (by decide) ?_
      refine lv_goto (tgt := 14) hx hb dX4_isLane_10 (by decide) ?_
      exact ret _ _ _ _ (1 : Int32) hf dX4_isLane_14 zz_n1 hP hD hS
abbrev rX4_failed : Room := ({ frames := 0, cells := 0, slots := 0, locals := 0 })
theorem mX4_failed : zzM yX4_failed wsX4_failed cX4_failed 2 (some .int) RX4 1 := ⟨⟨_, rfl⟩, by decide +kernel⟩
def fX4_failed (u : zzS) (p0 : Int32) : Option (Int32 × zzS) := (some (((-10 : Int32) - p0), (zzi u 12 p0)))
set_option maxHeartbeats 4000000 in
set_option maxRecDepth 100000 in
theorem kX4_failed (l : Launch) (g : zzG) (q : Nat → Nat) (sz : Nat) (u : zzS) (p0 : Int32) (x : Int32 × zzS) (hf : fX4_failed u p0 = some x) : zzI l g yX4_failed wsX4_failed rX4_failed [.ref (q 0), .int p0] (zzX g q u) (zzX g q x.2) sz x.1 := by
  refine zz_mi (cc := cX4_failed) (mL := 2) (own := RX4) (fun x : Int32 × zzS => x.1) (fun x : Int32 × zzS => (zzX g q x.2)) x (by decide) rfl rfl (Nat.le_of_ble_eq_true rfl) ?_
  intro p e s m below meth c A Q ls C ret hP hD hS hl
  have hl : lv_has ls 2 [(0, .ref (q 0)), (1, .int p0)] := hl
  have hx := C.1.1
  have hb := C.1.2.1
  have hml := C.1.2.2.1
  have hown := C.1.2.2.2.1
  have hts := C.1.2.2.2.2
  have hK := C.2.1
  have iX4 : ∀ w ∈ wsX40, w ∈ wsX4_failed := fun _ h => List.mem_cons_of_mem _ (List.mem_append_right _ h)
  unfold fX4_failed at hf
  refine lv_aload_n hx hb dX4_failed_0 rfl (lv_at hl 0 rfl) ?_
  refine lv_iload_n hx hb dX4_failed_1 rfl (lv_at hl 1 rfl) ?_
  refine va_put (D := g.1) (ci := 4) (v := .int p0) (ty := .int) (C := RX4) (T := TX4) (N := 7) hx hb hts iX4 tyX4 tyX4_ok nmX4 hown hK hP hD hS 0 rfl rfl 6 (by decide) (zz_mem hts 1 rfl) (fun _ h9 => h9) rfl (tyX4_ok 6 (by decide)) rfl rfl (Nat.le_of_ble_eq_true rfl) dX4_failed_2 (fun H locs hP hD hS => ?_)
  have hP : va_P g.1 vwCl (zzX g q (zzi u 12 p0)) H := Eq.mp (congrArg (fun w => va_P g.1 vwCl w H) (zxo_0_6 g q u p0)) hP
  have hD : va_D A (zzX g q (zzi u 12 p0)) := Eq.mp (congrArg (va_D A) (zxo_0_6 g q u p0)) hD
  refine lv_bipush (v := (-10 : Int32)) hx hb dX4_failed_5 (by decide) ?_
  refine lv_iload_n hx hb dX4_failed_7 rfl (lv_at hl 1 rfl) ?_
  refine lv_isub hx hb dX4_failed_8 ?_
  exact ret _ _ _ _ (((-10 : Int32) - p0), (zzi u 12 p0)) hf dX4_failed_9 hP hD hS
abbrev rX4_isDigitCode : Room := ({ frames := 0, cells := 0, slots := 0, locals := 0 })
theorem mX4_isDigitCode : zzM yX4_isDigitCode wsX4_isDigitCode cX4_isDigitCode 1 (some .boolean) RX4 1 := ⟨⟨_, rfl⟩, by decide +kernel⟩
def fX4_isDigitCode (p0 : Int32) : Option Int32 := (if p0 < (48 : Int32) then (some (0 : Int32)) else (if (57 : Int32) < p0 then (some (0 : Int32)) else (some (1 : Int32))))
set_option maxHeartbeats 4000000 in
set_option maxRecDepth 100000 in
theorem kX4_isDigitCode (l : Launch) (g : zzG) (w : va_W) (sz : Nat)  (p0 : Int32) (x : Int32) (hf : fX4_isDigitCode p0 = some x) : zzZ l g yX4_isDigitCode wsX4_isDigitCode rX4_isDigitCode [.int p0] w w sz x := by
  refine zz_mz (cc := cX4_isDigitCode) (mL := 1) (own := RX4) (fun x : Int32 => x) (fun x : Int32 => w) x (by decide) rfl rfl (Nat.le_of_ble_eq_true rfl) ?_
  intro p e s m below meth c A Q ls C ret hP hD hS hl
  have hl : lv_has ls 1 [(0, .int p0)] := hl
  have hx := C.1.1
  have hb := C.1.2.1
  have hml := C.1.2.2.1
  have hown := C.1.2.2.2.1
  have hts := C.1.2.2.2.2
  have hK := C.2.1
  unfold fX4_isDigitCode at hf
  refine lv_iload_n hx hb dX4_isDigitCode_0 rfl (lv_at hl 0 rfl) ?_
  refine lv_bipush (v := (48 : Int32)) hx hb dX4_isDigitCode_1 (by decide) ?_
  refine lv_icmp_lt (tgt := 16) hx hb dX4_isDigitCode_3 (by decide) (fun c1 => ?_) (fun c1 => ?_)
  · have hf := zz_t c1 hf
    refine lv_iconst (v := (0 : Int32)) hx hb dX4_isDigitCode_16 (by decide) ?_
    exact ret _ _ _ _ (0 : Int32) hf dX4_isDigitCode_17 zz_n0 hP hD hS
  · have hf := zz_f c1 hf
    refine lv_iload_n hx hb dX4_isDigitCode_6 rfl (lv_at hl 0 rfl) ?_
    refine lv_bipush (v := (57 : Int32)) hx hb dX4_isDigitCode_7 (by decide) ?_
    refine lv_icmp_gt (tgt := 16) hx hb dX4_isDigitCode_9 (by decide) (fun c2 => ?_) (fun c2 => ?_)
    · have hf := zz_t c2 hf
      refine lv_iconst (v := (0 : Int32)) hx hb dX4_isDigitCode_16 (by decide) ?_
      exact ret _ _ _ _ (0 : Int32) hf dX4_isDigitCode_17 zz_n0 hP hD hS
    · have hf := zz_f c2 hf
      refine lv_iconst (v := (1 : Int32)) hx hb dX4_isDigitCode_12 (by decide) ?_
      refine lv_goto (tgt := 17) hx hb dX4_isDigitCode_13 (by decide) ?_
      exact ret _ _ _ _ (1 : Int32) hf dX4_isDigitCode_17 zz_n1 hP hD hS
abbrev rX4_kindOfLetter : Room := ({ frames := 0, cells := 0, slots := 0, locals := 0 })
theorem mX4_kindOfLetter : zzM yX4_kindOfLetter wsX4_kindOfLetter cX4_kindOfLetter 1 (some .int) RX4 1 := ⟨⟨_, rfl⟩, by decide +kernel⟩
def fX4_kindOfLetter (p0 : Int32) : Option Int32 := (if p0 = (112 : Int32) then (some (2 : Int32)) else (if p0 = (113 : Int32) then (some (-9 : Int32)) else (if p0 = (114 : Int32) then (some (1 : Int32)) else (if p0 = (115 : Int32) then (some (0 : Int32)) else (some (-9 : Int32))))))
set_option maxHeartbeats 4000000 in
set_option maxRecDepth 100000 in
theorem kX4_kindOfLetter (l : Launch) (g : zzG) (w : va_W) (sz : Nat)  (p0 : Int32) (x : Int32) (hf : fX4_kindOfLetter p0 = some x) : zzI l g yX4_kindOfLetter wsX4_kindOfLetter rX4_kindOfLetter [.int p0] w w sz x := by
  refine zz_mi (cc := cX4_kindOfLetter) (mL := 1) (own := RX4) (fun x : Int32 => x) (fun x : Int32 => w) x (by decide) rfl rfl (Nat.le_of_ble_eq_true rfl) ?_
  intro p e s m below meth c A Q ls C ret hP hD hS hl
  have hl : lv_has ls 1 [(0, .int p0)] := hl
  have hx := C.1.1
  have hb := C.1.2.1
  have hml := C.1.2.2.1
  have hown := C.1.2.2.2.1
  have hts := C.1.2.2.2.2
  have hK := C.2.1
  unfold fX4_kindOfLetter at hf
  refine lv_iload_n hx hb dX4_kindOfLetter_0 rfl (lv_at hl 0 rfl) ?_
  by_cases c1 : p0 = (112 : Int32)
  · have hf := zz_t c1 hf
    refine lv_tableIn (tgt := 36) (off := 35) hx hb dX4_kindOfLetter_1 (by rw [c1]; decide) (by rw [c1]; decide) (by rw [c1]; decide) (by decide) ?_
    refine lv_iconst (v := (2 : Int32)) hx hb dX4_kindOfLetter_36 (by decide) ?_
    exact ret _ _ _ _ (2 : Int32) hf dX4_kindOfLetter_37 hP hD hS
  · have hf := zz_f c1 hf
    by_cases c2 : p0 = (113 : Int32)
    · have hf := zz_t c2 hf
      refine lv_tableIn (tgt := 38) (off := 37) hx hb dX4_kindOfLetter_1 (by rw [c2]; decide) (by rw [c2]; decide) (by rw [c2]; decide) (by decide) ?_
      refine lv_bipush (v := (-9 : Int32)) hx hb dX4_kindOfLetter_38 (by decide) ?_
      exact ret _ _ _ _ (-9 : Int32) hf dX4_kindOfLetter_40 hP hD hS
    · have hf := zz_f c2 hf
      by_cases c3 : p0 = (114 : Int32)
      · have hf := zz_t c3 hf
        refine lv_tableIn (tgt := 34) (off := 33) hx hb dX4_kindOfLetter_1 (by rw [c3]; decide) (by rw [c3]; decide) (by rw [c3]; decide) (by decide) ?_
        refine lv_iconst (v := (1 : Int32)) hx hb dX4_kindOfLetter_34 (by decide) ?_
        exact ret _ _ _ _ (1 : Int32) hf dX4_kindOfLetter_35 hP hD hS
      · have hf := zz_f c3 hf
        by_cases c4 : p0 = (115 : Int32)
        · have hf := zz_t c4 hf
          refine lv_tableIn (tgt := 32) (off := 31) hx hb dX4_kindOfLetter_1 (by rw [c4]; decide) (by rw [c4]; decide) (by rw [c4]; decide) (by decide) ?_
          refine lv_iconst (v := (0 : Int32)) hx hb dX4_kindOfLetter_32 (by decide) ?_
          exact ret _ _ _ _ (0 : Int32) hf dX4_kindOfLetter_33 hP hD hS
        · have hf := zz_f c4 hf
          have ac1 : p0.toInt ≠ 112 := fun h => c1 (Int32.toInt_inj.mp (h.trans (by decide)))
          have ac2 : p0.toInt ≠ 113 := fun h => c2 (Int32.toInt_inj.mp (h.trans (by decide)))
          have ac3 : p0.toInt ≠ 114 := fun h => c3 (Int32.toInt_inj.mp (h.trans (by decide)))
          have ac4 : p0.toInt ≠ 115 := fun h => c4 (Int32.toInt_inj.mp (h.trans (by decide)))
          refine lv_tableOut (tgt := 38) hx hb dX4_kindOfLetter_1 (by omega) (by decide) ?_
          refine lv_bipush (v := (-9 : Int32)) hx hb dX4_kindOfLetter_38 (by decide) ?_
          exact ret _ _ _ _ (-9 : Int32) hf dX4_kindOfLetter_40 hP hD hS
abbrev rX4_goesOnWith : Room := ({ frames := 1, cells := 0, slots := 0, locals := 20 })
theorem mX4_goesOnWith : zzM yX4_goesOnWith wsX4_goesOnWith cX4_goesOnWith 2 (some .boolean) RX4 2 := ⟨⟨_, rfl⟩, by decide +kernel⟩
def fX4_goesOnWith (p0 : Int32) (p1 : Int32) : Option Int32 := (if p0 = 0 then (if p1 = (102 : Int32) then (some (1 : Int32)) else (some (0 : Int32))) else (if p0 = (1 : Int32) then (if p1 < (49 : Int32) then (some (0 : Int32)) else (if (57 : Int32) < p1 then (some (0 : Int32)) else (some (1 : Int32)))) else (if p0 = (2 : Int32) then ((fX4_isDigitCode p1).bind (fun r12 => (some r12))) else (if p0 < (23 : Int32) then (if ((p0 - (3 : Int32)) - (p0 - (3 : Int32)) / (4 : Int32) * (4 : Int32)) = (0 : Int32) then (if p1 = (59 : Int32) then (some (1 : Int32)) else (some (0 : Int32))) else (if ((p0 - (3 : Int32)) - (p0 - (3 : Int32)) / (4 : Int32) * (4 : Int32)) = (1 : Int32) then ((fX4_kindOfLetter p1).bind (fun r9 => (if r9 = (-9 : Int32) then (some (0 : Int32)) else (some (1 : Int32))))) else ((fX4_isDigitCode p1).bind (fun r11 => (some r11))))) else (some (0 : Int32))))))
set_option maxHeartbeats 4000000 in
set_option maxRecDepth 100000 in
theorem kX4_goesOnWith (l : Launch) (g : zzG) (w : va_W) (sz : Nat)  (p0 : Int32) (p1 : Int32) (x : Int32) (hf : fX4_goesOnWith p0 p1 = some x) : zzZ l g yX4_goesOnWith wsX4_goesOnWith rX4_goesOnWith [.int p0, .int p1] w w sz x := by
  refine zz_mz (cc := cX4_goesOnWith) (mL := 2) (own := RX4) (fun x : Int32 => x) (fun x : Int32 => w) x (by decide) rfl rfl (Nat.le_of_ble_eq_true rfl) ?_
  intro p e s m below meth c A Q ls C ret hP hD hS hl
  have hl : lv_has ls 2 [(0, .int p0), (1, .int p1)] := hl
  have hx := C.1.1
  have hb := C.1.2.1
  have hml := C.1.2.2.1
  have hown := C.1.2.2.2.1
  have hts := C.1.2.2.2.2
  have hK := C.2.1
  unfold fX4_goesOnWith at hf
  refine lv_iload_n hx hb dX4_goesOnWith_0 rfl (lv_at hl 0 rfl) ?_
  refine lv_if_ne (tgt := 16) hx hb dX4_goesOnWith_1 (by decide) (fun c1 => ?_) (fun c1 => ?_)
  · have hf := zz_f c1 hf
    refine lv_iload_n hx hb dX4_goesOnWith_16 rfl (lv_at hl 0 rfl) ?_
    refine lv_iconst (v := (1 : Int32)) hx hb dX4_goesOnWith_17 (by decide) ?_
    refine lv_icmp_ne (tgt := 39) hx hb dX4_goesOnWith_18 (by decide) (fun c2 => ?_) (fun c2 => ?_)
    · have hf := zz_f c2 hf
      refine lv_iload_n hx hb dX4_goesOnWith_39 rfl (lv_at hl 0 rfl) ?_
      refine lv_iconst (v := (2 : Int32)) hx hb dX4_goesOnWith_40 (by decide) ?_
      refine lv_icmp_ne (tgt := 49) hx hb dX4_goesOnWith_41 (by decide) (fun c3 => ?_) (fun c3 => ?_)
      · have hf := zz_f c3 hf
        refine lv_iload_n hx hb dX4_goesOnWith_49 rfl (lv_at hl 0 rfl) ?_
        refine lv_bipush (v := (23 : Int32)) hx hb dX4_goesOnWith_50 (by decide) ?_
        refine lv_icmp_lt (tgt := 57) hx hb dX4_goesOnWith_52 (by decide) (fun c4 => ?_) (fun c4 => ?_)
        · have hf := zz_t c4 hf
          refine lv_iload_n hx hb dX4_goesOnWith_57 rfl (lv_at hl 0 rfl) ?_
          refine lv_iconst (v := (3 : Int32)) hx hb dX4_goesOnWith_58 (by decide) ?_
          refine lv_isub hx hb dX4_goesOnWith_59 ?_
          refine lv_iconst (v := (4 : Int32)) hx hb dX4_goesOnWith_60 (by decide) ?_
          have h5 : ¬ (4 : Int32) = 0 := by decide
          refine lv_irem hx hb dX4_goesOnWith_61 h5 ?_
          by_cases c6 : ((p0 - (3 : Int32)) - (p0 - (3 : Int32)) / (4 : Int32) * (4 : Int32)) = (0 : Int32)
          · have hf := zz_t c6 hf
            refine lv_lookup (tgt := 88) (off := 26) hx hb dX4_goesOnWith_62 (by decide) (by rw [c6]; decide) (by decide) ?_
            refine lv_iload_n hx hb dX4_goesOnWith_88 rfl (lv_at hl 1 rfl) ?_
            refine lv_bipush (v := (59 : Int32)) hx hb dX4_goesOnWith_89 (by decide) ?_
            refine lv_icmp_ne (tgt := 98) hx hb dX4_goesOnWith_91 (by decide) (fun c7 => ?_) (fun c7 => ?_)
            · have hf := zz_f c7 hf
              refine lv_iconst (v := (0 : Int32)) hx hb dX4_goesOnWith_98 (by decide) ?_
              exact ret _ _ _ _ (0 : Int32) hf dX4_goesOnWith_99 zz_n0 hP hD hS
            · have hf := zz_t c7 hf
              refine lv_iconst (v := (1 : Int32)) hx hb dX4_goesOnWith_94 (by decide) ?_
              refine lv_goto (tgt := 99) hx hb dX4_goesOnWith_95 (by decide) ?_
              exact ret _ _ _ _ (1 : Int32) hf dX4_goesOnWith_99 zz_n1 hP hD hS
          · have hf := zz_f c6 hf
            by_cases c8 : ((p0 - (3 : Int32)) - (p0 - (3 : Int32)) / (4 : Int32) * (4 : Int32)) = (1 : Int32)
            · have hf := zz_t c8 hf
              refine lv_lookup (tgt := 100) (off := 38) hx hb dX4_goesOnWith_62 (by decide) (by rw [c8]; decide) (by decide) ?_
              refine lv_iload_n hx hb dX4_goesOnWith_100 rfl (lv_at hl 1 rfl) ?_
              obtain ⟨r9, hc9, hf⟩ := zz_bs hf
              refine zz_cSi C hP hD hS (kX4_kindOfLetter l g w _ p1 r9 hc9) gX4_goesOnWith_X4_kindOfLetter mX4_kindOfLetter (by decide) ⟨Nat.zero_le _, Nat.zero_le _⟩ rfl (rest := []) rfl hl.1 (Nat.le_of_ble_eq_true rfl) dX4_goesOnWith_101 (fun H locs hP hD hS => ?_)
              refine lv_bipush (v := (-9 : Int32)) hx hb dX4_goesOnWith_104 (by decide) ?_
              refine lv_icmp_eq (tgt := 113) hx hb dX4_goesOnWith_106 (by decide) (fun c10 => ?_) (fun c10 => ?_)
              · have hf := zz_t c10 hf
                refine lv_iconst (v := (0 : Int32)) hx hb dX4_goesOnWith_113 (by decide) ?_
                exact ret _ _ _ _ (0 : Int32) hf dX4_goesOnWith_114 zz_n0 hP hD hS
              · have hf := zz_f c10 hf
                refine lv_iconst (v := (1 : Int32)) hx hb dX4_goesOnWith_109 (by decide) ?_
                refine lv_goto (tgt := 114) hx hb dX4_goesOnWith_110 (by decide) ?_
                exact ret _ _ _ _ (1 : Int32) hf dX4_goesOnWith_114 zz_n1 hP hD hS
            · have hf := zz_f c8 hf
              have ac6 : ((p0 - (3 : Int32)) - (p0 - (3 : Int32)) / (4 : Int32) * (4 : Int32)).toInt ≠ 0 := fun h => c6 (Int32.toInt_inj.mp (h.trans (by decide)))
              have ac8 : ((p0 - (3 : Int32)) - (p0 - (3 : Int32)) / (4 : Int32) * (4 : Int32)).toInt ≠ 1 := fun h => c8 (Int32.toInt_inj.mp (h.trans (by decide)))
              refine lv_lookup (tgt := 115) (off := 53) hx hb dX4_goesOnWith_62 (by decide) (zz_lk2 ac6 ac8) (by decide) ?_
              refine lv_iload_n hx hb dX4_goesOnWith_115 rfl (lv_at hl 1 rfl) ?_
              obtain ⟨r11, hc11, hf⟩ := zz_bs hf
              refine zz_cSz C hP hD hS (kX4_isDigitCode l g w _ p1 r11 hc11) gX4_goesOnWith_X4_isDigitCode mX4_isDigitCode (by decide) ⟨Nat.zero_le _, Nat.zero_le _⟩ rfl (rest := []) rfl hl.1 (Nat.le_of_ble_eq_true rfl) dX4_goesOnWith_116 (fun hz11 H locs hP hD hS => ?_)
              exact ret _ _ _ _ r11 hf dX4_goesOnWith_119 hz11 hP hD hS
        · have hf := zz_f c4 hf
          refine lv_iconst (v := (0 : Int32)) hx hb dX4_goesOnWith_55 (by decide) ?_
          exact ret _ _ _ _ (0 : Int32) hf dX4_goesOnWith_56 zz_n0 hP hD hS
      · have hf := zz_t c3 hf
        refine lv_iload_n hx hb dX4_goesOnWith_44 rfl (lv_at hl 1 rfl) ?_
        obtain ⟨r12, hc12, hf⟩ := zz_bs hf
        refine zz_cSz C hP hD hS (kX4_isDigitCode l g w _ p1 r12 hc12) gX4_goesOnWith_X4_isDigitCode mX4_isDigitCode (by decide) ⟨Nat.zero_le _, Nat.zero_le _⟩ rfl (rest := []) rfl hl.1 (Nat.le_of_ble_eq_true rfl) dX4_goesOnWith_45 (fun hz12 H locs hP hD hS => ?_)
        exact ret _ _ _ _ r12 hf dX4_goesOnWith_48 hz12 hP hD hS
    · have hf := zz_t c2 hf
      refine lv_iload_n hx hb dX4_goesOnWith_21 rfl (lv_at hl 1 rfl) ?_
      refine lv_bipush (v := (49 : Int32)) hx hb dX4_goesOnWith_22 (by decide) ?_
      refine lv_icmp_lt (tgt := 37) hx hb dX4_goesOnWith_24 (by decide) (fun c13 => ?_) (fun c13 => ?_)
      · have hf := zz_t c13 hf
        refine lv_iconst (v := (0 : Int32)) hx hb dX4_goesOnWith_37 (by decide) ?_
        exact ret _ _ _ _ (0 : Int32) hf dX4_goesOnWith_38 zz_n0 hP hD hS
      · have hf := zz_f c13 hf
        refine lv_iload_n hx hb dX4_goesOnWith_27 rfl (lv_at hl 1 rfl) ?_
        refine lv_bipush (v := (57 : Int32)) hx hb dX4_goesOnWith_28 (by decide) ?_
        refine lv_icmp_gt (tgt := 37) hx hb dX4_goesOnWith_30 (by decide) (fun c14 => ?_) (fun c14 => ?_)
        · have hf := zz_t c14 hf
          refine lv_iconst (v := (0 : Int32)) hx hb dX4_goesOnWith_37 (by decide) ?_
          exact ret _ _ _ _ (0 : Int32) hf dX4_goesOnWith_38 zz_n0 hP hD hS
        · have hf := zz_f c14 hf
          refine lv_iconst (v := (1 : Int32)) hx hb dX4_goesOnWith_33 (by decide) ?_
          refine lv_goto (tgt := 38) hx hb dX4_goesOnWith_34 (by decide) ?_
          exact ret _ _ _ _ (1 : Int32) hf dX4_goesOnWith_38 zz_n1 hP hD hS
  · have hf := zz_t c1 hf
    refine lv_iload_n hx hb dX4_goesOnWith_4 rfl (lv_at hl 1 rfl) ?_
    refine lv_bipush (v := (102 : Int32)) hx hb dX4_goesOnWith_5 (by decide) ?_
    refine lv_icmp_ne (tgt := 14) hx hb dX4_goesOnWith_7 (by decide) (fun c15 => ?_) (fun c15 => ?_)
    · have hf := zz_f c15 hf
      refine lv_iconst (v := (0 : Int32)) hx hb dX4_goesOnWith_14 (by decide) ?_
      exact ret _ _ _ _ (0 : Int32) hf dX4_goesOnWith_15 zz_n0 hP hD hS
    · have hf := zz_t c15 hf
      refine lv_iconst (v := (1 : Int32)) hx hb dX4_goesOnWith_10 (by decide) ?_
      refine lv_goto (tgt := 15) hx hb dX4_goesOnWith_11 (by decide) ?_
      exact ret _ _ _ _ (1 : Int32) hf dX4_goesOnWith_15 zz_n1 hP hD hS
abbrev rX4_firstFault : Room := ({ frames := 2, cells := 0, slots := 0, locals := 42 })
theorem mX4_firstFault : zzM yX4_firstFault wsX4_firstFault cX4_firstFault 4 (some .int) RX4 3 := ⟨⟨_, rfl⟩, by decide +kernel⟩
def sX4_firstFault_2 (p0 : Int32) (p1 : Int32) (j : Nat) (u : zzS) : (Int32) → ((Int32) → Option Int32) → Option Int32 := fun v1 rec2 => (if p1 ≤ v1 then (if p1 < (7 : Int32) then (if (0 : Int32) = 0 then (some p1) else (some (-9 : Int32))) else (if ((p1 - (3 : Int32)) - (p1 - (3 : Int32)) / (4 : Int32) * (4 : Int32)) = 0 then (if (1 : Int32) = 0 then (some p1) else (some (-9 : Int32))) else (if (0 : Int32) = 0 then (some p1) else (some (-9 : Int32))))) else ((fX2_at j u (p0 + v1)).bind (fun r11 => ((fX4_goesOnWith v1 r11).bind (fun r12 => (if r12 = 0 then (some v1) else (rec2 ((v1 + (1 : Int32))))))))))
set_option maxHeartbeats 4000000 in
set_option maxRecDepth 100000 in
theorem wX4_firstFault_2 (l : Launch) (g : zzG) (q : Nat → Nat) (p0 : Int32) (p1 : Int32) (j : Nat) (u : zzS) (x : Int32) {p : Program} {e : Env} {s : State} {m : MethodId} {below : List Frame} {meth : Method} {c : Code} {A : Nat → Prop} {Q : State → Prop} (C : zzC g p s m ([.ref (q (14 + 2 * j)), .int p0, .int p1] : List Value).toArray c cX4_firstFault 4 RX4 wsX4_firstFault A) (ret : zzRI l g rX4_firstFault cX4_firstFault [.ref (q (14 + 2 * j)), .int p0, .int p1] (fun x : Int32 => x) (fun x : Int32 => (zzX g q u)) x p e s m below meth c A Q) (hj : j < 4) (n : Nat) (v1 : Int32) (hf : zzlp (sX4_firstFault_2 p0 p1 j u) n v1 = some x) : ∀ (H : Heap) (locs : List Loc) (ls : Array Slot), va_P g.1 vwCl (zzX g q u) H → va_D A (zzX g q u) → va_S A s.heap H locs → lv_has ls 4 [(0, .ref (q (14 + 2 * j))), (1, .int p0), (2, .int p1), (3, .int v1)] → W p l e rX4_firstFault s m ([.ref (q (14 + 2 * j)), .int p0, .int p1] : List Value).toArray below meth c H locs 0 0 Q (F0 m 2 ls []) := by
  have hx := C.1.1
  have hb := C.1.2.1
  have hml := C.1.2.2.1
  have hown := C.1.2.2.2.1
  have hts := C.1.2.2.2.2
  have hK := C.2.1
  have iX2 : ∀ w ∈ wsX20, w ∈ wsX4_firstFault := fun _ h => List.mem_cons_of_mem _ (List.mem_append_right _ h)
  refine zz_lp (P := fun (v1 : Int32) => ∀ (H : Heap) (locs : List Loc) (ls : Array Slot), va_P g.1 vwCl (zzX g q u) H → va_D A (zzX g q u) → va_S A s.heap H locs → lv_has ls 4 [(0, .ref (q (14 + 2 * j))), (1, .int p0), (2, .int p1), (3, .int v1)] → W p l e rX4_firstFault s m ([.ref (q (14 + 2 * j)), .int p0, .int p1] : List Value).toArray below meth c H locs 0 0 Q (F0 m 2 ls [])) (fun v1 rec2 ih3 hf H locs ls hP hD hS hl => ?_) n v1 hf
  unfold sX4_firstFault_2 at hf
  refine lv_iload_n hx hb dX4_firstFault_2 rfl (lv_at hl 3 rfl) ?_
  refine lv_iload_n hx hb dX4_firstFault_3 rfl (lv_at hl 2 rfl) ?_
  refine lv_icmp_ge (tgt := 29) hx hb dX4_firstFault_4 (by decide) (fun c4 => ?_) (fun c4 => ?_)
  · have hf := zz_t c4 hf
    refine lv_iload_n hx hb dX4_firstFault_29 rfl (lv_at hl 2 rfl) ?_
    refine lv_bipush (v := (7 : Int32)) hx hb dX4_firstFault_30 (by decide) ?_
    refine lv_icmp_lt (tgt := 47) hx hb dX4_firstFault_32 (by decide) (fun c5 => ?_) (fun c5 => ?_)
    · have hf := zz_t c5 hf
      refine lv_iconst (v := (0 : Int32)) hx hb dX4_firstFault_47 (by decide) ?_
      refine lv_istore_n (lv' := [(3, .int (0 : Int32)), (0, .ref (q (14 + 2 * j))), (1, .int p0), (2, .int p1)]) hx hb dX4_firstFault_48 rfl hl (by decide) rfl (fun ls hl => ?_)
      refine lv_iload_n hx hb dX4_firstFault_49 rfl (lv_at hl 0 rfl) ?_
      refine lv_if_eq (tgt := 58) hx hb dX4_firstFault_50 (by decide) (fun c6 => ?_) (fun c6 => ?_)
      · have hf := zz_t c6 hf
        refine lv_iload_n hx hb dX4_firstFault_58 rfl (lv_at hl 3 rfl) ?_
        exact ret _ _ _ _ p1 hf dX4_firstFault_59 hP hD hS
      · have hf := zz_f c6 hf
        refine lv_bipush (v := (-9 : Int32)) hx hb dX4_firstFault_53 (by decide) ?_
        refine lv_goto (tgt := 59) hx hb dX4_firstFault_55 (by decide) ?_
        exact ret _ _ _ _ (-9 : Int32) hf dX4_firstFault_59 hP hD hS
    · have hf := zz_f c5 hf
      refine lv_iload_n hx hb dX4_firstFault_35 rfl (lv_at hl 2 rfl) ?_
      refine lv_iconst (v := (3 : Int32)) hx hb dX4_firstFault_36 (by decide) ?_
      refine lv_isub hx hb dX4_firstFault_37 ?_
      refine lv_iconst (v := (4 : Int32)) hx hb dX4_firstFault_38 (by decide) ?_
      have h7 : ¬ (4 : Int32) = 0 := by decide
      refine lv_irem hx hb dX4_firstFault_39 h7 ?_
      refine lv_if_ne (tgt := 47) hx hb dX4_firstFault_40 (by decide) (fun c8 => ?_) (fun c8 => ?_)
      · have hf := zz_f c8 hf
        refine lv_iconst (v := (0 : Int32)) hx hb dX4_firstFault_47 (by decide) ?_
        refine lv_istore_n (lv' := [(3, .int (0 : Int32)), (0, .ref (q (14 + 2 * j))), (1, .int p0), (2, .int p1)]) hx hb dX4_firstFault_48 rfl hl (by decide) rfl (fun ls hl => ?_)
        refine lv_iload_n hx hb dX4_firstFault_49 rfl (lv_at hl 0 rfl) ?_
        refine lv_if_eq (tgt := 58) hx hb dX4_firstFault_50 (by decide) (fun c9 => ?_) (fun c9 => ?_)
        · have hf := zz_t c9 hf
          refine lv_iload_n hx hb dX4_firstFault_58 rfl (lv_at hl 3 rfl) ?_
          exact ret _ _ _ _ p1 hf dX4_firstFault_59 hP hD hS
        · have hf := zz_f c9 hf
          refine lv_bipush (v := (-9 : Int32)) hx hb dX4_firstFault_53 (by decide) ?_
          refine lv_goto (tgt := 59) hx hb dX4_firstFault_55 (by decide) ?_
          exact ret _ _ _ _ (-9 : Int32) hf dX4_firstFault_59 hP hD hS
      · have hf := zz_t c8 hf
        refine lv_iconst (v := (1 : Int32)) hx hb dX4_firstFault_43 (by decide) ?_
        refine lv_goto (tgt := 48) hx hb dX4_firstFault_44 (by decide) ?_
        refine lv_istore_n (lv' := [(3, .int (1 : Int32)), (0, .ref (q (14 + 2 * j))), (1, .int p0), (2, .int p1)]) hx hb dX4_firstFault_48 rfl hl (by decide) rfl (fun ls hl => ?_)
        refine lv_iload_n hx hb dX4_firstFault_49 rfl (lv_at hl 0 rfl) ?_
        refine lv_if_eq (tgt := 58) hx hb dX4_firstFault_50 (by decide) (fun c10 => ?_) (fun c10 => ?_)
        · have hf := zz_t c10 hf
          refine lv_iload_n hx hb dX4_firstFault_58 rfl (lv_at hl 3 rfl) ?_
          exact ret _ _ _ _ p1 hf dX4_firstFault_59 hP hD hS
        · have hf := zz_f c10 hf
          refine lv_bipush (v := (-9 : Int32)) hx hb dX4_firstFault_53 (by decide) ?_
          refine lv_goto (tgt := 59) hx hb dX4_firstFault_55 (by decide) ?_
          exact ret _ _ _ _ (-9 : Int32) hf dX4_firstFault_59 hP hD hS
  · have hf := zz_f c4 hf
    refine lv_iload_n hx hb dX4_firstFault_7 rfl (lv_at hl 3 rfl) ?_
    refine lv_aload_n hx hb dX4_firstFault_8 rfl (lv_at hl 0 rfl) ?_
    refine lv_iload_n hx hb dX4_firstFault_9 rfl (lv_at hl 1 rfl) ?_
    refine lv_iload_n hx hb dX4_firstFault_10 rfl (lv_at hl 3 rfl) ?_
    refine lv_iadd hx hb dX4_firstFault_11 ?_
    obtain ⟨r11, hc11, hf⟩ := zz_bs hf
    refine zz_cVi C hP hD hS (kX2_at l g q _ j hj u (p0 + v1) r11 hc11) gX4_firstFault_X2_at mX2_at (by decide) ⟨Nat.zero_le _, Nat.zero_le _⟩ (14 + 2 * j) (zx_sh g q u hj) rfl rfl rfl (rest := [.int v1]) rfl hl.1 (Nat.le_of_ble_eq_true rfl) dX4_firstFault_12 (fun H locs hP hD hS => ?_)
    obtain ⟨r12, hc12, hf⟩ := zz_bs hf
    refine zz_cSz C hP hD hS (kX4_goesOnWith l g (zzX g q u) _ v1 r11 r12 hc12) gX4_firstFault_X4_goesOnWith mX4_goesOnWith (by decide) ⟨Nat.zero_le _, Nat.zero_le _⟩ rfl (rest := []) rfl hl.1 (Nat.le_of_ble_eq_true rfl) dX4_firstFault_15 (fun hz12 H locs hP hD hS => ?_)
    refine lv_if_ne (tgt := 23) hx hb dX4_firstFault_18 (by decide) (fun c13 => ?_) (fun c13 => ?_)
    · have hf := zz_f c13 hf
      refine lv_iinc (v := (v1 + (1 : Int32))) (lv' := [(3, .int (v1 + (1 : Int32))), (0, .ref (q (14 + 2 * j))), (1, .int p0), (2, .int p1)]) hx hb dX4_firstFault_23 hl (k := 3) rfl rfl (by decide) rfl (fun ls hl => ?_)
      refine lv_goto (tgt := 2) hx hb dX4_firstFault_26 (by decide) ?_
      exact ih3 _ hf _ _ _ hP hD hS (lv_sub hl [1, 2, 3, 0] rfl)
    · have hf := zz_t c13 hf
      refine lv_iload_n hx hb dX4_firstFault_21 rfl (lv_at hl 3 rfl) ?_
      exact ret _ _ _ _ v1 hf dX4_firstFault_22 hP hD hS
def fX4_firstFault (j : Nat) (u : zzS) (p0 : Int32) (p1 : Int32) : Option Int32 := (zzlp (sX4_firstFault_2 p0 p1 j u) zzFU ((0 : Int32)))
set_option maxHeartbeats 4000000 in
set_option maxRecDepth 100000 in
theorem kX4_firstFault (l : Launch) (g : zzG) (q : Nat → Nat) (sz : Nat) (j : Nat) (hj : j < 4) (u : zzS) (p0 : Int32) (p1 : Int32) (x : Int32) (hf : fX4_firstFault j u p0 p1 = some x) : zzI l g yX4_firstFault wsX4_firstFault rX4_firstFault [.ref (q (14 + 2 * j)), .int p0, .int p1] (zzX g q u) (zzX g q u) sz x := by
  refine zz_mi (cc := cX4_firstFault) (mL := 4) (own := RX4) (fun x : Int32 => x) (fun x : Int32 => (zzX g q u)) x (by decide) rfl rfl (Nat.le_of_ble_eq_true rfl) ?_
  intro p e s m below meth c A Q ls C ret hP hD hS hl
  have hl : lv_has ls 4 [(0, .ref (q (14 + 2 * j))), (1, .int p0), (2, .int p1)] := hl
  have hx := C.1.1
  have hb := C.1.2.1
  have hml := C.1.2.2.1
  have hown := C.1.2.2.2.1
  have hts := C.1.2.2.2.2
  have hK := C.2.1
  have iX2 : ∀ w ∈ wsX20, w ∈ wsX4_firstFault := fun _ h => List.mem_cons_of_mem _ (List.mem_append_right _ h)
  unfold fX4_firstFault at hf
  refine lv_iconst (v := (0 : Int32)) hx hb dX4_firstFault_0 (by decide) ?_
  refine lv_istore_n (lv' := [(3, .int (0 : Int32)), (0, .ref (q (14 + 2 * j))), (1, .int p0), (2, .int p1)]) hx hb dX4_firstFault_1 rfl hl (by decide) rfl (fun ls hl => ?_)
  exact wX4_firstFault_2 l g q p0 p1 j u x C ret hj _ _ hf _ _ _ hP hD hS (lv_sub hl [1, 2, 3, 0] rfl)
abbrev rX4_layField : Room := ({ frames := 2, cells := 0, slots := 0, locals := 42 })
theorem mX4_layField : zzM yX4_layField wsX4_layField cX4_layField 6 none RX4 3 := ⟨⟨_, rfl⟩, by decide +kernel⟩
def sX4_layField_49 (p0 : Int32) (p1 : Int32) (j : Nat) : (Int32 × zzS) → ((Int32 × zzS) → Option zzS) → Option zzS := fun v4 rec5 => (if (v4.2.1 0) ≤ v4.1 then (some (zzi v4.2 10 (0 : Int32))) else (if (5 : Int32) ≤ v4.1 then (some (zzi v4.2 10 (0 : Int32))) else ((fX2_at j v4.2 (((p0 + (3 : Int32)) + ((4 : Int32) * v4.1)) + (1 : Int32))).bind (fun r9 => ((fX4_kindOfLetter r9).bind (fun r10 => (zzpa 5 v4.1 ((fX2_at j (zza v4.2 0 v4.1.toNatClampNeg r10) (((p0 + (3 : Int32)) + ((4 : Int32) * v4.1)) + (2 : Int32))).bind (fun r12 => (zzpa 5 v4.1 ((fX2_at j (zza (zza v4.2 0 v4.1.toNatClampNeg r10) 1 v4.1.toNatClampNeg (r12 - (48 : Int32))) (((p0 + (3 : Int32)) + ((4 : Int32) * v4.1)) + (3 : Int32))).bind (fun r14 => (zzpa 5 v4.1 (rec5 ((v4.1 + (1 : Int32)), (zza (zza (zza v4.2 0 v4.1.toNatClampNeg r10) 1 v4.1.toNatClampNeg (r12 - (48 : Int32))) 2 v4.1.toNatClampNeg (r14 - (48 : Int32))))))))))))))))))
set_option maxHeartbeats 4000000 in
set_option maxRecDepth 100000 in
theorem wX4_layField_49 (l : Launch) (g : zzG) (q : Nat → Nat) (p0 : Int32) (p1 : Int32) (j : Nat) (x : zzS) {p : Program} {e : Env} {s : State} {m : MethodId} {below : List Frame} {meth : Method} {c : Code} {A : Nat → Prop} {Q : State → Prop} (C : zzC g p s m ([.ref (q 0), .ref (q (14 + 2 * j)), .int p0, .int p1] : List Value).toArray c cX4_layField 6 RX4 wsX4_layField A) (ret : zzRV l g rX4_layField cX4_layField [.ref (q 0), .ref (q (14 + 2 * j)), .int p0, .int p1] (fun x : zzS => (zzX g q x)) x p e s m below meth c A Q) (hj : j < 4) (n : Nat) (v4 : Int32 × zzS) (hf : zzlp (sX4_layField_49 p0 p1 j) n v4 = some x) : ∀ (H : Heap) (locs : List Loc) (ls : Array Slot), va_P g.1 vwCl (zzX g q v4.2) H → va_D A (zzX g q v4.2) → va_S A s.heap H locs → lv_has ls 6 [(0, .ref (q 0)), (1, .ref (q (14 + 2 * j))), (2, .int p0), (4, .int (v4.1))] → W p l e rX4_layField s m ([.ref (q 0), .ref (q (14 + 2 * j)), .int p0, .int p1] : List Value).toArray below meth c H locs 0 0 Q (F0 m 49 ls []) := by
  have hx := C.1.1
  have hb := C.1.2.1
  have hml := C.1.2.2.1
  have hown := C.1.2.2.2.1
  have hts := C.1.2.2.2.2
  have hK := C.2.1
  have iX4 : ∀ w ∈ wsX40, w ∈ wsX4_layField := fun _ h => List.mem_cons_of_mem _ (List.mem_append_left _ (List.mem_append_left _ (List.mem_append_left _ (List.mem_append_right _ h))))
  have iX3 : ∀ w ∈ wsX30, w ∈ wsX4_layField := fun _ h => List.mem_cons_of_mem _ (List.mem_append_left _ (List.mem_append_left _ (List.mem_append_right _ h)))
  have iX0 : ∀ w ∈ wsX00, w ∈ wsX4_layField := fun _ h => List.mem_cons_of_mem _ (List.mem_append_left _ (List.mem_append_right _ h))
  have iX2 : ∀ w ∈ wsX20, w ∈ wsX4_layField := fun _ h => List.mem_cons_of_mem _ (List.mem_append_right _ h)
  refine zz_lp (P := fun (v4 : Int32 × zzS) => ∀ (H : Heap) (locs : List Loc) (ls : Array Slot), va_P g.1 vwCl (zzX g q v4.2) H → va_D A (zzX g q v4.2) → va_S A s.heap H locs → lv_has ls 6 [(0, .ref (q 0)), (1, .ref (q (14 + 2 * j))), (2, .int p0), (4, .int (v4.1))] → W p l e rX4_layField s m ([.ref (q 0), .ref (q (14 + 2 * j)), .int p0, .int p1] : List Value).toArray below meth c H locs 0 0 Q (F0 m 49 ls [])) (fun v4 rec5 ih6 hf H locs ls hP hD hS hl => ?_) n v4 hf
  unfold sX4_layField_49 at hf
  refine lv_iload hx hb dX4_layField_49 (lv_at hl 3 rfl) ?_
  refine lv_aload_n hx hb dX4_layField_51 rfl (lv_at hl 0 rfl) ?_
  refine va_get (D := g.1) (ci := 4) (v := .ref (q 1)) (C := RX4) (T := TX4) (N := 7) hx hb hts iX4 hown hK hP 0 rfl rfl 0 (by decide) (zz_mem hts 1 rfl) (fun _ h9 => h9) rfl dX4_layField_52 ?_
  refine va_get (D := g.1) (ci := 3) (v := .int (v4.2.1 0)) (C := RX3) (T := TX3) (N := 6) hx hb hts iX3 hown hK hP 1 rfl rfl 3 (by decide) (zz_mem hts 4 rfl) (fun _ h9 => h9) rfl dX4_layField_55 ?_
  refine lv_icmp_ge (tgt := 146) hx hb dX4_layField_58 (by decide) (fun c7 => ?_) (fun c7 => ?_)
  · have hf := zz_t c7 hf
    refine lv_aload_n hx hb dX4_layField_146 rfl (lv_at hl 0 rfl) ?_
    refine va_get (D := g.1) (ci := 4) (v := .ref (q 10)) (C := RX4) (T := TX4) (N := 7) hx hb hts iX4 hown hK hP 0 rfl rfl 3 (by decide) (zz_mem hts 8 rfl) (fun _ h9 => h9) rfl dX4_layField_147 ?_
    refine lv_iconst (v := (0 : Int32)) hx hb dX4_layField_150 (by decide) ?_
    refine va_put (D := g.1) (ci := 0) (v := .int (0 : Int32)) (ty := .int) (C := RX0) (T := TX0) (N := 3) hx hb hts iX0 tyX0 tyX0_ok nmX0 hown hK hP hD hS 10 rfl rfl 2 (by decide) (zz_mem hts 9 rfl) (fun _ h9 => h9) rfl (tyX0_ok 2 (by decide)) rfl rfl (Nat.le_of_ble_eq_true rfl) dX4_layField_151 (fun H locs hP hD hS => ?_)
    have hP : va_P g.1 vwCl (zzX g q (zzi v4.2 10 (0 : Int32))) H := Eq.mp (congrArg (fun w => va_P g.1 vwCl w H) (zxo_10_2 g q v4.2 (0 : Int32))) hP
    have hD : va_D A (zzX g q (zzi v4.2 10 (0 : Int32))) := Eq.mp (congrArg (va_D A) (zxo_10_2 g q v4.2 (0 : Int32))) hD
    exact ret _ _ _ _ (zzi v4.2 10 (0 : Int32)) hf dX4_layField_154 hP hD hS
  · have hf := zz_f c7 hf
    refine lv_iload hx hb dX4_layField_61 (lv_at hl 3 rfl) ?_
    refine lv_iconst (v := (5 : Int32)) hx hb dX4_layField_63 (by decide) ?_
    refine lv_icmp_ge (tgt := 146) hx hb dX4_layField_64 (by decide) (fun c8 => ?_) (fun c8 => ?_)
    · have hf := zz_t c8 hf
      refine lv_aload_n hx hb dX4_layField_146 rfl (lv_at hl 0 rfl) ?_
      refine va_get (D := g.1) (ci := 4) (v := .ref (q 10)) (C := RX4) (T := TX4) (N := 7) hx hb hts iX4 hown hK hP 0 rfl rfl 3 (by decide) (zz_mem hts 8 rfl) (fun _ h9 => h9) rfl dX4_layField_147 ?_
      refine lv_iconst (v := (0 : Int32)) hx hb dX4_layField_150 (by decide) ?_
      refine va_put (D := g.1) (ci := 0) (v := .int (0 : Int32)) (ty := .int) (C := RX0) (T := TX0) (N := 3) hx hb hts iX0 tyX0 tyX0_ok nmX0 hown hK hP hD hS 10 rfl rfl 2 (by decide) (zz_mem hts 9 rfl) (fun _ h9 => h9) rfl (tyX0_ok 2 (by decide)) rfl rfl (Nat.le_of_ble_eq_true rfl) dX4_layField_151 (fun H locs hP hD hS => ?_)
      have hP : va_P g.1 vwCl (zzX g q (zzi v4.2 10 (0 : Int32))) H := Eq.mp (congrArg (fun w => va_P g.1 vwCl w H) (zxo_10_2 g q v4.2 (0 : Int32))) hP
      have hD : va_D A (zzX g q (zzi v4.2 10 (0 : Int32))) := Eq.mp (congrArg (va_D A) (zxo_10_2 g q v4.2 (0 : Int32))) hD
      exact ret _ _ _ _ (zzi v4.2 10 (0 : Int32)) hf dX4_layField_154 hP hD hS
    · have hf := zz_f c8 hf
      refine lv_iload_n hx hb dX4_layField_67 rfl (lv_at hl 2 rfl) ?_
      refine lv_iconst (v := (3 : Int32)) hx hb dX4_layField_68 (by decide) ?_
      refine lv_iadd hx hb dX4_layField_69 ?_
      refine lv_iconst (v := (4 : Int32)) hx hb dX4_layField_70 (by decide) ?_
      refine lv_iload hx hb dX4_layField_71 (lv_at hl 3 rfl) ?_
      refine lv_imul hx hb dX4_layField_73 ?_
      refine lv_iadd hx hb dX4_layField_74 ?_
      refine lv_istore (lv' := [(5, .int ((p0 + (3 : Int32)) + ((4 : Int32) * v4.1))), (0, .ref (q 0)), (1, .ref (q (14 + 2 * j))), (2, .int p0), (4, .int (v4.1))]) hx hb dX4_layField_75 hl (by decide) rfl (fun ls hl => ?_)
      refine lv_aload_n hx hb dX4_layField_77 rfl (lv_at hl 1 rfl) ?_
      refine va_get (D := g.1) (ci := 4) (v := .ref (q 1)) (C := RX4) (T := TX4) (N := 7) hx hb hts iX4 hown hK hP 0 rfl rfl 0 (by decide) (zz_mem hts 1 rfl) (fun _ h9 => h9) rfl dX4_layField_78 ?_
      refine va_get (D := g.1) (ci := 3) (v := .ref (q 2)) (C := RX3) (T := TX3) (N := 6) hx hb hts iX3 hown hK hP 1 rfl rfl 0 (by decide) (zz_mem hts 5 rfl) (fun _ h9 => h9) rfl dX4_layField_81 ?_
      refine lv_iload hx hb dX4_layField_84 (lv_at hl 4 rfl) ?_
      refine lv_aload_n hx hb dX4_layField_86 rfl (lv_at hl 2 rfl) ?_
      refine lv_iload hx hb dX4_layField_87 (lv_at hl 0 rfl) ?_
      refine lv_iconst (v := (1 : Int32)) hx hb dX4_layField_89 (by decide) ?_
      refine lv_iadd hx hb dX4_layField_90 ?_
      obtain ⟨r9, hc9, hf⟩ := zz_bs hf
      refine zz_cVi C hP hD hS (kX2_at l g q _ j hj v4.2 (((p0 + (3 : Int32)) + ((4 : Int32) * v4.1)) + (1 : Int32)) r9 hc9) gX4_layField_X2_at mX2_at (by decide) ⟨Nat.zero_le _, Nat.zero_le _⟩ (14 + 2 * j) (zx_sh g q v4.2 hj) rfl rfl rfl (rest := [.int (v4.1), .ref (q 2)]) rfl hl.1 (Nat.le_of_ble_eq_true rfl) dX4_layField_91 (fun H locs hP hD hS => ?_)
      obtain ⟨r10, hc10, hf⟩ := zz_bs hf
      refine zz_cSi C hP hD hS (kX4_kindOfLetter l g (zzX g q v4.2) _ r9 r10 hc10) gX4_layField_X4_kindOfLetter mX4_kindOfLetter (by decide) ⟨Nat.zero_le _, Nat.zero_le _⟩ rfl (rest := [.int (v4.1), .ref (q 2)]) rfl hl.1 (Nat.le_of_ble_eq_true rfl) dX4_layField_94 (fun H locs hP hD hS => ?_)
      obtain ⟨h11, hf⟩ := zz_pa hf
      refine va_iast hx hb hK hP hD hS 2 0 rfl rfl h11 dX4_layField_97 (fun H locs hP hD hS => ?_)
      have hP : va_P g.1 vwCl (zzX g q (zza v4.2 0 v4.1.toNatClampNeg r10)) H := Eq.mp (congrArg (fun w => va_P g.1 vwCl w H) (zxa_2 g q v4.2 (upd (v4.2.2 0) v4.1.toNatClampNeg r10))) hP
      have hD : va_D A (zzX g q (zza v4.2 0 v4.1.toNatClampNeg r10)) := Eq.mp (congrArg (va_D A) (zxa_2 g q v4.2 (upd (v4.2.2 0) v4.1.toNatClampNeg r10))) hD
      refine lv_aload_n hx hb dX4_layField_98 rfl (lv_at hl 1 rfl) ?_
      refine va_get (D := g.1) (ci := 4) (v := .ref (q 1)) (C := RX4) (T := TX4) (N := 7) hx hb hts iX4 hown hK hP 0 rfl rfl 0 (by decide) (zz_mem hts 1 rfl) (fun _ h9 => h9) rfl dX4_layField_99 ?_
      refine va_get (D := g.1) (ci := 3) (v := .ref (q 3)) (C := RX3) (T := TX3) (N := 6) hx hb hts iX3 hown hK hP 1 rfl rfl 1 (by decide) (zz_mem hts 6 rfl) (fun _ h9 => h9) rfl dX4_layField_102 ?_
      refine lv_iload hx hb dX4_layField_105 (lv_at hl 4 rfl) ?_
      refine lv_aload_n hx hb dX4_layField_107 rfl (lv_at hl 2 rfl) ?_
      refine lv_iload hx hb dX4_layField_108 (lv_at hl 0 rfl) ?_
      refine lv_iconst (v := (2 : Int32)) hx hb dX4_layField_110 (by decide) ?_
      refine lv_iadd hx hb dX4_layField_111 ?_
      obtain ⟨r12, hc12, hf⟩ := zz_bs hf
      refine zz_cVi C hP hD hS (kX2_at l g q _ j hj (zza v4.2 0 v4.1.toNatClampNeg r10) (((p0 + (3 : Int32)) + ((4 : Int32) * v4.1)) + (2 : Int32)) r12 hc12) gX4_layField_X2_at mX2_at (by decide) ⟨Nat.zero_le _, Nat.zero_le _⟩ (14 + 2 * j) (zx_sh g q (zza v4.2 0 v4.1.toNatClampNeg r10) hj) rfl rfl rfl (rest := [.int (v4.1), .ref (q 3)]) rfl hl.1 (Nat.le_of_ble_eq_true rfl) dX4_layField_112 (fun H locs hP hD hS => ?_)
      refine lv_bipush (v := (48 : Int32)) hx hb dX4_layField_115 (by decide) ?_
      refine lv_isub hx hb dX4_layField_117 ?_
      obtain ⟨h13, hf⟩ := zz_pa hf
      refine va_iast hx hb hK hP hD hS 3 0 rfl rfl h13 dX4_layField_118 (fun H locs hP hD hS => ?_)
      have hP : va_P g.1 vwCl (zzX g q (zza (zza v4.2 0 v4.1.toNatClampNeg r10) 1 v4.1.toNatClampNeg (r12 - (48 : Int32)))) H := Eq.mp (congrArg (fun w => va_P g.1 vwCl w H) (zxa_3 g q (zza v4.2 0 v4.1.toNatClampNeg r10) (upd ((zza v4.2 0 v4.1.toNatClampNeg r10).2 1) v4.1.toNatClampNeg (r12 - (48 : Int32))))) hP
      have hD : va_D A (zzX g q (zza (zza v4.2 0 v4.1.toNatClampNeg r10) 1 v4.1.toNatClampNeg (r12 - (48 : Int32)))) := Eq.mp (congrArg (va_D A) (zxa_3 g q (zza v4.2 0 v4.1.toNatClampNeg r10) (upd ((zza v4.2 0 v4.1.toNatClampNeg r10).2 1) v4.1.toNatClampNeg (r12 - (48 : Int32))))) hD
      refine lv_aload_n hx hb dX4_layField_119 rfl (lv_at hl 1 rfl) ?_
      refine va_get (D := g.1) (ci := 4) (v := .ref (q 1)) (C := RX4) (T := TX4) (N := 7) hx hb hts iX4 hown hK hP 0 rfl rfl 0 (by decide) (zz_mem hts 1 rfl) (fun _ h9 => h9) rfl dX4_layField_120 ?_
      refine va_get (D := g.1) (ci := 3) (v := .ref (q 4)) (C := RX3) (T := TX3) (N := 6) hx hb hts iX3 hown hK hP 1 rfl rfl 2 (by decide) (zz_mem hts 7 rfl) (fun _ h9 => h9) rfl dX4_layField_123 ?_
      refine lv_iload hx hb dX4_layField_126 (lv_at hl 4 rfl) ?_
      refine lv_aload_n hx hb dX4_layField_128 rfl (lv_at hl 2 rfl) ?_
      refine lv_iload hx hb dX4_layField_129 (lv_at hl 0 rfl) ?_
      refine lv_iconst (v := (3 : Int32)) hx hb dX4_layField_131 (by decide) ?_
      refine lv_iadd hx hb dX4_layField_132 ?_
      obtain ⟨r14, hc14, hf⟩ := zz_bs hf
      refine zz_cVi C hP hD hS (kX2_at l g q _ j hj (zza (zza v4.2 0 v4.1.toNatClampNeg r10) 1 v4.1.toNatClampNeg (r12 - (48 : Int32))) (((p0 + (3 : Int32)) + ((4 : Int32) * v4.1)) + (3 : Int32)) r14 hc14) gX4_layField_X2_at mX2_at (by decide) ⟨Nat.zero_le _, Nat.zero_le _⟩ (14 + 2 * j) (zx_sh g q (zza (zza v4.2 0 v4.1.toNatClampNeg r10) 1 v4.1.toNatClampNeg (r12 - (48 : Int32))) hj) rfl rfl rfl (rest := [.int (v4.1), .ref (q 4)]) rfl hl.1 (Nat.le_of_ble_eq_true rfl) dX4_layField_133 (fun H locs hP hD hS => ?_)
      refine lv_bipush (v := (48 : Int32)) hx hb dX4_layField_136 (by decide) ?_
      refine lv_isub hx hb dX4_layField_138 ?_
      obtain ⟨h15, hf⟩ := zz_pa hf
      refine va_iast hx hb hK hP hD hS 4 0 rfl rfl h15 dX4_layField_139 (fun H locs hP hD hS => ?_)
      have hP : va_P g.1 vwCl (zzX g q (zza (zza (zza v4.2 0 v4.1.toNatClampNeg r10) 1 v4.1.toNatClampNeg (r12 - (48 : Int32))) 2 v4.1.toNatClampNeg (r14 - (48 : Int32)))) H := Eq.mp (congrArg (fun w => va_P g.1 vwCl w H) (zxa_4 g q (zza (zza v4.2 0 v4.1.toNatClampNeg r10) 1 v4.1.toNatClampNeg (r12 - (48 : Int32))) (upd ((zza (zza v4.2 0 v4.1.toNatClampNeg r10) 1 v4.1.toNatClampNeg (r12 - (48 : Int32))).2 2) v4.1.toNatClampNeg (r14 - (48 : Int32))))) hP
      have hD : va_D A (zzX g q (zza (zza (zza v4.2 0 v4.1.toNatClampNeg r10) 1 v4.1.toNatClampNeg (r12 - (48 : Int32))) 2 v4.1.toNatClampNeg (r14 - (48 : Int32)))) := Eq.mp (congrArg (va_D A) (zxa_4 g q (zza (zza v4.2 0 v4.1.toNatClampNeg r10) 1 v4.1.toNatClampNeg (r12 - (48 : Int32))) (upd ((zza (zza v4.2 0 v4.1.toNatClampNeg r10) 1 v4.1.toNatClampNeg (r12 - (48 : Int32))).2 2) v4.1.toNatClampNeg (r14 - (48 : Int32))))) hD
      refine lv_iinc (v := (v4.1 + (1 : Int32))) (lv' := [(4, .int (v4.1 + (1 : Int32))), (5, .int ((p0 + (3 : Int32)) + ((4 : Int32) * v4.1))), (0, .ref (q 0)), (1, .ref (q (14 + 2 * j))), (2, .int p0)]) hx hb dX4_layField_140 hl (k := 4) rfl rfl (by decide) rfl (fun ls hl => ?_)
      refine lv_goto (tgt := 49) hx hb dX4_layField_143 (by decide) ?_
      exact ih6 _ hf _ _ _ hP hD hS (lv_sub hl [2, 3, 4, 0] rfl)
def fX4_layField (j : Nat) (u : zzS) (p0 : Int32) (p1 : Int32) : Option zzS := ((fX2_at j u (p0 + (1 : Int32))).bind (fun r1 => ((fX2_at j (zzi u 1 (r1 - (48 : Int32))) (p0 + (2 : Int32))).bind (fun r2 => (zzlp (sX4_layField_49 p0 p1 j) zzFU ((0 : Int32), (zzi (zzi (zzi u 1 (r1 - (48 : Int32))) 2 (r2 - (48 : Int32))) 0 ((p1 - (3 : Int32)) / (4 : Int32)))))))))
set_option maxHeartbeats 4000000 in
set_option maxRecDepth 100000 in
theorem kX4_layField (l : Launch) (g : zzG) (q : Nat → Nat) (sz : Nat) (j : Nat) (hj : j < 4) (u : zzS) (p0 : Int32) (p1 : Int32) (x : zzS) (hf : fX4_layField j u p0 p1 = some x) : zzV l g yX4_layField wsX4_layField rX4_layField [.ref (q 0), .ref (q (14 + 2 * j)), .int p0, .int p1] (zzX g q u) (zzX g q x) sz := by
  refine zz_mv (cc := cX4_layField) (mL := 6) (own := RX4) (fun x : zzS => (zzX g q x)) x (by decide) rfl rfl (Nat.le_of_ble_eq_true rfl) ?_
  intro p e s m below meth c A Q ls C ret hP hD hS hl
  have hl : lv_has ls 6 [(0, .ref (q 0)), (1, .ref (q (14 + 2 * j))), (2, .int p0), (3, .int p1)] := hl
  have hx := C.1.1
  have hb := C.1.2.1
  have hml := C.1.2.2.1
  have hown := C.1.2.2.2.1
  have hts := C.1.2.2.2.2
  have hK := C.2.1
  have iX4 : ∀ w ∈ wsX40, w ∈ wsX4_layField := fun _ h => List.mem_cons_of_mem _ (List.mem_append_left _ (List.mem_append_left _ (List.mem_append_left _ (List.mem_append_right _ h))))
  have iX3 : ∀ w ∈ wsX30, w ∈ wsX4_layField := fun _ h => List.mem_cons_of_mem _ (List.mem_append_left _ (List.mem_append_left _ (List.mem_append_right _ h)))
  have iX0 : ∀ w ∈ wsX00, w ∈ wsX4_layField := fun _ h => List.mem_cons_of_mem _ (List.mem_append_left _ (List.mem_append_right _ h))
  have iX2 : ∀ w ∈ wsX20, w ∈ wsX4_layField := fun _ h => List.mem_cons_of_mem _ (List.mem_append_right _ h)
  unfold fX4_layField at hf
  refine lv_aload_n hx hb dX4_layField_0 rfl (lv_at hl 0 rfl) ?_
  refine va_get (D := g.1) (ci := 4) (v := .ref (q 1)) (C := RX4) (T := TX4) (N := 7) hx hb hts iX4 hown hK hP 0 rfl rfl 0 (by decide) (zz_mem hts 1 rfl) (fun _ h9 => h9) rfl dX4_layField_1 ?_
  refine lv_aload_n hx hb dX4_layField_4 rfl (lv_at hl 1 rfl) ?_
  refine lv_iload_n hx hb dX4_layField_5 rfl (lv_at hl 2 rfl) ?_
  refine lv_iconst (v := (1 : Int32)) hx hb dX4_layField_6 (by decide) ?_
  refine lv_iadd hx hb dX4_layField_7 ?_
  obtain ⟨r1, hc1, hf⟩ := zz_bs hf
  refine zz_cVi C hP hD hS (kX2_at l g q _ j hj u (p0 + (1 : Int32)) r1 hc1) gX4_layField_X2_at mX2_at (by decide) ⟨Nat.zero_le _, Nat.zero_le _⟩ (14 + 2 * j) (zx_sh g q u hj) rfl rfl rfl (rest := [.ref (q 1)]) rfl hl.1 (Nat.le_of_ble_eq_true rfl) dX4_layField_8 (fun H locs hP hD hS => ?_)
  refine lv_bipush (v := (48 : Int32)) hx hb dX4_layField_11 (by decide) ?_
  refine lv_isub hx hb dX4_layField_13 ?_
  refine va_put (D := g.1) (ci := 3) (v := .int (r1 - (48 : Int32))) (ty := .int) (C := RX3) (T := TX3) (N := 6) hx hb hts iX3 tyX3 tyX3_ok nmX3 hown hK hP hD hS 1 rfl rfl 4 (by decide) (zz_mem hts 2 rfl) (fun _ h9 => h9) rfl (tyX3_ok 4 (by decide)) rfl rfl (Nat.le_of_ble_eq_true rfl) dX4_layField_14 (fun H locs hP hD hS => ?_)
  have hP : va_P g.1 vwCl (zzX g q (zzi u 1 (r1 - (48 : Int32)))) H := Eq.mp (congrArg (fun w => va_P g.1 vwCl w H) (zxo_1_4 g q u (r1 - (48 : Int32)))) hP
  have hD : va_D A (zzX g q (zzi u 1 (r1 - (48 : Int32)))) := Eq.mp (congrArg (va_D A) (zxo_1_4 g q u (r1 - (48 : Int32)))) hD
  refine lv_aload_n hx hb dX4_layField_17 rfl (lv_at hl 0 rfl) ?_
  refine va_get (D := g.1) (ci := 4) (v := .ref (q 1)) (C := RX4) (T := TX4) (N := 7) hx hb hts iX4 hown hK hP 0 rfl rfl 0 (by decide) (zz_mem hts 1 rfl) (fun _ h9 => h9) rfl dX4_layField_18 ?_
  refine lv_aload_n hx hb dX4_layField_21 rfl (lv_at hl 1 rfl) ?_
  refine lv_iload_n hx hb dX4_layField_22 rfl (lv_at hl 2 rfl) ?_
  refine lv_iconst (v := (2 : Int32)) hx hb dX4_layField_23 (by decide) ?_
  refine lv_iadd hx hb dX4_layField_24 ?_
  obtain ⟨r2, hc2, hf⟩ := zz_bs hf
  refine zz_cVi C hP hD hS (kX2_at l g q _ j hj (zzi u 1 (r1 - (48 : Int32))) (p0 + (2 : Int32)) r2 hc2) gX4_layField_X2_at mX2_at (by decide) ⟨Nat.zero_le _, Nat.zero_le _⟩ (14 + 2 * j) (zx_sh g q (zzi u 1 (r1 - (48 : Int32))) hj) rfl rfl rfl (rest := [.ref (q 1)]) rfl hl.1 (Nat.le_of_ble_eq_true rfl) dX4_layField_25 (fun H locs hP hD hS => ?_)
  refine lv_bipush (v := (48 : Int32)) hx hb dX4_layField_28 (by decide) ?_
  refine lv_isub hx hb dX4_layField_30 ?_
  refine va_put (D := g.1) (ci := 3) (v := .int (r2 - (48 : Int32))) (ty := .int) (C := RX3) (T := TX3) (N := 6) hx hb hts iX3 tyX3 tyX3_ok nmX3 hown hK hP hD hS 1 rfl rfl 5 (by decide) (zz_mem hts 3 rfl) (fun _ h9 => h9) rfl (tyX3_ok 5 (by decide)) rfl rfl (Nat.le_of_ble_eq_true rfl) dX4_layField_31 (fun H locs hP hD hS => ?_)
  have hP : va_P g.1 vwCl (zzX g q (zzi (zzi u 1 (r1 - (48 : Int32))) 2 (r2 - (48 : Int32)))) H := Eq.mp (congrArg (fun w => va_P g.1 vwCl w H) (zxo_1_5 g q (zzi u 1 (r1 - (48 : Int32))) (r2 - (48 : Int32)))) hP
  have hD : va_D A (zzX g q (zzi (zzi u 1 (r1 - (48 : Int32))) 2 (r2 - (48 : Int32)))) := Eq.mp (congrArg (va_D A) (zxo_1_5 g q (zzi u 1 (r1 - (48 : Int32))) (r2 - (48 : Int32)))) hD
  refine lv_aload_n hx hb dX4_layField_34 rfl (lv_at hl 0 rfl) ?_
  refine va_get (D := g.1) (ci := 4) (v := .ref (q 1)) (C := RX4) (T := TX4) (N := 7) hx hb hts iX4 hown hK hP 0 rfl rfl 0 (by decide) (zz_mem hts 1 rfl) (fun _ h9 => h9) rfl dX4_layField_35 ?_
  refine lv_iload_n hx hb dX4_layField_38 rfl (lv_at hl 3 rfl) ?_
  refine lv_iconst (v := (3 : Int32)) hx hb dX4_layField_39 (by decide) ?_
  refine lv_isub hx hb dX4_layField_40 ?_
  refine lv_iconst (v := (4 : Int32)) hx hb dX4_layField_41 (by decide) ?_
  have h3 : ¬ (4 : Int32) = 0 := by decide
  refine lv_idiv hx hb dX4_layField_42 h3 ?_
  refine va_put (D := g.1) (ci := 3) (v := .int ((p1 - (3 : Int32)) / (4 : Int32))) (ty := .int) (C := RX3) (T := TX3) (N := 6) hx hb hts iX3 tyX3 tyX3_ok nmX3 hown hK hP hD hS 1 rfl rfl 3 (by decide) (zz_mem hts 4 rfl) (fun _ h9 => h9) rfl (tyX3_ok 3 (by decide)) rfl rfl (Nat.le_of_ble_eq_true rfl) dX4_layField_43 (fun H locs hP hD hS => ?_)
  have hP : va_P g.1 vwCl (zzX g q (zzi (zzi (zzi u 1 (r1 - (48 : Int32))) 2 (r2 - (48 : Int32))) 0 ((p1 - (3 : Int32)) / (4 : Int32)))) H := Eq.mp (congrArg (fun w => va_P g.1 vwCl w H) (zxo_1_3 g q (zzi (zzi u 1 (r1 - (48 : Int32))) 2 (r2 - (48 : Int32))) ((p1 - (3 : Int32)) / (4 : Int32)))) hP
  have hD : va_D A (zzX g q (zzi (zzi (zzi u 1 (r1 - (48 : Int32))) 2 (r2 - (48 : Int32))) 0 ((p1 - (3 : Int32)) / (4 : Int32)))) := Eq.mp (congrArg (va_D A) (zxo_1_3 g q (zzi (zzi u 1 (r1 - (48 : Int32))) 2 (r2 - (48 : Int32))) ((p1 - (3 : Int32)) / (4 : Int32)))) hD
  refine lv_iconst (v := (0 : Int32)) hx hb dX4_layField_46 (by decide) ?_
  refine lv_istore (lv' := [(4, .int (0 : Int32)), (0, .ref (q 0)), (1, .ref (q (14 + 2 * j))), (2, .int p0), (3, .int p1)]) hx hb dX4_layField_47 hl (by decide) rfl (fun ls hl => ?_)
  exact wX4_layField_49 l g q p0 p1 j x C ret hj _ _ hf _ _ _ hP hD hS (lv_sub hl [1, 2, 3, 0] rfl)
abbrev rX4_field : Room := ({ frames := 3, cells := 0, slots := 0, locals := 67 })
theorem mX4_field : zzM yX4_field wsX4_field cX4_field 8 (some .int) RX4 4 := ⟨⟨_, rfl⟩, by decide +kernel⟩
def fX4_field (u : zzS) (p0 : Int32) (p1 : Int32) (p2 : Int32) (p3 : Int32) : Option (Int32 × zzS) := (zzop (fX4_sheetAt p0) (some ((-1 : Int32), (zzi u 12 (0 : Int32)))) (fun j1 => ((fX4_isLane p1).bind (fun r2 => (if r2 = 0 then (some ((-2 : Int32), (zzi u 12 (0 : Int32)))) else ((fX2_faultAs j1 (zzi u 12 (0 : Int32)) p1).bind (fun r4 => (if r4 = 0 then (if (0 : Int32) ≤ p3 then (if r4 = 0 then ((fX2_holds j1 (zzi u 12 (0 : Int32)) p2 p3).bind (fun r31 => (if r31 = 0 then (if (3 : Int32) = 0 then ((fX4_firstFault j1 (zzi u 12 (0 : Int32)) p2 p3).bind (fun r39 => (if r39 = (-9 : Int32) then ((fX4_layField j1 (zzi u 12 (0 : Int32)) p2 p3).bind (fun r41 => (some ((r41.1 0), r41)))) else (some (((-100 : Int32) - r39), (zzi u 12 (0 : Int32))))))) else ((fX4_failed (zzi u 12 (0 : Int32)) (3 : Int32)).bind (fun r42 => (some (r42.1, r42.2))))) else (if r4 = 0 then ((fX4_firstFault j1 (zzi u 12 (0 : Int32)) p2 p3).bind (fun r34 => (if r34 = (-9 : Int32) then ((fX4_layField j1 (zzi u 12 (0 : Int32)) p2 p3).bind (fun r36 => (some ((r36.1 0), r36)))) else (some (((-100 : Int32) - r34), (zzi u 12 (0 : Int32))))))) else ((fX4_failed (zzi u 12 (0 : Int32)) r4).bind (fun r37 => (some (r37.1, r37.2)))))))) else (if r4 = 0 then ((fX4_firstFault j1 (zzi u 12 (0 : Int32)) p2 p3).bind (fun r27 => (if r27 = (-9 : Int32) then ((fX4_layField j1 (zzi u 12 (0 : Int32)) p2 p3).bind (fun r29 => (some ((r29.1 0), r29)))) else (some (((-100 : Int32) - r27), (zzi u 12 (0 : Int32))))))) else ((fX4_failed (zzi u 12 (0 : Int32)) r4).bind (fun r30 => (some (r30.1, r30.2)))))) else (if (4 : Int32) = 0 then ((fX2_holds j1 (zzi u 12 (0 : Int32)) p2 p3).bind (fun r49 => (if r49 = 0 then (if (3 : Int32) = 0 then ((fX4_firstFault j1 (zzi u 12 (0 : Int32)) p2 p3).bind (fun r57 => (if r57 = (-9 : Int32) then ((fX4_layField j1 (zzi u 12 (0 : Int32)) p2 p3).bind (fun r59 => (some ((r59.1 0), r59)))) else (some (((-100 : Int32) - r57), (zzi u 12 (0 : Int32))))))) else ((fX4_failed (zzi u 12 (0 : Int32)) (3 : Int32)).bind (fun r60 => (some (r60.1, r60.2))))) else (if (4 : Int32) = 0 then ((fX4_firstFault j1 (zzi u 12 (0 : Int32)) p2 p3).bind (fun r52 => (if r52 = (-9 : Int32) then ((fX4_layField j1 (zzi u 12 (0 : Int32)) p2 p3).bind (fun r54 => (some ((r54.1 0), r54)))) else (some (((-100 : Int32) - r52), (zzi u 12 (0 : Int32))))))) else ((fX4_failed (zzi u 12 (0 : Int32)) (4 : Int32)).bind (fun r55 => (some (r55.1, r55.2)))))))) else (if (4 : Int32) = 0 then ((fX4_firstFault j1 (zzi u 12 (0 : Int32)) p2 p3).bind (fun r45 => (if r45 = (-9 : Int32) then ((fX4_layField j1 (zzi u 12 (0 : Int32)) p2 p3).bind (fun r47 => (some ((r47.1 0), r47)))) else (some (((-100 : Int32) - r45), (zzi u 12 (0 : Int32))))))) else ((fX4_failed (zzi u 12 (0 : Int32)) (4 : Int32)).bind (fun r48 => (some (r48.1, r48.2))))))) else (if r4 = 0 then ((fX2_holds j1 (zzi u 12 (0 : Int32)) p2 p3).bind (fun r12 => (if r12 = 0 then (if (3 : Int32) = 0 then ((fX4_firstFault j1 (zzi u 12 (0 : Int32)) p2 p3).bind (fun r20 => (if r20 = (-9 : Int32) then ((fX4_layField j1 (zzi u 12 (0 : Int32)) p2 p3).bind (fun r22 => (some ((r22.1 0), r22)))) else (some (((-100 : Int32) - r20), (zzi u 12 (0 : Int32))))))) else ((fX4_failed (zzi u 12 (0 : Int32)) (3 : Int32)).bind (fun r23 => (some (r23.1, r23.2))))) else (if r4 = 0 then ((fX4_firstFault j1 (zzi u 12 (0 : Int32)) p2 p3).bind (fun r15 => (if r15 = (-9 : Int32) then ((fX4_layField j1 (zzi u 12 (0 : Int32)) p2 p3).bind (fun r17 => (some ((r17.1 0), r17)))) else (some (((-100 : Int32) - r15), (zzi u 12 (0 : Int32))))))) else ((fX4_failed (zzi u 12 (0 : Int32)) r4).bind (fun r18 => (some (r18.1, r18.2)))))))) else (if r4 = 0 then ((fX4_firstFault j1 (zzi u 12 (0 : Int32)) p2 p3).bind (fun r8 => (if r8 = (-9 : Int32) then ((fX4_layField j1 (zzi u 12 (0 : Int32)) p2 p3).bind (fun r10 => (some ((r10.1 0), r10)))) else (some (((-100 : Int32) - r8), (zzi u 12 (0 : Int32))))))) else ((fX4_failed (zzi u 12 (0 : Int32)) r4).bind (fun r11 => (some (r11.1, r11.2))))))))))))))
set_option maxHeartbeats 4000000 in
set_option maxRecDepth 100000 in
theorem kX4_field (l : Launch) (g : zzG) (q : Nat → Nat) (sz : Nat) (u : zzS) (p0 : Int32) (p1 : Int32) (p2 : Int32) (p3 : Int32) (x : Int32 × zzS) (hf : fX4_field u p0 p1 p2 p3 = some x) : zzI l g yX4_field wsX4_field rX4_field [.ref (q 0), .int p0, .int p1, .int p2, .int p3] (zzX g q u) (zzX g q x.2) sz x.1 := by
  refine zz_mi (cc := cX4_field) (mL := 8) (own := RX4) (fun x : Int32 × zzS => x.1) (fun x : Int32 × zzS => (zzX g q x.2)) x (by decide) rfl rfl (Nat.le_of_ble_eq_true rfl) ?_
  intro p e s m below meth c A Q ls C ret hP hD hS hl
  have hl : lv_has ls 8 [(0, .ref (q 0)), (1, .int p0), (2, .int p1), (3, .int p2), (4, .int p3)] := hl
  have hx := C.1.1
  have hb := C.1.2.1
  have hml := C.1.2.2.1
  have hown := C.1.2.2.2.1
  have hts := C.1.2.2.2.2
  have hK := C.2.1
  have iX4 : ∀ w ∈ wsX40, w ∈ wsX4_field := fun _ h => List.mem_cons_of_mem _ (List.mem_append_left _ (List.mem_append_left _ (List.mem_append_left _ (List.mem_append_right _ h))))
  have iX3 : ∀ w ∈ wsX30, w ∈ wsX4_field := fun _ h => List.mem_cons_of_mem _ (List.mem_append_left _ (List.mem_append_left _ (List.mem_append_right _ h)))
  have iX2 : ∀ w ∈ wsX20, w ∈ wsX4_field := fun _ h => List.mem_cons_of_mem _ (List.mem_append_left _ (List.mem_append_right _ h))
  have iX0 : ∀ w ∈ wsX00, w ∈ wsX4_field := fun _ h => List.mem_cons_of_mem _ (List.mem_append_right _ h)
  unfold fX4_field at hf
  refine lv_aload_n hx hb dX4_field_0 rfl (lv_at hl 0 rfl) ?_
  refine lv_iconst (v := (0 : Int32)) hx hb dX4_field_1 (by decide) ?_
  refine va_put (D := g.1) (ci := 4) (v := .int (0 : Int32)) (ty := .int) (C := RX4) (T := TX4) (N := 7) hx hb hts iX4 tyX4 tyX4_ok nmX4 hown hK hP hD hS 0 rfl rfl 6 (by decide) (zz_mem hts 1 rfl) (fun _ h9 => h9) rfl (tyX4_ok 6 (by decide)) rfl rfl (Nat.le_of_ble_eq_true rfl) dX4_field_2 (fun H locs hP hD hS => ?_)
  have hP : va_P g.1 vwCl (zzX g q (zzi u 12 (0 : Int32))) H := Eq.mp (congrArg (fun w => va_P g.1 vwCl w H) (zxo_0_6 g q u (0 : Int32))) hP
  have hD : va_D A (zzX g q (zzi u 12 (0 : Int32))) := Eq.mp (congrArg (va_D A) (zxo_0_6 g q u (0 : Int32))) hD
  refine lv_aload_n hx hb dX4_field_5 rfl (lv_at hl 0 rfl) ?_
  refine lv_iload_n hx hb dX4_field_6 rfl (lv_at hl 1 rfl) ?_
  refine zz_sa C hP hD hS (kX4_sheetAt l g q _ (zzi u 12 (0 : Int32)) p0) gX4_field_X4_sheetAt mX4_sheetAt (by decide) ⟨Nat.zero_le _, Nat.zero_le _⟩ 0 rfl rfl rfl (rest := []) rfl rfl hl.1 (Nat.le_of_ble_eq_true rfl) dX4_field_7 (fun or1 H locs hP hD hS => ?_) (fun j1 or1 hj1 H locs hP hD hS => ?_)
  · have hf := zz_on or1 hf
    refine lv_astoreN (lv' := [(5, .null), (0, .ref (q 0)), (1, .int p0), (2, .int p1), (3, .int p2), (4, .int p3)]) hx hb dX4_field_10 hl (by decide) rfl (fun ls hl => ?_)
    refine lv_aloadN hx hb dX4_field_12 (lv_at hl 0 rfl) ?_
    refine lv_ifnonnullN hx hb dX4_field_14 ?_
    refine lv_iconst (v := (-1 : Int32)) hx hb dX4_field_17 (by decide) ?_
    exact ret _ _ _ _ ((-1 : Int32), (zzi u 12 (0 : Int32))) hf dX4_field_18 hP hD hS
  · have hf := zz_os or1 hf
    refine lv_astore (lv' := [(5, .ref (q (14 + 2 * j1))), (0, .ref (q 0)), (1, .int p0), (2, .int p1), (3, .int p2), (4, .int p3)]) hx hb dX4_field_10 hl (by decide) rfl (fun ls hl => ?_)
    refine lv_aload hx hb dX4_field_12 (lv_at hl 0 rfl) ?_
    refine lv_ifnonnull (tgt := 19) hx hb dX4_field_14 (by decide) ?_
    refine lv_iload_n hx hb dX4_field_19 rfl (lv_at hl 3 rfl) ?_
    obtain ⟨r2, hc2, hf⟩ := zz_bs hf
    refine zz_cSz C hP hD hS (kX4_isLane l g (zzX g q (zzi u 12 (0 : Int32))) _ p1 r2 hc2) gX4_field_X4_isLane mX4_isLane (by decide) ⟨Nat.zero_le _, Nat.zero_le _⟩ rfl (rest := []) rfl hl.1 (Nat.le_of_ble_eq_true rfl) dX4_field_20 (fun hz2 H locs hP hD hS => ?_)
    refine lv_if_ne (tgt := 29) hx hb dX4_field_23 (by decide) (fun c3 => ?_) (fun c3 => ?_)
    · have hf := zz_f c3 hf
      refine lv_aload hx hb dX4_field_29 (lv_at hl 0 rfl) ?_
      refine lv_iload_n hx hb dX4_field_31 rfl (lv_at hl 3 rfl) ?_
      obtain ⟨r4, hc4, hf⟩ := zz_bs hf
      refine zz_cVi C hP hD hS (kX2_faultAs l g q _ j1 hj1 (zzi u 12 (0 : Int32)) p1 r4 hc4) gX4_field_X2_faultAs mX2_faultAs (by decide) ⟨Nat.zero_le _, Nat.zero_le _⟩ (14 + 2 * j1) (zx_sh g q (zzi u 12 (0 : Int32)) hj1) rfl rfl rfl (rest := []) rfl hl.1 (Nat.le_of_ble_eq_true rfl) dX4_field_32 (fun H locs hP hD hS => ?_)
      refine lv_istore (lv' := [(6, .int r4), (5, .ref (q (14 + 2 * j1))), (0, .ref (q 0)), (1, .int p0), (2, .int p1), (3, .int p2), (4, .int p3)]) hx hb dX4_field_35 hl (by decide) rfl (fun ls hl => ?_)
      refine lv_iload hx hb dX4_field_37 (lv_at hl 0 rfl) ?_
      refine lv_if_ne (tgt := 50) hx hb dX4_field_39 (by decide) (fun c5 => ?_) (fun c5 => ?_)
      · have hf := zz_f c5 hf
        refine lv_iload hx hb dX4_field_50 (lv_at hl 0 rfl) ?_
        refine lv_if_ne (tgt := 69) hx hb dX4_field_52 (by decide) (fun c6 => ?_) (fun c6 => ?_)
        · have hf := zz_f c6 hf
          refine lv_iload hx hb dX4_field_69 (lv_at hl 0 rfl) ?_
          refine lv_if_eq (tgt := 81) hx hb dX4_field_71 (by decide) (fun c7 => ?_) (fun c7 => ?_)
          · have hf := zz_t c7 hf
            refine lv_aload hx hb dX4_field_81 (lv_at hl 1 rfl) ?_
            refine lv_iload_n hx hb dX4_field_83 rfl (lv_at hl 5 rfl) ?_
            refine lv_iload hx hb dX4_field_84 (lv_at hl 6 rfl) ?_
            obtain ⟨r8, hc8, hf⟩ := zz_bs hf
            refine zz_cSi C hP hD hS (kX4_firstFault l g q _ j1 hj1 (zzi u 12 (0 : Int32)) p2 p3 r8 hc8) gX4_field_X4_firstFault mX4_firstFault (by decide) ⟨Nat.zero_le _, Nat.zero_le _⟩ rfl (rest := []) rfl hl.1 (Nat.le_of_ble_eq_true rfl) dX4_field_86 (fun H locs hP hD hS => ?_)
            refine lv_istore (lv' := [(7, .int r8), (6, .int r4), (5, .ref (q (14 + 2 * j1))), (0, .ref (q 0)), (1, .int p0), (2, .int p1), (3, .int p2), (4, .int p3)]) hx hb dX4_field_89 hl (by decide) rfl (fun ls hl => ?_)
            refine lv_iload hx hb dX4_field_91 (lv_at hl 0 rfl) ?_
            refine lv_bipush (v := (-9 : Int32)) hx hb dX4_field_93 (by decide) ?_
            refine lv_icmp_eq (tgt := 104) hx hb dX4_field_95 (by decide) (fun c9 => ?_) (fun c9 => ?_)
            · have hf := zz_t c9 hf
              refine lv_aload_n hx hb dX4_field_104 rfl (lv_at hl 3 rfl) ?_
              refine lv_aload hx hb dX4_field_105 (lv_at hl 2 rfl) ?_
              refine lv_iload_n hx hb dX4_field_107 rfl (lv_at hl 6 rfl) ?_
              refine lv_iload hx hb dX4_field_108 (lv_at hl 7 rfl) ?_
              obtain ⟨r10, hc10, hf⟩ := zz_bs hf
              refine zz_cVv C hP hD hS (kX4_layField l g q _ j1 hj1 (zzi u 12 (0 : Int32)) p2 p3 r10 hc10) gX4_field_X4_layField mX4_layField (by decide) ⟨Nat.zero_le _, Nat.zero_le _⟩ 0 rfl rfl rfl rfl (rest := []) rfl hl.1 (Nat.le_of_ble_eq_true rfl) dX4_field_110 (fun H locs hP hD hS => ?_)
              refine lv_aload_n hx hb dX4_field_113 rfl (lv_at hl 3 rfl) ?_
              refine va_get (D := g.1) (ci := 4) (v := .ref (q 1)) (C := RX4) (T := TX4) (N := 7) hx hb hts iX4 hown hK hP 0 rfl rfl 0 (by decide) (zz_mem hts 2 rfl) (fun _ h9 => h9) rfl dX4_field_114 ?_
              refine va_get (D := g.1) (ci := 3) (v := .int (r10.1 0)) (C := RX3) (T := TX3) (N := 6) hx hb hts iX3 hown hK hP 1 rfl rfl 3 (by decide) (zz_mem hts 3 rfl) (fun _ h9 => h9) rfl dX4_field_117 ?_
              exact ret _ _ _ _ ((r10.1 0), r10) hf dX4_field_120 hP hD hS
            · have hf := zz_f c9 hf
              refine lv_bipush (v := (-100 : Int32)) hx hb dX4_field_98 (by decide) ?_
              refine lv_iload hx hb dX4_field_100 (lv_at hl 0 rfl) ?_
              refine lv_isub hx hb dX4_field_102 ?_
              exact ret _ _ _ _ (((-100 : Int32) - r8), (zzi u 12 (0 : Int32))) hf dX4_field_103 hP hD hS
          · have hf := zz_f c7 hf
            refine lv_aload_n hx hb dX4_field_74 rfl (lv_at hl 2 rfl) ?_
            refine lv_iload hx hb dX4_field_75 (lv_at hl 0 rfl) ?_
            obtain ⟨r11, hc11, hf⟩ := zz_bs hf
            refine zz_cVi C hP hD hS (kX4_failed l g q _ (zzi u 12 (0 : Int32)) r4 r11 hc11) gX4_field_X4_failed mX4_failed (by decide) ⟨Nat.zero_le _, Nat.zero_le _⟩ 0 rfl rfl rfl rfl (rest := []) rfl hl.1 (Nat.le_of_ble_eq_true rfl) dX4_field_77 (fun H locs hP hD hS => ?_)
            exact ret _ _ _ _ (r11.1, r11.2) hf dX4_field_80 hP hD hS
        · have hf := zz_t c6 hf
          refine lv_aload hx hb dX4_field_55 (lv_at hl 1 rfl) ?_
          refine lv_iload_n hx hb dX4_field_57 rfl (lv_at hl 5 rfl) ?_
          refine lv_iload hx hb dX4_field_58 (lv_at hl 6 rfl) ?_
          obtain ⟨r12, hc12, hf⟩ := zz_bs hf
          refine zz_cVz C hP hD hS (kX2_holds l g q _ j1 hj1 (zzi u 12 (0 : Int32)) p2 p3 r12 hc12) gX4_field_X2_holds mX2_holds (by decide) ⟨Nat.zero_le _, Nat.zero_le _⟩ (14 + 2 * j1) (zx_sh g q (zzi u 12 (0 : Int32)) hj1) rfl rfl rfl (rest := []) rfl hl.1 (Nat.le_of_ble_eq_true rfl) dX4_field_60 (fun hz12 H locs hP hD hS => ?_)
          refine lv_if_ne (tgt := 69) hx hb dX4_field_63 (by decide) (fun c13 => ?_) (fun c13 => ?_)
          · have hf := zz_f c13 hf
            refine lv_iload hx hb dX4_field_69 (lv_at hl 0 rfl) ?_
            refine lv_if_eq (tgt := 81) hx hb dX4_field_71 (by decide) (fun c14 => ?_) (fun c14 => ?_)
            · have hf := zz_t c14 hf
              refine lv_aload hx hb dX4_field_81 (lv_at hl 1 rfl) ?_
              refine lv_iload_n hx hb dX4_field_83 rfl (lv_at hl 5 rfl) ?_
              refine lv_iload hx hb dX4_field_84 (lv_at hl 6 rfl) ?_
              obtain ⟨r15, hc15, hf⟩ := zz_bs hf
              refine zz_cSi C hP hD hS (kX4_firstFault l g q _ j1 hj1 (zzi u 12 (0 : Int32)) p2 p3 r15 hc15) gX4_field_X4_firstFault mX4_firstFault (by decide) ⟨Nat.zero_le _, Nat.zero_le _⟩ rfl (rest := []) rfl hl.1 (Nat.le_of_ble_eq_true rfl) dX4_field_86 (fun H locs hP hD hS => ?_)
              refine lv_istore (lv' := [(7, .int r15), (6, .int r4), (5, .ref (q (14 + 2 * j1))), (0, .ref (q 0)), (1, .int p0), (2, .int p1), (3, .int p2), (4, .int p3)]) hx hb dX4_field_89 hl (by decide) rfl (fun ls hl => ?_)
              refine lv_iload hx hb dX4_field_91 (lv_at hl 0 rfl) ?_
              refine lv_bipush (v := (-9 : Int32)) hx hb dX4_field_93 (by decide) ?_
              refine lv_icmp_eq (tgt := 104) hx hb dX4_field_95 (by decide) (fun c16 => ?_) (fun c16 => ?_)
              · have hf := zz_t c16 hf
                refine lv_aload_n hx hb dX4_field_104 rfl (lv_at hl 3 rfl) ?_
                refine lv_aload hx hb dX4_field_105 (lv_at hl 2 rfl) ?_
                refine lv_iload_n hx hb dX4_field_107 rfl (lv_at hl 6 rfl) ?_
                refine lv_iload hx hb dX4_field_108 (lv_at hl 7 rfl) ?_
                obtain ⟨r17, hc17, hf⟩ := zz_bs hf
                refine zz_cVv C hP hD hS (kX4_layField l g q _ j1 hj1 (zzi u 12 (0 : Int32)) p2 p3 r17 hc17) gX4_field_X4_layField mX4_layField (by decide) ⟨Nat.zero_le _, Nat.zero_le _⟩ 0 rfl rfl rfl rfl (rest := []) rfl hl.1 (Nat.le_of_ble_eq_true rfl) dX4_field_110 (fun H locs hP hD hS => ?_)
                refine lv_aload_n hx hb dX4_field_113 rfl (lv_at hl 3 rfl) ?_
                refine va_get (D := g.1) (ci := 4) (v := .ref (q 1)) (C := RX4) (T := TX4) (N := 7) hx hb hts iX4 hown hK hP 0 rfl rfl 0 (by decide) (zz_mem hts 2 rfl) (fun _ h9 => h9) rfl dX4_field_114 ?_
                refine va_get (D := g.1) (ci := 3) (v := .int (r17.1 0)) (C := RX3) (T := TX3) (N := 6) hx hb hts iX3 hown hK hP 1 rfl rfl 3 (by decide) (zz_mem hts 3 rfl) (fun _ h9 => h9) rfl dX4_field_117 ?_
                exact ret _ _ _ _ ((r17.1 0), r17) hf dX4_field_120 hP hD hS
              · have hf := zz_f c16 hf
                refine lv_bipush (v := (-100 : Int32)) hx hb dX4_field_98 (by decide) ?_
                refine lv_iload hx hb dX4_field_100 (lv_at hl 0 rfl) ?_
                refine lv_isub hx hb dX4_field_102 ?_
                exact ret _ _ _ _ (((-100 : Int32) - r15), (zzi u 12 (0 : Int32))) hf dX4_field_103 hP hD hS
            · have hf := zz_f c14 hf
              refine lv_aload_n hx hb dX4_field_74 rfl (lv_at hl 2 rfl) ?_
              refine lv_iload hx hb dX4_field_75 (lv_at hl 0 rfl) ?_
              obtain ⟨r18, hc18, hf⟩ := zz_bs hf
              refine zz_cVi C hP hD hS (kX4_failed l g q _ (zzi u 12 (0 : Int32)) r4 r18 hc18) gX4_field_X4_failed mX4_failed (by decide) ⟨Nat.zero_le _, Nat.zero_le _⟩ 0 rfl rfl rfl rfl (rest := []) rfl hl.1 (Nat.le_of_ble_eq_true rfl) dX4_field_77 (fun H locs hP hD hS => ?_)
              exact ret _ _ _ _ (r18.1, r18.2) hf dX4_field_80 hP hD hS
          · have hf := zz_t c13 hf
            refine lv_iconst (v := (3 : Int32)) hx hb dX4_field_66 (by decide) ?_
            refine lv_istore (lv' := [(6, .int (3 : Int32)), (5, .ref (q (14 + 2 * j1))), (0, .ref (q 0)), (1, .int p0), (2, .int p1), (3, .int p2), (4, .int p3)]) hx hb dX4_field_67 hl (by decide) rfl (fun ls hl => ?_)
            refine lv_iload hx hb dX4_field_69 (lv_at hl 0 rfl) ?_
            refine lv_if_eq (tgt := 81) hx hb dX4_field_71 (by decide) (fun c19 => ?_) (fun c19 => ?_)
            · have hf := zz_t c19 hf
              refine lv_aload hx hb dX4_field_81 (lv_at hl 1 rfl) ?_
              refine lv_iload_n hx hb dX4_field_83 rfl (lv_at hl 5 rfl) ?_
              refine lv_iload hx hb dX4_field_84 (lv_at hl 6 rfl) ?_
              obtain ⟨r20, hc20, hf⟩ := zz_bs hf
              refine zz_cSi C hP hD hS (kX4_firstFault l g q _ j1 hj1 (zzi u 12 (0 : Int32)) p2 p3 r20 hc20) gX4_field_X4_firstFault mX4_firstFault (by decide) ⟨Nat.zero_le _, Nat.zero_le _⟩ rfl (rest := []) rfl hl.1 (Nat.le_of_ble_eq_true rfl) dX4_field_86 (fun H locs hP hD hS => ?_)
              refine lv_istore (lv' := [(7, .int r20), (6, .int (3 : Int32)), (5, .ref (q (14 + 2 * j1))), (0, .ref (q 0)), (1, .int p0), (2, .int p1), (3, .int p2), (4, .int p3)]) hx hb dX4_field_89 hl (by decide) rfl (fun ls hl => ?_)
              refine lv_iload hx hb dX4_field_91 (lv_at hl 0 rfl) ?_
              refine lv_bipush (v := (-9 : Int32)) hx hb dX4_field_93 (by decide) ?_
              refine lv_icmp_eq (tgt := 104) hx hb dX4_field_95 (by decide) (fun c21 => ?_) (fun c21 => ?_)
              · have hf := zz_t c21 hf
                refine lv_aload_n hx hb dX4_field_104 rfl (lv_at hl 3 rfl) ?_
                refine lv_aload hx hb dX4_field_105 (lv_at hl 2 rfl) ?_
                refine lv_iload_n hx hb dX4_field_107 rfl (lv_at hl 6 rfl) ?_
                refine lv_iload hx hb dX4_field_108 (lv_at hl 7 rfl) ?_
                obtain ⟨r22, hc22, hf⟩ := zz_bs hf
                refine zz_cVv C hP hD hS (kX4_layField l g q _ j1 hj1 (zzi u 12 (0 : Int32)) p2 p3 r22 hc22) gX4_field_X4_layField mX4_layField (by decide) ⟨Nat.zero_le _, Nat.zero_le _⟩ 0 rfl rfl rfl rfl (rest := []) rfl hl.1 (Nat.le_of_ble_eq_true rfl) dX4_field_110 (fun H locs hP hD hS => ?_)
                refine lv_aload_n hx hb dX4_field_113 rfl (lv_at hl 3 rfl) ?_
                refine va_get (D := g.1) (ci := 4) (v := .ref (q 1)) (C := RX4) (T := TX4) (N := 7) hx hb hts iX4 hown hK hP 0 rfl rfl 0 (by decide) (zz_mem hts 2 rfl) (fun _ h9 => h9) rfl dX4_field_114 ?_
                refine va_get (D := g.1) (ci := 3) (v := .int (r22.1 0)) (C := RX3) (T := TX3) (N := 6) hx hb hts iX3 hown hK hP 1 rfl rfl 3 (by decide) (zz_mem hts 3 rfl) (fun _ h9 => h9) rfl dX4_field_117 ?_
                exact ret _ _ _ _ ((r22.1 0), r22) hf dX4_field_120 hP hD hS
              · have hf := zz_f c21 hf
                refine lv_bipush (v := (-100 : Int32)) hx hb dX4_field_98 (by decide) ?_
                refine lv_iload hx hb dX4_field_100 (lv_at hl 0 rfl) ?_
                refine lv_isub hx hb dX4_field_102 ?_
                exact ret _ _ _ _ (((-100 : Int32) - r20), (zzi u 12 (0 : Int32))) hf dX4_field_103 hP hD hS
            · have hf := zz_f c19 hf
              refine lv_aload_n hx hb dX4_field_74 rfl (lv_at hl 2 rfl) ?_
              refine lv_iload hx hb dX4_field_75 (lv_at hl 0 rfl) ?_
              obtain ⟨r23, hc23, hf⟩ := zz_bs hf
              refine zz_cVi C hP hD hS (kX4_failed l g q _ (zzi u 12 (0 : Int32)) (3 : Int32) r23 hc23) gX4_field_X4_failed mX4_failed (by decide) ⟨Nat.zero_le _, Nat.zero_le _⟩ 0 rfl rfl rfl rfl (rest := []) rfl hl.1 (Nat.le_of_ble_eq_true rfl) dX4_field_77 (fun H locs hP hD hS => ?_)
              exact ret _ _ _ _ (r23.1, r23.2) hf dX4_field_80 hP hD hS
      · have hf := zz_t c5 hf
        refine lv_iload hx hb dX4_field_42 (lv_at hl 6 rfl) ?_
        refine lv_if_ge (tgt := 50) hx hb dX4_field_44 (by decide) (fun c24 => ?_) (fun c24 => ?_)
        · have hf := zz_t c24 hf
          refine lv_iload hx hb dX4_field_50 (lv_at hl 0 rfl) ?_
          refine lv_if_ne (tgt := 69) hx hb dX4_field_52 (by decide) (fun c25 => ?_) (fun c25 => ?_)
          · have hf := zz_f c25 hf
            refine lv_iload hx hb dX4_field_69 (lv_at hl 0 rfl) ?_
            refine lv_if_eq (tgt := 81) hx hb dX4_field_71 (by decide) (fun c26 => ?_) (fun c26 => ?_)
            · have hf := zz_t c26 hf
              refine lv_aload hx hb dX4_field_81 (lv_at hl 1 rfl) ?_
              refine lv_iload_n hx hb dX4_field_83 rfl (lv_at hl 5 rfl) ?_
              refine lv_iload hx hb dX4_field_84 (lv_at hl 6 rfl) ?_
              obtain ⟨r27, hc27, hf⟩ := zz_bs hf
              refine zz_cSi C hP hD hS (kX4_firstFault l g q _ j1 hj1 (zzi u 12 (0 : Int32)) p2 p3 r27 hc27) gX4_field_X4_firstFault mX4_firstFault (by decide) ⟨Nat.zero_le _, Nat.zero_le _⟩ rfl (rest := []) rfl hl.1 (Nat.le_of_ble_eq_true rfl) dX4_field_86 (fun H locs hP hD hS => ?_)
              refine lv_istore (lv' := [(7, .int r27), (6, .int r4), (5, .ref (q (14 + 2 * j1))), (0, .ref (q 0)), (1, .int p0), (2, .int p1), (3, .int p2), (4, .int p3)]) hx hb dX4_field_89 hl (by decide) rfl (fun ls hl => ?_)
              refine lv_iload hx hb dX4_field_91 (lv_at hl 0 rfl) ?_
              refine lv_bipush (v := (-9 : Int32)) hx hb dX4_field_93 (by decide) ?_
              refine lv_icmp_eq (tgt := 104) hx hb dX4_field_95 (by decide) (fun c28 => ?_) (fun c28 => ?_)
              · have hf := zz_t c28 hf
                refine lv_aload_n hx hb dX4_field_104 rfl (lv_at hl 3 rfl) ?_
                refine lv_aload hx hb dX4_field_105 (lv_at hl 2 rfl) ?_
                refine lv_iload_n hx hb dX4_field_107 rfl (lv_at hl 6 rfl) ?_
                refine lv_iload hx hb dX4_field_108 (lv_at hl 7 rfl) ?_
                obtain ⟨r29, hc29, hf⟩ := zz_bs hf
                refine zz_cVv C hP hD hS (kX4_layField l g q _ j1 hj1 (zzi u 12 (0 : Int32)) p2 p3 r29 hc29) gX4_field_X4_layField mX4_layField (by decide) ⟨Nat.zero_le _, Nat.zero_le _⟩ 0 rfl rfl rfl rfl (rest := []) rfl hl.1 (Nat.le_of_ble_eq_true rfl) dX4_field_110 (fun H locs hP hD hS => ?_)
                refine lv_aload_n hx hb dX4_field_113 rfl (lv_at hl 3 rfl) ?_
                refine va_get (D := g.1) (ci := 4) (v := .ref (q 1)) (C := RX4) (T := TX4) (N := 7) hx hb hts iX4 hown hK hP 0 rfl rfl 0 (by decide) (zz_mem hts 2 rfl) (fun _ h9 => h9) rfl dX4_field_114 ?_
                refine va_get (D := g.1) (ci := 3) (v := .int (r29.1 0)) (C := RX3) (T := TX3) (N := 6) hx hb hts iX3 hown hK hP 1 rfl rfl 3 (by decide) (zz_mem hts 3 rfl) (fun _ h9 => h9) rfl dX4_field_117 ?_
                exact ret _ _ _ _ ((r29.1 0), r29) hf dX4_field_120 hP hD hS
              · have hf := zz_f c28 hf
                refine lv_bipush (v := (-100 : Int32)) hx hb dX4_field_98 (by decide) ?_
                refine lv_iload hx hb dX4_field_100 (lv_at hl 0 rfl) ?_
                refine lv_isub hx hb dX4_field_102 ?_
                exact ret _ _ _ _ (((-100 : Int32) - r27), (zzi u 12 (0 : Int32))) hf dX4_field_103 hP hD hS
            · have hf := zz_f c26 hf
              refine lv_aload_n hx hb dX4_field_74 rfl (lv_at hl 2 rfl) ?_
              refine lv_iload hx hb dX4_field_75 (lv_at hl 0 rfl) ?_
              obtain ⟨r30, hc30, hf⟩ := zz_bs hf
              refine zz_cVi C hP hD hS (kX4_failed l g q _ (zzi u 12 (0 : Int32)) r4 r30 hc30) gX4_field_X4_failed mX4_failed (by decide) ⟨Nat.zero_le _, Nat.zero_le _⟩ 0 rfl rfl rfl rfl (rest := []) rfl hl.1 (Nat.le_of_ble_eq_true rfl) dX4_field_77 (fun H locs hP hD hS => ?_)
              exact ret _ _ _ _ (r30.1, r30.2) hf dX4_field_80 hP hD hS
          · have hf := zz_t c25 hf
            refine lv_aload hx hb dX4_field_55 (lv_at hl 1 rfl) ?_
            refine lv_iload_n hx hb dX4_field_57 rfl (lv_at hl 5 rfl) ?_
            refine lv_iload hx hb dX4_field_58 (lv_at hl 6 rfl) ?_
            obtain ⟨r31, hc31, hf⟩ := zz_bs hf
            refine zz_cVz C hP hD hS (kX2_holds l g q _ j1 hj1 (zzi u 12 (0 : Int32)) p2 p3 r31 hc31) gX4_field_X2_holds mX2_holds (by decide) ⟨Nat.zero_le _, Nat.zero_le _⟩ (14 + 2 * j1) (zx_sh g q (zzi u 12 (0 : Int32)) hj1) rfl rfl rfl (rest := []) rfl hl.1 (Nat.le_of_ble_eq_true rfl) dX4_field_60 (fun hz31 H locs hP hD hS => ?_)
            refine lv_if_ne (tgt := 69) hx hb dX4_field_63 (by decide) (fun c32 => ?_) (fun c32 => ?_)
            · have hf := zz_f c32 hf
              refine lv_iload hx hb dX4_field_69 (lv_at hl 0 rfl) ?_
              refine lv_if_eq (tgt := 81) hx hb dX4_field_71 (by decide) (fun c33 => ?_) (fun c33 => ?_)
              · have hf := zz_t c33 hf
                refine lv_aload hx hb dX4_field_81 (lv_at hl 1 rfl) ?_
                refine lv_iload_n hx hb dX4_field_83 rfl (lv_at hl 5 rfl) ?_
                refine lv_iload hx hb dX4_field_84 (lv_at hl 6 rfl) ?_
                obtain ⟨r34, hc34, hf⟩ := zz_bs hf
                refine zz_cSi C hP hD hS (kX4_firstFault l g q _ j1 hj1 (zzi u 12 (0 : Int32)) p2 p3 r34 hc34) gX4_field_X4_firstFault mX4_firstFault (by decide) ⟨Nat.zero_le _, Nat.zero_le _⟩ rfl (rest := []) rfl hl.1 (Nat.le_of_ble_eq_true rfl) dX4_field_86 (fun H locs hP hD hS => ?_)
                refine lv_istore (lv' := [(7, .int r34), (6, .int r4), (5, .ref (q (14 + 2 * j1))), (0, .ref (q 0)), (1, .int p0), (2, .int p1), (3, .int p2), (4, .int p3)]) hx hb dX4_field_89 hl (by decide) rfl (fun ls hl => ?_)
                refine lv_iload hx hb dX4_field_91 (lv_at hl 0 rfl) ?_
                refine lv_bipush (v := (-9 : Int32)) hx hb dX4_field_93 (by decide) ?_
                refine lv_icmp_eq (tgt := 104) hx hb dX4_field_95 (by decide) (fun c35 => ?_) (fun c35 => ?_)
                · have hf := zz_t c35 hf
                  refine lv_aload_n hx hb dX4_field_104 rfl (lv_at hl 3 rfl) ?_
                  refine lv_aload hx hb dX4_field_105 (lv_at hl 2 rfl) ?_
                  refine lv_iload_n hx hb dX4_field_107 rfl (lv_at hl 6 rfl) ?_
                  refine lv_iload hx hb dX4_field_108 (lv_at hl 7 rfl) ?_
                  obtain ⟨r36, hc36, hf⟩ := zz_bs hf
                  refine zz_cVv C hP hD hS (kX4_layField l g q _ j1 hj1 (zzi u 12 (0 : Int32)) p2 p3 r36 hc36) gX4_field_X4_layField mX4_layField (by decide) ⟨Nat.zero_le _, Nat.zero_le _⟩ 0 rfl rfl rfl rfl (rest := []) rfl hl.1 (Nat.le_of_ble_eq_true rfl) dX4_field_110 (fun H locs hP hD hS => ?_)
                  refine lv_aload_n hx hb dX4_field_113 rfl (lv_at hl 3 rfl) ?_
                  refine va_get (D := g.1) (ci := 4) (v := .ref (q 1)) (C := RX4) (T := TX4) (N := 7) hx hb hts iX4 hown hK hP 0 rfl rfl 0 (by decide) (zz_mem hts 2 rfl) (fun _ h9 => h9) rfl dX4_field_114 ?_
                  refine va_get (D := g.1) (ci := 3) (v := .int (r36.1 0)) (C := RX3) (T := TX3) (N := 6) hx hb hts iX3 hown hK hP 1 rfl rfl 3 (by decide) (zz_mem hts 3 rfl) (fun _ h9 => h9) rfl dX4_field_117 ?_
                  exact ret _ _ _ _ ((r36.1 0), r36) hf dX4_field_120 hP hD hS
                · have hf := zz_f c35 hf
                  refine lv_bipush (v := (-100 : Int32)) hx hb dX4_field_98 (by decide) ?_
                  refine lv_iload hx hb dX4_field_100 (lv_at hl 0 rfl) ?_
                  refine lv_isub hx hb dX4_field_102 ?_
                  exact ret _ _ _ _ (((-100 : Int32) - r34), (zzi u 12 (0 : Int32))) hf dX4_field_103 hP hD hS
              · have hf := zz_f c33 hf
                refine lv_aload_n hx hb dX4_field_74 rfl (lv_at hl 2 rfl) ?_
                refine lv_iload hx hb dX4_field_75 (lv_at hl 0 rfl) ?_
                obtain ⟨r37, hc37, hf⟩ := zz_bs hf
                refine zz_cVi C hP hD hS (kX4_failed l g q _ (zzi u 12 (0 : Int32)) r4 r37 hc37) gX4_field_X4_failed mX4_failed (by decide) ⟨Nat.zero_le _, Nat.zero_le _⟩ 0 rfl rfl rfl rfl (rest := []) rfl hl.1 (Nat.le_of_ble_eq_true rfl) dX4_field_77 (fun H locs hP hD hS => ?_)
                exact ret _ _ _ _ (r37.1, r37.2) hf dX4_field_80 hP hD hS
            · have hf := zz_t c32 hf
              refine lv_iconst (v := (3 : Int32)) hx hb dX4_field_66 (by decide) ?_
              refine lv_istore (lv' := [(6, .int (3 : Int32)), (5, .ref (q (14 + 2 * j1))), (0, .ref (q 0)), (1, .int p0), (2, .int p1), (3, .int p2), (4, .int p3)]) hx hb dX4_field_67 hl (by decide) rfl (fun ls hl => ?_)
              refine lv_iload hx hb dX4_field_69 (lv_at hl 0 rfl) ?_
              refine lv_if_eq (tgt := 81) hx hb dX4_field_71 (by decide) (fun c38 => ?_) (fun c38 => ?_)
              · have hf := zz_t c38 hf
                refine lv_aload hx hb dX4_field_81 (lv_at hl 1 rfl) ?_
                refine lv_iload_n hx hb dX4_field_83 rfl (lv_at hl 5 rfl) ?_
                refine lv_iload hx hb dX4_field_84 (lv_at hl 6 rfl) ?_
                obtain ⟨r39, hc39, hf⟩ := zz_bs hf
                refine zz_cSi C hP hD hS (kX4_firstFault l g q _ j1 hj1 (zzi u 12 (0 : Int32)) p2 p3 r39 hc39) gX4_field_X4_firstFault mX4_firstFault (by decide) ⟨Nat.zero_le _, Nat.zero_le _⟩ rfl (rest := []) rfl hl.1 (Nat.le_of_ble_eq_true rfl) dX4_field_86 (fun H locs hP hD hS => ?_)
                refine lv_istore (lv' := [(7, .int r39), (6, .int (3 : Int32)), (5, .ref (q (14 + 2 * j1))), (0, .ref (q 0)), (1, .int p0), (2, .int p1), (3, .int p2), (4, .int p3)]) hx hb dX4_field_89 hl (by decide) rfl (fun ls hl => ?_)
                refine lv_iload hx hb dX4_field_91 (lv_at hl 0 rfl) ?_
                refine lv_bipush (v := (-9 : Int32)) hx hb dX4_field_93 (by decide) ?_
                refine lv_icmp_eq (tgt := 104) hx hb dX4_field_95 (by decide) (fun c40 => ?_) (fun c40 => ?_)
                · have hf := zz_t c40 hf
                  refine lv_aload_n hx hb dX4_field_104 rfl (lv_at hl 3 rfl) ?_
                  refine lv_aload hx hb dX4_field_105 (lv_at hl 2 rfl) ?_
                  refine lv_iload_n hx hb dX4_field_107 rfl (lv_at hl 6 rfl) ?_
                  refine lv_iload hx hb dX4_field_108 (lv_at hl 7 rfl) ?_
                  obtain ⟨r41, hc41, hf⟩ := zz_bs hf
                  refine zz_cVv C hP hD hS (kX4_layField l g q _ j1 hj1 (zzi u 12 (0 : Int32)) p2 p3 r41 hc41) gX4_field_X4_layField mX4_layField (by decide) ⟨Nat.zero_le _, Nat.zero_le _⟩ 0 rfl rfl rfl rfl (rest := []) rfl hl.1 (Nat.le_of_ble_eq_true rfl) dX4_field_110 (fun H locs hP hD hS => ?_)
                  refine lv_aload_n hx hb dX4_field_113 rfl (lv_at hl 3 rfl) ?_
                  refine va_get (D := g.1) (ci := 4) (v := .ref (q 1)) (C := RX4) (T := TX4) (N := 7) hx hb hts iX4 hown hK hP 0 rfl rfl 0 (by decide) (zz_mem hts 2 rfl) (fun _ h9 => h9) rfl dX4_field_114 ?_
                  refine va_get (D := g.1) (ci := 3) (v := .int (r41.1 0)) (C := RX3) (T := TX3) (N := 6) hx hb hts iX3 hown hK hP 1 rfl rfl 3 (by decide) (zz_mem hts 3 rfl) (fun _ h9 => h9) rfl dX4_field_117 ?_
                  exact ret _ _ _ _ ((r41.1 0), r41) hf dX4_field_120 hP hD hS
                · have hf := zz_f c40 hf
                  refine lv_bipush (v := (-100 : Int32)) hx hb dX4_field_98 (by decide) ?_
                  refine lv_iload hx hb dX4_field_100 (lv_at hl 0 rfl) ?_
                  refine lv_isub hx hb dX4_field_102 ?_
                  exact ret _ _ _ _ (((-100 : Int32) - r39), (zzi u 12 (0 : Int32))) hf dX4_field_103 hP hD hS
              · have hf := zz_f c38 hf
                refine lv_aload_n hx hb dX4_field_74 rfl (lv_at hl 2 rfl) ?_
                refine lv_iload hx hb dX4_field_75 (lv_at hl 0 rfl) ?_
                obtain ⟨r42, hc42, hf⟩ := zz_bs hf
                refine zz_cVi C hP hD hS (kX4_failed l g q _ (zzi u 12 (0 : Int32)) (3 : Int32) r42 hc42) gX4_field_X4_failed mX4_failed (by decide) ⟨Nat.zero_le _, Nat.zero_le _⟩ 0 rfl rfl rfl rfl (rest := []) rfl hl.1 (Nat.le_of_ble_eq_true rfl) dX4_field_77 (fun H locs hP hD hS => ?_)
                exact ret _ _ _ _ (r42.1, r42.2) hf dX4_field_80 hP hD hS
        · have hf := zz_f c24 hf
          refine lv_iconst (v := (4 : Int32)) hx hb dX4_field_47 (by decide) ?_
          refine lv_istore (lv' := [(6, .int (4 : Int32)), (5, .ref (q (14 + 2 * j1))), (0, .ref (q 0)), (1, .int p0), (2, .int p1), (3, .int p2), (4, .int p3)]) hx hb dX4_field_48 hl (by decide) rfl (fun ls hl => ?_)
          refine lv_iload hx hb dX4_field_50 (lv_at hl 0 rfl) ?_
          refine lv_if_ne (tgt := 69) hx hb dX4_field_52 (by decide) (fun c43 => ?_) (fun c43 => ?_)
          · have hf := zz_f c43 hf
            refine lv_iload hx hb dX4_field_69 (lv_at hl 0 rfl) ?_
            refine lv_if_eq (tgt := 81) hx hb dX4_field_71 (by decide) (fun c44 => ?_) (fun c44 => ?_)
            · have hf := zz_t c44 hf
              refine lv_aload hx hb dX4_field_81 (lv_at hl 1 rfl) ?_
              refine lv_iload_n hx hb dX4_field_83 rfl (lv_at hl 5 rfl) ?_
              refine lv_iload hx hb dX4_field_84 (lv_at hl 6 rfl) ?_
              obtain ⟨r45, hc45, hf⟩ := zz_bs hf
              refine zz_cSi C hP hD hS (kX4_firstFault l g q _ j1 hj1 (zzi u 12 (0 : Int32)) p2 p3 r45 hc45) gX4_field_X4_firstFault mX4_firstFault (by decide) ⟨Nat.zero_le _, Nat.zero_le _⟩ rfl (rest := []) rfl hl.1 (Nat.le_of_ble_eq_true rfl) dX4_field_86 (fun H locs hP hD hS => ?_)
              refine lv_istore (lv' := [(7, .int r45), (6, .int (4 : Int32)), (5, .ref (q (14 + 2 * j1))), (0, .ref (q 0)), (1, .int p0), (2, .int p1), (3, .int p2), (4, .int p3)]) hx hb dX4_field_89 hl (by decide) rfl (fun ls hl => ?_)
              refine lv_iload hx hb dX4_field_91 (lv_at hl 0 rfl) ?_
              refine lv_bipush (v := (-9 : Int32)) hx hb dX4_field_93 (by decide) ?_
              refine lv_icmp_eq (tgt := 104) hx hb dX4_field_95 (by decide) (fun c46 => ?_) (fun c46 => ?_)
              · have hf := zz_t c46 hf
                refine lv_aload_n hx hb dX4_field_104 rfl (lv_at hl 3 rfl) ?_
                refine lv_aload hx hb dX4_field_105 (lv_at hl 2 rfl) ?_
                refine lv_iload_n hx hb dX4_field_107 rfl (lv_at hl 6 rfl) ?_
                refine lv_iload hx hb dX4_field_108 (lv_at hl 7 rfl) ?_
                obtain ⟨r47, hc47, hf⟩ := zz_bs hf
                refine zz_cVv C hP hD hS (kX4_layField l g q _ j1 hj1 (zzi u 12 (0 : Int32)) p2 p3 r47 hc47) gX4_field_X4_layField mX4_layField (by decide) ⟨Nat.zero_le _, Nat.zero_le _⟩ 0 rfl rfl rfl rfl (rest := []) rfl hl.1 (Nat.le_of_ble_eq_true rfl) dX4_field_110 (fun H locs hP hD hS => ?_)
                refine lv_aload_n hx hb dX4_field_113 rfl (lv_at hl 3 rfl) ?_
                refine va_get (D := g.1) (ci := 4) (v := .ref (q 1)) (C := RX4) (T := TX4) (N := 7) hx hb hts iX4 hown hK hP 0 rfl rfl 0 (by decide) (zz_mem hts 2 rfl) (fun _ h9 => h9) rfl dX4_field_114 ?_
                refine va_get (D := g.1) (ci := 3) (v := .int (r47.1 0)) (C := RX3) (T := TX3) (N := 6) hx hb hts iX3 hown hK hP 1 rfl rfl 3 (by decide) (zz_mem hts 3 rfl) (fun _ h9 => h9) rfl dX4_field_117 ?_
                exact ret _ _ _ _ ((r47.1 0), r47) hf dX4_field_120 hP hD hS
              · have hf := zz_f c46 hf
                refine lv_bipush (v := (-100 : Int32)) hx hb dX4_field_98 (by decide) ?_
                refine lv_iload hx hb dX4_field_100 (lv_at hl 0 rfl) ?_
                refine lv_isub hx hb dX4_field_102 ?_
                exact ret _ _ _ _ (((-100 : Int32) - r45), (zzi u 12 (0 : Int32))) hf dX4_field_103 hP hD hS
            · have hf := zz_f c44 hf
              refine lv_aload_n hx hb dX4_field_74 rfl (lv_at hl 2 rfl) ?_
              refine lv_iload hx hb dX4_field_75 (lv_at hl 0 rfl) ?_
              obtain ⟨r48, hc48, hf⟩ := zz_bs hf
              refine zz_cVi C hP hD hS (kX4_failed l g q _ (zzi u 12 (0 : Int32)) (4 : Int32) r48 hc48) gX4_field_X4_failed mX4_failed (by decide) ⟨Nat.zero_le _, Nat.zero_le _⟩ 0 rfl rfl rfl rfl (rest := []) rfl hl.1 (Nat.le_of_ble_eq_true rfl) dX4_field_77 (fun H locs hP hD hS => ?_)
              exact ret _ _ _ _ (r48.1, r48.2) hf dX4_field_80 hP hD hS
          · have hf := zz_t c43 hf
            refine lv_aload hx hb dX4_field_55 (lv_at hl 1 rfl) ?_
            refine lv_iload_n hx hb dX4_field_57 rfl (lv_at hl 5 rfl) ?_
            refine lv_iload hx hb dX4_field_58 (lv_at hl 6 rfl) ?_
            obtain ⟨r49, hc49, hf⟩ := zz_bs hf
            refine zz_cVz C hP hD hS (kX2_holds l g q _ j1 hj1 (zzi u 12 (0 : Int32)) p2 p3 r49 hc49) gX4_field_X2_holds mX2_holds (by decide) ⟨Nat.zero_le _, Nat.zero_le _⟩ (14 + 2 * j1) (zx_sh g q (zzi u 12 (0 : Int32)) hj1) rfl rfl rfl (rest := []) rfl hl.1 (Nat.le_of_ble_eq_true rfl) dX4_field_60 (fun hz49 H locs hP hD hS => ?_)
            refine lv_if_ne (tgt := 69) hx hb dX4_field_63 (by decide) (fun c50 => ?_) (fun c50 => ?_)
            · have hf := zz_f c50 hf
              refine lv_iload hx hb dX4_field_69 (lv_at hl 0 rfl) ?_
              refine lv_if_eq (tgt := 81) hx hb dX4_field_71 (by decide) (fun c51 => ?_) (fun c51 => ?_)
              · have hf := zz_t c51 hf
                refine lv_aload hx hb dX4_field_81 (lv_at hl 1 rfl) ?_
                refine lv_iload_n hx hb dX4_field_83 rfl (lv_at hl 5 rfl) ?_
                refine lv_iload hx hb dX4_field_84 (lv_at hl 6 rfl) ?_
                obtain ⟨r52, hc52, hf⟩ := zz_bs hf
                refine zz_cSi C hP hD hS (kX4_firstFault l g q _ j1 hj1 (zzi u 12 (0 : Int32)) p2 p3 r52 hc52) gX4_field_X4_firstFault mX4_firstFault (by decide) ⟨Nat.zero_le _, Nat.zero_le _⟩ rfl (rest := []) rfl hl.1 (Nat.le_of_ble_eq_true rfl) dX4_field_86 (fun H locs hP hD hS => ?_)
                refine lv_istore (lv' := [(7, .int r52), (6, .int (4 : Int32)), (5, .ref (q (14 + 2 * j1))), (0, .ref (q 0)), (1, .int p0), (2, .int p1), (3, .int p2), (4, .int p3)]) hx hb dX4_field_89 hl (by decide) rfl (fun ls hl => ?_)
                refine lv_iload hx hb dX4_field_91 (lv_at hl 0 rfl) ?_
                refine lv_bipush (v := (-9 : Int32)) hx hb dX4_field_93 (by decide) ?_
                refine lv_icmp_eq (tgt := 104) hx hb dX4_field_95 (by decide) (fun c53 => ?_) (fun c53 => ?_)
                · have hf := zz_t c53 hf
                  refine lv_aload_n hx hb dX4_field_104 rfl (lv_at hl 3 rfl) ?_
                  refine lv_aload hx hb dX4_field_105 (lv_at hl 2 rfl) ?_
                  refine lv_iload_n hx hb dX4_field_107 rfl (lv_at hl 6 rfl) ?_
                  refine lv_iload hx hb dX4_field_108 (lv_at hl 7 rfl) ?_
                  obtain ⟨r54, hc54, hf⟩ := zz_bs hf
                  refine zz_cVv C hP hD hS (kX4_layField l g q _ j1 hj1 (zzi u 12 (0 : Int32)) p2 p3 r54 hc54) gX4_field_X4_layField mX4_layField (by decide) ⟨Nat.zero_le _, Nat.zero_le _⟩ 0 rfl rfl rfl rfl (rest := []) rfl hl.1 (Nat.le_of_ble_eq_true rfl) dX4_field_110 (fun H locs hP hD hS => ?_)
                  refine lv_aload_n hx hb dX4_field_113 rfl (lv_at hl 3 rfl) ?_
                  refine va_get (D := g.1) (ci := 4) (v := .ref (q 1)) (C := RX4) (T := TX4) (N := 7) hx hb hts iX4 hown hK hP 0 rfl rfl 0 (by decide) (zz_mem hts 2 rfl) (fun _ h9 => h9) rfl dX4_field_114 ?_
                  refine va_get (D := g.1) (ci := 3) (v := .int (r54.1 0)) (C := RX3) (T := TX3) (N := 6) hx hb hts iX3 hown hK hP 1 rfl rfl 3 (by decide) (zz_mem hts 3 rfl) (fun _ h9 => h9) rfl dX4_field_117 ?_
                  exact ret _ _ _ _ ((r54.1 0), r54) hf dX4_field_120 hP hD hS
                · have hf := zz_f c53 hf
                  refine lv_bipush (v := (-100 : Int32)) hx hb dX4_field_98 (by decide) ?_
                  refine lv_iload hx hb dX4_field_100 (lv_at hl 0 rfl) ?_
                  refine lv_isub hx hb dX4_field_102 ?_
                  exact ret _ _ _ _ (((-100 : Int32) - r52), (zzi u 12 (0 : Int32))) hf dX4_field_103 hP hD hS
              · have hf := zz_f c51 hf
                refine lv_aload_n hx hb dX4_field_74 rfl (lv_at hl 2 rfl) ?_
                refine lv_iload hx hb dX4_field_75 (lv_at hl 0 rfl) ?_
                obtain ⟨r55, hc55, hf⟩ := zz_bs hf
                refine zz_cVi C hP hD hS (kX4_failed l g q _ (zzi u 12 (0 : Int32)) (4 : Int32) r55 hc55) gX4_field_X4_failed mX4_failed (by decide) ⟨Nat.zero_le _, Nat.zero_le _⟩ 0 rfl rfl rfl rfl (rest := []) rfl hl.1 (Nat.le_of_ble_eq_true rfl) dX4_field_77 (fun H locs hP hD hS => ?_)
                exact ret _ _ _ _ (r55.1, r55.2) hf dX4_field_80 hP hD hS
            · have hf := zz_t c50 hf
              refine lv_iconst (v := (3 : Int32)) hx hb dX4_field_66 (by decide) ?_
              refine lv_istore (lv' := [(6, .int (3 : Int32)), (5, .ref (q (14 + 2 * j1))), (0, .ref (q 0)), (1, .int p0), (2, .int p1), (3, .int p2), (4, .int p3)]) hx hb dX4_field_67 hl (by decide) rfl (fun ls hl => ?_)
              refine lv_iload hx hb dX4_field_69 (lv_at hl 0 rfl) ?_
              refine lv_if_eq (tgt := 81) hx hb dX4_field_71 (by decide) (fun c56 => ?_) (fun c56 => ?_)
              · have hf := zz_t c56 hf
                refine lv_aload hx hb dX4_field_81 (lv_at hl 1 rfl) ?_
                refine lv_iload_n hx hb dX4_field_83 rfl (lv_at hl 5 rfl) ?_
                refine lv_iload hx hb dX4_field_84 (lv_at hl 6 rfl) ?_
                obtain ⟨r57, hc57, hf⟩ := zz_bs hf
                refine zz_cSi C hP hD hS (kX4_firstFault l g q _ j1 hj1 (zzi u 12 (0 : Int32)) p2 p3 r57 hc57) gX4_field_X4_firstFault mX4_firstFault (by decide) ⟨Nat.zero_le _, Nat.zero_le _⟩ rfl (rest := []) rfl hl.1 (Nat.le_of_ble_eq_true rfl) dX4_field_86 (fun H locs hP hD hS => ?_)
                refine lv_istore (lv' := [(7, .int r57), (6, .int (3 : Int32)), (5, .ref (q (14 + 2 * j1))), (0, .ref (q 0)), (1, .int p0), (2, .int p1), (3, .int p2), (4, .int p3)]) hx hb dX4_field_89 hl (by decide) rfl (fun ls hl => ?_)
                refine lv_iload hx hb dX4_field_91 (lv_at hl 0 rfl) ?_
                refine lv_bipush (v := (-9 : Int32)) hx hb dX4_field_93 (by decide) ?_
                refine lv_icmp_eq (tgt := 104) hx hb dX4_field_95 (by decide) (fun c58 => ?_) (fun c58 => ?_)
                · have hf := zz_t c58 hf
                  refine lv_aload_n hx hb dX4_field_104 rfl (lv_at hl 3 rfl) ?_
                  refine lv_aload hx hb dX4_field_105 (lv_at hl 2 rfl) ?_
                  refine lv_iload_n hx hb dX4_field_107 rfl (lv_at hl 6 rfl) ?_
                  refine lv_iload hx hb dX4_field_108 (lv_at hl 7 rfl) ?_
                  obtain ⟨r59, hc59, hf⟩ := zz_bs hf
                  refine zz_cVv C hP hD hS (kX4_layField l g q _ j1 hj1 (zzi u 12 (0 : Int32)) p2 p3 r59 hc59) gX4_field_X4_layField mX4_layField (by decide) ⟨Nat.zero_le _, Nat.zero_le _⟩ 0 rfl rfl rfl rfl (rest := []) rfl hl.1 (Nat.le_of_ble_eq_true rfl) dX4_field_110 (fun H locs hP hD hS => ?_)
                  refine lv_aload_n hx hb dX4_field_113 rfl (lv_at hl 3 rfl) ?_
                  refine va_get (D := g.1) (ci := 4) (v := .ref (q 1)) (C := RX4) (T := TX4) (N := 7) hx hb hts iX4 hown hK hP 0 rfl rfl 0 (by decide) (zz_mem hts 2 rfl) (fun _ h9 => h9) rfl dX4_field_114 ?_
                  refine va_get (D := g.1) (ci := 3) (v := .int (r59.1 0)) (C := RX3) (T := TX3) (N := 6) hx hb hts iX3 hown hK hP 1 rfl rfl 3 (by decide) (zz_mem hts 3 rfl) (fun _ h9 => h9) rfl dX4_field_117 ?_
                  exact ret _ _ _ _ ((r59.1 0), r59) hf dX4_field_120 hP hD hS
                · have hf := zz_f c58 hf
                  refine lv_bipush (v := (-100 : Int32)) hx hb dX4_field_98 (by decide) ?_
                  refine lv_iload hx hb dX4_field_100 (lv_at hl 0 rfl) ?_
                  refine lv_isub hx hb dX4_field_102 ?_
                  exact ret _ _ _ _ (((-100 : Int32) - r57), (zzi u 12 (0 : Int32))) hf dX4_field_103 hP hD hS
              · have hf := zz_f c56 hf
                refine lv_aload_n hx hb dX4_field_74 rfl (lv_at hl 2 rfl) ?_
                refine lv_iload hx hb dX4_field_75 (lv_at hl 0 rfl) ?_
                obtain ⟨r60, hc60, hf⟩ := zz_bs hf
                refine zz_cVi C hP hD hS (kX4_failed l g q _ (zzi u 12 (0 : Int32)) (3 : Int32) r60 hc60) gX4_field_X4_failed mX4_failed (by decide) ⟨Nat.zero_le _, Nat.zero_le _⟩ 0 rfl rfl rfl rfl (rest := []) rfl hl.1 (Nat.le_of_ble_eq_true rfl) dX4_field_77 (fun H locs hP hD hS => ?_)
                exact ret _ _ _ _ (r60.1, r60.2) hf dX4_field_80 hP hD hS
    · have hf := zz_t c3 hf
      refine lv_bipush (v := (-2 : Int32)) hx hb dX4_field_26 (by decide) ?_
      exact ret _ _ _ _ ((-2 : Int32), (zzi u 12 (0 : Int32))) hf dX4_field_28 hP hD hS
abbrev rX4_ofStander : Room := ({ frames := 1, cells := 0, slots := 0, locals := 21 })
theorem mX4_ofStander : zzM yX4_ofStander wsX4_ofStander cX4_ofStander 3 (some .int) RX4 2 := ⟨⟨_, rfl⟩, by decide +kernel⟩
def fX4_ofStander (u : zzS) (p0 : Int32) (p1 : Int32) : Option Int32 := ((fX3_has 0 u p0).bind (fun r1 => (if r1 = 0 then (some (-1 : Int32)) else (if p1 = (0 : Int32) then (zzga (u.2 0) 5 p0 (fun x5 => (some x5))) else (if p1 = (1 : Int32) then (zzga (u.2 1) 5 p0 (fun x8 => (some x8))) else (if p1 = (2 : Int32) then (zzga (u.2 2) 5 p0 (fun x11 => (some x11))) else (some (-2 : Int32))))))))
set_option maxHeartbeats 4000000 in
set_option maxRecDepth 100000 in
theorem kX4_ofStander (l : Launch) (g : zzG) (q : Nat → Nat) (sz : Nat) (u : zzS) (p0 : Int32) (p1 : Int32) (x : Int32) (hf : fX4_ofStander u p0 p1 = some x) : zzI l g yX4_ofStander wsX4_ofStander rX4_ofStander [.ref (q 0), .int p0, .int p1] (zzX g q u) (zzX g q u) sz x := by
  refine zz_mi (cc := cX4_ofStander) (mL := 3) (own := RX4) (fun x : Int32 => x) (fun x : Int32 => (zzX g q u)) x (by decide) rfl rfl (Nat.le_of_ble_eq_true rfl) ?_
  intro p e s m below meth c A Q ls C ret hP hD hS hl
  have hl : lv_has ls 3 [(0, .ref (q 0)), (1, .int p0), (2, .int p1)] := hl
  have hx := C.1.1
  have hb := C.1.2.1
  have hml := C.1.2.2.1
  have hown := C.1.2.2.2.1
  have hts := C.1.2.2.2.2
  have hK := C.2.1
  have iX4 : ∀ w ∈ wsX40, w ∈ wsX4_ofStander := fun _ h => List.mem_cons_of_mem _ (List.mem_append_left _ (List.mem_append_right _ h))
  have iX3 : ∀ w ∈ wsX30, w ∈ wsX4_ofStander := fun _ h => List.mem_cons_of_mem _ (List.mem_append_right _ h)
  unfold fX4_ofStander at hf
  refine lv_aload_n hx hb dX4_ofStander_0 rfl (lv_at hl 0 rfl) ?_
  refine va_get (D := g.1) (ci := 4) (v := .ref (q 1)) (C := RX4) (T := TX4) (N := 7) hx hb hts iX4 hown hK hP 0 rfl rfl 0 (by decide) (zz_mem hts 1 rfl) (fun _ h9 => h9) rfl dX4_ofStander_1 ?_
  refine lv_iload_n hx hb dX4_ofStander_4 rfl (lv_at hl 1 rfl) ?_
  obtain ⟨r1, hc1, hf⟩ := zz_bs hf
  refine zz_cVz C hP hD hS (kX3_has l g q _ 0 (by decide) u p0 r1 hc1) gX4_ofStander_X3_has mX3_has (by decide) ⟨Nat.zero_le _, Nat.zero_le _⟩ 1 rfl rfl rfl rfl (rest := []) rfl hl.1 (Nat.le_of_ble_eq_true rfl) dX4_ofStander_5 (fun hz1 H locs hP hD hS => ?_)
  refine lv_if_ne (tgt := 13) hx hb dX4_ofStander_8 (by decide) (fun c2 => ?_) (fun c2 => ?_)
  · have hf := zz_f c2 hf
    refine lv_iload_n hx hb dX4_ofStander_13 rfl (lv_at hl 2 rfl) ?_
    by_cases c3 : p1 = (0 : Int32)
    · have hf := zz_t c3 hf
      refine lv_tableIn (tgt := 40) (off := 26) hx hb dX4_ofStander_14 (by rw [c3]; decide) (by rw [c3]; decide) (by rw [c3]; decide) (by decide) ?_
      refine lv_aload_n hx hb dX4_ofStander_40 rfl (lv_at hl 0 rfl) ?_
      refine va_get (D := g.1) (ci := 4) (v := .ref (q 1)) (C := RX4) (T := TX4) (N := 7) hx hb hts iX4 hown hK hP 0 rfl rfl 0 (by decide) (zz_mem hts 1 rfl) (fun _ h9 => h9) rfl dX4_ofStander_41 ?_
      refine va_get (D := g.1) (ci := 3) (v := .ref (q 2)) (C := RX3) (T := TX3) (N := 6) hx hb hts iX3 hown hK hP 1 rfl rfl 0 (by decide) (zz_mem hts 2 rfl) (fun _ h9 => h9) rfl dX4_ofStander_44 ?_
      refine lv_iload_n hx hb dX4_ofStander_47 rfl (lv_at hl 1 rfl) ?_
      obtain ⟨x5, h4, ex5, hf⟩ := zz_gx hf
      refine zz_iald hx hb hK hP 2 0 rfl rfl h4 ex5 dX4_ofStander_48 ?_
      exact ret _ _ _ _ x5 hf dX4_ofStander_49 hP hD hS
    · have hf := zz_f c3 hf
      by_cases c6 : p1 = (1 : Int32)
      · have hf := zz_t c6 hf
        refine lv_tableIn (tgt := 50) (off := 36) hx hb dX4_ofStander_14 (by rw [c6]; decide) (by rw [c6]; decide) (by rw [c6]; decide) (by decide) ?_
        refine lv_aload_n hx hb dX4_ofStander_50 rfl (lv_at hl 0 rfl) ?_
        refine va_get (D := g.1) (ci := 4) (v := .ref (q 1)) (C := RX4) (T := TX4) (N := 7) hx hb hts iX4 hown hK hP 0 rfl rfl 0 (by decide) (zz_mem hts 1 rfl) (fun _ h9 => h9) rfl dX4_ofStander_51 ?_
        refine va_get (D := g.1) (ci := 3) (v := .ref (q 3)) (C := RX3) (T := TX3) (N := 6) hx hb hts iX3 hown hK hP 1 rfl rfl 1 (by decide) (zz_mem hts 3 rfl) (fun _ h9 => h9) rfl dX4_ofStander_54 ?_
        refine lv_iload_n hx hb dX4_ofStander_57 rfl (lv_at hl 1 rfl) ?_
        obtain ⟨x8, h7, ex8, hf⟩ := zz_gx hf
        refine zz_iald hx hb hK hP 3 0 rfl rfl h7 ex8 dX4_ofStander_58 ?_
        exact ret _ _ _ _ x8 hf dX4_ofStander_59 hP hD hS
      · have hf := zz_f c6 hf
        by_cases c9 : p1 = (2 : Int32)
        · have hf := zz_t c9 hf
          refine lv_tableIn (tgt := 60) (off := 46) hx hb dX4_ofStander_14 (by rw [c9]; decide) (by rw [c9]; decide) (by rw [c9]; decide) (by decide) ?_
          refine lv_aload_n hx hb dX4_ofStander_60 rfl (lv_at hl 0 rfl) ?_
          refine va_get (D := g.1) (ci := 4) (v := .ref (q 1)) (C := RX4) (T := TX4) (N := 7) hx hb hts iX4 hown hK hP 0 rfl rfl 0 (by decide) (zz_mem hts 1 rfl) (fun _ h9 => h9) rfl dX4_ofStander_61 ?_
          refine va_get (D := g.1) (ci := 3) (v := .ref (q 4)) (C := RX3) (T := TX3) (N := 6) hx hb hts iX3 hown hK hP 1 rfl rfl 2 (by decide) (zz_mem hts 4 rfl) (fun _ h9 => h9) rfl dX4_ofStander_64 ?_
          refine lv_iload_n hx hb dX4_ofStander_67 rfl (lv_at hl 1 rfl) ?_
          obtain ⟨x11, h10, ex11, hf⟩ := zz_gx hf
          refine zz_iald hx hb hK hP 4 0 rfl rfl h10 ex11 dX4_ofStander_68 ?_
          exact ret _ _ _ _ x11 hf dX4_ofStander_69 hP hD hS
        · have hf := zz_f c9 hf
          have ac3 : p1.toInt ≠ 0 := fun h => c3 (Int32.toInt_inj.mp (h.trans (by decide)))
          have ac6 : p1.toInt ≠ 1 := fun h => c6 (Int32.toInt_inj.mp (h.trans (by decide)))
          have ac9 : p1.toInt ≠ 2 := fun h => c9 (Int32.toInt_inj.mp (h.trans (by decide)))
          refine lv_tableOut (tgt := 70) hx hb dX4_ofStander_14 (by omega) (by decide) ?_
          refine lv_bipush (v := (-2 : Int32)) hx hb dX4_ofStander_70 (by decide) ?_
          exact ret _ _ _ _ (-2 : Int32) hf dX4_ofStander_72 hP hD hS
  · have hf := zz_t c2 hf
    refine lv_iconst (v := (-1 : Int32)) hx hb dX4_ofStander_11 (by decide) ?_
    exact ret _ _ _ _ (-1 : Int32) hf dX4_ofStander_12 hP hD hS
abbrev rX4_isDigit : Room := ({ frames := 0, cells := 0, slots := 0, locals := 0 })
theorem mX4_isDigit : zzM yX4_isDigit wsX4_isDigit cX4_isDigit 1 (some .boolean) RX4 1 := ⟨⟨_, rfl⟩, by decide +kernel⟩
def fX4_isDigit (p0 : Int32) : Option Int32 := (if p0 < 0 then (some (0 : Int32)) else (if (9 : Int32) < p0 then (some (0 : Int32)) else (some (1 : Int32))))
set_option maxHeartbeats 4000000 in
set_option maxRecDepth 100000 in
theorem kX4_isDigit (l : Launch) (g : zzG) (w : va_W) (sz : Nat)  (p0 : Int32) (x : Int32) (hf : fX4_isDigit p0 = some x) : zzZ l g yX4_isDigit wsX4_isDigit rX4_isDigit [.int p0] w w sz x := by
  refine zz_mz (cc := cX4_isDigit) (mL := 1) (own := RX4) (fun x : Int32 => x) (fun x : Int32 => w) x (by decide) rfl rfl (Nat.le_of_ble_eq_true rfl) ?_
  intro p e s m below meth c A Q ls C ret hP hD hS hl
  have hl : lv_has ls 1 [(0, .int p0)] := hl
  have hx := C.1.1
  have hb := C.1.2.1
  have hml := C.1.2.2.1
  have hown := C.1.2.2.2.1
  have hts := C.1.2.2.2.2
  have hK := C.2.1
  unfold fX4_isDigit at hf
  refine lv_iload_n hx hb dX4_isDigit_0 rfl (lv_at hl 0 rfl) ?_
  refine lv_if_lt (tgt := 14) hx hb dX4_isDigit_1 (by decide) (fun c1 => ?_) (fun c1 => ?_)
  · have hf := zz_t c1 hf
    refine lv_iconst (v := (0 : Int32)) hx hb dX4_isDigit_14 (by decide) ?_
    exact ret _ _ _ _ (0 : Int32) hf dX4_isDigit_15 zz_n0 hP hD hS
  · have hf := zz_f c1 hf
    refine lv_iload_n hx hb dX4_isDigit_4 rfl (lv_at hl 0 rfl) ?_
    refine lv_bipush (v := (9 : Int32)) hx hb dX4_isDigit_5 (by decide) ?_
    refine lv_icmp_gt (tgt := 14) hx hb dX4_isDigit_7 (by decide) (fun c2 => ?_) (fun c2 => ?_)
    · have hf := zz_t c2 hf
      refine lv_iconst (v := (0 : Int32)) hx hb dX4_isDigit_14 (by decide) ?_
      exact ret _ _ _ _ (0 : Int32) hf dX4_isDigit_15 zz_n0 hP hD hS
    · have hf := zz_f c2 hf
      refine lv_iconst (v := (1 : Int32)) hx hb dX4_isDigit_10 (by decide) ?_
      refine lv_goto (tgt := 15) hx hb dX4_isDigit_11 (by decide) ?_
      exact ret _ _ _ _ (1 : Int32) hf dX4_isDigit_15 zz_n1 hP hD hS
abbrev rX4_walk : Room := ({ frames := 1, cells := 0, slots := 0, locals := 21 })
theorem mX4_walk : zzM yX4_walk wsX4_walk cX4_walk 4 (some .int) RX4 2 := ⟨⟨_, rfl⟩, by decide +kernel⟩
def fX4_walk (u : zzS) (p0 : Int32) (p1 : Int32) : Option (Int32 × zzS) := ((fX3_has 0 u p0).bind (fun r1 => (if r1 = 0 then (some ((-1 : Int32), u)) else ((fX4_isDigit p1).bind (fun r3 => (if r3 = 0 then (some ((-2 : Int32), u)) else (zzga (u.2 1) 5 p0 (fun x6 => (zzpa 5 p0 (some (x6, (zza u 1 p0.toNatClampNeg p1))))))))))))
set_option maxHeartbeats 4000000 in
set_option maxRecDepth 100000 in
theorem kX4_walk (l : Launch) (g : zzG) (q : Nat → Nat) (sz : Nat) (u : zzS) (p0 : Int32) (p1 : Int32) (x : Int32 × zzS) (hf : fX4_walk u p0 p1 = some x) : zzI l g yX4_walk wsX4_walk rX4_walk [.ref (q 0), .int p0, .int p1] (zzX g q u) (zzX g q x.2) sz x.1 := by
  refine zz_mi (cc := cX4_walk) (mL := 4) (own := RX4) (fun x : Int32 × zzS => x.1) (fun x : Int32 × zzS => (zzX g q x.2)) x (by decide) rfl rfl (Nat.le_of_ble_eq_true rfl) ?_
  intro p e s m below meth c A Q ls C ret hP hD hS hl
  have hl : lv_has ls 4 [(0, .ref (q 0)), (1, .int p0), (2, .int p1)] := hl
  have hx := C.1.1
  have hb := C.1.2.1
  have hml := C.1.2.2.1
  have hown := C.1.2.2.2.1
  have hts := C.1.2.2.2.2
  have hK := C.2.1
  have iX4 : ∀ w ∈ wsX40, w ∈ wsX4_walk := fun _ h => List.mem_cons_of_mem _ (List.mem_append_left _ (List.mem_append_right _ h))
  have iX3 : ∀ w ∈ wsX30, w ∈ wsX4_walk := fun _ h => List.mem_cons_of_mem _ (List.mem_append_right _ h)
  unfold fX4_walk at hf
  refine lv_aload_n hx hb dX4_walk_0 rfl (lv_at hl 0 rfl) ?_
  refine va_get (D := g.1) (ci := 4) (v := .ref (q 1)) (C := RX4) (T := TX4) (N := 7) hx hb hts iX4 hown hK hP 0 rfl rfl 0 (by decide) (zz_mem hts 1 rfl) (fun _ h9 => h9) rfl dX4_walk_1 ?_
  refine lv_iload_n hx hb dX4_walk_4 rfl (lv_at hl 1 rfl) ?_
  obtain ⟨r1, hc1, hf⟩ := zz_bs hf
  refine zz_cVz C hP hD hS (kX3_has l g q _ 0 (by decide) u p0 r1 hc1) gX4_walk_X3_has mX3_has (by decide) ⟨Nat.zero_le _, Nat.zero_le _⟩ 1 rfl rfl rfl rfl (rest := []) rfl hl.1 (Nat.le_of_ble_eq_true rfl) dX4_walk_5 (fun hz1 H locs hP hD hS => ?_)
  refine lv_if_ne (tgt := 13) hx hb dX4_walk_8 (by decide) (fun c2 => ?_) (fun c2 => ?_)
  · have hf := zz_f c2 hf
    refine lv_iload_n hx hb dX4_walk_13 rfl (lv_at hl 2 rfl) ?_
    obtain ⟨r3, hc3, hf⟩ := zz_bs hf
    refine zz_cSz C hP hD hS (kX4_isDigit l g (zzX g q u) _ p1 r3 hc3) gX4_walk_X4_isDigit mX4_isDigit (by decide) ⟨Nat.zero_le _, Nat.zero_le _⟩ rfl (rest := []) rfl hl.1 (Nat.le_of_ble_eq_true rfl) dX4_walk_14 (fun hz3 H locs hP hD hS => ?_)
    refine lv_if_ne (tgt := 23) hx hb dX4_walk_17 (by decide) (fun c4 => ?_) (fun c4 => ?_)
    · have hf := zz_f c4 hf
      refine lv_aload_n hx hb dX4_walk_23 rfl (lv_at hl 0 rfl) ?_
      refine va_get (D := g.1) (ci := 4) (v := .ref (q 1)) (C := RX4) (T := TX4) (N := 7) hx hb hts iX4 hown hK hP 0 rfl rfl 0 (by decide) (zz_mem hts 1 rfl) (fun _ h9 => h9) rfl dX4_walk_24 ?_
      refine va_get (D := g.1) (ci := 3) (v := .ref (q 3)) (C := RX3) (T := TX3) (N := 6) hx hb hts iX3 hown hK hP 1 rfl rfl 1 (by decide) (zz_mem hts 2 rfl) (fun _ h9 => h9) rfl dX4_walk_27 ?_
      refine lv_iload_n hx hb dX4_walk_30 rfl (lv_at hl 1 rfl) ?_
      obtain ⟨x6, h5, ex6, hf⟩ := zz_gx hf
      refine zz_iald hx hb hK hP 3 0 rfl rfl h5 ex6 dX4_walk_31 ?_
      refine lv_istore_n (lv' := [(3, .int x6), (0, .ref (q 0)), (1, .int p0), (2, .int p1)]) hx hb dX4_walk_32 rfl hl (by decide) rfl (fun ls hl => ?_)
      refine lv_aload_n hx hb dX4_walk_33 rfl (lv_at hl 1 rfl) ?_
      refine va_get (D := g.1) (ci := 4) (v := .ref (q 1)) (C := RX4) (T := TX4) (N := 7) hx hb hts iX4 hown hK hP 0 rfl rfl 0 (by decide) (zz_mem hts 1 rfl) (fun _ h9 => h9) rfl dX4_walk_34 ?_
      refine va_get (D := g.1) (ci := 3) (v := .ref (q 3)) (C := RX3) (T := TX3) (N := 6) hx hb hts iX3 hown hK hP 1 rfl rfl 1 (by decide) (zz_mem hts 2 rfl) (fun _ h9 => h9) rfl dX4_walk_37 ?_
      refine lv_iload_n hx hb dX4_walk_40 rfl (lv_at hl 2 rfl) ?_
      refine lv_iload_n hx hb dX4_walk_41 rfl (lv_at hl 3 rfl) ?_
      obtain ⟨h7, hf⟩ := zz_pa hf
      refine va_iast hx hb hK hP hD hS 3 0 rfl rfl h7 dX4_walk_42 (fun H locs hP hD hS => ?_)
      have hP : va_P g.1 vwCl (zzX g q (zza u 1 p0.toNatClampNeg p1)) H := Eq.mp (congrArg (fun w => va_P g.1 vwCl w H) (zxa_3 g q u (upd (u.2 1) p0.toNatClampNeg p1))) hP
      have hD : va_D A (zzX g q (zza u 1 p0.toNatClampNeg p1)) := Eq.mp (congrArg (va_D A) (zxa_3 g q u (upd (u.2 1) p0.toNatClampNeg p1))) hD
      refine lv_iload_n hx hb dX4_walk_43 rfl (lv_at hl 0 rfl) ?_
      exact ret _ _ _ _ (x6, (zza u 1 p0.toNatClampNeg p1)) hf dX4_walk_44 hP hD hS
    · have hf := zz_t c4 hf
      refine lv_bipush (v := (-2 : Int32)) hx hb dX4_walk_20 (by decide) ?_
      exact ret _ _ _ _ ((-2 : Int32), u) hf dX4_walk_22 hP hD hS
  · have hf := zz_t c2 hf
    refine lv_iconst (v := (-1 : Int32)) hx hb dX4_walk_11 (by decide) ?_
    exact ret _ _ _ _ ((-1 : Int32), u) hf dX4_walk_12 hP hD hS
abbrev rX4_grow : Room := ({ frames := 1, cells := 0, slots := 0, locals := 21 })
theorem mX4_grow : zzM yX4_grow wsX4_grow cX4_grow 4 (some .int) RX4 2 := ⟨⟨_, rfl⟩, by decide +kernel⟩
def fX4_grow (u : zzS) (p0 : Int32) (p1 : Int32) : Option (Int32 × zzS) := ((fX3_has 0 u p0).bind (fun r1 => (if r1 = 0 then (some ((-1 : Int32), u)) else ((fX4_isDigit p1).bind (fun r3 => (if r3 = 0 then (some ((-2 : Int32), u)) else (zzga (u.2 2) 5 p0 (fun x6 => (zzpa 5 p0 (some (x6, (zza u 2 p0.toNatClampNeg p1))))))))))))
set_option maxHeartbeats 4000000 in
set_option maxRecDepth 100000 in
theorem kX4_grow (l : Launch) (g : zzG) (q : Nat → Nat) (sz : Nat) (u : zzS) (p0 : Int32) (p1 : Int32) (x : Int32 × zzS) (hf : fX4_grow u p0 p1 = some x) : zzI l g yX4_grow wsX4_grow rX4_grow [.ref (q 0), .int p0, .int p1] (zzX g q u) (zzX g q x.2) sz x.1 := by
  refine zz_mi (cc := cX4_grow) (mL := 4) (own := RX4) (fun x : Int32 × zzS => x.1) (fun x : Int32 × zzS => (zzX g q x.2)) x (by decide) rfl rfl (Nat.le_of_ble_eq_true rfl) ?_
  intro p e s m below meth c A Q ls C ret hP hD hS hl
  have hl : lv_has ls 4 [(0, .ref (q 0)), (1, .int p0), (2, .int p1)] := hl
  have hx := C.1.1
  have hb := C.1.2.1
  have hml := C.1.2.2.1
  have hown := C.1.2.2.2.1
  have hts := C.1.2.2.2.2
  have hK := C.2.1
  have iX4 : ∀ w ∈ wsX40, w ∈ wsX4_grow := fun _ h => List.mem_cons_of_mem _ (List.mem_append_left _ (List.mem_append_right _ h))
  have iX3 : ∀ w ∈ wsX30, w ∈ wsX4_grow := fun _ h => List.mem_cons_of_mem _ (List.mem_append_right _ h)
  unfold fX4_grow at hf
  refine lv_aload_n hx hb dX4_grow_0 rfl (lv_at hl 0 rfl) ?_
  refine va_get (D := g.1) (ci := 4) (v := .ref (q 1)) (C := RX4) (T := TX4) (N := 7) hx hb hts iX4 hown hK hP 0 rfl rfl 0 (by decide) (zz_mem hts 1 rfl) (fun _ h9 => h9) rfl dX4_grow_1 ?_
  refine lv_iload_n hx hb dX4_grow_4 rfl (lv_at hl 1 rfl) ?_
  obtain ⟨r1, hc1, hf⟩ := zz_bs hf
  refine zz_cVz C hP hD hS (kX3_has l g q _ 0 (by decide) u p0 r1 hc1) gX4_grow_X3_has mX3_has (by decide) ⟨Nat.zero_le _, Nat.zero_le _⟩ 1 rfl rfl rfl rfl (rest := []) rfl hl.1 (Nat.le_of_ble_eq_true rfl) dX4_grow_5 (fun hz1 H locs hP hD hS => ?_)
  refine lv_if_ne (tgt := 13) hx hb dX4_grow_8 (by decide) (fun c2 => ?_) (fun c2 => ?_)
  · have hf := zz_f c2 hf
    refine lv_iload_n hx hb dX4_grow_13 rfl (lv_at hl 2 rfl) ?_
    obtain ⟨r3, hc3, hf⟩ := zz_bs hf
    refine zz_cSz C hP hD hS (kX4_isDigit l g (zzX g q u) _ p1 r3 hc3) gX4_grow_X4_isDigit mX4_isDigit (by decide) ⟨Nat.zero_le _, Nat.zero_le _⟩ rfl (rest := []) rfl hl.1 (Nat.le_of_ble_eq_true rfl) dX4_grow_14 (fun hz3 H locs hP hD hS => ?_)
    refine lv_if_ne (tgt := 23) hx hb dX4_grow_17 (by decide) (fun c4 => ?_) (fun c4 => ?_)
    · have hf := zz_f c4 hf
      refine lv_aload_n hx hb dX4_grow_23 rfl (lv_at hl 0 rfl) ?_
      refine va_get (D := g.1) (ci := 4) (v := .ref (q 1)) (C := RX4) (T := TX4) (N := 7) hx hb hts iX4 hown hK hP 0 rfl rfl 0 (by decide) (zz_mem hts 1 rfl) (fun _ h9 => h9) rfl dX4_grow_24 ?_
      refine va_get (D := g.1) (ci := 3) (v := .ref (q 4)) (C := RX3) (T := TX3) (N := 6) hx hb hts iX3 hown hK hP 1 rfl rfl 2 (by decide) (zz_mem hts 2 rfl) (fun _ h9 => h9) rfl dX4_grow_27 ?_
      refine lv_iload_n hx hb dX4_grow_30 rfl (lv_at hl 1 rfl) ?_
      obtain ⟨x6, h5, ex6, hf⟩ := zz_gx hf
      refine zz_iald hx hb hK hP 4 0 rfl rfl h5 ex6 dX4_grow_31 ?_
      refine lv_istore_n (lv' := [(3, .int x6), (0, .ref (q 0)), (1, .int p0), (2, .int p1)]) hx hb dX4_grow_32 rfl hl (by decide) rfl (fun ls hl => ?_)
      refine lv_aload_n hx hb dX4_grow_33 rfl (lv_at hl 1 rfl) ?_
      refine va_get (D := g.1) (ci := 4) (v := .ref (q 1)) (C := RX4) (T := TX4) (N := 7) hx hb hts iX4 hown hK hP 0 rfl rfl 0 (by decide) (zz_mem hts 1 rfl) (fun _ h9 => h9) rfl dX4_grow_34 ?_
      refine va_get (D := g.1) (ci := 3) (v := .ref (q 4)) (C := RX3) (T := TX3) (N := 6) hx hb hts iX3 hown hK hP 1 rfl rfl 2 (by decide) (zz_mem hts 2 rfl) (fun _ h9 => h9) rfl dX4_grow_37 ?_
      refine lv_iload_n hx hb dX4_grow_40 rfl (lv_at hl 2 rfl) ?_
      refine lv_iload_n hx hb dX4_grow_41 rfl (lv_at hl 3 rfl) ?_
      obtain ⟨h7, hf⟩ := zz_pa hf
      refine va_iast hx hb hK hP hD hS 4 0 rfl rfl h7 dX4_grow_42 (fun H locs hP hD hS => ?_)
      have hP : va_P g.1 vwCl (zzX g q (zza u 2 p0.toNatClampNeg p1)) H := Eq.mp (congrArg (fun w => va_P g.1 vwCl w H) (zxa_4 g q u (upd (u.2 2) p0.toNatClampNeg p1))) hP
      have hD : va_D A (zzX g q (zza u 2 p0.toNatClampNeg p1)) := Eq.mp (congrArg (va_D A) (zxa_4 g q u (upd (u.2 2) p0.toNatClampNeg p1))) hD
      refine lv_iload_n hx hb dX4_grow_43 rfl (lv_at hl 0 rfl) ?_
      exact ret _ _ _ _ (x6, (zza u 2 p0.toNatClampNeg p1)) hf dX4_grow_44 hP hD hS
    · have hf := zz_t c4 hf
      refine lv_bipush (v := (-2 : Int32)) hx hb dX4_grow_20 (by decide) ?_
      exact ret _ _ _ _ ((-2 : Int32), u) hf dX4_grow_22 hP hD hS
  · have hf := zz_t c2 hf
    refine lv_iconst (v := (-1 : Int32)) hx hb dX4_grow_11 (by decide) ?_
    exact ret _ _ _ _ ((-1 : Int32), u) hf dX4_grow_12 hP hD hS
abbrev rX4_build : Room := ({ frames := 1, cells := 0, slots := 0, locals := 20 })
theorem mX4_build : zzM yX4_build wsX4_build cX4_build 3 (some .int) RX4 1 := ⟨⟨_, rfl⟩, by decide +kernel⟩
def fX4_build (u : zzS) (p0 : Int32) : Option (Int32 × zzS) := ((fX4_isDigit p0).bind (fun r1 => (if r1 = 0 then (some ((-2 : Int32), u)) else ((fX3_isLaid 0 u).bind (fun r3 => (if r3 = 0 then (some ((-3 : Int32), u)) else (some ((u.1 2), (zzi u 2 p0)))))))))
set_option maxHeartbeats 4000000 in
set_option maxRecDepth 100000 in
theorem kX4_build (l : Launch) (g : zzG) (q : Nat → Nat) (sz : Nat) (u : zzS) (p0 : Int32) (x : Int32 × zzS) (hf : fX4_build u p0 = some x) : zzI l g yX4_build wsX4_build rX4_build [.ref (q 0), .int p0] (zzX g q u) (zzX g q x.2) sz x.1 := by
  refine zz_mi (cc := cX4_build) (mL := 3) (own := RX4) (fun x : Int32 × zzS => x.1) (fun x : Int32 × zzS => (zzX g q x.2)) x (by decide) rfl rfl (Nat.le_of_ble_eq_true rfl) ?_
  intro p e s m below meth c A Q ls C ret hP hD hS hl
  have hl : lv_has ls 3 [(0, .ref (q 0)), (1, .int p0)] := hl
  have hx := C.1.1
  have hb := C.1.2.1
  have hml := C.1.2.2.1
  have hown := C.1.2.2.2.1
  have hts := C.1.2.2.2.2
  have hK := C.2.1
  have iX4 : ∀ w ∈ wsX40, w ∈ wsX4_build := fun _ h => List.mem_cons_of_mem _ (List.mem_append_left _ (List.mem_append_right _ h))
  have iX3 : ∀ w ∈ wsX30, w ∈ wsX4_build := fun _ h => List.mem_cons_of_mem _ (List.mem_append_right _ h)
  unfold fX4_build at hf
  refine lv_iload_n hx hb dX4_build_0 rfl (lv_at hl 1 rfl) ?_
  obtain ⟨r1, hc1, hf⟩ := zz_bs hf
  refine zz_cSz C hP hD hS (kX4_isDigit l g (zzX g q u) _ p0 r1 hc1) gX4_build_X4_isDigit mX4_isDigit (by decide) ⟨Nat.zero_le _, Nat.zero_le _⟩ rfl (rest := []) rfl hl.1 (Nat.le_of_ble_eq_true rfl) dX4_build_1 (fun hz1 H locs hP hD hS => ?_)
  refine lv_if_ne (tgt := 10) hx hb dX4_build_4 (by decide) (fun c2 => ?_) (fun c2 => ?_)
  · have hf := zz_f c2 hf
    refine lv_aload_n hx hb dX4_build_10 rfl (lv_at hl 0 rfl) ?_
    refine va_get (D := g.1) (ci := 4) (v := .ref (q 1)) (C := RX4) (T := TX4) (N := 7) hx hb hts iX4 hown hK hP 0 rfl rfl 0 (by decide) (zz_mem hts 1 rfl) (fun _ h9 => h9) rfl dX4_build_11 ?_
    obtain ⟨r3, hc3, hf⟩ := zz_bs hf
    refine zz_cVz C hP hD hS (kX3_isLaid l g q _ 0 (by decide) u r3 hc3) gX4_build_X3_isLaid mX3_isLaid (by decide) ⟨Nat.zero_le _, Nat.zero_le _⟩ 1 rfl rfl rfl rfl (rest := []) rfl hl.1 (Nat.le_of_ble_eq_true rfl) dX4_build_14 (fun hz3 H locs hP hD hS => ?_)
    refine lv_if_ne (tgt := 23) hx hb dX4_build_17 (by decide) (fun c4 => ?_) (fun c4 => ?_)
    · have hf := zz_f c4 hf
      refine lv_aload_n hx hb dX4_build_23 rfl (lv_at hl 0 rfl) ?_
      refine va_get (D := g.1) (ci := 4) (v := .ref (q 1)) (C := RX4) (T := TX4) (N := 7) hx hb hts iX4 hown hK hP 0 rfl rfl 0 (by decide) (zz_mem hts 1 rfl) (fun _ h9 => h9) rfl dX4_build_24 ?_
      refine va_get (D := g.1) (ci := 3) (v := .int (u.1 2)) (C := RX3) (T := TX3) (N := 6) hx hb hts iX3 hown hK hP 1 rfl rfl 5 (by decide) (zz_mem hts 2 rfl) (fun _ h9 => h9) rfl dX4_build_27 ?_
      refine lv_istore_n (lv' := [(2, .int (u.1 2)), (0, .ref (q 0)), (1, .int p0)]) hx hb dX4_build_30 rfl hl (by decide) rfl (fun ls hl => ?_)
      refine lv_aload_n hx hb dX4_build_31 rfl (lv_at hl 1 rfl) ?_
      refine va_get (D := g.1) (ci := 4) (v := .ref (q 1)) (C := RX4) (T := TX4) (N := 7) hx hb hts iX4 hown hK hP 0 rfl rfl 0 (by decide) (zz_mem hts 1 rfl) (fun _ h9 => h9) rfl dX4_build_32 ?_
      refine lv_iload_n hx hb dX4_build_35 rfl (lv_at hl 2 rfl) ?_
      refine va_put (D := g.1) (ci := 3) (v := .int p0) (ty := .int) (C := RX3) (T := TX3) (N := 6) hx hb hts iX3 tyX3 tyX3_ok nmX3 hown hK hP hD hS 1 rfl rfl 5 (by decide) (zz_mem hts 2 rfl) (fun _ h9 => h9) rfl (tyX3_ok 5 (by decide)) rfl rfl (Nat.le_of_ble_eq_true rfl) dX4_build_36 (fun H locs hP hD hS => ?_)
      have hP : va_P g.1 vwCl (zzX g q (zzi u 2 p0)) H := Eq.mp (congrArg (fun w => va_P g.1 vwCl w H) (zxo_1_5 g q u p0)) hP
      have hD : va_D A (zzX g q (zzi u 2 p0)) := Eq.mp (congrArg (va_D A) (zxo_1_5 g q u p0)) hD
      refine lv_iload_n hx hb dX4_build_39 rfl (lv_at hl 0 rfl) ?_
      exact ret _ _ _ _ ((u.1 2), (zzi u 2 p0)) hf dX4_build_40 hP hD hS
    · have hf := zz_t c4 hf
      refine lv_bipush (v := (-3 : Int32)) hx hb dX4_build_20 (by decide) ?_
      exact ret _ _ _ _ ((-3 : Int32), u) hf dX4_build_22 hP hD hS
  · have hf := zz_t c2 hf
    refine lv_bipush (v := (-2 : Int32)) hx hb dX4_build_7 (by decide) ?_
    exact ret _ _ _ _ ((-2 : Int32), u) hf dX4_build_9 hP hD hS
abbrev rX4_isSun : Room := ({ frames := 0, cells := 0, slots := 0, locals := 0 })
theorem mX4_isSun : zzM yX4_isSun wsX4_isSun cX4_isSun 1 (some .boolean) RX4 1 := ⟨⟨_, rfl⟩, by decide +kernel⟩
def fX4_isSun (p0 : Int32) : Option Int32 := (if p0 < (1 : Int32) then (some (0 : Int32)) else (if (3 : Int32) < p0 then (some (0 : Int32)) else (some (1 : Int32))))
set_option maxHeartbeats 4000000 in
set_option maxRecDepth 100000 in
theorem kX4_isSun (l : Launch) (g : zzG) (w : va_W) (sz : Nat)  (p0 : Int32) (x : Int32) (hf : fX4_isSun p0 = some x) : zzZ l g yX4_isSun wsX4_isSun rX4_isSun [.int p0] w w sz x := by
  refine zz_mz (cc := cX4_isSun) (mL := 1) (own := RX4) (fun x : Int32 => x) (fun x : Int32 => w) x (by decide) rfl rfl (Nat.le_of_ble_eq_true rfl) ?_
  intro p e s m below meth c A Q ls C ret hP hD hS hl
  have hl : lv_has ls 1 [(0, .int p0)] := hl
  have hx := C.1.1
  have hb := C.1.2.1
  have hml := C.1.2.2.1
  have hown := C.1.2.2.2.1
  have hts := C.1.2.2.2.2
  have hK := C.2.1
  unfold fX4_isSun at hf
  refine lv_iload_n hx hb dX4_isSun_0 rfl (lv_at hl 0 rfl) ?_
  refine lv_iconst (v := (1 : Int32)) hx hb dX4_isSun_1 (by decide) ?_
  refine lv_icmp_lt (tgt := 14) hx hb dX4_isSun_2 (by decide) (fun c1 => ?_) (fun c1 => ?_)
  · have hf := zz_t c1 hf
    refine lv_iconst (v := (0 : Int32)) hx hb dX4_isSun_14 (by decide) ?_
    exact ret _ _ _ _ (0 : Int32) hf dX4_isSun_15 zz_n0 hP hD hS
  · have hf := zz_f c1 hf
    refine lv_iload_n hx hb dX4_isSun_5 rfl (lv_at hl 0 rfl) ?_
    refine lv_iconst (v := (3 : Int32)) hx hb dX4_isSun_6 (by decide) ?_
    refine lv_icmp_gt (tgt := 14) hx hb dX4_isSun_7 (by decide) (fun c2 => ?_) (fun c2 => ?_)
    · have hf := zz_t c2 hf
      refine lv_iconst (v := (0 : Int32)) hx hb dX4_isSun_14 (by decide) ?_
      exact ret _ _ _ _ (0 : Int32) hf dX4_isSun_15 zz_n0 hP hD hS
    · have hf := zz_f c2 hf
      refine lv_iconst (v := (1 : Int32)) hx hb dX4_isSun_10 (by decide) ?_
      refine lv_goto (tgt := 15) hx hb dX4_isSun_11 (by decide) ?_
      exact ret _ _ _ _ (1 : Int32) hf dX4_isSun_15 zz_n1 hP hD hS
abbrev rX4_shade : Room := ({ frames := 2, cells := 0, slots := 0, locals := 53 })
theorem mX4_shade : zzM yX4_shade wsX4_shade cX4_shade 3 (some .int) RX4 2 := ⟨⟨_, rfl⟩, by decide +kernel⟩
def fX4_shade (u : zzS) (p0 : Int32) (p1 : Int32) : Option Int32 := ((fX3_has 0 u p0).bind (fun r1 => (if r1 = 0 then (some (-1 : Int32)) else ((fX4_isSun p1).bind (fun r3 => (if r3 = 0 then (some (-2 : Int32)) else ((fX3_shadeOf 0 u p0 p1).bind (fun r5 => (some r5)))))))))
set_option maxHeartbeats 4000000 in
set_option maxRecDepth 100000 in
theorem kX4_shade (l : Launch) (g : zzG) (q : Nat → Nat) (sz : Nat) (u : zzS) (p0 : Int32) (p1 : Int32) (x : Int32) (hf : fX4_shade u p0 p1 = some x) : zzI l g yX4_shade wsX4_shade rX4_shade [.ref (q 0), .int p0, .int p1] (zzX g q u) (zzX g q u) sz x := by
  refine zz_mi (cc := cX4_shade) (mL := 3) (own := RX4) (fun x : Int32 => x) (fun x : Int32 => (zzX g q u)) x (by decide) rfl rfl (Nat.le_of_ble_eq_true rfl) ?_
  intro p e s m below meth c A Q ls C ret hP hD hS hl
  have hl : lv_has ls 3 [(0, .ref (q 0)), (1, .int p0), (2, .int p1)] := hl
  have hx := C.1.1
  have hb := C.1.2.1
  have hml := C.1.2.2.1
  have hown := C.1.2.2.2.1
  have hts := C.1.2.2.2.2
  have hK := C.2.1
  have iX4 : ∀ w ∈ wsX40, w ∈ wsX4_shade := fun _ h => List.mem_cons_of_mem _ (List.mem_append_left _ (List.mem_append_right _ h))
  have iX3 : ∀ w ∈ wsX30, w ∈ wsX4_shade := fun _ h => List.mem_cons_of_mem _ (List.mem_append_right _ h)
  unfold fX4_shade at hf
  refine lv_aload_n hx hb dX4_shade_0 rfl (lv_at hl 0 rfl) ?_
  refine va_get (D := g.1) (ci := 4) (v := .ref (q 1)) (C := RX4) (T := TX4) (N := 7) hx hb hts iX4 hown hK hP 0 rfl rfl 0 (by decide) (zz_mem hts 1 rfl) (fun _ h9 => h9) rfl dX4_shade_1 ?_
  refine lv_iload_n hx hb dX4_shade_4 rfl (lv_at hl 1 rfl) ?_
  obtain ⟨r1, hc1, hf⟩ := zz_bs hf
  refine zz_cVz C hP hD hS (kX3_has l g q _ 0 (by decide) u p0 r1 hc1) gX4_shade_X3_has mX3_has (by decide) ⟨Nat.zero_le _, Nat.zero_le _⟩ 1 rfl rfl rfl rfl (rest := []) rfl hl.1 (Nat.le_of_ble_eq_true rfl) dX4_shade_5 (fun hz1 H locs hP hD hS => ?_)
  refine lv_if_ne (tgt := 13) hx hb dX4_shade_8 (by decide) (fun c2 => ?_) (fun c2 => ?_)
  · have hf := zz_f c2 hf
    refine lv_iload_n hx hb dX4_shade_13 rfl (lv_at hl 2 rfl) ?_
    obtain ⟨r3, hc3, hf⟩ := zz_bs hf
    refine zz_cSz C hP hD hS (kX4_isSun l g (zzX g q u) _ p1 r3 hc3) gX4_shade_X4_isSun mX4_isSun (by decide) ⟨Nat.zero_le _, Nat.zero_le _⟩ rfl (rest := []) rfl hl.1 (Nat.le_of_ble_eq_true rfl) dX4_shade_14 (fun hz3 H locs hP hD hS => ?_)
    refine lv_if_eq (tgt := 32) hx hb dX4_shade_17 (by decide) (fun c4 => ?_) (fun c4 => ?_)
    · have hf := zz_t c4 hf
      refine lv_bipush (v := (-2 : Int32)) hx hb dX4_shade_32 (by decide) ?_
      exact ret _ _ _ _ (-2 : Int32) hf dX4_shade_34 hP hD hS
    · have hf := zz_f c4 hf
      refine lv_aload_n hx hb dX4_shade_20 rfl (lv_at hl 0 rfl) ?_
      refine va_get (D := g.1) (ci := 4) (v := .ref (q 1)) (C := RX4) (T := TX4) (N := 7) hx hb hts iX4 hown hK hP 0 rfl rfl 0 (by decide) (zz_mem hts 1 rfl) (fun _ h9 => h9) rfl dX4_shade_21 ?_
      refine lv_iload_n hx hb dX4_shade_24 rfl (lv_at hl 1 rfl) ?_
      refine lv_iload_n hx hb dX4_shade_25 rfl (lv_at hl 2 rfl) ?_
      obtain ⟨r5, hc5, hf⟩ := zz_bs hf
      refine zz_cVi C hP hD hS (kX3_shadeOf l g q _ 0 (by decide) u p0 p1 r5 hc5) gX4_shade_X3_shadeOf mX3_shadeOf (by decide) ⟨Nat.zero_le _, Nat.zero_le _⟩ 1 rfl rfl rfl rfl (rest := []) rfl hl.1 (Nat.le_of_ble_eq_true rfl) dX4_shade_26 (fun H locs hP hD hS => ?_)
      refine lv_goto (tgt := 34) hx hb dX4_shade_29 (by decide) ?_
      exact ret _ _ _ _ r5 hf dX4_shade_34 hP hD hS
  · have hf := zz_t c2 hf
    refine lv_iconst (v := (-1 : Int32)) hx hb dX4_shade_11 (by decide) ?_
    exact ret _ _ _ _ (-1 : Int32) hf dX4_shade_12 hP hD hS
abbrev rX4_refusalAt : Room := ({ frames := 1, cells := 0, slots := 0, locals := 20 })
theorem mX4_refusalAt : zzM yX4_refusalAt wsX4_refusalAt cX4_refusalAt 2 (some .int) RX4 1 := ⟨⟨_, rfl⟩, by decide +kernel⟩
def fX4_refusalAt (u : zzS) (p0 : Int32) : Option Int32 := ((fX4_isSun p0).bind (fun r1 => (if r1 = 0 then (some (-2 : Int32)) else ((fX3_isLaid 0 u).bind (fun r3 => (if r3 = 0 then (some (-3 : Int32)) else (some (0 : Int32))))))))
set_option maxHeartbeats 4000000 in
set_option maxRecDepth 100000 in
theorem kX4_refusalAt (l : Launch) (g : zzG) (q : Nat → Nat) (sz : Nat) (u : zzS) (p0 : Int32) (x : Int32) (hf : fX4_refusalAt u p0 = some x) : zzI l g yX4_refusalAt wsX4_refusalAt rX4_refusalAt [.ref (q 0), .int p0] (zzX g q u) (zzX g q u) sz x := by
  refine zz_mi (cc := cX4_refusalAt) (mL := 2) (own := RX4) (fun x : Int32 => x) (fun x : Int32 => (zzX g q u)) x (by decide) rfl rfl (Nat.le_of_ble_eq_true rfl) ?_
  intro p e s m below meth c A Q ls C ret hP hD hS hl
  have hl : lv_has ls 2 [(0, .ref (q 0)), (1, .int p0)] := hl
  have hx := C.1.1
  have hb := C.1.2.1
  have hml := C.1.2.2.1
  have hown := C.1.2.2.2.1
  have hts := C.1.2.2.2.2
  have hK := C.2.1
  have iX4 : ∀ w ∈ wsX40, w ∈ wsX4_refusalAt := fun _ h => List.mem_cons_of_mem _ (List.mem_append_left _ (List.mem_append_right _ h))
  have iX3 : ∀ w ∈ wsX30, w ∈ wsX4_refusalAt := fun _ h => List.mem_cons_of_mem _ (List.mem_append_right _ h)
  unfold fX4_refusalAt at hf
  refine lv_iload_n hx hb dX4_refusalAt_0 rfl (lv_at hl 1 rfl) ?_
  obtain ⟨r1, hc1, hf⟩ := zz_bs hf
  refine zz_cSz C hP hD hS (kX4_isSun l g (zzX g q u) _ p0 r1 hc1) gX4_refusalAt_X4_isSun mX4_isSun (by decide) ⟨Nat.zero_le _, Nat.zero_le _⟩ rfl (rest := []) rfl hl.1 (Nat.le_of_ble_eq_true rfl) dX4_refusalAt_1 (fun hz1 H locs hP hD hS => ?_)
  refine lv_if_ne (tgt := 10) hx hb dX4_refusalAt_4 (by decide) (fun c2 => ?_) (fun c2 => ?_)
  · have hf := zz_f c2 hf
    refine lv_aload_n hx hb dX4_refusalAt_10 rfl (lv_at hl 0 rfl) ?_
    refine va_get (D := g.1) (ci := 4) (v := .ref (q 1)) (C := RX4) (T := TX4) (N := 7) hx hb hts iX4 hown hK hP 0 rfl rfl 0 (by decide) (zz_mem hts 1 rfl) (fun _ h9 => h9) rfl dX4_refusalAt_11 ?_
    obtain ⟨r3, hc3, hf⟩ := zz_bs hf
    refine zz_cVz C hP hD hS (kX3_isLaid l g q _ 0 (by decide) u r3 hc3) gX4_refusalAt_X3_isLaid mX3_isLaid (by decide) ⟨Nat.zero_le _, Nat.zero_le _⟩ 1 rfl rfl rfl rfl (rest := []) rfl hl.1 (Nat.le_of_ble_eq_true rfl) dX4_refusalAt_14 (fun hz3 H locs hP hD hS => ?_)
    refine lv_if_eq (tgt := 24) hx hb dX4_refusalAt_17 (by decide) (fun c4 => ?_) (fun c4 => ?_)
    · have hf := zz_t c4 hf
      refine lv_bipush (v := (-3 : Int32)) hx hb dX4_refusalAt_24 (by decide) ?_
      exact ret _ _ _ _ (-3 : Int32) hf dX4_refusalAt_26 hP hD hS
    · have hf := zz_f c4 hf
      refine lv_iconst (v := (0 : Int32)) hx hb dX4_refusalAt_20 (by decide) ?_
      refine lv_goto (tgt := 26) hx hb dX4_refusalAt_21 (by decide) ?_
      exact ret _ _ _ _ (0 : Int32) hf dX4_refusalAt_26 hP hD hS
  · have hf := zz_t c2 hf
    refine lv_bipush (v := (-2 : Int32)) hx hb dX4_refusalAt_7 (by decide) ?_
    exact ret _ _ _ _ (-2 : Int32) hf dX4_refusalAt_9 hP hD hS
abbrev rX4_hidden : Room := ({ frames := 2, cells := 0, slots := 0, locals := 44 })
theorem mX4_hidden : zzM yX4_hidden wsX4_hidden cX4_hidden 3 (some .int) RX4 1 := ⟨⟨_, rfl⟩, by decide +kernel⟩
def fX4_hidden (u : zzS) (p0 : Int32) : Option Int32 := ((fX4_refusalAt u p0).bind (fun r1 => (if r1 = 0 then ((fX3_hiddenSet 0 u p0).bind (fun r3 => (some r3))) else (some r1))))
set_option maxHeartbeats 4000000 in
set_option maxRecDepth 100000 in
theorem kX4_hidden (l : Launch) (g : zzG) (q : Nat → Nat) (sz : Nat) (u : zzS) (p0 : Int32) (x : Int32) (hf : fX4_hidden u p0 = some x) : zzI l g yX4_hidden wsX4_hidden rX4_hidden [.ref (q 0), .int p0] (zzX g q u) (zzX g q u) sz x := by
  refine zz_mi (cc := cX4_hidden) (mL := 3) (own := RX4) (fun x : Int32 => x) (fun x : Int32 => (zzX g q u)) x (by decide) rfl rfl (Nat.le_of_ble_eq_true rfl) ?_
  intro p e s m below meth c A Q ls C ret hP hD hS hl
  have hl : lv_has ls 3 [(0, .ref (q 0)), (1, .int p0)] := hl
  have hx := C.1.1
  have hb := C.1.2.1
  have hml := C.1.2.2.1
  have hown := C.1.2.2.2.1
  have hts := C.1.2.2.2.2
  have hK := C.2.1
  have iX4 : ∀ w ∈ wsX40, w ∈ wsX4_hidden := fun _ h => List.mem_cons_of_mem _ (List.mem_append_left _ (List.mem_append_right _ h))
  have iX3 : ∀ w ∈ wsX30, w ∈ wsX4_hidden := fun _ h => List.mem_cons_of_mem _ (List.mem_append_right _ h)
  unfold fX4_hidden at hf
  refine lv_aload_n hx hb dX4_hidden_0 rfl (lv_at hl 0 rfl) ?_
  refine lv_iload_n hx hb dX4_hidden_1 rfl (lv_at hl 1 rfl) ?_
  obtain ⟨r1, hc1, hf⟩ := zz_bs hf
  refine zz_cVi C hP hD hS (kX4_refusalAt l g q _ u p0 r1 hc1) gX4_hidden_X4_refusalAt mX4_refusalAt (by decide) ⟨Nat.zero_le _, Nat.zero_le _⟩ 0 rfl rfl rfl rfl (rest := []) rfl hl.1 (Nat.le_of_ble_eq_true rfl) dX4_hidden_2 (fun H locs hP hD hS => ?_)
  refine lv_istore_n (lv' := [(2, .int r1), (0, .ref (q 0)), (1, .int p0)]) hx hb dX4_hidden_5 rfl hl (by decide) rfl (fun ls hl => ?_)
  refine lv_iload_n hx hb dX4_hidden_6 rfl (lv_at hl 0 rfl) ?_
  refine lv_if_eq (tgt := 14) hx hb dX4_hidden_7 (by decide) (fun c2 => ?_) (fun c2 => ?_)
  · have hf := zz_t c2 hf
    refine lv_aload_n hx hb dX4_hidden_14 rfl (lv_at hl 1 rfl) ?_
    refine va_get (D := g.1) (ci := 4) (v := .ref (q 1)) (C := RX4) (T := TX4) (N := 7) hx hb hts iX4 hown hK hP 0 rfl rfl 0 (by decide) (zz_mem hts 1 rfl) (fun _ h9 => h9) rfl dX4_hidden_15 ?_
    refine lv_iload_n hx hb dX4_hidden_18 rfl (lv_at hl 2 rfl) ?_
    obtain ⟨r3, hc3, hf⟩ := zz_bs hf
    refine zz_cVi C hP hD hS (kX3_hiddenSet l g q _ 0 (by decide) u p0 r3 hc3) gX4_hidden_X3_hiddenSet mX3_hiddenSet (by decide) ⟨Nat.zero_le _, Nat.zero_le _⟩ 1 rfl rfl rfl rfl (rest := []) rfl hl.1 (Nat.le_of_ble_eq_true rfl) dX4_hidden_19 (fun H locs hP hD hS => ?_)
    exact ret _ _ _ _ r3 hf dX4_hidden_22 hP hD hS
  · have hf := zz_f c2 hf
    refine lv_iload_n hx hb dX4_hidden_10 rfl (lv_at hl 0 rfl) ?_
    refine lv_goto (tgt := 22) hx hb dX4_hidden_11 (by decide) ?_
    exact ret _ _ _ _ r1 hf dX4_hidden_22 hP hD hS
abbrev rX4_countedOn : Room := ({ frames := 3, cells := 0, slots := 0, locals := 81 })
theorem mX4_countedOn : zzM yX4_countedOn wsX4_countedOn cX4_countedOn 4 (some .int) RX4 3 := ⟨⟨_, rfl⟩, by decide +kernel⟩
def fX4_countedOn (t : Nat) (u : zzS) (p0 : Int32) (p1 : Int32) : Option (Int32 × zzS) := ((fX3_darkFeet t u p0 p1).bind (fun r1 => ((fX1_measure u r1 (u.1 (3 * t + 1))).bind (fun r2 => (some ((r2.1 8), r2))))))
set_option maxHeartbeats 4000000 in
set_option maxRecDepth 100000 in
theorem kX4_countedOn (l : Launch) (g : zzG) (q : Nat → Nat) (sz : Nat) (t : Nat) (ht : t < 2) (u : zzS) (p0 : Int32) (p1 : Int32) (x : Int32 × zzS) (hf : fX4_countedOn t u p0 p1 = some x) : zzI l g yX4_countedOn wsX4_countedOn rX4_countedOn [.ref (q 0), .ref (q (1 + 4 * t)), .int p0, .int p1] (zzX g q u) (zzX g q x.2) sz x.1 := by
  refine zz_mi (cc := cX4_countedOn) (mL := 4) (own := RX4) (fun x : Int32 × zzS => x.1) (fun x : Int32 × zzS => (zzX g q x.2)) x (by decide) rfl rfl (Nat.le_of_ble_eq_true rfl) ?_
  intro p e s m below meth c A Q ls C ret hP hD hS hl
  have hl : lv_has ls 4 [(0, .ref (q 0)), (1, .ref (q (1 + 4 * t))), (2, .int p0), (3, .int p1)] := hl
  have hx := C.1.1
  have hb := C.1.2.1
  have hml := C.1.2.2.1
  have hown := C.1.2.2.2.1
  have hts := C.1.2.2.2.2
  have hK := C.2.1
  have iX4 : ∀ w ∈ wsX40, w ∈ wsX4_countedOn := fun _ h => List.mem_cons_of_mem _ (List.mem_append_left _ (List.mem_append_left _ (List.mem_append_right _ h)))
  have iX3 : ∀ w ∈ wsX30, w ∈ wsX4_countedOn := fun _ h => List.mem_cons_of_mem _ (List.mem_append_left _ (List.mem_append_right _ h))
  have iX1 : ∀ w ∈ wsX10, w ∈ wsX4_countedOn := fun _ h => List.mem_cons_of_mem _ (List.mem_append_right _ h)
  unfold fX4_countedOn at hf
  refine lv_aload_n hx hb dX4_countedOn_0 rfl (lv_at hl 0 rfl) ?_
  refine va_get (D := g.1) (ci := 4) (v := .ref (q 9)) (C := RX4) (T := TX4) (N := 7) hx hb hts iX4 hown hK hP 0 rfl rfl 2 (by decide) (zz_mem hts 1 rfl) (fun _ h9 => h9) rfl dX4_countedOn_1 ?_
  refine lv_aload_n hx hb dX4_countedOn_4 rfl (lv_at hl 1 rfl) ?_
  refine lv_iload_n hx hb dX4_countedOn_5 rfl (lv_at hl 2 rfl) ?_
  refine lv_iload_n hx hb dX4_countedOn_6 rfl (lv_at hl 3 rfl) ?_
  obtain ⟨r1, hc1, hf⟩ := zz_bs hf
  refine zz_cVl C hP hD hS (kX3_darkFeet l g q _ t ht u p0 p1 r1 hc1) gX4_countedOn_X3_darkFeet mX3_darkFeet (by decide) ⟨Nat.zero_le _, Nat.zero_le _⟩ (1 + 4 * t) (zx_sn g q u ht) rfl rfl rfl (rest := [.ref (q 9)]) rfl hl.1 (Nat.le_of_ble_eq_true rfl) dX4_countedOn_7 (fun H locs hP hD hS => ?_)
  refine lv_aload_n hx hb dX4_countedOn_10 rfl (lv_at hl 1 rfl) ?_
  refine va_get (D := g.1) (ci := 3) (v := .int (u.1 (3 * t + 1))) (C := RX3) (T := TX3) (N := 6) hx hb hts iX3 hown hK hP (1 + 4 * t) (zx_sn g q u ht) rfl 4 (by decide) (zz_mem hts 2 rfl) (fun _ h9 => h9) rfl dX4_countedOn_11 ?_
  obtain ⟨r2, hc2, hf⟩ := zz_bs hf
  refine zz_cVv C hP hD hS (kX1_measure l g q _ u r1 (u.1 (3 * t + 1)) r2 hc2) gX4_countedOn_X1_measure mX1_measure (by decide) ⟨Nat.zero_le _, Nat.zero_le _⟩ 9 rfl rfl rfl rfl (rest := []) rfl hl.1 (Nat.le_of_ble_eq_true rfl) dX4_countedOn_14 (fun H locs hP hD hS => ?_)
  refine lv_aload_n hx hb dX4_countedOn_17 rfl (lv_at hl 0 rfl) ?_
  refine va_get (D := g.1) (ci := 4) (v := .ref (q 9)) (C := RX4) (T := TX4) (N := 7) hx hb hts iX4 hown hK hP 0 rfl rfl 2 (by decide) (zz_mem hts 1 rfl) (fun _ h9 => h9) rfl dX4_countedOn_18 ?_
  refine va_get (D := g.1) (ci := 1) (v := .int (r2.1 8)) (C := RX1) (T := TX1) (N := 4) hx hb hts iX1 hown hK hP 9 rfl rfl 2 (by decide) (zz_mem hts 3 rfl) (fun _ h9 => h9) rfl dX4_countedOn_21 ?_
  exact ret _ _ _ _ ((r2.1 8), r2) hf dX4_countedOn_24 hP hD hS
abbrev rX4_census : Room := ({ frames := 4, cells := 0, slots := 0, locals := 104 })
theorem mX4_census : zzM yX4_census wsX4_census cX4_census 3 (some .int) RX4 1 := ⟨⟨_, rfl⟩, by decide +kernel⟩
def fX4_census (u : zzS) (p0 : Int32) : Option (Int32 × zzS) := ((fX4_refusalAt u p0).bind (fun r1 => (if r1 = 0 then ((fX3_everyone 0 u).bind (fun r3 => ((fX4_countedOn 0 u p0 r3).bind (fun r4 => (some (r4.1, r4.2)))))) else (some (r1, u)))))
set_option maxHeartbeats 4000000 in
set_option maxRecDepth 100000 in
theorem kX4_census (l : Launch) (g : zzG) (q : Nat → Nat) (sz : Nat) (u : zzS) (p0 : Int32) (x : Int32 × zzS) (hf : fX4_census u p0 = some x) : zzI l g yX4_census wsX4_census rX4_census [.ref (q 0), .int p0] (zzX g q u) (zzX g q x.2) sz x.1 := by
  refine zz_mi (cc := cX4_census) (mL := 3) (own := RX4) (fun x : Int32 × zzS => x.1) (fun x : Int32 × zzS => (zzX g q x.2)) x (by decide) rfl rfl (Nat.le_of_ble_eq_true rfl) ?_
  intro p e s m below meth c A Q ls C ret hP hD hS hl
  have hl : lv_has ls 3 [(0, .ref (q 0)), (1, .int p0)] := hl
  have hx := C.1.1
  have hb := C.1.2.1
  have hml := C.1.2.2.1
  have hown := C.1.2.2.2.1
  have hts := C.1.2.2.2.2
  have hK := C.2.1
  have iX4 : ∀ w ∈ wsX40, w ∈ wsX4_census := fun _ h => List.mem_cons_of_mem _ (List.mem_append_left _ (List.mem_append_left _ (List.mem_append_right _ h)))
  have iX3 : ∀ w ∈ wsX30, w ∈ wsX4_census := fun _ h => List.mem_cons_of_mem _ (List.mem_append_left _ (List.mem_append_right _ h))
  have iX1 : ∀ w ∈ wsX10, w ∈ wsX4_census := fun _ h => List.mem_cons_of_mem _ (List.mem_append_right _ h)
  unfold fX4_census at hf
  refine lv_aload_n hx hb dX4_census_0 rfl (lv_at hl 0 rfl) ?_
  refine lv_iload_n hx hb dX4_census_1 rfl (lv_at hl 1 rfl) ?_
  obtain ⟨r1, hc1, hf⟩ := zz_bs hf
  refine zz_cVi C hP hD hS (kX4_refusalAt l g q _ u p0 r1 hc1) gX4_census_X4_refusalAt mX4_refusalAt (by decide) ⟨Nat.zero_le _, Nat.zero_le _⟩ 0 rfl rfl rfl rfl (rest := []) rfl hl.1 (Nat.le_of_ble_eq_true rfl) dX4_census_2 (fun H locs hP hD hS => ?_)
  refine lv_istore_n (lv' := [(2, .int r1), (0, .ref (q 0)), (1, .int p0)]) hx hb dX4_census_5 rfl hl (by decide) rfl (fun ls hl => ?_)
  refine lv_iload_n hx hb dX4_census_6 rfl (lv_at hl 0 rfl) ?_
  refine lv_if_eq (tgt := 14) hx hb dX4_census_7 (by decide) (fun c2 => ?_) (fun c2 => ?_)
  · have hf := zz_t c2 hf
    refine lv_aload_n hx hb dX4_census_14 rfl (lv_at hl 1 rfl) ?_
    refine lv_aload_n hx hb dX4_census_15 rfl (lv_at hl 1 rfl) ?_
    refine va_get (D := g.1) (ci := 4) (v := .ref (q 1)) (C := RX4) (T := TX4) (N := 7) hx hb hts iX4 hown hK hP 0 rfl rfl 0 (by decide) (zz_mem hts 1 rfl) (fun _ h9 => h9) rfl dX4_census_16 ?_
    refine lv_iload_n hx hb dX4_census_19 rfl (lv_at hl 2 rfl) ?_
    refine lv_aload_n hx hb dX4_census_20 rfl (lv_at hl 1 rfl) ?_
    refine va_get (D := g.1) (ci := 4) (v := .ref (q 1)) (C := RX4) (T := TX4) (N := 7) hx hb hts iX4 hown hK hP 0 rfl rfl 0 (by decide) (zz_mem hts 1 rfl) (fun _ h9 => h9) rfl dX4_census_21 ?_
    obtain ⟨r3, hc3, hf⟩ := zz_bs hf
    refine zz_cVi C hP hD hS (kX3_everyone l g q _ 0 (by decide) u r3 hc3) gX4_census_X3_everyone mX3_everyone (by decide) ⟨Nat.zero_le _, Nat.zero_le _⟩ 1 rfl rfl rfl rfl (rest := [.int p0, .ref (q 1), .ref (q 0)]) rfl hl.1 (Nat.le_of_ble_eq_true rfl) dX4_census_24 (fun H locs hP hD hS => ?_)
    obtain ⟨r4, hc4, hf⟩ := zz_bs hf
    refine zz_cVi C hP hD hS (kX4_countedOn l g q _ 0 (by decide) u p0 r3 r4 hc4) gX4_census_X4_countedOn mX4_countedOn (by decide) ⟨Nat.zero_le _, Nat.zero_le _⟩ 0 rfl rfl rfl rfl (rest := []) rfl hl.1 (Nat.le_of_ble_eq_true rfl) dX4_census_27 (fun H locs hP hD hS => ?_)
    exact ret _ _ _ _ (r4.1, r4.2) hf dX4_census_30 hP hD hS
  · have hf := zz_f c2 hf
    refine lv_iload_n hx hb dX4_census_10 rfl (lv_at hl 0 rfl) ?_
    refine lv_goto (tgt := 30) hx hb dX4_census_11 (by decide) ?_
    exact ret _ _ _ _ (r1, u) hf dX4_census_30 hP hD hS
abbrev rX4_runs : Room := ({ frames := 3, cells := 0, slots := 0, locals := 81 })
theorem mX4_runs : zzM yX4_runs wsX4_runs cX4_runs 4 (some .int) RX4 2 := ⟨⟨_, rfl⟩, by decide +kernel⟩
def fX4_runs (u : zzS) (p0 : Int32) (p1 : Int32) : Option (Int32 × zzS) := (if p1 < 0 then (some ((-2 : Int32), u)) else (if p1 ≤ (2 : Int32) then ((fX4_refusalAt u p0).bind (fun r3 => (if r3 = 0 then ((fX3_everyone 0 u).bind (fun r5 => ((fX3_darkFeet 0 u p0 r5).bind (fun r6 => ((fX1_measure u r6 (u.1 1)).bind (fun r7 => (if p1 = (0 : Int32) then (some ((r7.1 6), r7)) else (if p1 = (1 : Int32) then (some ((r7.1 7), r7)) else (some ((r7.1 9), r7)))))))))) else (some (r3, u))))) else (some ((-2 : Int32), u))))
set_option maxHeartbeats 4000000 in
set_option maxRecDepth 100000 in
theorem kX4_runs (l : Launch) (g : zzG) (q : Nat → Nat) (sz : Nat) (u : zzS) (p0 : Int32) (p1 : Int32) (x : Int32 × zzS) (hf : fX4_runs u p0 p1 = some x) : zzI l g yX4_runs wsX4_runs rX4_runs [.ref (q 0), .int p0, .int p1] (zzX g q u) (zzX g q x.2) sz x.1 := by
  refine zz_mi (cc := cX4_runs) (mL := 4) (own := RX4) (fun x : Int32 × zzS => x.1) (fun x : Int32 × zzS => (zzX g q x.2)) x (by decide) rfl rfl (Nat.le_of_ble_eq_true rfl) ?_
  intro p e s m below meth c A Q ls C ret hP hD hS hl
  have hl : lv_has ls 4 [(0, .ref (q 0)), (1, .int p0), (2, .int p1)] := hl
  have hx := C.1.1
  have hb := C.1.2.1
  have hml := C.1.2.2.1
  have hown := C.1.2.2.2.1
  have hts := C.1.2.2.2.2
  have hK := C.2.1
  have iX4 : ∀ w ∈ wsX40, w ∈ wsX4_runs := fun _ h => List.mem_cons_of_mem _ (List.mem_append_left _ (List.mem_append_left _ (List.mem_append_right _ h)))
  have iX3 : ∀ w ∈ wsX30, w ∈ wsX4_runs := fun _ h => List.mem_cons_of_mem _ (List.mem_append_left _ (List.mem_append_right _ h))
  have iX1 : ∀ w ∈ wsX10, w ∈ wsX4_runs := fun _ h => List.mem_cons_of_mem _ (List.mem_append_right _ h)
  unfold fX4_runs at hf
  refine lv_iload_n hx hb dX4_runs_0 rfl (lv_at hl 2 rfl) ?_
  refine lv_if_lt (tgt := 9) hx hb dX4_runs_1 (by decide) (fun c1 => ?_) (fun c1 => ?_)
  · have hf := zz_t c1 hf
    refine lv_bipush (v := (-2 : Int32)) hx hb dX4_runs_9 (by decide) ?_
    exact ret _ _ _ _ ((-2 : Int32), u) hf dX4_runs_11 hP hD hS
  · have hf := zz_f c1 hf
    refine lv_iload_n hx hb dX4_runs_4 rfl (lv_at hl 2 rfl) ?_
    refine lv_iconst (v := (2 : Int32)) hx hb dX4_runs_5 (by decide) ?_
    refine lv_icmp_le (tgt := 12) hx hb dX4_runs_6 (by decide) (fun c2 => ?_) (fun c2 => ?_)
    · have hf := zz_t c2 hf
      refine lv_aload_n hx hb dX4_runs_12 rfl (lv_at hl 0 rfl) ?_
      refine lv_iload_n hx hb dX4_runs_13 rfl (lv_at hl 1 rfl) ?_
      obtain ⟨r3, hc3, hf⟩ := zz_bs hf
      refine zz_cVi C hP hD hS (kX4_refusalAt l g q _ u p0 r3 hc3) gX4_runs_X4_refusalAt mX4_refusalAt (by decide) ⟨Nat.zero_le _, Nat.zero_le _⟩ 0 rfl rfl rfl rfl (rest := []) rfl hl.1 (Nat.le_of_ble_eq_true rfl) dX4_runs_14 (fun H locs hP hD hS => ?_)
      refine lv_istore_n (lv' := [(3, .int r3), (0, .ref (q 0)), (1, .int p0), (2, .int p1)]) hx hb dX4_runs_17 rfl hl (by decide) rfl (fun ls hl => ?_)
      refine lv_iload_n hx hb dX4_runs_18 rfl (lv_at hl 0 rfl) ?_
      refine lv_if_eq (tgt := 24) hx hb dX4_runs_19 (by decide) (fun c4 => ?_) (fun c4 => ?_)
      · have hf := zz_t c4 hf
        refine lv_aload_n hx hb dX4_runs_24 rfl (lv_at hl 1 rfl) ?_
        refine va_get (D := g.1) (ci := 4) (v := .ref (q 9)) (C := RX4) (T := TX4) (N := 7) hx hb hts iX4 hown hK hP 0 rfl rfl 2 (by decide) (zz_mem hts 1 rfl) (fun _ h9 => h9) rfl dX4_runs_25 ?_
        refine lv_aload_n hx hb dX4_runs_28 rfl (lv_at hl 1 rfl) ?_
        refine va_get (D := g.1) (ci := 4) (v := .ref (q 1)) (C := RX4) (T := TX4) (N := 7) hx hb hts iX4 hown hK hP 0 rfl rfl 0 (by decide) (zz_mem hts 2 rfl) (fun _ h9 => h9) rfl dX4_runs_29 ?_
        refine lv_iload_n hx hb dX4_runs_32 rfl (lv_at hl 2 rfl) ?_
        refine lv_aload_n hx hb dX4_runs_33 rfl (lv_at hl 1 rfl) ?_
        refine va_get (D := g.1) (ci := 4) (v := .ref (q 1)) (C := RX4) (T := TX4) (N := 7) hx hb hts iX4 hown hK hP 0 rfl rfl 0 (by decide) (zz_mem hts 2 rfl) (fun _ h9 => h9) rfl dX4_runs_34 ?_
        obtain ⟨r5, hc5, hf⟩ := zz_bs hf
        refine zz_cVi C hP hD hS (kX3_everyone l g q _ 0 (by decide) u r5 hc5) gX4_runs_X3_everyone mX3_everyone (by decide) ⟨Nat.zero_le _, Nat.zero_le _⟩ 1 rfl rfl rfl rfl (rest := [.int p0, .ref (q 1), .ref (q 9)]) rfl hl.1 (Nat.le_of_ble_eq_true rfl) dX4_runs_37 (fun H locs hP hD hS => ?_)
        obtain ⟨r6, hc6, hf⟩ := zz_bs hf
        refine zz_cVl C hP hD hS (kX3_darkFeet l g q _ 0 (by decide) u p0 r5 r6 hc6) gX4_runs_X3_darkFeet mX3_darkFeet (by decide) ⟨Nat.zero_le _, Nat.zero_le _⟩ 1 rfl rfl rfl rfl (rest := [.ref (q 9)]) rfl hl.1 (Nat.le_of_ble_eq_true rfl) dX4_runs_40 (fun H locs hP hD hS => ?_)
        refine lv_aload_n hx hb dX4_runs_43 rfl (lv_at hl 1 rfl) ?_
        refine va_get (D := g.1) (ci := 4) (v := .ref (q 1)) (C := RX4) (T := TX4) (N := 7) hx hb hts iX4 hown hK hP 0 rfl rfl 0 (by decide) (zz_mem hts 2 rfl) (fun _ h9 => h9) rfl dX4_runs_44 ?_
        refine va_get (D := g.1) (ci := 3) (v := .int (u.1 1)) (C := RX3) (T := TX3) (N := 6) hx hb hts iX3 hown hK hP 1 rfl rfl 4 (by decide) (zz_mem hts 3 rfl) (fun _ h9 => h9) rfl dX4_runs_47 ?_
        obtain ⟨r7, hc7, hf⟩ := zz_bs hf
        refine zz_cVv C hP hD hS (kX1_measure l g q _ u r6 (u.1 1) r7 hc7) gX4_runs_X1_measure mX1_measure (by decide) ⟨Nat.zero_le _, Nat.zero_le _⟩ 9 rfl rfl rfl rfl (rest := []) rfl hl.1 (Nat.le_of_ble_eq_true rfl) dX4_runs_50 (fun H locs hP hD hS => ?_)
        refine lv_iload_n hx hb dX4_runs_53 rfl (lv_at hl 3 rfl) ?_
        by_cases c8 : p1 = (0 : Int32)
        · have hf := zz_t c8 hf
          refine lv_lookup (tgt := 80) (off := 26) hx hb dX4_runs_54 (by decide) (by rw [c8]; decide) (by decide) ?_
          refine lv_aload_n hx hb dX4_runs_80 rfl (lv_at hl 1 rfl) ?_
          refine va_get (D := g.1) (ci := 4) (v := .ref (q 9)) (C := RX4) (T := TX4) (N := 7) hx hb hts iX4 hown hK hP 0 rfl rfl 2 (by decide) (zz_mem hts 1 rfl) (fun _ h9 => h9) rfl dX4_runs_81 ?_
          refine va_get (D := g.1) (ci := 1) (v := .int (r7.1 6)) (C := RX1) (T := TX1) (N := 4) hx hb hts iX1 hown hK hP 9 rfl rfl 0 (by decide) (zz_mem hts 4 rfl) (fun _ h9 => h9) rfl dX4_runs_84 ?_
          exact ret _ _ _ _ ((r7.1 6), r7) hf dX4_runs_87 hP hD hS
        · have hf := zz_f c8 hf
          by_cases c9 : p1 = (1 : Int32)
          · have hf := zz_t c9 hf
            refine lv_lookup (tgt := 88) (off := 34) hx hb dX4_runs_54 (by decide) (by rw [c9]; decide) (by decide) ?_
            refine lv_aload_n hx hb dX4_runs_88 rfl (lv_at hl 1 rfl) ?_
            refine va_get (D := g.1) (ci := 4) (v := .ref (q 9)) (C := RX4) (T := TX4) (N := 7) hx hb hts iX4 hown hK hP 0 rfl rfl 2 (by decide) (zz_mem hts 1 rfl) (fun _ h9 => h9) rfl dX4_runs_89 ?_
            refine va_get (D := g.1) (ci := 1) (v := .int (r7.1 7)) (C := RX1) (T := TX1) (N := 4) hx hb hts iX1 hown hK hP 9 rfl rfl 1 (by decide) (zz_mem hts 5 rfl) (fun _ h9 => h9) rfl dX4_runs_92 ?_
            exact ret _ _ _ _ ((r7.1 7), r7) hf dX4_runs_95 hP hD hS
          · have hf := zz_f c9 hf
            have ac8 : p1.toInt ≠ 0 := fun h => c8 (Int32.toInt_inj.mp (h.trans (by decide)))
            have ac9 : p1.toInt ≠ 1 := fun h => c9 (Int32.toInt_inj.mp (h.trans (by decide)))
            refine lv_lookup (tgt := 96) (off := 42) hx hb dX4_runs_54 (by decide) (zz_lk2 ac8 ac9) (by decide) ?_
            refine lv_aload_n hx hb dX4_runs_96 rfl (lv_at hl 1 rfl) ?_
            refine va_get (D := g.1) (ci := 4) (v := .ref (q 9)) (C := RX4) (T := TX4) (N := 7) hx hb hts iX4 hown hK hP 0 rfl rfl 2 (by decide) (zz_mem hts 1 rfl) (fun _ h9 => h9) rfl dX4_runs_97 ?_
            refine va_get (D := g.1) (ci := 1) (v := .int (r7.1 9)) (C := RX1) (T := TX1) (N := 4) hx hb hts iX1 hown hK hP 9 rfl rfl 3 (by decide) (zz_mem hts 6 rfl) (fun _ h9 => h9) rfl dX4_runs_100 ?_
            exact ret _ _ _ _ ((r7.1 9), r7) hf dX4_runs_103 hP hD hS
      · have hf := zz_f c4 hf
        refine lv_iload_n hx hb dX4_runs_22 rfl (lv_at hl 0 rfl) ?_
        exact ret _ _ _ _ (r3, u) hf dX4_runs_23 hP hD hS
    · have hf := zz_f c2 hf
      refine lv_bipush (v := (-2 : Int32)) hx hb dX4_runs_9 (by decide) ?_
      exact ret _ _ _ _ ((-2 : Int32), u) hf dX4_runs_11 hP hD hS
abbrev rX4_offAt : Room := ({ frames := 4, cells := 0, slots := 0, locals := 104 })
theorem mX4_offAt : zzM yX4_offAt wsX4_offAt cX4_offAt 2 (some .int) RX4 1 := ⟨⟨_, rfl⟩, by decide +kernel⟩
def fX4_offAt (u : zzS) (p0 : Int32) : Option (Int32 × zzS) := ((fX3_everyone 0 u).bind (fun r1 => ((fX4_countedOn 0 u p0 r1).bind (fun r2 => (some ((if 0 ≤ (r2.1 - (r2.2.1 0)) then (r2.1 - (r2.2.1 0)) else 0 - (r2.1 - (r2.2.1 0))), r2.2))))))
set_option maxHeartbeats 4000000 in
set_option maxRecDepth 100000 in
theorem kX4_offAt (l : Launch) (g : zzG) (q : Nat → Nat) (sz : Nat) (u : zzS) (p0 : Int32) (x : Int32 × zzS) (hf : fX4_offAt u p0 = some x) : zzI l g yX4_offAt wsX4_offAt rX4_offAt [.ref (q 0), .int p0] (zzX g q u) (zzX g q x.2) sz x.1 := by
  refine zz_mi (cc := cX4_offAt) (mL := 2) (own := RX4) (fun x : Int32 × zzS => x.1) (fun x : Int32 × zzS => (zzX g q x.2)) x (by decide) rfl rfl (Nat.le_of_ble_eq_true rfl) ?_
  intro p e s m below meth c A Q ls C ret hP hD hS hl
  have hl : lv_has ls 2 [(0, .ref (q 0)), (1, .int p0)] := hl
  have hx := C.1.1
  have hb := C.1.2.1
  have hml := C.1.2.2.1
  have hown := C.1.2.2.2.1
  have hts := C.1.2.2.2.2
  have hK := C.2.1
  have iX4 : ∀ w ∈ wsX40, w ∈ wsX4_offAt := fun _ h => List.mem_cons_of_mem _ (List.mem_append_left _ (List.mem_append_left _ (List.mem_append_right _ h)))
  have iX3 : ∀ w ∈ wsX30, w ∈ wsX4_offAt := fun _ h => List.mem_cons_of_mem _ (List.mem_append_left _ (List.mem_append_right _ h))
  have iX1 : ∀ w ∈ wsX10, w ∈ wsX4_offAt := fun _ h => List.mem_cons_of_mem _ (List.mem_append_right _ h)
  unfold fX4_offAt at hf
  refine lv_aload_n hx hb dX4_offAt_0 rfl (lv_at hl 0 rfl) ?_
  refine lv_aload_n hx hb dX4_offAt_1 rfl (lv_at hl 0 rfl) ?_
  refine va_get (D := g.1) (ci := 4) (v := .ref (q 1)) (C := RX4) (T := TX4) (N := 7) hx hb hts iX4 hown hK hP 0 rfl rfl 0 (by decide) (zz_mem hts 1 rfl) (fun _ h9 => h9) rfl dX4_offAt_2 ?_
  refine lv_iload_n hx hb dX4_offAt_5 rfl (lv_at hl 1 rfl) ?_
  refine lv_aload_n hx hb dX4_offAt_6 rfl (lv_at hl 0 rfl) ?_
  refine va_get (D := g.1) (ci := 4) (v := .ref (q 1)) (C := RX4) (T := TX4) (N := 7) hx hb hts iX4 hown hK hP 0 rfl rfl 0 (by decide) (zz_mem hts 1 rfl) (fun _ h9 => h9) rfl dX4_offAt_7 ?_
  obtain ⟨r1, hc1, hf⟩ := zz_bs hf
  refine zz_cVi C hP hD hS (kX3_everyone l g q _ 0 (by decide) u r1 hc1) gX4_offAt_X3_everyone mX3_everyone (by decide) ⟨Nat.zero_le _, Nat.zero_le _⟩ 1 rfl rfl rfl rfl (rest := [.int p0, .ref (q 1), .ref (q 0)]) rfl hl.1 (Nat.le_of_ble_eq_true rfl) dX4_offAt_10 (fun H locs hP hD hS => ?_)
  obtain ⟨r2, hc2, hf⟩ := zz_bs hf
  refine zz_cVi C hP hD hS (kX4_countedOn l g q _ 0 (by decide) u p0 r1 r2 hc2) gX4_offAt_X4_countedOn mX4_countedOn (by decide) ⟨Nat.zero_le _, Nat.zero_le _⟩ 0 rfl rfl rfl rfl (rest := []) rfl hl.1 (Nat.le_of_ble_eq_true rfl) dX4_offAt_13 (fun H locs hP hD hS => ?_)
  refine lv_aload_n hx hb dX4_offAt_16 rfl (lv_at hl 0 rfl) ?_
  refine va_get (D := g.1) (ci := 4) (v := .ref (q 1)) (C := RX4) (T := TX4) (N := 7) hx hb hts iX4 hown hK hP 0 rfl rfl 0 (by decide) (zz_mem hts 1 rfl) (fun _ h9 => h9) rfl dX4_offAt_17 ?_
  refine va_get (D := g.1) (ci := 3) (v := .int (r2.2.1 0)) (C := RX3) (T := TX3) (N := 6) hx hb hts iX3 hown hK hP 1 rfl rfl 3 (by decide) (zz_mem hts 2 rfl) (fun _ h9 => h9) rfl dX4_offAt_20 ?_
  refine lv_isub hx hb dX4_offAt_23 ?_
  refine va_mabs hx hb (by rw [hml]; exact hl.1.symm) hown (zz_mem hts 3 rfl) (zz_mem hts 4 rfl) (zz_mem hts 5 rfl) (zz_mem hts 6 rfl) (by decide) (Nat.le_of_ble_eq_true rfl) (Nat.zero_le _) (Nat.zero_le _) dX4_offAt_24 ?_
  exact ret _ _ _ _ ((if 0 ≤ (r2.1 - (r2.2.1 0)) then (r2.1 - (r2.2.1 0)) else 0 - (r2.1 - (r2.2.1 0))), r2.2) hf dX4_offAt_27 hP hD hS
abbrev rX4_fair : Room := ({ frames := 5, cells := 0, slots := 0, locals := 125 })
theorem mX4_fair : zzM yX4_fair wsX4_fair cX4_fair 5 (some .int) RX4 0 := ⟨⟨_, rfl⟩, by decide +kernel⟩
def sX4_fair_23  : (Int32 × Int32 × Int32 × zzS) → ((Int32 × Int32 × Int32 × zzS) → Option (Int32 × zzS)) → Option (Int32 × zzS) := fun v4 rec5 => (if (3 : Int32) < v4.2.2.1 then (some (v4.1, v4.2.2.2)) else ((fX4_offAt v4.2.2.2 v4.2.2.1).bind (fun r8 => (if v4.2.1 ≤ r8.1 then (rec5 (v4.1, v4.2.1, (v4.2.2.1 + (1 : Int32)), r8.2)) else (rec5 (v4.2.2.1, r8.1, (v4.2.2.1 + (1 : Int32)), r8.2))))))
set_option maxHeartbeats 4000000 in
set_option maxRecDepth 100000 in
theorem wX4_fair_23 (l : Launch) (g : zzG) (q : Nat → Nat)  (x : Int32 × zzS) {p : Program} {e : Env} {s : State} {m : MethodId} {below : List Frame} {meth : Method} {c : Code} {A : Nat → Prop} {Q : State → Prop} (C : zzC g p s m ([.ref (q 0)] : List Value).toArray c cX4_fair 5 RX4 wsX4_fair A) (ret : zzRI l g rX4_fair cX4_fair [.ref (q 0)] (fun x : Int32 × zzS => x.1) (fun x : Int32 × zzS => (zzX g q x.2)) x p e s m below meth c A Q)  (n : Nat) (v4 : Int32 × Int32 × Int32 × zzS) (hf : zzlp (sX4_fair_23 ) n v4 = some x) : ∀ (H : Heap) (locs : List Loc) (ls : Array Slot), va_P g.1 vwCl (zzX g q v4.2.2.2) H → va_D A (zzX g q v4.2.2.2) → va_S A s.heap H locs → lv_has ls 5 [(0, .ref (q 0)), (1, .int (v4.1)), (2, .int (v4.2.1)), (3, .int (v4.2.2.1))] → W p l e rX4_fair s m ([.ref (q 0)] : List Value).toArray below meth c H locs 0 0 Q (F0 m 23 ls []) := by
  have hx := C.1.1
  have hb := C.1.2.1
  have hml := C.1.2.2.1
  have hown := C.1.2.2.2.1
  have hts := C.1.2.2.2.2
  have hK := C.2.1
  have iX4 : ∀ w ∈ wsX40, w ∈ wsX4_fair := fun _ h => List.mem_cons_of_mem _ (List.mem_append_left _ (List.mem_append_left _ (List.mem_append_right _ h)))
  have iX3 : ∀ w ∈ wsX30, w ∈ wsX4_fair := fun _ h => List.mem_cons_of_mem _ (List.mem_append_left _ (List.mem_append_right _ h))
  have iX1 : ∀ w ∈ wsX10, w ∈ wsX4_fair := fun _ h => List.mem_cons_of_mem _ (List.mem_append_right _ h)
  refine zz_lp (P := fun (v4 : Int32 × Int32 × Int32 × zzS) => ∀ (H : Heap) (locs : List Loc) (ls : Array Slot), va_P g.1 vwCl (zzX g q v4.2.2.2) H → va_D A (zzX g q v4.2.2.2) → va_S A s.heap H locs → lv_has ls 5 [(0, .ref (q 0)), (1, .int (v4.1)), (2, .int (v4.2.1)), (3, .int (v4.2.2.1))] → W p l e rX4_fair s m ([.ref (q 0)] : List Value).toArray below meth c H locs 0 0 Q (F0 m 23 ls [])) (fun v4 rec5 ih6 hf H locs ls hP hD hS hl => ?_) n v4 hf
  unfold sX4_fair_23 at hf
  refine lv_iload_n hx hb dX4_fair_23 rfl (lv_at hl 3 rfl) ?_
  refine lv_iconst (v := (3 : Int32)) hx hb dX4_fair_24 (by decide) ?_
  refine lv_icmp_gt (tgt := 52) hx hb dX4_fair_25 (by decide) (fun c7 => ?_) (fun c7 => ?_)
  · have hf := zz_t c7 hf
    refine lv_iload_n hx hb dX4_fair_52 rfl (lv_at hl 1 rfl) ?_
    exact ret _ _ _ _ (v4.1, v4.2.2.2) hf dX4_fair_53 hP hD hS
  · have hf := zz_f c7 hf
    refine lv_aload_n hx hb dX4_fair_28 rfl (lv_at hl 0 rfl) ?_
    refine lv_iload_n hx hb dX4_fair_29 rfl (lv_at hl 3 rfl) ?_
    obtain ⟨r8, hc8, hf⟩ := zz_bs hf
    refine zz_cVi C hP hD hS (kX4_offAt l g q _ v4.2.2.2 v4.2.2.1 r8 hc8) gX4_fair_X4_offAt mX4_offAt (by decide) ⟨Nat.zero_le _, Nat.zero_le _⟩ 0 rfl rfl rfl rfl (rest := []) rfl hl.1 (Nat.le_of_ble_eq_true rfl) dX4_fair_30 (fun H locs hP hD hS => ?_)
    refine lv_istore (lv' := [(4, .int (r8.1)), (0, .ref (q 0)), (1, .int (v4.1)), (2, .int (v4.2.1)), (3, .int (v4.2.2.1))]) hx hb dX4_fair_33 hl (by decide) rfl (fun ls hl => ?_)
    refine lv_iload hx hb dX4_fair_35 (lv_at hl 0 rfl) ?_
    refine lv_iload_n hx hb dX4_fair_37 rfl (lv_at hl 3 rfl) ?_
    refine lv_icmp_ge (tgt := 46) hx hb dX4_fair_38 (by decide) (fun c9 => ?_) (fun c9 => ?_)
    · have hf := zz_t c9 hf
      refine lv_iinc (v := (v4.2.2.1 + (1 : Int32))) (lv' := [(3, .int (v4.2.2.1 + (1 : Int32))), (4, .int (r8.1)), (0, .ref (q 0)), (1, .int (v4.1)), (2, .int (v4.2.1))]) hx hb dX4_fair_46 hl (k := 4) rfl rfl (by decide) rfl (fun ls hl => ?_)
      refine lv_goto (tgt := 23) hx hb dX4_fair_49 (by decide) ?_
      exact ih6 _ hf _ _ _ hP hD hS (lv_sub hl [2, 3, 4, 0] rfl)
    · have hf := zz_f c9 hf
      refine lv_iload_n hx hb dX4_fair_41 rfl (lv_at hl 4 rfl) ?_
      refine lv_istore_n (lv' := [(1, .int (v4.2.2.1)), (4, .int (r8.1)), (0, .ref (q 0)), (2, .int (v4.2.1)), (3, .int (v4.2.2.1))]) hx hb dX4_fair_42 rfl hl (by decide) rfl (fun ls hl => ?_)
      refine lv_iload hx hb dX4_fair_43 (lv_at hl 1 rfl) ?_
      refine lv_istore_n (lv' := [(2, .int (r8.1)), (1, .int (v4.2.2.1)), (4, .int (r8.1)), (0, .ref (q 0)), (3, .int (v4.2.2.1))]) hx hb dX4_fair_45 rfl hl (by decide) rfl (fun ls hl => ?_)
      refine lv_iinc (v := (v4.2.2.1 + (1 : Int32))) (lv' := [(3, .int (v4.2.2.1 + (1 : Int32))), (2, .int (r8.1)), (1, .int (v4.2.2.1)), (4, .int (r8.1)), (0, .ref (q 0))]) hx hb dX4_fair_46 hl (k := 4) rfl rfl (by decide) rfl (fun ls hl => ?_)
      refine lv_goto (tgt := 23) hx hb dX4_fair_49 (by decide) ?_
      exact ih6 _ hf _ _ _ hP hD hS (lv_sub hl [4, 2, 1, 0] rfl)
def fX4_fair (u : zzS) : Option (Int32 × zzS) := ((fX3_isLaid 0 u).bind (fun r1 => (if r1 = 0 then (some ((-3 : Int32), u)) else ((fX4_offAt u (1 : Int32)).bind (fun r3 => (zzlp (sX4_fair_23 ) zzFU ((1 : Int32), r3.1, (2 : Int32), r3.2)))))))
set_option maxHeartbeats 4000000 in
set_option maxRecDepth 100000 in
theorem kX4_fair (l : Launch) (g : zzG) (q : Nat → Nat) (sz : Nat) (u : zzS)  (x : Int32 × zzS) (hf : fX4_fair u = some x) : zzI l g yX4_fair wsX4_fair rX4_fair [.ref (q 0)] (zzX g q u) (zzX g q x.2) sz x.1 := by
  refine zz_mi (cc := cX4_fair) (mL := 5) (own := RX4) (fun x : Int32 × zzS => x.1) (fun x : Int32 × zzS => (zzX g q x.2)) x (by decide) rfl rfl (Nat.le_of_ble_eq_true rfl) ?_
  intro p e s m below meth c A Q ls C ret hP hD hS hl
  have hl : lv_has ls 5 [(0, .ref (q 0))] := hl
  have hx := C.1.1
  have hb := C.1.2.1
  have hml := C.1.2.2.1
  have hown := C.1.2.2.2.1
  have hts := C.1.2.2.2.2
  have hK := C.2.1
  have iX4 : ∀ w ∈ wsX40, w ∈ wsX4_fair := fun _ h => List.mem_cons_of_mem _ (List.mem_append_left _ (List.mem_append_left _ (List.mem_append_right _ h)))
  have iX3 : ∀ w ∈ wsX30, w ∈ wsX4_fair := fun _ h => List.mem_cons_of_mem _ (List.mem_append_left _ (List.mem_append_right _ h))
  have iX1 : ∀ w ∈ wsX10, w ∈ wsX4_fair := fun _ h => List.mem_cons_of_mem _ (List.mem_append_right _ h)
  unfold fX4_fair at hf
  refine lv_aload_n hx hb dX4_fair_0 rfl (lv_at hl 0 rfl) ?_
  refine va_get (D := g.1) (ci := 4) (v := .ref (q 1)) (C := RX4) (T := TX4) (N := 7) hx hb hts iX4 hown hK hP 0 rfl rfl 0 (by decide) (zz_mem hts 1 rfl) (fun _ h9 => h9) rfl dX4_fair_1 ?_
  obtain ⟨r1, hc1, hf⟩ := zz_bs hf
  refine zz_cVz C hP hD hS (kX3_isLaid l g q _ 0 (by decide) u r1 hc1) gX4_fair_X3_isLaid mX3_isLaid (by decide) ⟨Nat.zero_le _, Nat.zero_le _⟩ 1 rfl rfl rfl rfl (rest := []) rfl hl.1 (Nat.le_of_ble_eq_true rfl) dX4_fair_4 (fun hz1 H locs hP hD hS => ?_)
  refine lv_if_ne (tgt := 13) hx hb dX4_fair_7 (by decide) (fun c2 => ?_) (fun c2 => ?_)
  · have hf := zz_f c2 hf
    refine lv_iconst (v := (1 : Int32)) hx hb dX4_fair_13 (by decide) ?_
    refine lv_istore_n (lv' := [(1, .int (1 : Int32)), (0, .ref (q 0))]) hx hb dX4_fair_14 rfl hl (by decide) rfl (fun ls hl => ?_)
    refine lv_aload_n hx hb dX4_fair_15 rfl (lv_at hl 1 rfl) ?_
    refine lv_iconst (v := (1 : Int32)) hx hb dX4_fair_16 (by decide) ?_
    obtain ⟨r3, hc3, hf⟩ := zz_bs hf
    refine zz_cVi C hP hD hS (kX4_offAt l g q _ u (1 : Int32) r3 hc3) gX4_fair_X4_offAt mX4_offAt (by decide) ⟨Nat.zero_le _, Nat.zero_le _⟩ 0 rfl rfl rfl rfl (rest := []) rfl hl.1 (Nat.le_of_ble_eq_true rfl) dX4_fair_17 (fun H locs hP hD hS => ?_)
    refine lv_istore_n (lv' := [(2, .int (r3.1)), (1, .int (1 : Int32)), (0, .ref (q 0))]) hx hb dX4_fair_20 rfl hl (by decide) rfl (fun ls hl => ?_)
    refine lv_iconst (v := (2 : Int32)) hx hb dX4_fair_21 (by decide) ?_
    refine lv_istore_n (lv' := [(3, .int (2 : Int32)), (2, .int (r3.1)), (1, .int (1 : Int32)), (0, .ref (q 0))]) hx hb dX4_fair_22 rfl hl (by decide) rfl (fun ls hl => ?_)
    exact wX4_fair_23 l g q  x C ret  _ _ hf _ _ _ hP hD hS (lv_sub hl [3, 2, 1, 0] rfl)
  · have hf := zz_t c2 hf
    refine lv_bipush (v := (-3 : Int32)) hx hb dX4_fair_10 (by decide) ?_
    exact ret _ _ _ _ ((-3 : Int32), u) hf dX4_fair_12 hP hD hS
abbrev rX4_isAskedOfWalks : Room := ({ frames := 0, cells := 0, slots := 0, locals := 0 })
theorem mX4_isAskedOfWalks : zzM yX4_isAskedOfWalks wsX4_isAskedOfWalks cX4_isAskedOfWalks 1 (some .boolean) RX4 1 := ⟨⟨_, rfl⟩, by decide +kernel⟩
def fX4_isAskedOfWalks (p0 : Int32) : Option Int32 := (if p0 < 0 then (if p0 < (10 : Int32) then (some (0 : Int32)) else (if (15 : Int32) ≤ p0 then (some (0 : Int32)) else (some (1 : Int32)))) else (if p0 ≤ (3 : Int32) then (some (1 : Int32)) else (if p0 < (10 : Int32) then (some (0 : Int32)) else (if (15 : Int32) ≤ p0 then (some (0 : Int32)) else (some (1 : Int32))))))
set_option maxHeartbeats 4000000 in
set_option maxRecDepth 100000 in
theorem kX4_isAskedOfWalks (l : Launch) (g : zzG) (w : va_W) (sz : Nat)  (p0 : Int32) (x : Int32) (hf : fX4_isAskedOfWalks p0 = some x) : zzZ l g yX4_isAskedOfWalks wsX4_isAskedOfWalks rX4_isAskedOfWalks [.int p0] w w sz x := by
  refine zz_mz (cc := cX4_isAskedOfWalks) (mL := 1) (own := RX4) (fun x : Int32 => x) (fun x : Int32 => w) x (by decide) rfl rfl (Nat.le_of_ble_eq_true rfl) ?_
  intro p e s m below meth c A Q ls C ret hP hD hS hl
  have hl : lv_has ls 1 [(0, .int p0)] := hl
  have hx := C.1.1
  have hb := C.1.2.1
  have hml := C.1.2.2.1
  have hown := C.1.2.2.2.1
  have hts := C.1.2.2.2.2
  have hK := C.2.1
  unfold fX4_isAskedOfWalks at hf
  refine lv_iload_n hx hb dX4_isAskedOfWalks_0 rfl (lv_at hl 0 rfl) ?_
  refine lv_if_lt (tgt := 9) hx hb dX4_isAskedOfWalks_1 (by decide) (fun c1 => ?_) (fun c1 => ?_)
  · have hf := zz_t c1 hf
    refine lv_iload_n hx hb dX4_isAskedOfWalks_9 rfl (lv_at hl 0 rfl) ?_
    refine lv_bipush (v := (10 : Int32)) hx hb dX4_isAskedOfWalks_10 (by decide) ?_
    refine lv_icmp_lt (tgt := 25) hx hb dX4_isAskedOfWalks_12 (by decide) (fun c2 => ?_) (fun c2 => ?_)
    · have hf := zz_t c2 hf
      refine lv_iconst (v := (0 : Int32)) hx hb dX4_isAskedOfWalks_25 (by decide) ?_
      exact ret _ _ _ _ (0 : Int32) hf dX4_isAskedOfWalks_26 zz_n0 hP hD hS
    · have hf := zz_f c2 hf
      refine lv_iload_n hx hb dX4_isAskedOfWalks_15 rfl (lv_at hl 0 rfl) ?_
      refine lv_bipush (v := (15 : Int32)) hx hb dX4_isAskedOfWalks_16 (by decide) ?_
      refine lv_icmp_ge (tgt := 25) hx hb dX4_isAskedOfWalks_18 (by decide) (fun c3 => ?_) (fun c3 => ?_)
      · have hf := zz_t c3 hf
        refine lv_iconst (v := (0 : Int32)) hx hb dX4_isAskedOfWalks_25 (by decide) ?_
        exact ret _ _ _ _ (0 : Int32) hf dX4_isAskedOfWalks_26 zz_n0 hP hD hS
      · have hf := zz_f c3 hf
        refine lv_iconst (v := (1 : Int32)) hx hb dX4_isAskedOfWalks_21 (by decide) ?_
        refine lv_goto (tgt := 26) hx hb dX4_isAskedOfWalks_22 (by decide) ?_
        exact ret _ _ _ _ (1 : Int32) hf dX4_isAskedOfWalks_26 zz_n1 hP hD hS
  · have hf := zz_f c1 hf
    refine lv_iload_n hx hb dX4_isAskedOfWalks_4 rfl (lv_at hl 0 rfl) ?_
    refine lv_iconst (v := (3 : Int32)) hx hb dX4_isAskedOfWalks_5 (by decide) ?_
    refine lv_icmp_le (tgt := 21) hx hb dX4_isAskedOfWalks_6 (by decide) (fun c4 => ?_) (fun c4 => ?_)
    · have hf := zz_t c4 hf
      refine lv_iconst (v := (1 : Int32)) hx hb dX4_isAskedOfWalks_21 (by decide) ?_
      refine lv_goto (tgt := 26) hx hb dX4_isAskedOfWalks_22 (by decide) ?_
      exact ret _ _ _ _ (1 : Int32) hf dX4_isAskedOfWalks_26 zz_n1 hP hD hS
    · have hf := zz_f c4 hf
      refine lv_iload_n hx hb dX4_isAskedOfWalks_9 rfl (lv_at hl 0 rfl) ?_
      refine lv_bipush (v := (10 : Int32)) hx hb dX4_isAskedOfWalks_10 (by decide) ?_
      refine lv_icmp_lt (tgt := 25) hx hb dX4_isAskedOfWalks_12 (by decide) (fun c5 => ?_) (fun c5 => ?_)
      · have hf := zz_t c5 hf
        refine lv_iconst (v := (0 : Int32)) hx hb dX4_isAskedOfWalks_25 (by decide) ?_
        exact ret _ _ _ _ (0 : Int32) hf dX4_isAskedOfWalks_26 zz_n0 hP hD hS
      · have hf := zz_f c5 hf
        refine lv_iload_n hx hb dX4_isAskedOfWalks_15 rfl (lv_at hl 0 rfl) ?_
        refine lv_bipush (v := (15 : Int32)) hx hb dX4_isAskedOfWalks_16 (by decide) ?_
        refine lv_icmp_ge (tgt := 25) hx hb dX4_isAskedOfWalks_18 (by decide) (fun c6 => ?_) (fun c6 => ?_)
        · have hf := zz_t c6 hf
          refine lv_iconst (v := (0 : Int32)) hx hb dX4_isAskedOfWalks_25 (by decide) ?_
          exact ret _ _ _ _ (0 : Int32) hf dX4_isAskedOfWalks_26 zz_n0 hP hD hS
        · have hf := zz_f c6 hf
          refine lv_iconst (v := (1 : Int32)) hx hb dX4_isAskedOfWalks_21 (by decide) ?_
          refine lv_goto (tgt := 26) hx hb dX4_isAskedOfWalks_22 (by decide) ?_
          exact ret _ _ _ _ (1 : Int32) hf dX4_isAskedOfWalks_26 zz_n1 hP hD hS
abbrev rX4_refusalOfPairs : Room := ({ frames := 2, cells := 0, slots := 0, locals := 42 })
theorem mX4_refusalOfPairs : zzM yX4_refusalOfPairs wsX4_refusalOfPairs cX4_refusalOfPairs 5 (some .int) RX4 3 := ⟨⟨_, rfl⟩, by decide +kernel⟩
def sX4_refusalOfPairs_3 (p0 : Int32) (p1 : Int32) (j : Nat) (u : zzS) : (Int32) → ((Int32) → Option Int32) → Option Int32 := fun v1 rec2 => (if p1 ≤ v1 then (some (0 : Int32)) else ((fX2_at j u (p0 + ((2 : Int32) * v1))).bind (fun r5 => ((fX3_has 0 u r5).bind (fun r6 => (if r6 = 0 then (some (-1 : Int32)) else ((fX2_at j u ((p0 + ((2 : Int32) * v1)) + (1 : Int32))).bind (fun r8 => ((fX4_isDigit r8).bind (fun r9 => (if r9 = 0 then (some (-2 : Int32)) else (rec2 ((v1 + (1 : Int32)))))))))))))))
set_option maxHeartbeats 4000000 in
set_option maxRecDepth 100000 in
theorem wX4_refusalOfPairs_3 (l : Launch) (g : zzG) (q : Nat → Nat) (p0 : Int32) (p1 : Int32) (j : Nat) (u : zzS) (x : Int32) {p : Program} {e : Env} {s : State} {m : MethodId} {below : List Frame} {meth : Method} {c : Code} {A : Nat → Prop} {Q : State → Prop} (C : zzC g p s m ([.ref (q 0), .ref (q (14 + 2 * j)), .int p0, .int p1] : List Value).toArray c cX4_refusalOfPairs 5 RX4 wsX4_refusalOfPairs A) (ret : zzRI l g rX4_refusalOfPairs cX4_refusalOfPairs [.ref (q 0), .ref (q (14 + 2 * j)), .int p0, .int p1] (fun x : Int32 => x) (fun x : Int32 => (zzX g q u)) x p e s m below meth c A Q) (hj : j < 4) (n : Nat) (v1 : Int32) (hf : zzlp (sX4_refusalOfPairs_3 p0 p1 j u) n v1 = some x) : ∀ (H : Heap) (locs : List Loc) (ls : Array Slot), va_P g.1 vwCl (zzX g q u) H → va_D A (zzX g q u) → va_S A s.heap H locs → lv_has ls 5 [(0, .ref (q 0)), (1, .ref (q (14 + 2 * j))), (2, .int p0), (3, .int p1), (4, .int v1)] → W p l e rX4_refusalOfPairs s m ([.ref (q 0), .ref (q (14 + 2 * j)), .int p0, .int p1] : List Value).toArray below meth c H locs 0 0 Q (F0 m 3 ls []) := by
  have hx := C.1.1
  have hb := C.1.2.1
  have hml := C.1.2.2.1
  have hown := C.1.2.2.2.1
  have hts := C.1.2.2.2.2
  have hK := C.2.1
  have iX4 : ∀ w ∈ wsX40, w ∈ wsX4_refusalOfPairs := fun _ h => List.mem_cons_of_mem _ (List.mem_append_left _ (List.mem_append_left _ (List.mem_append_right _ h)))
  have iX2 : ∀ w ∈ wsX20, w ∈ wsX4_refusalOfPairs := fun _ h => List.mem_cons_of_mem _ (List.mem_append_left _ (List.mem_append_right _ h))
  have iX3 : ∀ w ∈ wsX30, w ∈ wsX4_refusalOfPairs := fun _ h => List.mem_cons_of_mem _ (List.mem_append_right _ h)
  refine zz_lp (P := fun (v1 : Int32) => ∀ (H : Heap) (locs : List Loc) (ls : Array Slot), va_P g.1 vwCl (zzX g q u) H → va_D A (zzX g q u) → va_S A s.heap H locs → lv_has ls 5 [(0, .ref (q 0)), (1, .ref (q (14 + 2 * j))), (2, .int p0), (3, .int p1), (4, .int v1)] → W p l e rX4_refusalOfPairs s m ([.ref (q 0), .ref (q (14 + 2 * j)), .int p0, .int p1] : List Value).toArray below meth c H locs 0 0 Q (F0 m 3 ls [])) (fun v1 rec2 ih3 hf H locs ls hP hD hS hl => ?_) n v1 hf
  unfold sX4_refusalOfPairs_3 at hf
  refine lv_iload hx hb dX4_refusalOfPairs_3 (lv_at hl 4 rfl) ?_
  refine lv_iload_n hx hb dX4_refusalOfPairs_5 rfl (lv_at hl 3 rfl) ?_
  refine lv_icmp_ge (tgt := 58) hx hb dX4_refusalOfPairs_6 (by decide) (fun c4 => ?_) (fun c4 => ?_)
  · have hf := zz_t c4 hf
    refine lv_iconst (v := (0 : Int32)) hx hb dX4_refusalOfPairs_58 (by decide) ?_
    exact ret _ _ _ _ (0 : Int32) hf dX4_refusalOfPairs_59 hP hD hS
  · have hf := zz_f c4 hf
    refine lv_aload_n hx hb dX4_refusalOfPairs_9 rfl (lv_at hl 0 rfl) ?_
    refine va_get (D := g.1) (ci := 4) (v := .ref (q 1)) (C := RX4) (T := TX4) (N := 7) hx hb hts iX4 hown hK hP 0 rfl rfl 0 (by decide) (zz_mem hts 1 rfl) (fun _ h9 => h9) rfl dX4_refusalOfPairs_10 ?_
    refine lv_aload_n hx hb dX4_refusalOfPairs_13 rfl (lv_at hl 1 rfl) ?_
    refine lv_iload_n hx hb dX4_refusalOfPairs_14 rfl (lv_at hl 2 rfl) ?_
    refine lv_iconst (v := (2 : Int32)) hx hb dX4_refusalOfPairs_15 (by decide) ?_
    refine lv_iload hx hb dX4_refusalOfPairs_16 (lv_at hl 4 rfl) ?_
    refine lv_imul hx hb dX4_refusalOfPairs_18 ?_
    refine lv_iadd hx hb dX4_refusalOfPairs_19 ?_
    obtain ⟨r5, hc5, hf⟩ := zz_bs hf
    refine zz_cVi C hP hD hS (kX2_at l g q _ j hj u (p0 + ((2 : Int32) * v1)) r5 hc5) gX4_refusalOfPairs_X2_at mX2_at (by decide) ⟨Nat.zero_le _, Nat.zero_le _⟩ (14 + 2 * j) (zx_sh g q u hj) rfl rfl rfl (rest := [.ref (q 1)]) rfl hl.1 (Nat.le_of_ble_eq_true rfl) dX4_refusalOfPairs_20 (fun H locs hP hD hS => ?_)
    obtain ⟨r6, hc6, hf⟩ := zz_bs hf
    refine zz_cVz C hP hD hS (kX3_has l g q _ 0 (by decide) u r5 r6 hc6) gX4_refusalOfPairs_X3_has mX3_has (by decide) ⟨Nat.zero_le _, Nat.zero_le _⟩ 1 rfl rfl rfl rfl (rest := []) rfl hl.1 (Nat.le_of_ble_eq_true rfl) dX4_refusalOfPairs_23 (fun hz6 H locs hP hD hS => ?_)
    refine lv_if_ne (tgt := 31) hx hb dX4_refusalOfPairs_26 (by decide) (fun c7 => ?_) (fun c7 => ?_)
    · have hf := zz_f c7 hf
      refine lv_aload_n hx hb dX4_refusalOfPairs_31 rfl (lv_at hl 1 rfl) ?_
      refine lv_iload_n hx hb dX4_refusalOfPairs_32 rfl (lv_at hl 2 rfl) ?_
      refine lv_iconst (v := (2 : Int32)) hx hb dX4_refusalOfPairs_33 (by decide) ?_
      refine lv_iload hx hb dX4_refusalOfPairs_34 (lv_at hl 4 rfl) ?_
      refine lv_imul hx hb dX4_refusalOfPairs_36 ?_
      refine lv_iadd hx hb dX4_refusalOfPairs_37 ?_
      refine lv_iconst (v := (1 : Int32)) hx hb dX4_refusalOfPairs_38 (by decide) ?_
      refine lv_iadd hx hb dX4_refusalOfPairs_39 ?_
      obtain ⟨r8, hc8, hf⟩ := zz_bs hf
      refine zz_cVi C hP hD hS (kX2_at l g q _ j hj u ((p0 + ((2 : Int32) * v1)) + (1 : Int32)) r8 hc8) gX4_refusalOfPairs_X2_at mX2_at (by decide) ⟨Nat.zero_le _, Nat.zero_le _⟩ (14 + 2 * j) (zx_sh g q u hj) rfl rfl rfl (rest := []) rfl hl.1 (Nat.le_of_ble_eq_true rfl) dX4_refusalOfPairs_40 (fun H locs hP hD hS => ?_)
      obtain ⟨r9, hc9, hf⟩ := zz_bs hf
      refine zz_cSz C hP hD hS (kX4_isDigit l g (zzX g q u) _ r8 r9 hc9) gX4_refusalOfPairs_X4_isDigit mX4_isDigit (by decide) ⟨Nat.zero_le _, Nat.zero_le _⟩ rfl (rest := []) rfl hl.1 (Nat.le_of_ble_eq_true rfl) dX4_refusalOfPairs_43 (fun hz9 H locs hP hD hS => ?_)
      refine lv_if_ne (tgt := 52) hx hb dX4_refusalOfPairs_46 (by decide) (fun c10 => ?_) (fun c10 => ?_)
      · have hf := zz_f c10 hf
        refine lv_iinc (v := (v1 + (1 : Int32))) (lv' := [(4, .int (v1 + (1 : Int32))), (0, .ref (q 0)), (1, .ref (q (14 + 2 * j))), (2, .int p0), (3, .int p1)]) hx hb dX4_refusalOfPairs_52 hl (k := 4) rfl rfl (by decide) rfl (fun ls hl => ?_)
        refine lv_goto (tgt := 3) hx hb dX4_refusalOfPairs_55 (by decide) ?_
        exact ih3 _ hf _ _ _ hP hD hS (lv_sub hl [1, 2, 3, 4, 0] rfl)
      · have hf := zz_t c10 hf
        refine lv_bipush (v := (-2 : Int32)) hx hb dX4_refusalOfPairs_49 (by decide) ?_
        exact ret _ _ _ _ (-2 : Int32) hf dX4_refusalOfPairs_51 hP hD hS
    · have hf := zz_t c7 hf
      refine lv_iconst (v := (-1 : Int32)) hx hb dX4_refusalOfPairs_29 (by decide) ?_
      exact ret _ _ _ _ (-1 : Int32) hf dX4_refusalOfPairs_30 hP hD hS
def fX4_refusalOfPairs (j : Nat) (u : zzS) (p0 : Int32) (p1 : Int32) : Option Int32 := (zzlp (sX4_refusalOfPairs_3 p0 p1 j u) zzFU ((0 : Int32)))
set_option maxHeartbeats 4000000 in
set_option maxRecDepth 100000 in
theorem kX4_refusalOfPairs (l : Launch) (g : zzG) (q : Nat → Nat) (sz : Nat) (j : Nat) (hj : j < 4) (u : zzS) (p0 : Int32) (p1 : Int32) (x : Int32) (hf : fX4_refusalOfPairs j u p0 p1 = some x) : zzI l g yX4_refusalOfPairs wsX4_refusalOfPairs rX4_refusalOfPairs [.ref (q 0), .ref (q (14 + 2 * j)), .int p0, .int p1] (zzX g q u) (zzX g q u) sz x := by
  refine zz_mi (cc := cX4_refusalOfPairs) (mL := 5) (own := RX4) (fun x : Int32 => x) (fun x : Int32 => (zzX g q u)) x (by decide) rfl rfl (Nat.le_of_ble_eq_true rfl) ?_
  intro p e s m below meth c A Q ls C ret hP hD hS hl
  have hl : lv_has ls 5 [(0, .ref (q 0)), (1, .ref (q (14 + 2 * j))), (2, .int p0), (3, .int p1)] := hl
  have hx := C.1.1
  have hb := C.1.2.1
  have hml := C.1.2.2.1
  have hown := C.1.2.2.2.1
  have hts := C.1.2.2.2.2
  have hK := C.2.1
  have iX4 : ∀ w ∈ wsX40, w ∈ wsX4_refusalOfPairs := fun _ h => List.mem_cons_of_mem _ (List.mem_append_left _ (List.mem_append_left _ (List.mem_append_right _ h)))
  have iX2 : ∀ w ∈ wsX20, w ∈ wsX4_refusalOfPairs := fun _ h => List.mem_cons_of_mem _ (List.mem_append_left _ (List.mem_append_right _ h))
  have iX3 : ∀ w ∈ wsX30, w ∈ wsX4_refusalOfPairs := fun _ h => List.mem_cons_of_mem _ (List.mem_append_right _ h)
  unfold fX4_refusalOfPairs at hf
  refine lv_iconst (v := (0 : Int32)) hx hb dX4_refusalOfPairs_0 (by decide) ?_
  refine lv_istore (lv' := [(4, .int (0 : Int32)), (0, .ref (q 0)), (1, .ref (q (14 + 2 * j))), (2, .int p0), (3, .int p1)]) hx hb dX4_refusalOfPairs_1 hl (by decide) rfl (fun ls hl => ?_)
  exact wX4_refusalOfPairs_3 l g q p0 p1 j u x C ret hj _ _ hf _ _ _ hP hD hS (lv_sub hl [1, 2, 3, 4, 0] rfl)
abbrev rX4_walkOnTrial : Room := ({ frames := 2, cells := 0, slots := 0, locals := 44 })
theorem mX4_walkOnTrial : zzM yX4_walkOnTrial wsX4_walkOnTrial cX4_walkOnTrial 8 (some .int) RX4 3 := ⟨⟨_, rfl⟩, by decide +kernel⟩
def sX4_walkOnTrial_17 (p0 : Int32) (p1 : Int32) (j : Nat) : (Int32 × Int32 × zzS) → ((Int32 × Int32 × zzS) → Option (Int32 × zzS)) → Option (Int32 × zzS) := fun v2 rec3 => (if p1 ≤ v2.2.1 then (some (v2.1, v2.2.2)) else ((fX2_at j v2.2.2 (p0 + ((2 : Int32) * v2.2.1))).bind (fun r6 => ((fX2_at j v2.2.2 ((p0 + ((2 : Int32) * v2.2.1)) + (1 : Int32))).bind (fun r7 => ((fX3_has 1 v2.2.2 r6).bind (fun r8 => (if r8 = 0 then (some (((-100 : Int32) - v2.2.1), v2.2.2)) else ((fX3_isAnotherOn 1 v2.2.2 r7 r6).bind (fun r10 => (if r10 = 0 then (zzga (v2.2.2.2 4) 5 r6 (fun x13 => (zzpa 5 r6 (rec3 ((v2.1 + (if 0 ≤ (r7 - x13) then (r7 - x13) else 0 - (r7 - x13))), (v2.2.1 + (1 : Int32)), (zza v2.2.2 4 r6.toNatClampNeg r7)))))) else (some (((-100 : Int32) - v2.2.1), v2.2.2)))))))))))))
set_option maxHeartbeats 4000000 in
set_option maxRecDepth 100000 in
theorem wX4_walkOnTrial_17 (l : Launch) (g : zzG) (q : Nat → Nat) (p0 : Int32) (p1 : Int32) (j : Nat) (x : Int32 × zzS) {p : Program} {e : Env} {s : State} {m : MethodId} {below : List Frame} {meth : Method} {c : Code} {A : Nat → Prop} {Q : State → Prop} (C : zzC g p s m ([.ref (q 0), .ref (q (14 + 2 * j)), .int p0, .int p1] : List Value).toArray c cX4_walkOnTrial 8 RX4 wsX4_walkOnTrial A) (ret : zzRI l g rX4_walkOnTrial cX4_walkOnTrial [.ref (q 0), .ref (q (14 + 2 * j)), .int p0, .int p1] (fun x : Int32 × zzS => x.1) (fun x : Int32 × zzS => (zzX g q x.2)) x p e s m below meth c A Q) (hj : j < 4) (n : Nat) (v2 : Int32 × Int32 × zzS) (hf : zzlp (sX4_walkOnTrial_17 p0 p1 j) n v2 = some x) : ∀ (H : Heap) (locs : List Loc) (ls : Array Slot), va_P g.1 vwCl (zzX g q v2.2.2) H → va_D A (zzX g q v2.2.2) → va_S A s.heap H locs → lv_has ls 8 [(0, .ref (q 0)), (1, .ref (q (14 + 2 * j))), (2, .int p0), (3, .int p1), (4, .int (v2.1)), (5, .int (v2.2.1))] → W p l e rX4_walkOnTrial s m ([.ref (q 0), .ref (q (14 + 2 * j)), .int p0, .int p1] : List Value).toArray below meth c H locs 0 0 Q (F0 m 17 ls []) := by
  have hx := C.1.1
  have hb := C.1.2.1
  have hml := C.1.2.2.1
  have hown := C.1.2.2.2.1
  have hts := C.1.2.2.2.2
  have hK := C.2.1
  have iX4 : ∀ w ∈ wsX40, w ∈ wsX4_walkOnTrial := fun _ h => List.mem_cons_of_mem _ (List.mem_append_left _ (List.mem_append_left _ (List.mem_append_right _ h)))
  have iX3 : ∀ w ∈ wsX30, w ∈ wsX4_walkOnTrial := fun _ h => List.mem_cons_of_mem _ (List.mem_append_left _ (List.mem_append_right _ h))
  have iX2 : ∀ w ∈ wsX20, w ∈ wsX4_walkOnTrial := fun _ h => List.mem_cons_of_mem _ (List.mem_append_right _ h)
  refine zz_lp (P := fun (v2 : Int32 × Int32 × zzS) => ∀ (H : Heap) (locs : List Loc) (ls : Array Slot), va_P g.1 vwCl (zzX g q v2.2.2) H → va_D A (zzX g q v2.2.2) → va_S A s.heap H locs → lv_has ls 8 [(0, .ref (q 0)), (1, .ref (q (14 + 2 * j))), (2, .int p0), (3, .int p1), (4, .int (v2.1)), (5, .int (v2.2.1))] → W p l e rX4_walkOnTrial s m ([.ref (q 0), .ref (q (14 + 2 * j)), .int p0, .int p1] : List Value).toArray below meth c H locs 0 0 Q (F0 m 17 ls [])) (fun v2 rec3 ih4 hf H locs ls hP hD hS hl => ?_) n v2 hf
  unfold sX4_walkOnTrial_17 at hf
  refine lv_iload hx hb dX4_walkOnTrial_17 (lv_at hl 5 rfl) ?_
  refine lv_iload_n hx hb dX4_walkOnTrial_19 rfl (lv_at hl 3 rfl) ?_
  refine lv_icmp_ge (tgt := 120) hx hb dX4_walkOnTrial_20 (by decide) (fun c5 => ?_) (fun c5 => ?_)
  · have hf := zz_t c5 hf
    refine lv_iload hx hb dX4_walkOnTrial_120 (lv_at hl 4 rfl) ?_
    exact ret _ _ _ _ (v2.1, v2.2.2) hf dX4_walkOnTrial_122 hP hD hS
  · have hf := zz_f c5 hf
    refine lv_aload_n hx hb dX4_walkOnTrial_23 rfl (lv_at hl 1 rfl) ?_
    refine lv_iload_n hx hb dX4_walkOnTrial_24 rfl (lv_at hl 2 rfl) ?_
    refine lv_iconst (v := (2 : Int32)) hx hb dX4_walkOnTrial_25 (by decide) ?_
    refine lv_iload hx hb dX4_walkOnTrial_26 (lv_at hl 5 rfl) ?_
    refine lv_imul hx hb dX4_walkOnTrial_28 ?_
    refine lv_iadd hx hb dX4_walkOnTrial_29 ?_
    obtain ⟨r6, hc6, hf⟩ := zz_bs hf
    refine zz_cVi C hP hD hS (kX2_at l g q _ j hj v2.2.2 (p0 + ((2 : Int32) * v2.2.1)) r6 hc6) gX4_walkOnTrial_X2_at mX2_at (by decide) ⟨Nat.zero_le _, Nat.zero_le _⟩ (14 + 2 * j) (zx_sh g q v2.2.2 hj) rfl rfl rfl (rest := []) rfl hl.1 (Nat.le_of_ble_eq_true rfl) dX4_walkOnTrial_30 (fun H locs hP hD hS => ?_)
    refine lv_istore (lv' := [(6, .int r6), (0, .ref (q 0)), (1, .ref (q (14 + 2 * j))), (2, .int p0), (3, .int p1), (4, .int (v2.1)), (5, .int (v2.2.1))]) hx hb dX4_walkOnTrial_33 hl (by decide) rfl (fun ls hl => ?_)
    refine lv_aload_n hx hb dX4_walkOnTrial_35 rfl (lv_at hl 2 rfl) ?_
    refine lv_iload_n hx hb dX4_walkOnTrial_36 rfl (lv_at hl 3 rfl) ?_
    refine lv_iconst (v := (2 : Int32)) hx hb dX4_walkOnTrial_37 (by decide) ?_
    refine lv_iload hx hb dX4_walkOnTrial_38 (lv_at hl 6 rfl) ?_
    refine lv_imul hx hb dX4_walkOnTrial_40 ?_
    refine lv_iadd hx hb dX4_walkOnTrial_41 ?_
    refine lv_iconst (v := (1 : Int32)) hx hb dX4_walkOnTrial_42 (by decide) ?_
    refine lv_iadd hx hb dX4_walkOnTrial_43 ?_
    obtain ⟨r7, hc7, hf⟩ := zz_bs hf
    refine zz_cVi C hP hD hS (kX2_at l g q _ j hj v2.2.2 ((p0 + ((2 : Int32) * v2.2.1)) + (1 : Int32)) r7 hc7) gX4_walkOnTrial_X2_at mX2_at (by decide) ⟨Nat.zero_le _, Nat.zero_le _⟩ (14 + 2 * j) (zx_sh g q v2.2.2 hj) rfl rfl rfl (rest := []) rfl hl.1 (Nat.le_of_ble_eq_true rfl) dX4_walkOnTrial_44 (fun H locs hP hD hS => ?_)
    refine lv_istore (lv' := [(7, .int r7), (6, .int r6), (0, .ref (q 0)), (1, .ref (q (14 + 2 * j))), (2, .int p0), (3, .int p1), (4, .int (v2.1)), (5, .int (v2.2.1))]) hx hb dX4_walkOnTrial_47 hl (by decide) rfl (fun ls hl => ?_)
    refine lv_aload_n hx hb dX4_walkOnTrial_49 rfl (lv_at hl 2 rfl) ?_
    refine va_get (D := g.1) (ci := 4) (v := .ref (q 5)) (C := RX4) (T := TX4) (N := 7) hx hb hts iX4 hown hK hP 0 rfl rfl 1 (by decide) (zz_mem hts 1 rfl) (fun _ h9 => h9) rfl dX4_walkOnTrial_50 ?_
    refine lv_iload hx hb dX4_walkOnTrial_53 (lv_at hl 1 rfl) ?_
    obtain ⟨r8, hc8, hf⟩ := zz_bs hf
    refine zz_cVz C hP hD hS (kX3_has l g q _ 1 (by decide) v2.2.2 r6 r8 hc8) gX4_walkOnTrial_X3_has mX3_has (by decide) ⟨Nat.zero_le _, Nat.zero_le _⟩ 5 rfl rfl rfl rfl (rest := []) rfl hl.1 (Nat.le_of_ble_eq_true rfl) dX4_walkOnTrial_55 (fun hz8 H locs hP hD hS => ?_)
    refine lv_if_eq (tgt := 75) hx hb dX4_walkOnTrial_58 (by decide) (fun c9 => ?_) (fun c9 => ?_)
    · have hf := zz_t c9 hf
      refine lv_bipush (v := (-100 : Int32)) hx hb dX4_walkOnTrial_75 (by decide) ?_
      refine lv_iload hx hb dX4_walkOnTrial_77 (lv_at hl 7 rfl) ?_
      refine lv_isub hx hb dX4_walkOnTrial_79 ?_
      exact ret _ _ _ _ (((-100 : Int32) - v2.2.1), v2.2.2) hf dX4_walkOnTrial_80 hP hD hS
    · have hf := zz_f c9 hf
      refine lv_aload_n hx hb dX4_walkOnTrial_61 rfl (lv_at hl 2 rfl) ?_
      refine va_get (D := g.1) (ci := 4) (v := .ref (q 5)) (C := RX4) (T := TX4) (N := 7) hx hb hts iX4 hown hK hP 0 rfl rfl 1 (by decide) (zz_mem hts 1 rfl) (fun _ h9 => h9) rfl dX4_walkOnTrial_62 ?_
      refine lv_iload hx hb dX4_walkOnTrial_65 (lv_at hl 0 rfl) ?_
      refine lv_iload hx hb dX4_walkOnTrial_67 (lv_at hl 1 rfl) ?_
      obtain ⟨r10, hc10, hf⟩ := zz_bs hf
      refine zz_cVz C hP hD hS (kX3_isAnotherOn l g q _ 1 (by decide) v2.2.2 r7 r6 r10 hc10) gX4_walkOnTrial_X3_isAnotherOn mX3_isAnotherOn (by decide) ⟨Nat.zero_le _, Nat.zero_le _⟩ 5 rfl rfl rfl rfl (rest := []) rfl hl.1 (Nat.le_of_ble_eq_true rfl) dX4_walkOnTrial_69 (fun hz10 H locs hP hD hS => ?_)
      refine lv_if_eq (tgt := 81) hx hb dX4_walkOnTrial_72 (by decide) (fun c11 => ?_) (fun c11 => ?_)
      · have hf := zz_t c11 hf
        refine lv_iload hx hb dX4_walkOnTrial_81 (lv_at hl 6 rfl) ?_
        refine lv_iload hx hb dX4_walkOnTrial_83 (lv_at hl 0 rfl) ?_
        refine lv_aload_n hx hb dX4_walkOnTrial_85 rfl (lv_at hl 2 rfl) ?_
        refine va_get (D := g.1) (ci := 4) (v := .ref (q 5)) (C := RX4) (T := TX4) (N := 7) hx hb hts iX4 hown hK hP 0 rfl rfl 1 (by decide) (zz_mem hts 1 rfl) (fun _ h9 => h9) rfl dX4_walkOnTrial_86 ?_
        refine va_get (D := g.1) (ci := 3) (v := .ref (q 7)) (C := RX3) (T := TX3) (N := 6) hx hb hts iX3 hown hK hP 5 rfl rfl 1 (by decide) (zz_mem hts 3 rfl) (fun _ h9 => h9) rfl dX4_walkOnTrial_89 ?_
        refine lv_iload hx hb dX4_walkOnTrial_92 (lv_at hl 1 rfl) ?_
        obtain ⟨x13, h12, ex13, hf⟩ := zz_gx hf
        refine zz_iald hx hb hK hP 7 0 rfl rfl h12 ex13 dX4_walkOnTrial_94 ?_
        refine lv_isub hx hb dX4_walkOnTrial_95 ?_
        refine va_mabs hx hb (by rw [hml]; exact hl.1.symm) hown (zz_mem hts 4 rfl) (zz_mem hts 5 rfl) (zz_mem hts 6 rfl) (zz_mem hts 7 rfl) (by decide) (Nat.le_of_ble_eq_true rfl) (Nat.zero_le _) (Nat.zero_le _) dX4_walkOnTrial_96 ?_
        refine lv_iadd hx hb dX4_walkOnTrial_99 ?_
        refine lv_istore (lv' := [(4, .int (v2.1 + (if 0 ≤ (r7 - x13) then (r7 - x13) else 0 - (r7 - x13)))), (7, .int r7), (6, .int r6), (0, .ref (q 0)), (1, .ref (q (14 + 2 * j))), (2, .int p0), (3, .int p1), (5, .int (v2.2.1))]) hx hb dX4_walkOnTrial_100 hl (by decide) rfl (fun ls hl => ?_)
        refine lv_aload_n hx hb dX4_walkOnTrial_102 rfl (lv_at hl 3 rfl) ?_
        refine va_get (D := g.1) (ci := 4) (v := .ref (q 5)) (C := RX4) (T := TX4) (N := 7) hx hb hts iX4 hown hK hP 0 rfl rfl 1 (by decide) (zz_mem hts 1 rfl) (fun _ h9 => h9) rfl dX4_walkOnTrial_103 ?_
        refine va_get (D := g.1) (ci := 3) (v := .ref (q 7)) (C := RX3) (T := TX3) (N := 6) hx hb hts iX3 hown hK hP 5 rfl rfl 1 (by decide) (zz_mem hts 3 rfl) (fun _ h9 => h9) rfl dX4_walkOnTrial_106 ?_
        refine lv_iload hx hb dX4_walkOnTrial_109 (lv_at hl 2 rfl) ?_
        refine lv_iload hx hb dX4_walkOnTrial_111 (lv_at hl 1 rfl) ?_
        obtain ⟨h14, hf⟩ := zz_pa hf
        refine va_iast hx hb hK hP hD hS 7 0 rfl rfl h14 dX4_walkOnTrial_113 (fun H locs hP hD hS => ?_)
        have hP : va_P g.1 vwCl (zzX g q (zza v2.2.2 4 r6.toNatClampNeg r7)) H := Eq.mp (congrArg (fun w => va_P g.1 vwCl w H) (zxa_7 g q v2.2.2 (upd (v2.2.2.2 4) r6.toNatClampNeg r7))) hP
        have hD : va_D A (zzX g q (zza v2.2.2 4 r6.toNatClampNeg r7)) := Eq.mp (congrArg (va_D A) (zxa_7 g q v2.2.2 (upd (v2.2.2.2 4) r6.toNatClampNeg r7))) hD
        refine lv_iinc (v := (v2.2.1 + (1 : Int32))) (lv' := [(5, .int (v2.2.1 + (1 : Int32))), (4, .int (v2.1 + (if 0 ≤ (r7 - x13) then (r7 - x13) else 0 - (r7 - x13)))), (7, .int r7), (6, .int r6), (0, .ref (q 0)), (1, .ref (q (14 + 2 * j))), (2, .int p0), (3, .int p1)]) hx hb dX4_walkOnTrial_114 hl (k := 7) rfl rfl (by decide) rfl (fun ls hl => ?_)
        refine lv_goto (tgt := 17) hx hb dX4_walkOnTrial_117 (by decide) ?_
        exact ih4 _ hf _ _ _ hP hD hS (lv_sub hl [4, 5, 6, 7, 1, 0] rfl)
      · have hf := zz_f c11 hf
        refine lv_bipush (v := (-100 : Int32)) hx hb dX4_walkOnTrial_75 (by decide) ?_
        refine lv_iload hx hb dX4_walkOnTrial_77 (lv_at hl 7 rfl) ?_
        refine lv_isub hx hb dX4_walkOnTrial_79 ?_
        exact ret _ _ _ _ (((-100 : Int32) - v2.2.1), v2.2.2) hf dX4_walkOnTrial_80 hP hD hS
def fX4_walkOnTrial (j : Nat) (u : zzS) (p0 : Int32) (p1 : Int32) : Option (Int32 × zzS) := ((fX3_becomeLike u).bind (fun r1 => (zzlp (sX4_walkOnTrial_17 p0 p1 j) zzFU ((0 : Int32), (0 : Int32), r1))))
set_option maxHeartbeats 4000000 in
set_option maxRecDepth 100000 in
theorem kX4_walkOnTrial (l : Launch) (g : zzG) (q : Nat → Nat) (sz : Nat) (j : Nat) (hj : j < 4) (u : zzS) (p0 : Int32) (p1 : Int32) (x : Int32 × zzS) (hf : fX4_walkOnTrial j u p0 p1 = some x) : zzI l g yX4_walkOnTrial wsX4_walkOnTrial rX4_walkOnTrial [.ref (q 0), .ref (q (14 + 2 * j)), .int p0, .int p1] (zzX g q u) (zzX g q x.2) sz x.1 := by
  refine zz_mi (cc := cX4_walkOnTrial) (mL := 8) (own := RX4) (fun x : Int32 × zzS => x.1) (fun x : Int32 × zzS => (zzX g q x.2)) x (by decide) rfl rfl (Nat.le_of_ble_eq_true rfl) ?_
  intro p e s m below meth c A Q ls C ret hP hD hS hl
  have hl : lv_has ls 8 [(0, .ref (q 0)), (1, .ref (q (14 + 2 * j))), (2, .int p0), (3, .int p1)] := hl
  have hx := C.1.1
  have hb := C.1.2.1
  have hml := C.1.2.2.1
  have hown := C.1.2.2.2.1
  have hts := C.1.2.2.2.2
  have hK := C.2.1
  have iX4 : ∀ w ∈ wsX40, w ∈ wsX4_walkOnTrial := fun _ h => List.mem_cons_of_mem _ (List.mem_append_left _ (List.mem_append_left _ (List.mem_append_right _ h)))
  have iX3 : ∀ w ∈ wsX30, w ∈ wsX4_walkOnTrial := fun _ h => List.mem_cons_of_mem _ (List.mem_append_left _ (List.mem_append_right _ h))
  have iX2 : ∀ w ∈ wsX20, w ∈ wsX4_walkOnTrial := fun _ h => List.mem_cons_of_mem _ (List.mem_append_right _ h)
  unfold fX4_walkOnTrial at hf
  refine lv_aload_n hx hb dX4_walkOnTrial_0 rfl (lv_at hl 0 rfl) ?_
  refine va_get (D := g.1) (ci := 4) (v := .ref (q 5)) (C := RX4) (T := TX4) (N := 7) hx hb hts iX4 hown hK hP 0 rfl rfl 1 (by decide) (zz_mem hts 1 rfl) (fun _ h9 => h9) rfl dX4_walkOnTrial_1 ?_
  refine lv_aload_n hx hb dX4_walkOnTrial_4 rfl (lv_at hl 0 rfl) ?_
  refine va_get (D := g.1) (ci := 4) (v := .ref (q 1)) (C := RX4) (T := TX4) (N := 7) hx hb hts iX4 hown hK hP 0 rfl rfl 0 (by decide) (zz_mem hts 2 rfl) (fun _ h9 => h9) rfl dX4_walkOnTrial_5 ?_
  obtain ⟨r1, hc1, hf⟩ := zz_bs hf
  refine zz_cVv C hP hD hS (kX3_becomeLike l g q _ u r1 hc1) gX4_walkOnTrial_X3_becomeLike mX3_becomeLike (by decide) ⟨Nat.zero_le _, Nat.zero_le _⟩ 5 rfl rfl rfl rfl (rest := []) rfl hl.1 (Nat.le_of_ble_eq_true rfl) dX4_walkOnTrial_8 (fun H locs hP hD hS => ?_)
  refine lv_iconst (v := (0 : Int32)) hx hb dX4_walkOnTrial_11 (by decide) ?_
  refine lv_istore (lv' := [(4, .int (0 : Int32)), (0, .ref (q 0)), (1, .ref (q (14 + 2 * j))), (2, .int p0), (3, .int p1)]) hx hb dX4_walkOnTrial_12 hl (by decide) rfl (fun ls hl => ?_)
  refine lv_iconst (v := (0 : Int32)) hx hb dX4_walkOnTrial_14 (by decide) ?_
  refine lv_istore (lv' := [(5, .int (0 : Int32)), (4, .int (0 : Int32)), (0, .ref (q 0)), (1, .ref (q (14 + 2 * j))), (2, .int p0), (3, .int p1)]) hx hb dX4_walkOnTrial_15 hl (by decide) rfl (fun ls hl => ?_)
  exact wX4_walkOnTrial_17 l g q p0 p1 j x C ret hj _ _ hf _ _ _ hP hD hS (lv_sub hl [2, 3, 4, 5, 1, 0] rfl)
abbrev rX4_behindWalks : Room := ({ frames := 4, cells := 0, slots := 0, locals := 104 })
theorem mX4_behindWalks : zzM yX4_behindWalks wsX4_behindWalks cX4_behindWalks 4 (some .int) RX4 3 := ⟨⟨_, rfl⟩, by decide +kernel⟩
def fX4_behindWalks (u : zzS) (p0 : Int32) (p1 : Int32) (p2 : Int32) : Option (Int32 × zzS) := (if p2 = (1 : Int32) then (if (0 : Int32) ≤ p1 then (some ((-9 : Int32), u)) else (some (((-100 : Int32) - p1), u))) else (if (0 : Int32) ≤ p1 then (if p2 = (0 : Int32) then ((fX3_everyone 1 u).bind (fun r4 => ((fX4_countedOn 1 u p0 r4).bind (fun r5 => (some (r5.1, r5.2)))))) else (if p2 = (1 : Int32) then ((fX3_has 1 u (p2 - (10 : Int32))).bind (fun r7 => (if r7 = 0 then (some ((-9 : Int32), u)) else (zzga (u.2 4) 5 (p2 - (10 : Int32)) (fun x10 => (some (x10, u))))))) else (if p2 = (2 : Int32) then (some (p1, u)) else (if p2 = (3 : Int32) then ((fX3_hiddenSet 1 u p0).bind (fun r13 => (some (r13, u)))) else ((fX3_has 1 u (p2 - (10 : Int32))).bind (fun r14 => (if r14 = 0 then (some ((-9 : Int32), u)) else (zzga (u.2 4) 5 (p2 - (10 : Int32)) (fun x17 => (some (x17, u))))))))))) else (some (p1, u))))
set_option maxHeartbeats 4000000 in
set_option maxRecDepth 100000 in
theorem kX4_behindWalks (l : Launch) (g : zzG) (q : Nat → Nat) (sz : Nat) (u : zzS) (p0 : Int32) (p1 : Int32) (p2 : Int32) (x : Int32 × zzS) (hf : fX4_behindWalks u p0 p1 p2 = some x) : zzI l g yX4_behindWalks wsX4_behindWalks rX4_behindWalks [.ref (q 0), .int p0, .int p1, .int p2] (zzX g q u) (zzX g q x.2) sz x.1 := by
  refine zz_mi (cc := cX4_behindWalks) (mL := 4) (own := RX4) (fun x : Int32 × zzS => x.1) (fun x : Int32 × zzS => (zzX g q x.2)) x (by decide) rfl rfl (Nat.le_of_ble_eq_true rfl) ?_
  intro p e s m below meth c A Q ls C ret hP hD hS hl
  have hl : lv_has ls 4 [(0, .ref (q 0)), (1, .int p0), (2, .int p1), (3, .int p2)] := hl
  have hx := C.1.1
  have hb := C.1.2.1
  have hml := C.1.2.2.1
  have hown := C.1.2.2.2.1
  have hts := C.1.2.2.2.2
  have hK := C.2.1
  have iX4 : ∀ w ∈ wsX40, w ∈ wsX4_behindWalks := fun _ h => List.mem_cons_of_mem _ (List.mem_append_left _ (List.mem_append_left _ (List.mem_append_right _ h)))
  have iX3 : ∀ w ∈ wsX30, w ∈ wsX4_behindWalks := fun _ h => List.mem_cons_of_mem _ (List.mem_append_left _ (List.mem_append_right _ h))
  have iX1 : ∀ w ∈ wsX10, w ∈ wsX4_behindWalks := fun _ h => List.mem_cons_of_mem _ (List.mem_append_right _ h)
  unfold fX4_behindWalks at hf
  refine lv_iload_n hx hb dX4_behindWalks_0 rfl (lv_at hl 3 rfl) ?_
  refine lv_iconst (v := (1 : Int32)) hx hb dX4_behindWalks_1 (by decide) ?_
  refine lv_icmp_ne (tgt := 19) hx hb dX4_behindWalks_2 (by decide) (fun c1 => ?_) (fun c1 => ?_)
  · have hf := zz_f c1 hf
    refine lv_iload_n hx hb dX4_behindWalks_19 rfl (lv_at hl 2 rfl) ?_
    refine lv_if_ge (tgt := 25) hx hb dX4_behindWalks_20 (by decide) (fun c2 => ?_) (fun c2 => ?_)
    · have hf := zz_t c2 hf
      refine lv_iload_n hx hb dX4_behindWalks_25 rfl (lv_at hl 3 rfl) ?_
      by_cases c3 : p2 = (0 : Int32)
      · have hf := zz_t c3 hf
        refine lv_tableIn (tgt := 56) (off := 30) hx hb dX4_behindWalks_26 (by rw [c3]; decide) (by rw [c3]; decide) (by rw [c3]; decide) (by decide) ?_
        refine lv_aload_n hx hb dX4_behindWalks_56 rfl (lv_at hl 0 rfl) ?_
        refine lv_aload_n hx hb dX4_behindWalks_57 rfl (lv_at hl 0 rfl) ?_
        refine va_get (D := g.1) (ci := 4) (v := .ref (q 5)) (C := RX4) (T := TX4) (N := 7) hx hb hts iX4 hown hK hP 0 rfl rfl 1 (by decide) (zz_mem hts 1 rfl) (fun _ h9 => h9) rfl dX4_behindWalks_58 ?_
        refine lv_iload_n hx hb dX4_behindWalks_61 rfl (lv_at hl 1 rfl) ?_
        refine lv_aload_n hx hb dX4_behindWalks_62 rfl (lv_at hl 0 rfl) ?_
        refine va_get (D := g.1) (ci := 4) (v := .ref (q 5)) (C := RX4) (T := TX4) (N := 7) hx hb hts iX4 hown hK hP 0 rfl rfl 1 (by decide) (zz_mem hts 1 rfl) (fun _ h9 => h9) rfl dX4_behindWalks_63 ?_
        obtain ⟨r4, hc4, hf⟩ := zz_bs hf
        refine zz_cVi C hP hD hS (kX3_everyone l g q _ 1 (by decide) u r4 hc4) gX4_behindWalks_X3_everyone mX3_everyone (by decide) ⟨Nat.zero_le _, Nat.zero_le _⟩ 5 rfl rfl rfl rfl (rest := [.int p0, .ref (q 5), .ref (q 0)]) rfl hl.1 (Nat.le_of_ble_eq_true rfl) dX4_behindWalks_66 (fun H locs hP hD hS => ?_)
        obtain ⟨r5, hc5, hf⟩ := zz_bs hf
        refine zz_cVi C hP hD hS (kX4_countedOn l g q _ 1 (by decide) u p0 r4 r5 hc5) gX4_behindWalks_X4_countedOn mX4_countedOn (by decide) ⟨Nat.zero_le _, Nat.zero_le _⟩ 0 rfl rfl rfl rfl (rest := []) rfl hl.1 (Nat.le_of_ble_eq_true rfl) dX4_behindWalks_69 (fun H locs hP hD hS => ?_)
        exact ret _ _ _ _ (r5.1, r5.2) hf dX4_behindWalks_72 hP hD hS
      · have hf := zz_f c3 hf
        by_cases c6 : p2 = (1 : Int32)
        · have hf := zz_t c6 hf
          refine lv_tableIn (tgt := 84) (off := 58) hx hb dX4_behindWalks_26 (by rw [c6]; decide) (by rw [c6]; decide) (by rw [c6]; decide) (by decide) ?_
          refine lv_aload_n hx hb dX4_behindWalks_84 rfl (lv_at hl 0 rfl) ?_
          refine va_get (D := g.1) (ci := 4) (v := .ref (q 5)) (C := RX4) (T := TX4) (N := 7) hx hb hts iX4 hown hK hP 0 rfl rfl 1 (by decide) (zz_mem hts 1 rfl) (fun _ h9 => h9) rfl dX4_behindWalks_85 ?_
          refine lv_iload_n hx hb dX4_behindWalks_88 rfl (lv_at hl 3 rfl) ?_
          refine lv_bipush (v := (10 : Int32)) hx hb dX4_behindWalks_89 (by decide) ?_
          refine lv_isub hx hb dX4_behindWalks_91 ?_
          obtain ⟨r7, hc7, hf⟩ := zz_bs hf
          refine zz_cVz C hP hD hS (kX3_has l g q _ 1 (by decide) u (p2 - (10 : Int32)) r7 hc7) gX4_behindWalks_X3_has mX3_has (by decide) ⟨Nat.zero_le _, Nat.zero_le _⟩ 5 rfl rfl rfl rfl (rest := []) rfl hl.1 (Nat.le_of_ble_eq_true rfl) dX4_behindWalks_92 (fun hz7 H locs hP hD hS => ?_)
          refine lv_if_eq (tgt := 113) hx hb dX4_behindWalks_95 (by decide) (fun c8 => ?_) (fun c8 => ?_)
          · have hf := zz_t c8 hf
            refine lv_bipush (v := (-9 : Int32)) hx hb dX4_behindWalks_113 (by decide) ?_
            exact ret _ _ _ _ ((-9 : Int32), u) hf dX4_behindWalks_115 hP hD hS
          · have hf := zz_f c8 hf
            refine lv_aload_n hx hb dX4_behindWalks_98 rfl (lv_at hl 0 rfl) ?_
            refine va_get (D := g.1) (ci := 4) (v := .ref (q 5)) (C := RX4) (T := TX4) (N := 7) hx hb hts iX4 hown hK hP 0 rfl rfl 1 (by decide) (zz_mem hts 1 rfl) (fun _ h9 => h9) rfl dX4_behindWalks_99 ?_
            refine va_get (D := g.1) (ci := 3) (v := .ref (q 7)) (C := RX3) (T := TX3) (N := 6) hx hb hts iX3 hown hK hP 5 rfl rfl 1 (by decide) (zz_mem hts 2 rfl) (fun _ h9 => h9) rfl dX4_behindWalks_102 ?_
            refine lv_iload_n hx hb dX4_behindWalks_105 rfl (lv_at hl 3 rfl) ?_
            refine lv_bipush (v := (10 : Int32)) hx hb dX4_behindWalks_106 (by decide) ?_
            refine lv_isub hx hb dX4_behindWalks_108 ?_
            obtain ⟨x10, h9, ex10, hf⟩ := zz_gx hf
            refine zz_iald hx hb hK hP 7 0 rfl rfl h9 ex10 dX4_behindWalks_109 ?_
            refine lv_goto (tgt := 115) hx hb dX4_behindWalks_110 (by decide) ?_
            exact ret _ _ _ _ (x10, u) hf dX4_behindWalks_115 hP hD hS
        · have hf := zz_f c6 hf
          by_cases c11 : p2 = (2 : Int32)
          · have hf := zz_t c11 hf
            refine lv_tableIn (tgt := 73) (off := 47) hx hb dX4_behindWalks_26 (by rw [c11]; decide) (by rw [c11]; decide) (by rw [c11]; decide) (by decide) ?_
            refine lv_iload_n hx hb dX4_behindWalks_73 rfl (lv_at hl 2 rfl) ?_
            exact ret _ _ _ _ (p1, u) hf dX4_behindWalks_74 hP hD hS
          · have hf := zz_f c11 hf
            by_cases c12 : p2 = (3 : Int32)
            · have hf := zz_t c12 hf
              refine lv_tableIn (tgt := 75) (off := 49) hx hb dX4_behindWalks_26 (by rw [c12]; decide) (by rw [c12]; decide) (by rw [c12]; decide) (by decide) ?_
              refine lv_aload_n hx hb dX4_behindWalks_75 rfl (lv_at hl 0 rfl) ?_
              refine va_get (D := g.1) (ci := 4) (v := .ref (q 5)) (C := RX4) (T := TX4) (N := 7) hx hb hts iX4 hown hK hP 0 rfl rfl 1 (by decide) (zz_mem hts 1 rfl) (fun _ h9 => h9) rfl dX4_behindWalks_76 ?_
              refine lv_iload_n hx hb dX4_behindWalks_79 rfl (lv_at hl 1 rfl) ?_
              obtain ⟨r13, hc13, hf⟩ := zz_bs hf
              refine zz_cVi C hP hD hS (kX3_hiddenSet l g q _ 1 (by decide) u p0 r13 hc13) gX4_behindWalks_X3_hiddenSet mX3_hiddenSet (by decide) ⟨Nat.zero_le _, Nat.zero_le _⟩ 5 rfl rfl rfl rfl (rest := []) rfl hl.1 (Nat.le_of_ble_eq_true rfl) dX4_behindWalks_80 (fun H locs hP hD hS => ?_)
              exact ret _ _ _ _ (r13, u) hf dX4_behindWalks_83 hP hD hS
            · have hf := zz_f c12 hf
              have ac3 : p2.toInt ≠ 0 := fun h => c3 (Int32.toInt_inj.mp (h.trans (by decide)))
              have ac6 : p2.toInt ≠ 1 := fun h => c6 (Int32.toInt_inj.mp (h.trans (by decide)))
              have ac11 : p2.toInt ≠ 2 := fun h => c11 (Int32.toInt_inj.mp (h.trans (by decide)))
              have ac12 : p2.toInt ≠ 3 := fun h => c12 (Int32.toInt_inj.mp (h.trans (by decide)))
              refine lv_tableOut (tgt := 84) hx hb dX4_behindWalks_26 (by omega) (by decide) ?_
              refine lv_aload_n hx hb dX4_behindWalks_84 rfl (lv_at hl 0 rfl) ?_
              refine va_get (D := g.1) (ci := 4) (v := .ref (q 5)) (C := RX4) (T := TX4) (N := 7) hx hb hts iX4 hown hK hP 0 rfl rfl 1 (by decide) (zz_mem hts 1 rfl) (fun _ h9 => h9) rfl dX4_behindWalks_85 ?_
              refine lv_iload_n hx hb dX4_behindWalks_88 rfl (lv_at hl 3 rfl) ?_
              refine lv_bipush (v := (10 : Int32)) hx hb dX4_behindWalks_89 (by decide) ?_
              refine lv_isub hx hb dX4_behindWalks_91 ?_
              obtain ⟨r14, hc14, hf⟩ := zz_bs hf
              refine zz_cVz C hP hD hS (kX3_has l g q _ 1 (by decide) u (p2 - (10 : Int32)) r14 hc14) gX4_behindWalks_X3_has mX3_has (by decide) ⟨Nat.zero_le _, Nat.zero_le _⟩ 5 rfl rfl rfl rfl (rest := []) rfl hl.1 (Nat.le_of_ble_eq_true rfl) dX4_behindWalks_92 (fun hz14 H locs hP hD hS => ?_)
              refine lv_if_eq (tgt := 113) hx hb dX4_behindWalks_95 (by decide) (fun c15 => ?_) (fun c15 => ?_)
              · have hf := zz_t c15 hf
                refine lv_bipush (v := (-9 : Int32)) hx hb dX4_behindWalks_113 (by decide) ?_
                exact ret _ _ _ _ ((-9 : Int32), u) hf dX4_behindWalks_115 hP hD hS
              · have hf := zz_f c15 hf
                refine lv_aload_n hx hb dX4_behindWalks_98 rfl (lv_at hl 0 rfl) ?_
                refine va_get (D := g.1) (ci := 4) (v := .ref (q 5)) (C := RX4) (T := TX4) (N := 7) hx hb hts iX4 hown hK hP 0 rfl rfl 1 (by decide) (zz_mem hts 1 rfl) (fun _ h9 => h9) rfl dX4_behindWalks_99 ?_
                refine va_get (D := g.1) (ci := 3) (v := .ref (q 7)) (C := RX3) (T := TX3) (N := 6) hx hb hts iX3 hown hK hP 5 rfl rfl 1 (by decide) (zz_mem hts 2 rfl) (fun _ h9 => h9) rfl dX4_behindWalks_102 ?_
                refine lv_iload_n hx hb dX4_behindWalks_105 rfl (lv_at hl 3 rfl) ?_
                refine lv_bipush (v := (10 : Int32)) hx hb dX4_behindWalks_106 (by decide) ?_
                refine lv_isub hx hb dX4_behindWalks_108 ?_
                obtain ⟨x17, h16, ex17, hf⟩ := zz_gx hf
                refine zz_iald hx hb hK hP 7 0 rfl rfl h16 ex17 dX4_behindWalks_109 ?_
                refine lv_goto (tgt := 115) hx hb dX4_behindWalks_110 (by decide) ?_
                exact ret _ _ _ _ (x17, u) hf dX4_behindWalks_115 hP hD hS
    · have hf := zz_f c2 hf
      refine lv_iload_n hx hb dX4_behindWalks_23 rfl (lv_at hl 2 rfl) ?_
      exact ret _ _ _ _ (p1, u) hf dX4_behindWalks_24 hP hD hS
  · have hf := zz_t c1 hf
    refine lv_iload_n hx hb dX4_behindWalks_5 rfl (lv_at hl 2 rfl) ?_
    refine lv_if_ge (tgt := 16) hx hb dX4_behindWalks_6 (by decide) (fun c18 => ?_) (fun c18 => ?_)
    · have hf := zz_t c18 hf
      refine lv_bipush (v := (-9 : Int32)) hx hb dX4_behindWalks_16 (by decide) ?_
      exact ret _ _ _ _ ((-9 : Int32), u) hf dX4_behindWalks_18 hP hD hS
    · have hf := zz_f c18 hf
      refine lv_bipush (v := (-100 : Int32)) hx hb dX4_behindWalks_9 (by decide) ?_
      refine lv_iload_n hx hb dX4_behindWalks_11 rfl (lv_at hl 2 rfl) ?_
      refine lv_isub hx hb dX4_behindWalks_12 ?_
      refine lv_goto (tgt := 18) hx hb dX4_behindWalks_13 (by decide) ?_
      exact ret _ _ _ _ (((-100 : Int32) - p1), u) hf dX4_behindWalks_18 hP hD hS
abbrev rX4_walks : Room := ({ frames := 5, cells := 0, slots := 0, locals := 127 })
theorem mX4_walks : zzM yX4_walks wsX4_walks cX4_walks 10 (some .int) RX4 6 := ⟨⟨_, rfl⟩, by decide +kernel⟩
def fX4_walks (u : zzS) (p0 : Int32) (p1 : Int32) (p2 : Int32) (p3 : Int32) (p4 : Int32) (p5 : Int32) : Option (Int32 × zzS) := (zzop (fX4_sheetAt p1) (some ((-1 : Int32), (zzi u 12 (0 : Int32)))) (fun j1 => ((fX4_isSun p0).bind (fun r2 => (if r2 = 0 then (some ((-2 : Int32), (zzi u 12 (0 : Int32)))) else ((fX4_isLane p2).bind (fun r4 => (if r4 = 0 then (some ((-2 : Int32), (zzi u 12 (0 : Int32)))) else (if p4 < 0 then (some ((-2 : Int32), (zzi u 12 (0 : Int32)))) else (if (20 : Int32) < p4 then (some ((-2 : Int32), (zzi u 12 (0 : Int32)))) else ((fX4_isAskedOfWalks p5).bind (fun r8 => (if r8 = 0 then (some ((-2 : Int32), (zzi u 12 (0 : Int32)))) else ((fX2_faultAs j1 (zzi u 12 (0 : Int32)) p2).bind (fun r10 => (if r10 = 0 then ((fX2_holds j1 (zzi u 12 (0 : Int32)) p3 ((2 : Int32) * p4)).bind (fun r20 => (if r20 = 0 then (if (3 : Int32) = 0 then ((fX3_isLaid 0 (zzi u 12 (0 : Int32))).bind (fun r31 => (if r31 = 0 then (some ((-3 : Int32), (zzi u 12 (0 : Int32)))) else ((fX4_refusalOfPairs j1 (zzi u 12 (0 : Int32)) p3 p4).bind (fun r33 => (if r33 = 0 then ((fX4_walkOnTrial j1 (zzi u 12 (0 : Int32)) p3 p4).bind (fun r35 => ((fX4_behindWalks r35.2 p0 r35.1 p5).bind (fun r36 => (some (r36.1, r36.2)))))) else (some (r33, (zzi u 12 (0 : Int32)))))))))) else ((fX4_failed (zzi u 12 (0 : Int32)) (3 : Int32)).bind (fun r37 => (some (r37.1, r37.2))))) else (if r10 = 0 then ((fX3_isLaid 0 (zzi u 12 (0 : Int32))).bind (fun r23 => (if r23 = 0 then (some ((-3 : Int32), (zzi u 12 (0 : Int32)))) else ((fX4_refusalOfPairs j1 (zzi u 12 (0 : Int32)) p3 p4).bind (fun r25 => (if r25 = 0 then ((fX4_walkOnTrial j1 (zzi u 12 (0 : Int32)) p3 p4).bind (fun r27 => ((fX4_behindWalks r27.2 p0 r27.1 p5).bind (fun r28 => (some (r28.1, r28.2)))))) else (some (r25, (zzi u 12 (0 : Int32)))))))))) else ((fX4_failed (zzi u 12 (0 : Int32)) r10).bind (fun r29 => (some (r29.1, r29.2)))))))) else (if r10 = 0 then ((fX3_isLaid 0 (zzi u 12 (0 : Int32))).bind (fun r13 => (if r13 = 0 then (some ((-3 : Int32), (zzi u 12 (0 : Int32)))) else ((fX4_refusalOfPairs j1 (zzi u 12 (0 : Int32)) p3 p4).bind (fun r15 => (if r15 = 0 then ((fX4_walkOnTrial j1 (zzi u 12 (0 : Int32)) p3 p4).bind (fun r17 => ((fX4_behindWalks r17.2 p0 r17.1 p5).bind (fun r18 => (some (r18.1, r18.2)))))) else (some (r15, (zzi u 12 (0 : Int32)))))))))) else ((fX4_failed (zzi u 12 (0 : Int32)) r10).bind (fun r19 => (some (r19.1, r19.2)))))))))))))))))))))
set_option maxHeartbeats 4000000 in
set_option maxRecDepth 100000 in
theorem kX4_walks (l : Launch) (g : zzG) (q : Nat → Nat) (sz : Nat) (u : zzS) (p0 : Int32) (p1 : Int32) (p2 : Int32) (p3 : Int32) (p4 : Int32) (p5 : Int32) (x : Int32 × zzS) (hf : fX4_walks u p0 p1 p2 p3 p4 p5 = some x) : zzI l g yX4_walks wsX4_walks rX4_walks [.ref (q 0), .int p0, .int p1, .int p2, .int p3, .int p4, .int p5] (zzX g q u) (zzX g q x.2) sz x.1 := by
  refine zz_mi (cc := cX4_walks) (mL := 10) (own := RX4) (fun x : Int32 × zzS => x.1) (fun x : Int32 × zzS => (zzX g q x.2)) x (by decide) rfl rfl (Nat.le_of_ble_eq_true rfl) ?_
  intro p e s m below meth c A Q ls C ret hP hD hS hl
  have hl : lv_has ls 10 [(0, .ref (q 0)), (1, .int p0), (2, .int p1), (3, .int p2), (4, .int p3), (5, .int p4), (6, .int p5)] := hl
  have hx := C.1.1
  have hb := C.1.2.1
  have hml := C.1.2.2.1
  have hown := C.1.2.2.2.1
  have hts := C.1.2.2.2.2
  have hK := C.2.1
  have iX4 : ∀ w ∈ wsX40, w ∈ wsX4_walks := fun _ h => List.mem_cons_of_mem _ (List.mem_append_left _ (List.mem_append_left _ (List.mem_append_left _ (List.mem_append_right _ h))))
  have iX2 : ∀ w ∈ wsX20, w ∈ wsX4_walks := fun _ h => List.mem_cons_of_mem _ (List.mem_append_left _ (List.mem_append_left _ (List.mem_append_right _ h)))
  have iX3 : ∀ w ∈ wsX30, w ∈ wsX4_walks := fun _ h => List.mem_cons_of_mem _ (List.mem_append_left _ (List.mem_append_right _ h))
  have iX1 : ∀ w ∈ wsX10, w ∈ wsX4_walks := fun _ h => List.mem_cons_of_mem _ (List.mem_append_right _ h)
  unfold fX4_walks at hf
  refine lv_aload_n hx hb dX4_walks_0 rfl (lv_at hl 0 rfl) ?_
  refine lv_iconst (v := (0 : Int32)) hx hb dX4_walks_1 (by decide) ?_
  refine va_put (D := g.1) (ci := 4) (v := .int (0 : Int32)) (ty := .int) (C := RX4) (T := TX4) (N := 7) hx hb hts iX4 tyX4 tyX4_ok nmX4 hown hK hP hD hS 0 rfl rfl 6 (by decide) (zz_mem hts 1 rfl) (fun _ h9 => h9) rfl (tyX4_ok 6 (by decide)) rfl rfl (Nat.le_of_ble_eq_true rfl) dX4_walks_2 (fun H locs hP hD hS => ?_)
  have hP : va_P g.1 vwCl (zzX g q (zzi u 12 (0 : Int32))) H := Eq.mp (congrArg (fun w => va_P g.1 vwCl w H) (zxo_0_6 g q u (0 : Int32))) hP
  have hD : va_D A (zzX g q (zzi u 12 (0 : Int32))) := Eq.mp (congrArg (va_D A) (zxo_0_6 g q u (0 : Int32))) hD
  refine lv_aload_n hx hb dX4_walks_5 rfl (lv_at hl 0 rfl) ?_
  refine lv_iload_n hx hb dX4_walks_6 rfl (lv_at hl 2 rfl) ?_
  refine zz_sa C hP hD hS (kX4_sheetAt l g q _ (zzi u 12 (0 : Int32)) p1) gX4_walks_X4_sheetAt mX4_sheetAt (by decide) ⟨Nat.zero_le _, Nat.zero_le _⟩ 0 rfl rfl rfl (rest := []) rfl rfl hl.1 (Nat.le_of_ble_eq_true rfl) dX4_walks_7 (fun or1 H locs hP hD hS => ?_) (fun j1 or1 hj1 H locs hP hD hS => ?_)
  · have hf := zz_on or1 hf
    refine lv_astoreN (lv' := [(7, .null), (0, .ref (q 0)), (1, .int p0), (2, .int p1), (3, .int p2), (4, .int p3), (5, .int p4), (6, .int p5)]) hx hb dX4_walks_10 hl (by decide) rfl (fun ls hl => ?_)
    refine lv_aloadN hx hb dX4_walks_12 (lv_at hl 0 rfl) ?_
    refine lv_ifnonnullN hx hb dX4_walks_14 ?_
    refine lv_iconst (v := (-1 : Int32)) hx hb dX4_walks_17 (by decide) ?_
    exact ret _ _ _ _ ((-1 : Int32), (zzi u 12 (0 : Int32))) hf dX4_walks_18 hP hD hS
  · have hf := zz_os or1 hf
    refine lv_astore (lv' := [(7, .ref (q (14 + 2 * j1))), (0, .ref (q 0)), (1, .int p0), (2, .int p1), (3, .int p2), (4, .int p3), (5, .int p4), (6, .int p5)]) hx hb dX4_walks_10 hl (by decide) rfl (fun ls hl => ?_)
    refine lv_aload hx hb dX4_walks_12 (lv_at hl 0 rfl) ?_
    refine lv_ifnonnull (tgt := 19) hx hb dX4_walks_14 (by decide) ?_
    refine lv_iload_n hx hb dX4_walks_19 rfl (lv_at hl 2 rfl) ?_
    obtain ⟨r2, hc2, hf⟩ := zz_bs hf
    refine zz_cSz C hP hD hS (kX4_isSun l g (zzX g q (zzi u 12 (0 : Int32))) _ p0 r2 hc2) gX4_walks_X4_isSun mX4_isSun (by decide) ⟨Nat.zero_le _, Nat.zero_le _⟩ rfl (rest := []) rfl hl.1 (Nat.le_of_ble_eq_true rfl) dX4_walks_20 (fun hz2 H locs hP hD hS => ?_)
    refine lv_if_eq (tgt := 53) hx hb dX4_walks_23 (by decide) (fun c3 => ?_) (fun c3 => ?_)
    · have hf := zz_t c3 hf
      refine lv_bipush (v := (-2 : Int32)) hx hb dX4_walks_53 (by decide) ?_
      exact ret _ _ _ _ ((-2 : Int32), (zzi u 12 (0 : Int32))) hf dX4_walks_55 hP hD hS
    · have hf := zz_f c3 hf
      refine lv_iload_n hx hb dX4_walks_26 rfl (lv_at hl 4 rfl) ?_
      obtain ⟨r4, hc4, hf⟩ := zz_bs hf
      refine zz_cSz C hP hD hS (kX4_isLane l g (zzX g q (zzi u 12 (0 : Int32))) _ p2 r4 hc4) gX4_walks_X4_isLane mX4_isLane (by decide) ⟨Nat.zero_le _, Nat.zero_le _⟩ rfl (rest := []) rfl hl.1 (Nat.le_of_ble_eq_true rfl) dX4_walks_27 (fun hz4 H locs hP hD hS => ?_)
      refine lv_if_eq (tgt := 53) hx hb dX4_walks_30 (by decide) (fun c5 => ?_) (fun c5 => ?_)
      · have hf := zz_t c5 hf
        refine lv_bipush (v := (-2 : Int32)) hx hb dX4_walks_53 (by decide) ?_
        exact ret _ _ _ _ ((-2 : Int32), (zzi u 12 (0 : Int32))) hf dX4_walks_55 hP hD hS
      · have hf := zz_f c5 hf
        refine lv_iload hx hb dX4_walks_33 (lv_at hl 6 rfl) ?_
        refine lv_if_lt (tgt := 53) hx hb dX4_walks_35 (by decide) (fun c6 => ?_) (fun c6 => ?_)
        · have hf := zz_t c6 hf
          refine lv_bipush (v := (-2 : Int32)) hx hb dX4_walks_53 (by decide) ?_
          exact ret _ _ _ _ ((-2 : Int32), (zzi u 12 (0 : Int32))) hf dX4_walks_55 hP hD hS
        · have hf := zz_f c6 hf
          refine lv_iload hx hb dX4_walks_38 (lv_at hl 6 rfl) ?_
          refine lv_bipush (v := (20 : Int32)) hx hb dX4_walks_40 (by decide) ?_
          refine lv_icmp_gt (tgt := 53) hx hb dX4_walks_42 (by decide) (fun c7 => ?_) (fun c7 => ?_)
          · have hf := zz_t c7 hf
            refine lv_bipush (v := (-2 : Int32)) hx hb dX4_walks_53 (by decide) ?_
            exact ret _ _ _ _ ((-2 : Int32), (zzi u 12 (0 : Int32))) hf dX4_walks_55 hP hD hS
          · have hf := zz_f c7 hf
            refine lv_iload hx hb dX4_walks_45 (lv_at hl 7 rfl) ?_
            obtain ⟨r8, hc8, hf⟩ := zz_bs hf
            refine zz_cSz C hP hD hS (kX4_isAskedOfWalks l g (zzX g q (zzi u 12 (0 : Int32))) _ p5 r8 hc8) gX4_walks_X4_isAskedOfWalks mX4_isAskedOfWalks (by decide) ⟨Nat.zero_le _, Nat.zero_le _⟩ rfl (rest := []) rfl hl.1 (Nat.le_of_ble_eq_true rfl) dX4_walks_47 (fun hz8 H locs hP hD hS => ?_)
            refine lv_if_ne (tgt := 56) hx hb dX4_walks_50 (by decide) (fun c9 => ?_) (fun c9 => ?_)
            · have hf := zz_f c9 hf
              refine lv_aload hx hb dX4_walks_56 (lv_at hl 0 rfl) ?_
              refine lv_iload_n hx hb dX4_walks_58 rfl (lv_at hl 4 rfl) ?_
              obtain ⟨r10, hc10, hf⟩ := zz_bs hf
              refine zz_cVi C hP hD hS (kX2_faultAs l g q _ j1 hj1 (zzi u 12 (0 : Int32)) p2 r10 hc10) gX4_walks_X2_faultAs mX2_faultAs (by decide) ⟨Nat.zero_le _, Nat.zero_le _⟩ (14 + 2 * j1) (zx_sh g q (zzi u 12 (0 : Int32)) hj1) rfl rfl rfl (rest := []) rfl hl.1 (Nat.le_of_ble_eq_true rfl) dX4_walks_59 (fun H locs hP hD hS => ?_)
              refine lv_istore (lv' := [(8, .int r10), (7, .ref (q (14 + 2 * j1))), (0, .ref (q 0)), (1, .int p0), (2, .int p1), (3, .int p2), (4, .int p3), (5, .int p4), (6, .int p5)]) hx hb dX4_walks_62 hl (by decide) rfl (fun ls hl => ?_)
              refine lv_iload hx hb dX4_walks_64 (lv_at hl 0 rfl) ?_
              refine lv_if_ne (tgt := 86) hx hb dX4_walks_66 (by decide) (fun c11 => ?_) (fun c11 => ?_)
              · have hf := zz_f c11 hf
                refine lv_iload hx hb dX4_walks_86 (lv_at hl 0 rfl) ?_
                refine lv_if_eq (tgt := 98) hx hb dX4_walks_88 (by decide) (fun c12 => ?_) (fun c12 => ?_)
                · have hf := zz_t c12 hf
                  refine lv_aload_n hx hb dX4_walks_98 rfl (lv_at hl 2 rfl) ?_
                  refine va_get (D := g.1) (ci := 4) (v := .ref (q 1)) (C := RX4) (T := TX4) (N := 7) hx hb hts iX4 hown hK hP 0 rfl rfl 0 (by decide) (zz_mem hts 2 rfl) (fun _ h9 => h9) rfl dX4_walks_99 ?_
                  obtain ⟨r13, hc13, hf⟩ := zz_bs hf
                  refine zz_cVz C hP hD hS (kX3_isLaid l g q _ 0 (by decide) (zzi u 12 (0 : Int32)) r13 hc13) gX4_walks_X3_isLaid mX3_isLaid (by decide) ⟨Nat.zero_le _, Nat.zero_le _⟩ 1 rfl rfl rfl rfl (rest := []) rfl hl.1 (Nat.le_of_ble_eq_true rfl) dX4_walks_102 (fun hz13 H locs hP hD hS => ?_)
                  refine lv_if_ne (tgt := 111) hx hb dX4_walks_105 (by decide) (fun c14 => ?_) (fun c14 => ?_)
                  · have hf := zz_f c14 hf
                    refine lv_aload_n hx hb dX4_walks_111 rfl (lv_at hl 2 rfl) ?_
                    refine lv_aload hx hb dX4_walks_112 (lv_at hl 1 rfl) ?_
                    refine lv_iload hx hb dX4_walks_114 (lv_at hl 6 rfl) ?_
                    refine lv_iload hx hb dX4_walks_116 (lv_at hl 7 rfl) ?_
                    obtain ⟨r15, hc15, hf⟩ := zz_bs hf
                    refine zz_cVi C hP hD hS (kX4_refusalOfPairs l g q _ j1 hj1 (zzi u 12 (0 : Int32)) p3 p4 r15 hc15) gX4_walks_X4_refusalOfPairs mX4_refusalOfPairs (by decide) ⟨Nat.zero_le _, Nat.zero_le _⟩ 0 rfl rfl rfl rfl (rest := []) rfl hl.1 (Nat.le_of_ble_eq_true rfl) dX4_walks_118 (fun H locs hP hD hS => ?_)
                    refine lv_istore (lv' := [(9, .int r15), (8, .int r10), (7, .ref (q (14 + 2 * j1))), (0, .ref (q 0)), (1, .int p0), (2, .int p1), (3, .int p2), (4, .int p3), (5, .int p4), (6, .int p5)]) hx hb dX4_walks_121 hl (by decide) rfl (fun ls hl => ?_)
                    refine lv_iload hx hb dX4_walks_123 (lv_at hl 0 rfl) ?_
                    refine lv_if_eq (tgt := 131) hx hb dX4_walks_125 (by decide) (fun c16 => ?_) (fun c16 => ?_)
                    · have hf := zz_t c16 hf
                      refine lv_aload_n hx hb dX4_walks_131 rfl (lv_at hl 3 rfl) ?_
                      refine lv_iload_n hx hb dX4_walks_132 rfl (lv_at hl 4 rfl) ?_
                      refine lv_aload_n hx hb dX4_walks_133 rfl (lv_at hl 3 rfl) ?_
                      refine lv_aload hx hb dX4_walks_134 (lv_at hl 2 rfl) ?_
                      refine lv_iload hx hb dX4_walks_136 (lv_at hl 7 rfl) ?_
                      refine lv_iload hx hb dX4_walks_138 (lv_at hl 8 rfl) ?_
                      obtain ⟨r17, hc17, hf⟩ := zz_bs hf
                      refine zz_cVi C hP hD hS (kX4_walkOnTrial l g q _ j1 hj1 (zzi u 12 (0 : Int32)) p3 p4 r17 hc17) gX4_walks_X4_walkOnTrial mX4_walkOnTrial (by decide) ⟨Nat.zero_le _, Nat.zero_le _⟩ 0 rfl rfl rfl rfl (rest := [.int p0, .ref (q 0)]) rfl hl.1 (Nat.le_of_ble_eq_true rfl) dX4_walks_140 (fun H locs hP hD hS => ?_)
                      refine lv_iload hx hb dX4_walks_143 (lv_at hl 9 rfl) ?_
                      obtain ⟨r18, hc18, hf⟩ := zz_bs hf
                      refine zz_cVi C hP hD hS (kX4_behindWalks l g q _ r17.2 p0 r17.1 p5 r18 hc18) gX4_walks_X4_behindWalks mX4_behindWalks (by decide) ⟨Nat.zero_le _, Nat.zero_le _⟩ 0 rfl rfl rfl rfl (rest := []) rfl hl.1 (Nat.le_of_ble_eq_true rfl) dX4_walks_145 (fun H locs hP hD hS => ?_)
                      exact ret _ _ _ _ (r18.1, r18.2) hf dX4_walks_148 hP hD hS
                    · have hf := zz_f c16 hf
                      refine lv_iload hx hb dX4_walks_128 (lv_at hl 0 rfl) ?_
                      exact ret _ _ _ _ (r15, (zzi u 12 (0 : Int32))) hf dX4_walks_130 hP hD hS
                  · have hf := zz_t c14 hf
                    refine lv_bipush (v := (-3 : Int32)) hx hb dX4_walks_108 (by decide) ?_
                    exact ret _ _ _ _ ((-3 : Int32), (zzi u 12 (0 : Int32))) hf dX4_walks_110 hP hD hS
                · have hf := zz_f c12 hf
                  refine lv_aload_n hx hb dX4_walks_91 rfl (lv_at hl 2 rfl) ?_
                  refine lv_iload hx hb dX4_walks_92 (lv_at hl 0 rfl) ?_
                  obtain ⟨r19, hc19, hf⟩ := zz_bs hf
                  refine zz_cVi C hP hD hS (kX4_failed l g q _ (zzi u 12 (0 : Int32)) r10 r19 hc19) gX4_walks_X4_failed mX4_failed (by decide) ⟨Nat.zero_le _, Nat.zero_le _⟩ 0 rfl rfl rfl rfl (rest := []) rfl hl.1 (Nat.le_of_ble_eq_true rfl) dX4_walks_94 (fun H locs hP hD hS => ?_)
                  exact ret _ _ _ _ (r19.1, r19.2) hf dX4_walks_97 hP hD hS
              · have hf := zz_t c11 hf
                refine lv_aload hx hb dX4_walks_69 (lv_at hl 1 rfl) ?_
                refine lv_iload hx hb dX4_walks_71 (lv_at hl 6 rfl) ?_
                refine lv_iconst (v := (2 : Int32)) hx hb dX4_walks_73 (by decide) ?_
                refine lv_iload hx hb dX4_walks_74 (lv_at hl 7 rfl) ?_
                refine lv_imul hx hb dX4_walks_76 ?_
                obtain ⟨r20, hc20, hf⟩ := zz_bs hf
                refine zz_cVz C hP hD hS (kX2_holds l g q _ j1 hj1 (zzi u 12 (0 : Int32)) p3 ((2 : Int32) * p4) r20 hc20) gX4_walks_X2_holds mX2_holds (by decide) ⟨Nat.zero_le _, Nat.zero_le _⟩ (14 + 2 * j1) (zx_sh g q (zzi u 12 (0 : Int32)) hj1) rfl rfl rfl (rest := []) rfl hl.1 (Nat.le_of_ble_eq_true rfl) dX4_walks_77 (fun hz20 H locs hP hD hS => ?_)
                refine lv_if_ne (tgt := 86) hx hb dX4_walks_80 (by decide) (fun c21 => ?_) (fun c21 => ?_)
                · have hf := zz_f c21 hf
                  refine lv_iload hx hb dX4_walks_86 (lv_at hl 0 rfl) ?_
                  refine lv_if_eq (tgt := 98) hx hb dX4_walks_88 (by decide) (fun c22 => ?_) (fun c22 => ?_)
                  · have hf := zz_t c22 hf
                    refine lv_aload_n hx hb dX4_walks_98 rfl (lv_at hl 2 rfl) ?_
                    refine va_get (D := g.1) (ci := 4) (v := .ref (q 1)) (C := RX4) (T := TX4) (N := 7) hx hb hts iX4 hown hK hP 0 rfl rfl 0 (by decide) (zz_mem hts 2 rfl) (fun _ h9 => h9) rfl dX4_walks_99 ?_
                    obtain ⟨r23, hc23, hf⟩ := zz_bs hf
                    refine zz_cVz C hP hD hS (kX3_isLaid l g q _ 0 (by decide) (zzi u 12 (0 : Int32)) r23 hc23) gX4_walks_X3_isLaid mX3_isLaid (by decide) ⟨Nat.zero_le _, Nat.zero_le _⟩ 1 rfl rfl rfl rfl (rest := []) rfl hl.1 (Nat.le_of_ble_eq_true rfl) dX4_walks_102 (fun hz23 H locs hP hD hS => ?_)
                    refine lv_if_ne (tgt := 111) hx hb dX4_walks_105 (by decide) (fun c24 => ?_) (fun c24 => ?_)
                    · have hf := zz_f c24 hf
                      refine lv_aload_n hx hb dX4_walks_111 rfl (lv_at hl 2 rfl) ?_
                      refine lv_aload hx hb dX4_walks_112 (lv_at hl 1 rfl) ?_
                      refine lv_iload hx hb dX4_walks_114 (lv_at hl 6 rfl) ?_
                      refine lv_iload hx hb dX4_walks_116 (lv_at hl 7 rfl) ?_
                      obtain ⟨r25, hc25, hf⟩ := zz_bs hf
                      refine zz_cVi C hP hD hS (kX4_refusalOfPairs l g q _ j1 hj1 (zzi u 12 (0 : Int32)) p3 p4 r25 hc25) gX4_walks_X4_refusalOfPairs mX4_refusalOfPairs (by decide) ⟨Nat.zero_le _, Nat.zero_le _⟩ 0 rfl rfl rfl rfl (rest := []) rfl hl.1 (Nat.le_of_ble_eq_true rfl) dX4_walks_118 (fun H locs hP hD hS => ?_)
                      refine lv_istore (lv' := [(9, .int r25), (8, .int r10), (7, .ref (q (14 + 2 * j1))), (0, .ref (q 0)), (1, .int p0), (2, .int p1), (3, .int p2), (4, .int p3), (5, .int p4), (6, .int p5)]) hx hb dX4_walks_121 hl (by decide) rfl (fun ls hl => ?_)
                      refine lv_iload hx hb dX4_walks_123 (lv_at hl 0 rfl) ?_
                      refine lv_if_eq (tgt := 131) hx hb dX4_walks_125 (by decide) (fun c26 => ?_) (fun c26 => ?_)
                      · have hf := zz_t c26 hf
                        refine lv_aload_n hx hb dX4_walks_131 rfl (lv_at hl 3 rfl) ?_
                        refine lv_iload_n hx hb dX4_walks_132 rfl (lv_at hl 4 rfl) ?_
                        refine lv_aload_n hx hb dX4_walks_133 rfl (lv_at hl 3 rfl) ?_
                        refine lv_aload hx hb dX4_walks_134 (lv_at hl 2 rfl) ?_
                        refine lv_iload hx hb dX4_walks_136 (lv_at hl 7 rfl) ?_
                        refine lv_iload hx hb dX4_walks_138 (lv_at hl 8 rfl) ?_
                        obtain ⟨r27, hc27, hf⟩ := zz_bs hf
                        refine zz_cVi C hP hD hS (kX4_walkOnTrial l g q _ j1 hj1 (zzi u 12 (0 : Int32)) p3 p4 r27 hc27) gX4_walks_X4_walkOnTrial mX4_walkOnTrial (by decide) ⟨Nat.zero_le _, Nat.zero_le _⟩ 0 rfl rfl rfl rfl (rest := [.int p0, .ref (q 0)]) rfl hl.1 (Nat.le_of_ble_eq_true rfl) dX4_walks_140 (fun H locs hP hD hS => ?_)
                        refine lv_iload hx hb dX4_walks_143 (lv_at hl 9 rfl) ?_
                        obtain ⟨r28, hc28, hf⟩ := zz_bs hf
                        refine zz_cVi C hP hD hS (kX4_behindWalks l g q _ r27.2 p0 r27.1 p5 r28 hc28) gX4_walks_X4_behindWalks mX4_behindWalks (by decide) ⟨Nat.zero_le _, Nat.zero_le _⟩ 0 rfl rfl rfl rfl (rest := []) rfl hl.1 (Nat.le_of_ble_eq_true rfl) dX4_walks_145 (fun H locs hP hD hS => ?_)
                        exact ret _ _ _ _ (r28.1, r28.2) hf dX4_walks_148 hP hD hS
                      · have hf := zz_f c26 hf
                        refine lv_iload hx hb dX4_walks_128 (lv_at hl 0 rfl) ?_
                        exact ret _ _ _ _ (r25, (zzi u 12 (0 : Int32))) hf dX4_walks_130 hP hD hS
                    · have hf := zz_t c24 hf
                      refine lv_bipush (v := (-3 : Int32)) hx hb dX4_walks_108 (by decide) ?_
                      exact ret _ _ _ _ ((-3 : Int32), (zzi u 12 (0 : Int32))) hf dX4_walks_110 hP hD hS
                  · have hf := zz_f c22 hf
                    refine lv_aload_n hx hb dX4_walks_91 rfl (lv_at hl 2 rfl) ?_
                    refine lv_iload hx hb dX4_walks_92 (lv_at hl 0 rfl) ?_
                    obtain ⟨r29, hc29, hf⟩ := zz_bs hf
                    refine zz_cVi C hP hD hS (kX4_failed l g q _ (zzi u 12 (0 : Int32)) r10 r29 hc29) gX4_walks_X4_failed mX4_failed (by decide) ⟨Nat.zero_le _, Nat.zero_le _⟩ 0 rfl rfl rfl rfl (rest := []) rfl hl.1 (Nat.le_of_ble_eq_true rfl) dX4_walks_94 (fun H locs hP hD hS => ?_)
                    exact ret _ _ _ _ (r29.1, r29.2) hf dX4_walks_97 hP hD hS
                · have hf := zz_t c21 hf
                  refine lv_iconst (v := (3 : Int32)) hx hb dX4_walks_83 (by decide) ?_
                  refine lv_istore (lv' := [(8, .int (3 : Int32)), (7, .ref (q (14 + 2 * j1))), (0, .ref (q 0)), (1, .int p0), (2, .int p1), (3, .int p2), (4, .int p3), (5, .int p4), (6, .int p5)]) hx hb dX4_walks_84 hl (by decide) rfl (fun ls hl => ?_)
                  refine lv_iload hx hb dX4_walks_86 (lv_at hl 0 rfl) ?_
                  refine lv_if_eq (tgt := 98) hx hb dX4_walks_88 (by decide) (fun c30 => ?_) (fun c30 => ?_)
                  · have hf := zz_t c30 hf
                    refine lv_aload_n hx hb dX4_walks_98 rfl (lv_at hl 2 rfl) ?_
                    refine va_get (D := g.1) (ci := 4) (v := .ref (q 1)) (C := RX4) (T := TX4) (N := 7) hx hb hts iX4 hown hK hP 0 rfl rfl 0 (by decide) (zz_mem hts 2 rfl) (fun _ h9 => h9) rfl dX4_walks_99 ?_
                    obtain ⟨r31, hc31, hf⟩ := zz_bs hf
                    refine zz_cVz C hP hD hS (kX3_isLaid l g q _ 0 (by decide) (zzi u 12 (0 : Int32)) r31 hc31) gX4_walks_X3_isLaid mX3_isLaid (by decide) ⟨Nat.zero_le _, Nat.zero_le _⟩ 1 rfl rfl rfl rfl (rest := []) rfl hl.1 (Nat.le_of_ble_eq_true rfl) dX4_walks_102 (fun hz31 H locs hP hD hS => ?_)
                    refine lv_if_ne (tgt := 111) hx hb dX4_walks_105 (by decide) (fun c32 => ?_) (fun c32 => ?_)
                    · have hf := zz_f c32 hf
                      refine lv_aload_n hx hb dX4_walks_111 rfl (lv_at hl 2 rfl) ?_
                      refine lv_aload hx hb dX4_walks_112 (lv_at hl 1 rfl) ?_
                      refine lv_iload hx hb dX4_walks_114 (lv_at hl 6 rfl) ?_
                      refine lv_iload hx hb dX4_walks_116 (lv_at hl 7 rfl) ?_
                      obtain ⟨r33, hc33, hf⟩ := zz_bs hf
                      refine zz_cVi C hP hD hS (kX4_refusalOfPairs l g q _ j1 hj1 (zzi u 12 (0 : Int32)) p3 p4 r33 hc33) gX4_walks_X4_refusalOfPairs mX4_refusalOfPairs (by decide) ⟨Nat.zero_le _, Nat.zero_le _⟩ 0 rfl rfl rfl rfl (rest := []) rfl hl.1 (Nat.le_of_ble_eq_true rfl) dX4_walks_118 (fun H locs hP hD hS => ?_)
                      refine lv_istore (lv' := [(9, .int r33), (8, .int (3 : Int32)), (7, .ref (q (14 + 2 * j1))), (0, .ref (q 0)), (1, .int p0), (2, .int p1), (3, .int p2), (4, .int p3), (5, .int p4), (6, .int p5)]) hx hb dX4_walks_121 hl (by decide) rfl (fun ls hl => ?_)
                      refine lv_iload hx hb dX4_walks_123 (lv_at hl 0 rfl) ?_
                      refine lv_if_eq (tgt := 131) hx hb dX4_walks_125 (by decide) (fun c34 => ?_) (fun c34 => ?_)
                      · have hf := zz_t c34 hf
                        refine lv_aload_n hx hb dX4_walks_131 rfl (lv_at hl 3 rfl) ?_
                        refine lv_iload_n hx hb dX4_walks_132 rfl (lv_at hl 4 rfl) ?_
                        refine lv_aload_n hx hb dX4_walks_133 rfl (lv_at hl 3 rfl) ?_
                        refine lv_aload hx hb dX4_walks_134 (lv_at hl 2 rfl) ?_
                        refine lv_iload hx hb dX4_walks_136 (lv_at hl 7 rfl) ?_
                        refine lv_iload hx hb dX4_walks_138 (lv_at hl 8 rfl) ?_
                        obtain ⟨r35, hc35, hf⟩ := zz_bs hf
                        refine zz_cVi C hP hD hS (kX4_walkOnTrial l g q _ j1 hj1 (zzi u 12 (0 : Int32)) p3 p4 r35 hc35) gX4_walks_X4_walkOnTrial mX4_walkOnTrial (by decide) ⟨Nat.zero_le _, Nat.zero_le _⟩ 0 rfl rfl rfl rfl (rest := [.int p0, .ref (q 0)]) rfl hl.1 (Nat.le_of_ble_eq_true rfl) dX4_walks_140 (fun H locs hP hD hS => ?_)
                        refine lv_iload hx hb dX4_walks_143 (lv_at hl 9 rfl) ?_
                        obtain ⟨r36, hc36, hf⟩ := zz_bs hf
                        refine zz_cVi C hP hD hS (kX4_behindWalks l g q _ r35.2 p0 r35.1 p5 r36 hc36) gX4_walks_X4_behindWalks mX4_behindWalks (by decide) ⟨Nat.zero_le _, Nat.zero_le _⟩ 0 rfl rfl rfl rfl (rest := []) rfl hl.1 (Nat.le_of_ble_eq_true rfl) dX4_walks_145 (fun H locs hP hD hS => ?_)
                        exact ret _ _ _ _ (r36.1, r36.2) hf dX4_walks_148 hP hD hS
                      · have hf := zz_f c34 hf
                        refine lv_iload hx hb dX4_walks_128 (lv_at hl 0 rfl) ?_
                        exact ret _ _ _ _ (r33, (zzi u 12 (0 : Int32))) hf dX4_walks_130 hP hD hS
                    · have hf := zz_t c32 hf
                      refine lv_bipush (v := (-3 : Int32)) hx hb dX4_walks_108 (by decide) ?_
                      exact ret _ _ _ _ ((-3 : Int32), (zzi u 12 (0 : Int32))) hf dX4_walks_110 hP hD hS
                  · have hf := zz_f c30 hf
                    refine lv_aload_n hx hb dX4_walks_91 rfl (lv_at hl 2 rfl) ?_
                    refine lv_iload hx hb dX4_walks_92 (lv_at hl 0 rfl) ?_
                    obtain ⟨r37, hc37, hf⟩ := zz_bs hf
                    refine zz_cVi C hP hD hS (kX4_failed l g q _ (zzi u 12 (0 : Int32)) (3 : Int32) r37 hc37) gX4_walks_X4_failed mX4_failed (by decide) ⟨Nat.zero_le _, Nat.zero_le _⟩ 0 rfl rfl rfl rfl (rest := []) rfl hl.1 (Nat.le_of_ble_eq_true rfl) dX4_walks_94 (fun H locs hP hD hS => ?_)
                    exact ret _ _ _ _ (r37.1, r37.2) hf dX4_walks_97 hP hD hS
            · have hf := zz_t c9 hf
              refine lv_bipush (v := (-2 : Int32)) hx hb dX4_walks_53 (by decide) ?_
              exact ret _ _ _ _ ((-2 : Int32), (zzi u 12 (0 : Int32))) hf dX4_walks_55 hP hD hS
abbrev rX4_pair : Room := ({ frames := 4, cells := 0, slots := 0, locals := 104 })
theorem mX4_pair : zzM yX4_pair wsX4_pair cX4_pair 11 (some .int) RX4 4 := ⟨⟨_, rfl⟩, by decide +kernel⟩
def sX4_pair_100 (p0 : Int32) (p1 : Int32) (p2 : Int32) (p3 : Int32) (v12 : Int32 × Int32 × Int32 × Int32 × zzS) (rec13 : (Int32 × Int32 × Int32 × Int32 × zzS) → Option (Int32 × zzS)) : (Int32 × Int32 × Int32 × Int32 × zzS) → ((Int32 × Int32 × Int32 × Int32 × zzS) → Option (Int32 × zzS)) → Option (Int32 × zzS) := fun v19 rec20 => (if (9 : Int32) < v19.2.2.2.1 then (rec13 (v19.1, v19.2.1, v19.2.2.1, (v12.2.2.2.1 + (1 : Int32)), v19.2.2.2.2)) else (zzpa 5 p0 (zzpa 5 p1 ((fX3_everyone 1 (zza (zza v19.2.2.2.2 4 p0.toNatClampNeg v12.2.2.2.1) 4 p1.toNatClampNeg v19.2.2.2.1)).bind (fun r25 => ((fX4_countedOn 1 (zza (zza v19.2.2.2.2 4 p0.toNatClampNeg v12.2.2.2.1) 4 p1.toNatClampNeg v19.2.2.2.1) p2 r25).bind (fun r26 => (if v19.1 = (-9 : Int32) then (rec20 (r26.1, v12.2.2.2.1, v19.2.2.2.1, (v19.2.2.2.1 + (1 : Int32)), r26.2)) else (if v19.1 ≤ r26.1 then (rec20 (v19.1, v19.2.1, v19.2.2.1, (v19.2.2.2.1 + (1 : Int32)), r26.2)) else (rec20 (r26.1, v12.2.2.2.1, v19.2.2.2.1, (v19.2.2.2.1 + (1 : Int32)), r26.2)))))))))))
set_option maxHeartbeats 4000000 in
set_option maxRecDepth 100000 in
theorem wX4_pair_100 (l : Launch) (g : zzG) (q : Nat → Nat) (p0 : Int32) (p1 : Int32) (p2 : Int32) (p3 : Int32) (v12 : Int32 × Int32 × Int32 × Int32 × zzS) (rec13 : (Int32 × Int32 × Int32 × Int32 × zzS) → Option (Int32 × zzS)) (x : Int32 × zzS) {p : Program} {e : Env} {s : State} {m : MethodId} {below : List Frame} {meth : Method} {c : Code} {A : Nat → Prop} {Q : State → Prop} (C : zzC g p s m ([.ref (q 0), .int p0, .int p1, .int p2, .int p3] : List Value).toArray c cX4_pair 11 RX4 wsX4_pair A) (ret : zzRI l g rX4_pair cX4_pair [.ref (q 0), .int p0, .int p1, .int p2, .int p3] (fun x : Int32 × zzS => x.1) (fun x : Int32 × zzS => (zzX g q x.2)) x p e s m below meth c A Q) (ih14 : ∀ (vv : Int32 × Int32 × Int32 × Int32 × zzS), rec13 vv = some x → ∀ (H : Heap) (locs : List Loc) (ls : Array Slot), va_P g.1 vwCl (zzX g q vv.2.2.2.2) H → va_D A (zzX g q vv.2.2.2.2) → va_S A s.heap H locs → lv_has ls 11 [(0, .ref (q 0)), (1, .int p0), (2, .int p1), (3, .int p2), (4, .int p3), (5, .int (vv.1)), (6, .int (vv.2.1)), (7, .int (vv.2.2.1)), (8, .int (vv.2.2.2.1))] → W p l e rX4_pair s m ([.ref (q 0), .int p0, .int p1, .int p2, .int p3] : List Value).toArray below meth c H locs 0 0 Q (F0 m 83 ls [])) (n : Nat) (v19 : Int32 × Int32 × Int32 × Int32 × zzS) (hf : zzlp (sX4_pair_100 p0 p1 p2 p3 v12 rec13) n v19 = some x) : ∀ (H : Heap) (locs : List Loc) (ls : Array Slot), va_P g.1 vwCl (zzX g q v19.2.2.2.2) H → va_D A (zzX g q v19.2.2.2.2) → va_S A s.heap H locs → lv_has ls 11 [(0, .ref (q 0)), (1, .int p0), (2, .int p1), (3, .int p2), (4, .int p3), (5, .int (v19.1)), (6, .int (v19.2.1)), (7, .int (v19.2.2.1)), (8, .int (v12.2.2.2.1)), (9, .int (v19.2.2.2.1))] → W p l e rX4_pair s m ([.ref (q 0), .int p0, .int p1, .int p2, .int p3] : List Value).toArray below meth c H locs 0 0 Q (F0 m 100 ls []) := by
  have hx := C.1.1
  have hb := C.1.2.1
  have hml := C.1.2.2.1
  have hown := C.1.2.2.2.1
  have hts := C.1.2.2.2.2
  have hK := C.2.1
  have iX4 : ∀ w ∈ wsX40, w ∈ wsX4_pair := fun _ h => List.mem_cons_of_mem _ (List.mem_append_left _ (List.mem_append_left _ (List.mem_append_right _ h)))
  have iX3 : ∀ w ∈ wsX30, w ∈ wsX4_pair := fun _ h => List.mem_cons_of_mem _ (List.mem_append_left _ (List.mem_append_right _ h))
  have iX1 : ∀ w ∈ wsX10, w ∈ wsX4_pair := fun _ h => List.mem_cons_of_mem _ (List.mem_append_right _ h)
  refine zz_lp (P := fun (v19 : Int32 × Int32 × Int32 × Int32 × zzS) => ∀ (H : Heap) (locs : List Loc) (ls : Array Slot), va_P g.1 vwCl (zzX g q v19.2.2.2.2) H → va_D A (zzX g q v19.2.2.2.2) → va_S A s.heap H locs → lv_has ls 11 [(0, .ref (q 0)), (1, .int p0), (2, .int p1), (3, .int p2), (4, .int p3), (5, .int (v19.1)), (6, .int (v19.2.1)), (7, .int (v19.2.2.1)), (8, .int (v12.2.2.2.1)), (9, .int (v19.2.2.2.1))] → W p l e rX4_pair s m ([.ref (q 0), .int p0, .int p1, .int p2, .int p3] : List Value).toArray below meth c H locs 0 0 Q (F0 m 100 ls [])) (fun v19 rec20 ih21 hf H locs ls hP hD hS hl => ?_) n v19 hf
  unfold sX4_pair_100 at hf
  refine lv_iload hx hb dX4_pair_100 (lv_at hl 9 rfl) ?_
  refine lv_bipush (v := (9 : Int32)) hx hb dX4_pair_102 (by decide) ?_
  refine lv_icmp_gt (tgt := 179) hx hb dX4_pair_104 (by decide) (fun c22 => ?_) (fun c22 => ?_)
  · have hf := zz_t c22 hf
    refine lv_iinc (v := (v12.2.2.2.1 + (1 : Int32))) (lv' := [(8, .int (v12.2.2.2.1 + (1 : Int32))), (0, .ref (q 0)), (1, .int p0), (2, .int p1), (3, .int p2), (4, .int p3), (5, .int (v19.1)), (6, .int (v19.2.1)), (7, .int (v19.2.2.1)), (9, .int (v19.2.2.2.1))]) hx hb dX4_pair_179 hl (k := 8) rfl rfl (by decide) rfl (fun ls hl => ?_)
    refine lv_goto (tgt := 83) hx hb dX4_pair_182 (by decide) ?_
    exact ih14 _ hf _ _ _ hP hD hS (lv_sub hl [1, 2, 3, 4, 5, 6, 7, 8, 0] rfl)
  · have hf := zz_f c22 hf
    refine lv_aload_n hx hb dX4_pair_107 rfl (lv_at hl 0 rfl) ?_
    refine va_get (D := g.1) (ci := 4) (v := .ref (q 5)) (C := RX4) (T := TX4) (N := 7) hx hb hts iX4 hown hK hP 0 rfl rfl 1 (by decide) (zz_mem hts 2 rfl) (fun _ h9 => h9) rfl dX4_pair_108 ?_
    refine va_get (D := g.1) (ci := 3) (v := .ref (q 7)) (C := RX3) (T := TX3) (N := 6) hx hb hts iX3 hown hK hP 5 rfl rfl 1 (by decide) (zz_mem hts 3 rfl) (fun _ h9 => h9) rfl dX4_pair_111 ?_
    refine lv_iload_n hx hb dX4_pair_114 rfl (lv_at hl 1 rfl) ?_
    refine lv_iload hx hb dX4_pair_115 (lv_at hl 8 rfl) ?_
    obtain ⟨h23, hf⟩ := zz_pa hf
    refine va_iast hx hb hK hP hD hS 7 0 rfl rfl h23 dX4_pair_117 (fun H locs hP hD hS => ?_)
    have hP : va_P g.1 vwCl (zzX g q (zza v19.2.2.2.2 4 p0.toNatClampNeg v12.2.2.2.1)) H := Eq.mp (congrArg (fun w => va_P g.1 vwCl w H) (zxa_7 g q v19.2.2.2.2 (upd (v19.2.2.2.2.2 4) p0.toNatClampNeg v12.2.2.2.1))) hP
    have hD : va_D A (zzX g q (zza v19.2.2.2.2 4 p0.toNatClampNeg v12.2.2.2.1)) := Eq.mp (congrArg (va_D A) (zxa_7 g q v19.2.2.2.2 (upd (v19.2.2.2.2.2 4) p0.toNatClampNeg v12.2.2.2.1))) hD
    refine lv_aload_n hx hb dX4_pair_118 rfl (lv_at hl 0 rfl) ?_
    refine va_get (D := g.1) (ci := 4) (v := .ref (q 5)) (C := RX4) (T := TX4) (N := 7) hx hb hts iX4 hown hK hP 0 rfl rfl 1 (by decide) (zz_mem hts 2 rfl) (fun _ h9 => h9) rfl dX4_pair_119 ?_
    refine va_get (D := g.1) (ci := 3) (v := .ref (q 7)) (C := RX3) (T := TX3) (N := 6) hx hb hts iX3 hown hK hP 5 rfl rfl 1 (by decide) (zz_mem hts 3 rfl) (fun _ h9 => h9) rfl dX4_pair_122 ?_
    refine lv_iload_n hx hb dX4_pair_125 rfl (lv_at hl 2 rfl) ?_
    refine lv_iload hx hb dX4_pair_126 (lv_at hl 9 rfl) ?_
    obtain ⟨h24, hf⟩ := zz_pa hf
    refine va_iast hx hb hK hP hD hS 7 0 rfl rfl h24 dX4_pair_128 (fun H locs hP hD hS => ?_)
    have hP : va_P g.1 vwCl (zzX g q (zza (zza v19.2.2.2.2 4 p0.toNatClampNeg v12.2.2.2.1) 4 p1.toNatClampNeg v19.2.2.2.1)) H := Eq.mp (congrArg (fun w => va_P g.1 vwCl w H) (zxa_7 g q (zza v19.2.2.2.2 4 p0.toNatClampNeg v12.2.2.2.1) (upd ((zza v19.2.2.2.2 4 p0.toNatClampNeg v12.2.2.2.1).2 4) p1.toNatClampNeg v19.2.2.2.1))) hP
    have hD : va_D A (zzX g q (zza (zza v19.2.2.2.2 4 p0.toNatClampNeg v12.2.2.2.1) 4 p1.toNatClampNeg v19.2.2.2.1)) := Eq.mp (congrArg (va_D A) (zxa_7 g q (zza v19.2.2.2.2 4 p0.toNatClampNeg v12.2.2.2.1) (upd ((zza v19.2.2.2.2 4 p0.toNatClampNeg v12.2.2.2.1).2 4) p1.toNatClampNeg v19.2.2.2.1))) hD
    refine lv_aload_n hx hb dX4_pair_129 rfl (lv_at hl 0 rfl) ?_
    refine lv_aload_n hx hb dX4_pair_130 rfl (lv_at hl 0 rfl) ?_
    refine va_get (D := g.1) (ci := 4) (v := .ref (q 5)) (C := RX4) (T := TX4) (N := 7) hx hb hts iX4 hown hK hP 0 rfl rfl 1 (by decide) (zz_mem hts 2 rfl) (fun _ h9 => h9) rfl dX4_pair_131 ?_
    refine lv_iload_n hx hb dX4_pair_134 rfl (lv_at hl 3 rfl) ?_
    refine lv_aload_n hx hb dX4_pair_135 rfl (lv_at hl 0 rfl) ?_
    refine va_get (D := g.1) (ci := 4) (v := .ref (q 5)) (C := RX4) (T := TX4) (N := 7) hx hb hts iX4 hown hK hP 0 rfl rfl 1 (by decide) (zz_mem hts 2 rfl) (fun _ h9 => h9) rfl dX4_pair_136 ?_
    obtain ⟨r25, hc25, hf⟩ := zz_bs hf
    refine zz_cVi C hP hD hS (kX3_everyone l g q _ 1 (by decide) (zza (zza v19.2.2.2.2 4 p0.toNatClampNeg v12.2.2.2.1) 4 p1.toNatClampNeg v19.2.2.2.1) r25 hc25) gX4_pair_X3_everyone mX3_everyone (by decide) ⟨Nat.zero_le _, Nat.zero_le _⟩ 5 rfl rfl rfl rfl (rest := [.int p2, .ref (q 5), .ref (q 0)]) rfl hl.1 (Nat.le_of_ble_eq_true rfl) dX4_pair_139 (fun H locs hP hD hS => ?_)
    obtain ⟨r26, hc26, hf⟩ := zz_bs hf
    refine zz_cVi C hP hD hS (kX4_countedOn l g q _ 1 (by decide) (zza (zza v19.2.2.2.2 4 p0.toNatClampNeg v12.2.2.2.1) 4 p1.toNatClampNeg v19.2.2.2.1) p2 r25 r26 hc26) gX4_pair_X4_countedOn mX4_countedOn (by decide) ⟨Nat.zero_le _, Nat.zero_le _⟩ 0 rfl rfl rfl rfl (rest := []) rfl hl.1 (Nat.le_of_ble_eq_true rfl) dX4_pair_142 (fun H locs hP hD hS => ?_)
    refine lv_istore (lv' := [(10, .int (r26.1)), (0, .ref (q 0)), (1, .int p0), (2, .int p1), (3, .int p2), (4, .int p3), (5, .int (v19.1)), (6, .int (v19.2.1)), (7, .int (v19.2.2.1)), (8, .int (v12.2.2.2.1)), (9, .int (v19.2.2.2.1))]) hx hb dX4_pair_145 hl (by decide) rfl (fun ls hl => ?_)
    refine lv_iload hx hb dX4_pair_147 (lv_at hl 6 rfl) ?_
    refine lv_bipush (v := (-9 : Int32)) hx hb dX4_pair_149 (by decide) ?_
    refine lv_icmp_eq (tgt := 161) hx hb dX4_pair_151 (by decide) (fun c27 => ?_) (fun c27 => ?_)
    · have hf := zz_t c27 hf
      refine lv_iload hx hb dX4_pair_161 (lv_at hl 0 rfl) ?_
      refine lv_istore (lv' := [(5, .int (r26.1)), (10, .int (r26.1)), (0, .ref (q 0)), (1, .int p0), (2, .int p1), (3, .int p2), (4, .int p3), (6, .int (v19.2.1)), (7, .int (v19.2.2.1)), (8, .int (v12.2.2.2.1)), (9, .int (v19.2.2.2.1))]) hx hb dX4_pair_163 hl (by decide) rfl (fun ls hl => ?_)
      refine lv_iload hx hb dX4_pair_165 (lv_at hl 9 rfl) ?_
      refine lv_istore (lv' := [(6, .int (v12.2.2.2.1)), (5, .int (r26.1)), (10, .int (r26.1)), (0, .ref (q 0)), (1, .int p0), (2, .int p1), (3, .int p2), (4, .int p3), (7, .int (v19.2.2.1)), (8, .int (v12.2.2.2.1)), (9, .int (v19.2.2.2.1))]) hx hb dX4_pair_167 hl (by decide) rfl (fun ls hl => ?_)
      refine lv_iload hx hb dX4_pair_169 (lv_at hl 10 rfl) ?_
      refine lv_istore (lv' := [(7, .int (v19.2.2.2.1)), (6, .int (v12.2.2.2.1)), (5, .int (r26.1)), (10, .int (r26.1)), (0, .ref (q 0)), (1, .int p0), (2, .int p1), (3, .int p2), (4, .int p3), (8, .int (v12.2.2.2.1)), (9, .int (v19.2.2.2.1))]) hx hb dX4_pair_171 hl (by decide) rfl (fun ls hl => ?_)
      refine lv_iinc (v := (v19.2.2.2.1 + (1 : Int32))) (lv' := [(9, .int (v19.2.2.2.1 + (1 : Int32))), (7, .int (v19.2.2.2.1)), (6, .int (v12.2.2.2.1)), (5, .int (r26.1)), (10, .int (r26.1)), (0, .ref (q 0)), (1, .int p0), (2, .int p1), (3, .int p2), (4, .int p3), (8, .int (v12.2.2.2.1))]) hx hb dX4_pair_173 hl (k := 10) rfl rfl (by decide) rfl (fun ls hl => ?_)
      refine lv_goto (tgt := 100) hx hb dX4_pair_176 (by decide) ?_
      exact ih21 _ hf _ _ _ hP hD hS (lv_sub hl [5, 6, 7, 8, 9, 3, 2, 1, 10, 0] rfl)
    · have hf := zz_f c27 hf
      refine lv_iload hx hb dX4_pair_154 (lv_at hl 0 rfl) ?_
      refine lv_iload hx hb dX4_pair_156 (lv_at hl 6 rfl) ?_
      refine lv_icmp_ge (tgt := 173) hx hb dX4_pair_158 (by decide) (fun c28 => ?_) (fun c28 => ?_)
      · have hf := zz_t c28 hf
        refine lv_iinc (v := (v19.2.2.2.1 + (1 : Int32))) (lv' := [(9, .int (v19.2.2.2.1 + (1 : Int32))), (10, .int (r26.1)), (0, .ref (q 0)), (1, .int p0), (2, .int p1), (3, .int p2), (4, .int p3), (5, .int (v19.1)), (6, .int (v19.2.1)), (7, .int (v19.2.2.1)), (8, .int (v12.2.2.2.1))]) hx hb dX4_pair_173 hl (k := 10) rfl rfl (by decide) rfl (fun ls hl => ?_)
        refine lv_goto (tgt := 100) hx hb dX4_pair_176 (by decide) ?_
        exact ih21 _ hf _ _ _ hP hD hS (lv_sub hl [2, 3, 4, 5, 6, 7, 8, 9, 10, 0] rfl)
      · have hf := zz_f c28 hf
        refine lv_iload hx hb dX4_pair_161 (lv_at hl 0 rfl) ?_
        refine lv_istore (lv' := [(5, .int (r26.1)), (10, .int (r26.1)), (0, .ref (q 0)), (1, .int p0), (2, .int p1), (3, .int p2), (4, .int p3), (6, .int (v19.2.1)), (7, .int (v19.2.2.1)), (8, .int (v12.2.2.2.1)), (9, .int (v19.2.2.2.1))]) hx hb dX4_pair_163 hl (by decide) rfl (fun ls hl => ?_)
        refine lv_iload hx hb dX4_pair_165 (lv_at hl 9 rfl) ?_
        refine lv_istore (lv' := [(6, .int (v12.2.2.2.1)), (5, .int (r26.1)), (10, .int (r26.1)), (0, .ref (q 0)), (1, .int p0), (2, .int p1), (3, .int p2), (4, .int p3), (7, .int (v19.2.2.1)), (8, .int (v12.2.2.2.1)), (9, .int (v19.2.2.2.1))]) hx hb dX4_pair_167 hl (by decide) rfl (fun ls hl => ?_)
        refine lv_iload hx hb dX4_pair_169 (lv_at hl 10 rfl) ?_
        refine lv_istore (lv' := [(7, .int (v19.2.2.2.1)), (6, .int (v12.2.2.2.1)), (5, .int (r26.1)), (10, .int (r26.1)), (0, .ref (q 0)), (1, .int p0), (2, .int p1), (3, .int p2), (4, .int p3), (8, .int (v12.2.2.2.1)), (9, .int (v19.2.2.2.1))]) hx hb dX4_pair_171 hl (by decide) rfl (fun ls hl => ?_)
        refine lv_iinc (v := (v19.2.2.2.1 + (1 : Int32))) (lv' := [(9, .int (v19.2.2.2.1 + (1 : Int32))), (7, .int (v19.2.2.2.1)), (6, .int (v12.2.2.2.1)), (5, .int (r26.1)), (10, .int (r26.1)), (0, .ref (q 0)), (1, .int p0), (2, .int p1), (3, .int p2), (4, .int p3), (8, .int (v12.2.2.2.1))]) hx hb dX4_pair_173 hl (k := 10) rfl rfl (by decide) rfl (fun ls hl => ?_)
        refine lv_goto (tgt := 100) hx hb dX4_pair_176 (by decide) ?_
        exact ih21 _ hf _ _ _ hP hD hS (lv_sub hl [5, 6, 7, 8, 9, 3, 2, 1, 10, 0] rfl)
def sX4_pair_83 (p0 : Int32) (p1 : Int32) (p2 : Int32) (p3 : Int32) : (Int32 × Int32 × Int32 × Int32 × zzS) → ((Int32 × Int32 × Int32 × Int32 × zzS) → Option (Int32 × zzS)) → Option (Int32 × zzS) := fun v12 rec13 => (if (9 : Int32) < v12.2.2.2.1 then (if p3 = (0 : Int32) then (some (v12.1, v12.2.2.2.2)) else (if p3 = (1 : Int32) then (some (v12.2.1, v12.2.2.2.2)) else (some (v12.2.2.1, v12.2.2.2.2)))) else ((fX3_firstLitFoot 0 v12.2.2.2.2 p2).bind (fun r18 => (zzlp (sX4_pair_100 p0 p1 p2 p3 v12 rec13) zzFU (v12.1, v12.2.1, v12.2.2.1, r18, v12.2.2.2.2)))))
set_option maxHeartbeats 4000000 in
set_option maxRecDepth 100000 in
theorem wX4_pair_83 (l : Launch) (g : zzG) (q : Nat → Nat) (p0 : Int32) (p1 : Int32) (p2 : Int32) (p3 : Int32) (x : Int32 × zzS) {p : Program} {e : Env} {s : State} {m : MethodId} {below : List Frame} {meth : Method} {c : Code} {A : Nat → Prop} {Q : State → Prop} (C : zzC g p s m ([.ref (q 0), .int p0, .int p1, .int p2, .int p3] : List Value).toArray c cX4_pair 11 RX4 wsX4_pair A) (ret : zzRI l g rX4_pair cX4_pair [.ref (q 0), .int p0, .int p1, .int p2, .int p3] (fun x : Int32 × zzS => x.1) (fun x : Int32 × zzS => (zzX g q x.2)) x p e s m below meth c A Q)  (n : Nat) (v12 : Int32 × Int32 × Int32 × Int32 × zzS) (hf : zzlp (sX4_pair_83 p0 p1 p2 p3) n v12 = some x) : ∀ (H : Heap) (locs : List Loc) (ls : Array Slot), va_P g.1 vwCl (zzX g q v12.2.2.2.2) H → va_D A (zzX g q v12.2.2.2.2) → va_S A s.heap H locs → lv_has ls 11 [(0, .ref (q 0)), (1, .int p0), (2, .int p1), (3, .int p2), (4, .int p3), (5, .int (v12.1)), (6, .int (v12.2.1)), (7, .int (v12.2.2.1)), (8, .int (v12.2.2.2.1))] → W p l e rX4_pair s m ([.ref (q 0), .int p0, .int p1, .int p2, .int p3] : List Value).toArray below meth c H locs 0 0 Q (F0 m 83 ls []) := by
  have hx := C.1.1
  have hb := C.1.2.1
  have hml := C.1.2.2.1
  have hown := C.1.2.2.2.1
  have hts := C.1.2.2.2.2
  have hK := C.2.1
  have iX4 : ∀ w ∈ wsX40, w ∈ wsX4_pair := fun _ h => List.mem_cons_of_mem _ (List.mem_append_left _ (List.mem_append_left _ (List.mem_append_right _ h)))
  have iX3 : ∀ w ∈ wsX30, w ∈ wsX4_pair := fun _ h => List.mem_cons_of_mem _ (List.mem_append_left _ (List.mem_append_right _ h))
  have iX1 : ∀ w ∈ wsX10, w ∈ wsX4_pair := fun _ h => List.mem_cons_of_mem _ (List.mem_append_right _ h)
  refine zz_lp (P := fun (v12 : Int32 × Int32 × Int32 × Int32 × zzS) => ∀ (H : Heap) (locs : List Loc) (ls : Array Slot), va_P g.1 vwCl (zzX g q v12.2.2.2.2) H → va_D A (zzX g q v12.2.2.2.2) → va_S A s.heap H locs → lv_has ls 11 [(0, .ref (q 0)), (1, .int p0), (2, .int p1), (3, .int p2), (4, .int p3), (5, .int (v12.1)), (6, .int (v12.2.1)), (7, .int (v12.2.2.1)), (8, .int (v12.2.2.2.1))] → W p l e rX4_pair s m ([.ref (q 0), .int p0, .int p1, .int p2, .int p3] : List Value).toArray below meth c H locs 0 0 Q (F0 m 83 ls [])) (fun v12 rec13 ih14 hf H locs ls hP hD hS hl => ?_) n v12 hf
  unfold sX4_pair_83 at hf
  refine lv_iload hx hb dX4_pair_83 (lv_at hl 8 rfl) ?_
  refine lv_bipush (v := (9 : Int32)) hx hb dX4_pair_85 (by decide) ?_
  refine lv_icmp_gt (tgt := 185) hx hb dX4_pair_87 (by decide) (fun c15 => ?_) (fun c15 => ?_)
  · have hf := zz_t c15 hf
    refine lv_iload hx hb dX4_pair_185 (lv_at hl 4 rfl) ?_
    by_cases c16 : p3 = (0 : Int32)
    · have hf := zz_t c16 hf
      refine lv_lookup (tgt := 212) (off := 25) hx hb dX4_pair_187 (by decide) (by rw [c16]; decide) (by decide) ?_
      refine lv_iload hx hb dX4_pair_212 (lv_at hl 5 rfl) ?_
      exact ret _ _ _ _ (v12.1, v12.2.2.2.2) hf dX4_pair_214 hP hD hS
    · have hf := zz_f c16 hf
      by_cases c17 : p3 = (1 : Int32)
      · have hf := zz_t c17 hf
        refine lv_lookup (tgt := 215) (off := 28) hx hb dX4_pair_187 (by decide) (by rw [c17]; decide) (by decide) ?_
        refine lv_iload hx hb dX4_pair_215 (lv_at hl 6 rfl) ?_
        exact ret _ _ _ _ (v12.2.1, v12.2.2.2.2) hf dX4_pair_217 hP hD hS
      · have hf := zz_f c17 hf
        have ac16 : p3.toInt ≠ 0 := fun h => c16 (Int32.toInt_inj.mp (h.trans (by decide)))
        have ac17 : p3.toInt ≠ 1 := fun h => c17 (Int32.toInt_inj.mp (h.trans (by decide)))
        refine lv_lookup (tgt := 218) (off := 31) hx hb dX4_pair_187 (by decide) (zz_lk2 ac16 ac17) (by decide) ?_
        refine lv_iload hx hb dX4_pair_218 (lv_at hl 7 rfl) ?_
        exact ret _ _ _ _ (v12.2.2.1, v12.2.2.2.2) hf dX4_pair_220 hP hD hS
  · have hf := zz_f c15 hf
    refine lv_aload_n hx hb dX4_pair_90 rfl (lv_at hl 0 rfl) ?_
    refine va_get (D := g.1) (ci := 4) (v := .ref (q 1)) (C := RX4) (T := TX4) (N := 7) hx hb hts iX4 hown hK hP 0 rfl rfl 0 (by decide) (zz_mem hts 1 rfl) (fun _ h9 => h9) rfl dX4_pair_91 ?_
    refine lv_iload_n hx hb dX4_pair_94 rfl (lv_at hl 3 rfl) ?_
    obtain ⟨r18, hc18, hf⟩ := zz_bs hf
    refine zz_cVi C hP hD hS (kX3_firstLitFoot l g q _ 0 (by decide) v12.2.2.2.2 p2 r18 hc18) gX4_pair_X3_firstLitFoot mX3_firstLitFoot (by decide) ⟨Nat.zero_le _, Nat.zero_le _⟩ 1 rfl rfl rfl rfl (rest := []) rfl hl.1 (Nat.le_of_ble_eq_true rfl) dX4_pair_95 (fun H locs hP hD hS => ?_)
    refine lv_istore (lv' := [(9, .int r18), (0, .ref (q 0)), (1, .int p0), (2, .int p1), (3, .int p2), (4, .int p3), (5, .int (v12.1)), (6, .int (v12.2.1)), (7, .int (v12.2.2.1)), (8, .int (v12.2.2.2.1))]) hx hb dX4_pair_98 hl (by decide) rfl (fun ls hl => ?_)
    exact wX4_pair_100 l g q p0 p1 p2 p3 v12 rec13 x C ret ih14 _ _ hf _ _ _ hP hD hS (lv_sub hl [1, 2, 3, 4, 5, 6, 7, 8, 9, 0] rfl)
def fX4_pair (u : zzS) (p0 : Int32) (p1 : Int32) (p2 : Int32) (p3 : Int32) : Option (Int32 × zzS) := ((fX3_has 0 u p0).bind (fun r1 => (if r1 = 0 then (some ((-1 : Int32), u)) else ((fX3_has 0 u p1).bind (fun r3 => (if r3 = 0 then (some ((-1 : Int32), u)) else (if p0 = p1 then (some ((-1 : Int32), u)) else ((fX4_isSun p2).bind (fun r6 => (if r6 = 0 then (some ((-2 : Int32), u)) else (if p3 < 0 then (some ((-2 : Int32), u)) else (if p3 ≤ (2 : Int32) then ((fX3_becomeLike u).bind (fun r10 => ((fX3_firstLitFoot 0 r10 p2).bind (fun r11 => (zzlp (sX4_pair_83 p0 p1 p2 p3) zzFU ((-9 : Int32), (-9 : Int32), (-9 : Int32), r11, r10)))))) else (some ((-2 : Int32), u))))))))))))))
set_option maxHeartbeats 4000000 in
set_option maxRecDepth 100000 in
theorem kX4_pair (l : Launch) (g : zzG) (q : Nat → Nat) (sz : Nat) (u : zzS) (p0 : Int32) (p1 : Int32) (p2 : Int32) (p3 : Int32) (x : Int32 × zzS) (hf : fX4_pair u p0 p1 p2 p3 = some x) : zzI l g yX4_pair wsX4_pair rX4_pair [.ref (q 0), .int p0, .int p1, .int p2, .int p3] (zzX g q u) (zzX g q x.2) sz x.1 := by
  refine zz_mi (cc := cX4_pair) (mL := 11) (own := RX4) (fun x : Int32 × zzS => x.1) (fun x : Int32 × zzS => (zzX g q x.2)) x (by decide) rfl rfl (Nat.le_of_ble_eq_true rfl) ?_
  intro p e s m below meth c A Q ls C ret hP hD hS hl
  have hl : lv_has ls 11 [(0, .ref (q 0)), (1, .int p0), (2, .int p1), (3, .int p2), (4, .int p3)] := hl
  have hx := C.1.1
  have hb := C.1.2.1
  have hml := C.1.2.2.1
  have hown := C.1.2.2.2.1
  have hts := C.1.2.2.2.2
  have hK := C.2.1
  have iX4 : ∀ w ∈ wsX40, w ∈ wsX4_pair := fun _ h => List.mem_cons_of_mem _ (List.mem_append_left _ (List.mem_append_left _ (List.mem_append_right _ h)))
  have iX3 : ∀ w ∈ wsX30, w ∈ wsX4_pair := fun _ h => List.mem_cons_of_mem _ (List.mem_append_left _ (List.mem_append_right _ h))
  have iX1 : ∀ w ∈ wsX10, w ∈ wsX4_pair := fun _ h => List.mem_cons_of_mem _ (List.mem_append_right _ h)
  unfold fX4_pair at hf
  refine lv_aload_n hx hb dX4_pair_0 rfl (lv_at hl 0 rfl) ?_
  refine va_get (D := g.1) (ci := 4) (v := .ref (q 1)) (C := RX4) (T := TX4) (N := 7) hx hb hts iX4 hown hK hP 0 rfl rfl 0 (by decide) (zz_mem hts 1 rfl) (fun _ h9 => h9) rfl dX4_pair_1 ?_
  refine lv_iload_n hx hb dX4_pair_4 rfl (lv_at hl 1 rfl) ?_
  obtain ⟨r1, hc1, hf⟩ := zz_bs hf
  refine zz_cVz C hP hD hS (kX3_has l g q _ 0 (by decide) u p0 r1 hc1) gX4_pair_X3_has mX3_has (by decide) ⟨Nat.zero_le _, Nat.zero_le _⟩ 1 rfl rfl rfl rfl (rest := []) rfl hl.1 (Nat.le_of_ble_eq_true rfl) dX4_pair_5 (fun hz1 H locs hP hD hS => ?_)
  refine lv_if_eq (tgt := 27) hx hb dX4_pair_8 (by decide) (fun c2 => ?_) (fun c2 => ?_)
  · have hf := zz_t c2 hf
    refine lv_iconst (v := (-1 : Int32)) hx hb dX4_pair_27 (by decide) ?_
    exact ret _ _ _ _ ((-1 : Int32), u) hf dX4_pair_28 hP hD hS
  · have hf := zz_f c2 hf
    refine lv_aload_n hx hb dX4_pair_11 rfl (lv_at hl 0 rfl) ?_
    refine va_get (D := g.1) (ci := 4) (v := .ref (q 1)) (C := RX4) (T := TX4) (N := 7) hx hb hts iX4 hown hK hP 0 rfl rfl 0 (by decide) (zz_mem hts 1 rfl) (fun _ h9 => h9) rfl dX4_pair_12 ?_
    refine lv_iload_n hx hb dX4_pair_15 rfl (lv_at hl 2 rfl) ?_
    obtain ⟨r3, hc3, hf⟩ := zz_bs hf
    refine zz_cVz C hP hD hS (kX3_has l g q _ 0 (by decide) u p1 r3 hc3) gX4_pair_X3_has mX3_has (by decide) ⟨Nat.zero_le _, Nat.zero_le _⟩ 1 rfl rfl rfl rfl (rest := []) rfl hl.1 (Nat.le_of_ble_eq_true rfl) dX4_pair_16 (fun hz3 H locs hP hD hS => ?_)
    refine lv_if_eq (tgt := 27) hx hb dX4_pair_19 (by decide) (fun c4 => ?_) (fun c4 => ?_)
    · have hf := zz_t c4 hf
      refine lv_iconst (v := (-1 : Int32)) hx hb dX4_pair_27 (by decide) ?_
      exact ret _ _ _ _ ((-1 : Int32), u) hf dX4_pair_28 hP hD hS
    · have hf := zz_f c4 hf
      refine lv_iload_n hx hb dX4_pair_22 rfl (lv_at hl 1 rfl) ?_
      refine lv_iload_n hx hb dX4_pair_23 rfl (lv_at hl 2 rfl) ?_
      refine lv_icmp_ne (tgt := 29) hx hb dX4_pair_24 (by decide) (fun c5 => ?_) (fun c5 => ?_)
      · have hf := zz_f c5 hf
        refine lv_iload_n hx hb dX4_pair_29 rfl (lv_at hl 3 rfl) ?_
        obtain ⟨r6, hc6, hf⟩ := zz_bs hf
        refine zz_cSz C hP hD hS (kX4_isSun l g (zzX g q u) _ p2 r6 hc6) gX4_pair_X4_isSun mX4_isSun (by decide) ⟨Nat.zero_le _, Nat.zero_le _⟩ rfl (rest := []) rfl hl.1 (Nat.le_of_ble_eq_true rfl) dX4_pair_30 (fun hz6 H locs hP hD hS => ?_)
        refine lv_if_eq (tgt := 47) hx hb dX4_pair_33 (by decide) (fun c7 => ?_) (fun c7 => ?_)
        · have hf := zz_t c7 hf
          refine lv_bipush (v := (-2 : Int32)) hx hb dX4_pair_47 (by decide) ?_
          exact ret _ _ _ _ ((-2 : Int32), u) hf dX4_pair_49 hP hD hS
        · have hf := zz_f c7 hf
          refine lv_iload hx hb dX4_pair_36 (lv_at hl 4 rfl) ?_
          refine lv_if_lt (tgt := 47) hx hb dX4_pair_38 (by decide) (fun c8 => ?_) (fun c8 => ?_)
          · have hf := zz_t c8 hf
            refine lv_bipush (v := (-2 : Int32)) hx hb dX4_pair_47 (by decide) ?_
            exact ret _ _ _ _ ((-2 : Int32), u) hf dX4_pair_49 hP hD hS
          · have hf := zz_f c8 hf
            refine lv_iload hx hb dX4_pair_41 (lv_at hl 4 rfl) ?_
            refine lv_iconst (v := (2 : Int32)) hx hb dX4_pair_43 (by decide) ?_
            refine lv_icmp_le (tgt := 50) hx hb dX4_pair_44 (by decide) (fun c9 => ?_) (fun c9 => ?_)
            · have hf := zz_t c9 hf
              refine lv_aload_n hx hb dX4_pair_50 rfl (lv_at hl 0 rfl) ?_
              refine va_get (D := g.1) (ci := 4) (v := .ref (q 5)) (C := RX4) (T := TX4) (N := 7) hx hb hts iX4 hown hK hP 0 rfl rfl 1 (by decide) (zz_mem hts 2 rfl) (fun _ h9 => h9) rfl dX4_pair_51 ?_
              refine lv_aload_n hx hb dX4_pair_54 rfl (lv_at hl 0 rfl) ?_
              refine va_get (D := g.1) (ci := 4) (v := .ref (q 1)) (C := RX4) (T := TX4) (N := 7) hx hb hts iX4 hown hK hP 0 rfl rfl 0 (by decide) (zz_mem hts 1 rfl) (fun _ h9 => h9) rfl dX4_pair_55 ?_
              obtain ⟨r10, hc10, hf⟩ := zz_bs hf
              refine zz_cVv C hP hD hS (kX3_becomeLike l g q _ u r10 hc10) gX4_pair_X3_becomeLike mX3_becomeLike (by decide) ⟨Nat.zero_le _, Nat.zero_le _⟩ 5 rfl rfl rfl rfl (rest := []) rfl hl.1 (Nat.le_of_ble_eq_true rfl) dX4_pair_58 (fun H locs hP hD hS => ?_)
              refine lv_bipush (v := (-9 : Int32)) hx hb dX4_pair_61 (by decide) ?_
              refine lv_istore (lv' := [(5, .int (-9 : Int32)), (0, .ref (q 0)), (1, .int p0), (2, .int p1), (3, .int p2), (4, .int p3)]) hx hb dX4_pair_63 hl (by decide) rfl (fun ls hl => ?_)
              refine lv_bipush (v := (-9 : Int32)) hx hb dX4_pair_65 (by decide) ?_
              refine lv_istore (lv' := [(6, .int (-9 : Int32)), (5, .int (-9 : Int32)), (0, .ref (q 0)), (1, .int p0), (2, .int p1), (3, .int p2), (4, .int p3)]) hx hb dX4_pair_67 hl (by decide) rfl (fun ls hl => ?_)
              refine lv_bipush (v := (-9 : Int32)) hx hb dX4_pair_69 (by decide) ?_
              refine lv_istore (lv' := [(7, .int (-9 : Int32)), (6, .int (-9 : Int32)), (5, .int (-9 : Int32)), (0, .ref (q 0)), (1, .int p0), (2, .int p1), (3, .int p2), (4, .int p3)]) hx hb dX4_pair_71 hl (by decide) rfl (fun ls hl => ?_)
              refine lv_aload_n hx hb dX4_pair_73 rfl (lv_at hl 3 rfl) ?_
              refine va_get (D := g.1) (ci := 4) (v := .ref (q 1)) (C := RX4) (T := TX4) (N := 7) hx hb hts iX4 hown hK hP 0 rfl rfl 0 (by decide) (zz_mem hts 1 rfl) (fun _ h9 => h9) rfl dX4_pair_74 ?_
              refine lv_iload_n hx hb dX4_pair_77 rfl (lv_at hl 6 rfl) ?_
              obtain ⟨r11, hc11, hf⟩ := zz_bs hf
              refine zz_cVi C hP hD hS (kX3_firstLitFoot l g q _ 0 (by decide) r10 p2 r11 hc11) gX4_pair_X3_firstLitFoot mX3_firstLitFoot (by decide) ⟨Nat.zero_le _, Nat.zero_le _⟩ 1 rfl rfl rfl rfl (rest := []) rfl hl.1 (Nat.le_of_ble_eq_true rfl) dX4_pair_78 (fun H locs hP hD hS => ?_)
              refine lv_istore (lv' := [(8, .int r11), (7, .int (-9 : Int32)), (6, .int (-9 : Int32)), (5, .int (-9 : Int32)), (0, .ref (q 0)), (1, .int p0), (2, .int p1), (3, .int p2), (4, .int p3)]) hx hb dX4_pair_81 hl (by decide) rfl (fun ls hl => ?_)
              exact wX4_pair_83 l g q p0 p1 p2 p3 x C ret  _ _ hf _ _ _ hP hD hS (lv_sub hl [4, 5, 6, 7, 8, 3, 2, 1, 0] rfl)
            · have hf := zz_f c9 hf
              refine lv_bipush (v := (-2 : Int32)) hx hb dX4_pair_47 (by decide) ?_
              exact ret _ _ _ _ ((-2 : Int32), u) hf dX4_pair_49 hP hD hS
      · have hf := zz_t c5 hf
        refine lv_iconst (v := (-1 : Int32)) hx hb dX4_pair_27 (by decide) ?_
        exact ret _ _ _ _ ((-1 : Int32), u) hf dX4_pair_28 hP hD hS
abbrev rX4_refusalOfCount : Room := ({ frames := 2, cells := 0, slots := 0, locals := 41 })
theorem mX4_refusalOfCount : zzM yX4_refusalOfCount wsX4_refusalOfCount cX4_refusalOfCount 3 (some .int) RX4 2 := ⟨⟨_, rfl⟩, by decide +kernel⟩
def fX4_refusalOfCount (u : zzS) (p0 : Int32) (p1 : Int32) : Option Int32 := (if p1 < 0 then (some (-2 : Int32)) else (if p1 ≤ (99 : Int32) then ((fX4_refusalAt u p0).bind (fun r3 => (some r3))) else (some (-2 : Int32))))
set_option maxHeartbeats 4000000 in
set_option maxRecDepth 100000 in
theorem kX4_refusalOfCount (l : Launch) (g : zzG) (q : Nat → Nat) (sz : Nat) (u : zzS) (p0 : Int32) (p1 : Int32) (x : Int32) (hf : fX4_refusalOfCount u p0 p1 = some x) : zzI l g yX4_refusalOfCount wsX4_refusalOfCount rX4_refusalOfCount [.ref (q 0), .int p0, .int p1] (zzX g q u) (zzX g q u) sz x := by
  refine zz_mi (cc := cX4_refusalOfCount) (mL := 3) (own := RX4) (fun x : Int32 => x) (fun x : Int32 => (zzX g q u)) x (by decide) rfl rfl (Nat.le_of_ble_eq_true rfl) ?_
  intro p e s m below meth c A Q ls C ret hP hD hS hl
  have hl : lv_has ls 3 [(0, .ref (q 0)), (1, .int p0), (2, .int p1)] := hl
  have hx := C.1.1
  have hb := C.1.2.1
  have hml := C.1.2.2.1
  have hown := C.1.2.2.2.1
  have hts := C.1.2.2.2.2
  have hK := C.2.1
  have iX4 : ∀ w ∈ wsX40, w ∈ wsX4_refusalOfCount := fun _ h => List.mem_cons_of_mem _ (List.mem_append_left _ (List.mem_append_right _ h))
  have iX3 : ∀ w ∈ wsX30, w ∈ wsX4_refusalOfCount := fun _ h => List.mem_cons_of_mem _ (List.mem_append_right _ h)
  unfold fX4_refusalOfCount at hf
  refine lv_iload_n hx hb dX4_refusalOfCount_0 rfl (lv_at hl 2 rfl) ?_
  refine lv_if_lt (tgt := 10) hx hb dX4_refusalOfCount_1 (by decide) (fun c1 => ?_) (fun c1 => ?_)
  · have hf := zz_t c1 hf
    refine lv_bipush (v := (-2 : Int32)) hx hb dX4_refusalOfCount_10 (by decide) ?_
    refine lv_goto (tgt := 20) hx hb dX4_refusalOfCount_12 (by decide) ?_
    exact ret _ _ _ _ (-2 : Int32) hf dX4_refusalOfCount_20 hP hD hS
  · have hf := zz_f c1 hf
    refine lv_iload_n hx hb dX4_refusalOfCount_4 rfl (lv_at hl 2 rfl) ?_
    refine lv_bipush (v := (99 : Int32)) hx hb dX4_refusalOfCount_5 (by decide) ?_
    refine lv_icmp_le (tgt := 15) hx hb dX4_refusalOfCount_7 (by decide) (fun c2 => ?_) (fun c2 => ?_)
    · have hf := zz_t c2 hf
      refine lv_aload_n hx hb dX4_refusalOfCount_15 rfl (lv_at hl 0 rfl) ?_
      refine lv_iload_n hx hb dX4_refusalOfCount_16 rfl (lv_at hl 1 rfl) ?_
      obtain ⟨r3, hc3, hf⟩ := zz_bs hf
      refine zz_cVi C hP hD hS (kX4_refusalAt l g q _ u p0 r3 hc3) gX4_refusalOfCount_X4_refusalAt mX4_refusalAt (by decide) ⟨Nat.zero_le _, Nat.zero_le _⟩ 0 rfl rfl rfl rfl (rest := []) rfl hl.1 (Nat.le_of_ble_eq_true rfl) dX4_refusalOfCount_17 (fun H locs hP hD hS => ?_)
      exact ret _ _ _ _ r3 hf dX4_refusalOfCount_20 hP hD hS
    · have hf := zz_f c2 hf
      refine lv_bipush (v := (-2 : Int32)) hx hb dX4_refusalOfCount_10 (by decide) ?_
      refine lv_goto (tgt := 20) hx hb dX4_refusalOfCount_12 (by decide) ?_
      exact ret _ _ _ _ (-2 : Int32) hf dX4_refusalOfCount_20 hP hD hS
abbrev rJ6_bitCount_0f7a4 : Room := ({ frames := 0, cells := 0, slots := 0, locals := 0 })
theorem mJ6_bitCount_0f7a4 : zzM yJ6_bitCount_0f7a4 wsJ6_bitCount_0f7a4 cJ6_bitCount_0f7a4 1 (some .int) RJ6 1 := ⟨⟨_, rfl⟩, by decide +kernel⟩
def fJ6_bitCount_0f7a4 (p0 : Int32) : Option Int32 := (some ((((((((p0 - (((p0.toUInt32 >>> ((1 : Int32).toUInt32 &&& Int32.toUInt32 31)).toInt32) &&& ((1431655765) : Int32))) &&& ((858993459) : Int32)) + ((((p0 - (((p0.toUInt32 >>> ((1 : Int32).toUInt32 &&& Int32.toUInt32 31)).toInt32) &&& ((1431655765) : Int32))).toUInt32 >>> ((2 : Int32).toUInt32 &&& Int32.toUInt32 31)).toInt32) &&& ((858993459) : Int32))) + (((((p0 - (((p0.toUInt32 >>> ((1 : Int32).toUInt32 &&& Int32.toUInt32 31)).toInt32) &&& ((1431655765) : Int32))) &&& ((858993459) : Int32)) + ((((p0 - (((p0.toUInt32 >>> ((1 : Int32).toUInt32 &&& Int32.toUInt32 31)).toInt32) &&& ((1431655765) : Int32))).toUInt32 >>> ((2 : Int32).toUInt32 &&& Int32.toUInt32 31)).toInt32) &&& ((858993459) : Int32))).toUInt32 >>> ((4 : Int32).toUInt32 &&& Int32.toUInt32 31)).toInt32)) &&& ((252645135) : Int32)) + (((((((p0 - (((p0.toUInt32 >>> ((1 : Int32).toUInt32 &&& Int32.toUInt32 31)).toInt32) &&& ((1431655765) : Int32))) &&& ((858993459) : Int32)) + ((((p0 - (((p0.toUInt32 >>> ((1 : Int32).toUInt32 &&& Int32.toUInt32 31)).toInt32) &&& ((1431655765) : Int32))).toUInt32 >>> ((2 : Int32).toUInt32 &&& Int32.toUInt32 31)).toInt32) &&& ((858993459) : Int32))) + (((((p0 - (((p0.toUInt32 >>> ((1 : Int32).toUInt32 &&& Int32.toUInt32 31)).toInt32) &&& ((1431655765) : Int32))) &&& ((858993459) : Int32)) + ((((p0 - (((p0.toUInt32 >>> ((1 : Int32).toUInt32 &&& Int32.toUInt32 31)).toInt32) &&& ((1431655765) : Int32))).toUInt32 >>> ((2 : Int32).toUInt32 &&& Int32.toUInt32 31)).toInt32) &&& ((858993459) : Int32))).toUInt32 >>> ((4 : Int32).toUInt32 &&& Int32.toUInt32 31)).toInt32)) &&& ((252645135) : Int32)).toUInt32 >>> ((8 : Int32).toUInt32 &&& Int32.toUInt32 31)).toInt32)) + ((((((((p0 - (((p0.toUInt32 >>> ((1 : Int32).toUInt32 &&& Int32.toUInt32 31)).toInt32) &&& ((1431655765) : Int32))) &&& ((858993459) : Int32)) + ((((p0 - (((p0.toUInt32 >>> ((1 : Int32).toUInt32 &&& Int32.toUInt32 31)).toInt32) &&& ((1431655765) : Int32))).toUInt32 >>> ((2 : Int32).toUInt32 &&& Int32.toUInt32 31)).toInt32) &&& ((858993459) : Int32))) + (((((p0 - (((p0.toUInt32 >>> ((1 : Int32).toUInt32 &&& Int32.toUInt32 31)).toInt32) &&& ((1431655765) : Int32))) &&& ((858993459) : Int32)) + ((((p0 - (((p0.toUInt32 >>> ((1 : Int32).toUInt32 &&& Int32.toUInt32 31)).toInt32) &&& ((1431655765) : Int32))).toUInt32 >>> ((2 : Int32).toUInt32 &&& Int32.toUInt32 31)).toInt32) &&& ((858993459) : Int32))).toUInt32 >>> ((4 : Int32).toUInt32 &&& Int32.toUInt32 31)).toInt32)) &&& ((252645135) : Int32)) + (((((((p0 - (((p0.toUInt32 >>> ((1 : Int32).toUInt32 &&& Int32.toUInt32 31)).toInt32) &&& ((1431655765) : Int32))) &&& ((858993459) : Int32)) + ((((p0 - (((p0.toUInt32 >>> ((1 : Int32).toUInt32 &&& Int32.toUInt32 31)).toInt32) &&& ((1431655765) : Int32))).toUInt32 >>> ((2 : Int32).toUInt32 &&& Int32.toUInt32 31)).toInt32) &&& ((858993459) : Int32))) + (((((p0 - (((p0.toUInt32 >>> ((1 : Int32).toUInt32 &&& Int32.toUInt32 31)).toInt32) &&& ((1431655765) : Int32))) &&& ((858993459) : Int32)) + ((((p0 - (((p0.toUInt32 >>> ((1 : Int32).toUInt32 &&& Int32.toUInt32 31)).toInt32) &&& ((1431655765) : Int32))).toUInt32 >>> ((2 : Int32).toUInt32 &&& Int32.toUInt32 31)).toInt32) &&& ((858993459) : Int32))).toUInt32 >>> ((4 : Int32).toUInt32 &&& Int32.toUInt32 31)).toInt32)) &&& ((252645135) : Int32)).toUInt32 >>> ((8 : Int32).toUInt32 &&& Int32.toUInt32 31)).toInt32)).toUInt32 >>> ((16 : Int32).toUInt32 &&& Int32.toUInt32 31)).toInt32)) &&& (63 : Int32)))
set_option maxHeartbeats 4000000 in
set_option maxRecDepth 100000 in
theorem kJ6_bitCount_0f7a4 (l : Launch) (g : zzG) (w : va_W) (sz : Nat)  (p0 : Int32) (x : Int32) (hf : fJ6_bitCount_0f7a4 p0 = some x) : zzI l g yJ6_bitCount_0f7a4 wsJ6_bitCount_0f7a4 rJ6_bitCount_0f7a4 [.int p0] w w sz x := by
  refine zz_mi (cc := cJ6_bitCount_0f7a4) (mL := 1) (own := RJ6) (fun x : Int32 => x) (fun x : Int32 => w) x (by decide) rfl rfl (Nat.le_of_ble_eq_true rfl) ?_
  intro p e s m below meth c A Q ls C ret hP hD hS hl
  have hl : lv_has ls 1 [(0, .int p0)] := hl
  have hx := C.1.1
  have hb := C.1.2.1
  have hml := C.1.2.2.1
  have hown := C.1.2.2.2.1
  have hts := C.1.2.2.2.2
  have hK := C.2.1
  unfold fJ6_bitCount_0f7a4 at hf
  refine lv_iload_n hx hb dJ6_bitCount_0f7a4_0 rfl (lv_at hl 0 rfl) ?_
  refine lv_iload_n hx hb dJ6_bitCount_0f7a4_1 rfl (lv_at hl 0 rfl) ?_
  refine lv_iconst (v := (1 : Int32)) hx hb dJ6_bitCount_0f7a4_2 (by decide) ?_
  refine lv_iushr hx hb dJ6_bitCount_0f7a4_3 rfl ?_
  refine lv_ldcw (v := ((1431655765) : Int32)) hx hb hown (zz_mem hts 1 rfl) dJ6_bitCount_0f7a4_4 ?_
  refine lv_iand hx hb dJ6_bitCount_0f7a4_7 ?_
  refine lv_isub hx hb dJ6_bitCount_0f7a4_8 ?_
  refine lv_istore_n (lv' := [(0, .int (p0 - (((p0.toUInt32 >>> ((1 : Int32).toUInt32 &&& Int32.toUInt32 31)).toInt32) &&& ((1431655765) : Int32))))]) hx hb dJ6_bitCount_0f7a4_9 rfl hl (by decide) rfl (fun ls hl => ?_)
  refine lv_iload_n hx hb dJ6_bitCount_0f7a4_10 rfl (lv_at hl 0 rfl) ?_
  refine lv_ldcw (v := ((858993459) : Int32)) hx hb hown (zz_mem hts 2 rfl) dJ6_bitCount_0f7a4_11 ?_
  refine lv_iand hx hb dJ6_bitCount_0f7a4_14 ?_
  refine lv_iload_n hx hb dJ6_bitCount_0f7a4_15 rfl (lv_at hl 0 rfl) ?_
  refine lv_iconst (v := (2 : Int32)) hx hb dJ6_bitCount_0f7a4_16 (by decide) ?_
  refine lv_iushr hx hb dJ6_bitCount_0f7a4_17 rfl ?_
  refine lv_ldcw (v := ((858993459) : Int32)) hx hb hown (zz_mem hts 2 rfl) dJ6_bitCount_0f7a4_18 ?_
  refine lv_iand hx hb dJ6_bitCount_0f7a4_21 ?_
  refine lv_iadd hx hb dJ6_bitCount_0f7a4_22 ?_
  refine lv_istore_n (lv' := [(0, .int (((p0 - (((p0.toUInt32 >>> ((1 : Int32).toUInt32 &&& Int32.toUInt32 31)).toInt32) &&& ((1431655765) : Int32))) &&& ((858993459) : Int32)) + ((((p0 - (((p0.toUInt32 >>> ((1 : Int32).toUInt32 &&& Int32.toUInt32 31)).toInt32) &&& ((1431655765) : Int32))).toUInt32 >>> ((2 : Int32).toUInt32 &&& Int32.toUInt32 31)).toInt32) &&& ((858993459) : Int32))))]) hx hb dJ6_bitCount_0f7a4_23 rfl hl (by decide) rfl (fun ls hl => ?_)
  refine lv_iload_n hx hb dJ6_bitCount_0f7a4_24 rfl (lv_at hl 0 rfl) ?_
  refine lv_iload_n hx hb dJ6_bitCount_0f7a4_25 rfl (lv_at hl 0 rfl) ?_
  refine lv_iconst (v := (4 : Int32)) hx hb dJ6_bitCount_0f7a4_26 (by decide) ?_
  refine lv_iushr hx hb dJ6_bitCount_0f7a4_27 rfl ?_
  refine lv_iadd hx hb dJ6_bitCount_0f7a4_28 ?_
  refine lv_ldcw (v := ((252645135) : Int32)) hx hb hown (zz_mem hts 3 rfl) dJ6_bitCount_0f7a4_29 ?_
  refine lv_iand hx hb dJ6_bitCount_0f7a4_32 ?_
  refine lv_istore_n (lv' := [(0, .int (((((p0 - (((p0.toUInt32 >>> ((1 : Int32).toUInt32 &&& Int32.toUInt32 31)).toInt32) &&& ((1431655765) : Int32))) &&& ((858993459) : Int32)) + ((((p0 - (((p0.toUInt32 >>> ((1 : Int32).toUInt32 &&& Int32.toUInt32 31)).toInt32) &&& ((1431655765) : Int32))).toUInt32 >>> ((2 : Int32).toUInt32 &&& Int32.toUInt32 31)).toInt32) &&& ((858993459) : Int32))) + (((((p0 - (((p0.toUInt32 >>> ((1 : Int32).toUInt32 &&& Int32.toUInt32 31)).toInt32) &&& ((1431655765) : Int32))) &&& ((858993459) : Int32)) + ((((p0 - (((p0.toUInt32 >>> ((1 : Int32).toUInt32 &&& Int32.toUInt32 31)).toInt32) &&& ((1431655765) : Int32))).toUInt32 >>> ((2 : Int32).toUInt32 &&& Int32.toUInt32 31)).toInt32) &&& ((858993459) : Int32))).toUInt32 >>> ((4 : Int32).toUInt32 &&& Int32.toUInt32 31)).toInt32)) &&& ((252645135) : Int32)))]) hx hb dJ6_bitCount_0f7a4_33 rfl hl (by decide) rfl (fun ls hl => ?_)
  refine lv_iload_n hx hb dJ6_bitCount_0f7a4_34 rfl (lv_at hl 0 rfl) ?_
  refine lv_iload_n hx hb dJ6_bitCount_0f7a4_35 rfl (lv_at hl 0 rfl) ?_
  refine lv_bipush (v := (8 : Int32)) hx hb dJ6_bitCount_0f7a4_36 (by decide) ?_
  refine lv_iushr hx hb dJ6_bitCount_0f7a4_38 rfl ?_
  refine lv_iadd hx hb dJ6_bitCount_0f7a4_39 ?_
  refine lv_istore_n (lv' := [(0, .int ((((((p0 - (((p0.toUInt32 >>> ((1 : Int32).toUInt32 &&& Int32.toUInt32 31)).toInt32) &&& ((1431655765) : Int32))) &&& ((858993459) : Int32)) + ((((p0 - (((p0.toUInt32 >>> ((1 : Int32).toUInt32 &&& Int32.toUInt32 31)).toInt32) &&& ((1431655765) : Int32))).toUInt32 >>> ((2 : Int32).toUInt32 &&& Int32.toUInt32 31)).toInt32) &&& ((858993459) : Int32))) + (((((p0 - (((p0.toUInt32 >>> ((1 : Int32).toUInt32 &&& Int32.toUInt32 31)).toInt32) &&& ((1431655765) : Int32))) &&& ((858993459) : Int32)) + ((((p0 - (((p0.toUInt32 >>> ((1 : Int32).toUInt32 &&& Int32.toUInt32 31)).toInt32) &&& ((1431655765) : Int32))).toUInt32 >>> ((2 : Int32).toUInt32 &&& Int32.toUInt32 31)).toInt32) &&& ((858993459) : Int32))).toUInt32 >>> ((4 : Int32).toUInt32 &&& Int32.toUInt32 31)).toInt32)) &&& ((252645135) : Int32)) + (((((((p0 - (((p0.toUInt32 >>> ((1 : Int32).toUInt32 &&& Int32.toUInt32 31)).toInt32) &&& ((1431655765) : Int32))) &&& ((858993459) : Int32)) + ((((p0 - (((p0.toUInt32 >>> ((1 : Int32).toUInt32 &&& Int32.toUInt32 31)).toInt32) &&& ((1431655765) : Int32))).toUInt32 >>> ((2 : Int32).toUInt32 &&& Int32.toUInt32 31)).toInt32) &&& ((858993459) : Int32))) + (((((p0 - (((p0.toUInt32 >>> ((1 : Int32).toUInt32 &&& Int32.toUInt32 31)).toInt32) &&& ((1431655765) : Int32))) &&& ((858993459) : Int32)) + ((((p0 - (((p0.toUInt32 >>> ((1 : Int32).toUInt32 &&& Int32.toUInt32 31)).toInt32) &&& ((1431655765) : Int32))).toUInt32 >>> ((2 : Int32).toUInt32 &&& Int32.toUInt32 31)).toInt32) &&& ((858993459) : Int32))).toUInt32 >>> ((4 : Int32).toUInt32 &&& Int32.toUInt32 31)).toInt32)) &&& ((252645135) : Int32)).toUInt32 >>> ((8 : Int32).toUInt32 &&& Int32.toUInt32 31)).toInt32)))]) hx hb dJ6_bitCount_0f7a4_40 rfl hl (by decide) rfl (fun ls hl => ?_)
  refine lv_iload_n hx hb dJ6_bitCount_0f7a4_41 rfl (lv_at hl 0 rfl) ?_
  refine lv_iload_n hx hb dJ6_bitCount_0f7a4_42 rfl (lv_at hl 0 rfl) ?_
  refine lv_bipush (v := (16 : Int32)) hx hb dJ6_bitCount_0f7a4_43 (by decide) ?_
  refine lv_iushr hx hb dJ6_bitCount_0f7a4_45 rfl ?_
  refine lv_iadd hx hb dJ6_bitCount_0f7a4_46 ?_
  refine lv_istore_n (lv' := [(0, .int (((((((p0 - (((p0.toUInt32 >>> ((1 : Int32).toUInt32 &&& Int32.toUInt32 31)).toInt32) &&& ((1431655765) : Int32))) &&& ((858993459) : Int32)) + ((((p0 - (((p0.toUInt32 >>> ((1 : Int32).toUInt32 &&& Int32.toUInt32 31)).toInt32) &&& ((1431655765) : Int32))).toUInt32 >>> ((2 : Int32).toUInt32 &&& Int32.toUInt32 31)).toInt32) &&& ((858993459) : Int32))) + (((((p0 - (((p0.toUInt32 >>> ((1 : Int32).toUInt32 &&& Int32.toUInt32 31)).toInt32) &&& ((1431655765) : Int32))) &&& ((858993459) : Int32)) + ((((p0 - (((p0.toUInt32 >>> ((1 : Int32).toUInt32 &&& Int32.toUInt32 31)).toInt32) &&& ((1431655765) : Int32))).toUInt32 >>> ((2 : Int32).toUInt32 &&& Int32.toUInt32 31)).toInt32) &&& ((858993459) : Int32))).toUInt32 >>> ((4 : Int32).toUInt32 &&& Int32.toUInt32 31)).toInt32)) &&& ((252645135) : Int32)) + (((((((p0 - (((p0.toUInt32 >>> ((1 : Int32).toUInt32 &&& Int32.toUInt32 31)).toInt32) &&& ((1431655765) : Int32))) &&& ((858993459) : Int32)) + ((((p0 - (((p0.toUInt32 >>> ((1 : Int32).toUInt32 &&& Int32.toUInt32 31)).toInt32) &&& ((1431655765) : Int32))).toUInt32 >>> ((2 : Int32).toUInt32 &&& Int32.toUInt32 31)).toInt32) &&& ((858993459) : Int32))) + (((((p0 - (((p0.toUInt32 >>> ((1 : Int32).toUInt32 &&& Int32.toUInt32 31)).toInt32) &&& ((1431655765) : Int32))) &&& ((858993459) : Int32)) + ((((p0 - (((p0.toUInt32 >>> ((1 : Int32).toUInt32 &&& Int32.toUInt32 31)).toInt32) &&& ((1431655765) : Int32))).toUInt32 >>> ((2 : Int32).toUInt32 &&& Int32.toUInt32 31)).toInt32) &&& ((858993459) : Int32))).toUInt32 >>> ((4 : Int32).toUInt32 &&& Int32.toUInt32 31)).toInt32)) &&& ((252645135) : Int32)).toUInt32 >>> ((8 : Int32).toUInt32 &&& Int32.toUInt32 31)).toInt32)) + ((((((((p0 - (((p0.toUInt32 >>> ((1 : Int32).toUInt32 &&& Int32.toUInt32 31)).toInt32) &&& ((1431655765) : Int32))) &&& ((858993459) : Int32)) + ((((p0 - (((p0.toUInt32 >>> ((1 : Int32).toUInt32 &&& Int32.toUInt32 31)).toInt32) &&& ((1431655765) : Int32))).toUInt32 >>> ((2 : Int32).toUInt32 &&& Int32.toUInt32 31)).toInt32) &&& ((858993459) : Int32))) + (((((p0 - (((p0.toUInt32 >>> ((1 : Int32).toUInt32 &&& Int32.toUInt32 31)).toInt32) &&& ((1431655765) : Int32))) &&& ((858993459) : Int32)) + ((((p0 - (((p0.toUInt32 >>> ((1 : Int32).toUInt32 &&& Int32.toUInt32 31)).toInt32) &&& ((1431655765) : Int32))).toUInt32 >>> ((2 : Int32).toUInt32 &&& Int32.toUInt32 31)).toInt32) &&& ((858993459) : Int32))).toUInt32 >>> ((4 : Int32).toUInt32 &&& Int32.toUInt32 31)).toInt32)) &&& ((252645135) : Int32)) + (((((((p0 - (((p0.toUInt32 >>> ((1 : Int32).toUInt32 &&& Int32.toUInt32 31)).toInt32) &&& ((1431655765) : Int32))) &&& ((858993459) : Int32)) + ((((p0 - (((p0.toUInt32 >>> ((1 : Int32).toUInt32 &&& Int32.toUInt32 31)).toInt32) &&& ((1431655765) : Int32))).toUInt32 >>> ((2 : Int32).toUInt32 &&& Int32.toUInt32 31)).toInt32) &&& ((858993459) : Int32))) + (((((p0 - (((p0.toUInt32 >>> ((1 : Int32).toUInt32 &&& Int32.toUInt32 31)).toInt32) &&& ((1431655765) : Int32))) &&& ((858993459) : Int32)) + ((((p0 - (((p0.toUInt32 >>> ((1 : Int32).toUInt32 &&& Int32.toUInt32 31)).toInt32) &&& ((1431655765) : Int32))).toUInt32 >>> ((2 : Int32).toUInt32 &&& Int32.toUInt32 31)).toInt32) &&& ((858993459) : Int32))).toUInt32 >>> ((4 : Int32).toUInt32 &&& Int32.toUInt32 31)).toInt32)) &&& ((252645135) : Int32)).toUInt32 >>> ((8 : Int32).toUInt32 &&& Int32.toUInt32 31)).toInt32)).toUInt32 >>> ((16 : Int32).toUInt32 &&& Int32.toUInt32 31)).toInt32)))]) hx hb dJ6_bitCount_0f7a4_47 rfl hl (by decide) rfl (fun ls hl => ?_)
  refine lv_iload_n hx hb dJ6_bitCount_0f7a4_48 rfl (lv_at hl 0 rfl) ?_
  refine lv_bipush (v := (63 : Int32)) hx hb dJ6_bitCount_0f7a4_49 (by decide) ?_
  refine lv_iand hx hb dJ6_bitCount_0f7a4_51 ?_
  exact ret _ _ _ _ ((((((((p0 - (((p0.toUInt32 >>> ((1 : Int32).toUInt32 &&& Int32.toUInt32 31)).toInt32) &&& ((1431655765) : Int32))) &&& ((858993459) : Int32)) + ((((p0 - (((p0.toUInt32 >>> ((1 : Int32).toUInt32 &&& Int32.toUInt32 31)).toInt32) &&& ((1431655765) : Int32))).toUInt32 >>> ((2 : Int32).toUInt32 &&& Int32.toUInt32 31)).toInt32) &&& ((858993459) : Int32))) + (((((p0 - (((p0.toUInt32 >>> ((1 : Int32).toUInt32 &&& Int32.toUInt32 31)).toInt32) &&& ((1431655765) : Int32))) &&& ((858993459) : Int32)) + ((((p0 - (((p0.toUInt32 >>> ((1 : Int32).toUInt32 &&& Int32.toUInt32 31)).toInt32) &&& ((1431655765) : Int32))).toUInt32 >>> ((2 : Int32).toUInt32 &&& Int32.toUInt32 31)).toInt32) &&& ((858993459) : Int32))).toUInt32 >>> ((4 : Int32).toUInt32 &&& Int32.toUInt32 31)).toInt32)) &&& ((252645135) : Int32)) + (((((((p0 - (((p0.toUInt32 >>> ((1 : Int32).toUInt32 &&& Int32.toUInt32 31)).toInt32) &&& ((1431655765) : Int32))) &&& ((858993459) : Int32)) + ((((p0 - (((p0.toUInt32 >>> ((1 : Int32).toUInt32 &&& Int32.toUInt32 31)).toInt32) &&& ((1431655765) : Int32))).toUInt32 >>> ((2 : Int32).toUInt32 &&& Int32.toUInt32 31)).toInt32) &&& ((858993459) : Int32))) + (((((p0 - (((p0.toUInt32 >>> ((1 : Int32).toUInt32 &&& Int32.toUInt32 31)).toInt32) &&& ((1431655765) : Int32))) &&& ((858993459) : Int32)) + ((((p0 - (((p0.toUInt32 >>> ((1 : Int32).toUInt32 &&& Int32.toUInt32 31)).toInt32) &&& ((1431655765) : Int32))).toUInt32 >>> ((2 : Int32).toUInt32 &&& Int32.toUInt32 31)).toInt32) &&& ((858993459) : Int32))).toUInt32 >>> ((4 : Int32).toUInt32 &&& Int32.toUInt32 31)).toInt32)) &&& ((252645135) : Int32)).toUInt32 >>> ((8 : Int32).toUInt32 &&& Int32.toUInt32 31)).toInt32)) + ((((((((p0 - (((p0.toUInt32 >>> ((1 : Int32).toUInt32 &&& Int32.toUInt32 31)).toInt32) &&& ((1431655765) : Int32))) &&& ((858993459) : Int32)) + ((((p0 - (((p0.toUInt32 >>> ((1 : Int32).toUInt32 &&& Int32.toUInt32 31)).toInt32) &&& ((1431655765) : Int32))).toUInt32 >>> ((2 : Int32).toUInt32 &&& Int32.toUInt32 31)).toInt32) &&& ((858993459) : Int32))) + (((((p0 - (((p0.toUInt32 >>> ((1 : Int32).toUInt32 &&& Int32.toUInt32 31)).toInt32) &&& ((1431655765) : Int32))) &&& ((858993459) : Int32)) + ((((p0 - (((p0.toUInt32 >>> ((1 : Int32).toUInt32 &&& Int32.toUInt32 31)).toInt32) &&& ((1431655765) : Int32))).toUInt32 >>> ((2 : Int32).toUInt32 &&& Int32.toUInt32 31)).toInt32) &&& ((858993459) : Int32))).toUInt32 >>> ((4 : Int32).toUInt32 &&& Int32.toUInt32 31)).toInt32)) &&& ((252645135) : Int32)) + (((((((p0 - (((p0.toUInt32 >>> ((1 : Int32).toUInt32 &&& Int32.toUInt32 31)).toInt32) &&& ((1431655765) : Int32))) &&& ((858993459) : Int32)) + ((((p0 - (((p0.toUInt32 >>> ((1 : Int32).toUInt32 &&& Int32.toUInt32 31)).toInt32) &&& ((1431655765) : Int32))).toUInt32 >>> ((2 : Int32).toUInt32 &&& Int32.toUInt32 31)).toInt32) &&& ((858993459) : Int32))) + (((((p0 - (((p0.toUInt32 >>> ((1 : Int32).toUInt32 &&& Int32.toUInt32 31)).toInt32) &&& ((1431655765) : Int32))) &&& ((858993459) : Int32)) + ((((p0 - (((p0.toUInt32 >>> ((1 : Int32).toUInt32 &&& Int32.toUInt32 31)).toInt32) &&& ((1431655765) : Int32))).toUInt32 >>> ((2 : Int32).toUInt32 &&& Int32.toUInt32 31)).toInt32) &&& ((858993459) : Int32))).toUInt32 >>> ((4 : Int32).toUInt32 &&& Int32.toUInt32 31)).toInt32)) &&& ((252645135) : Int32)).toUInt32 >>> ((8 : Int32).toUInt32 &&& Int32.toUInt32 31)).toInt32)).toUInt32 >>> ((16 : Int32).toUInt32 &&& Int32.toUInt32 31)).toInt32)) &&& (63 : Int32)) hf dJ6_bitCount_0f7a4_52 hP hD hS
abbrev rX4_send : Room := ({ frames := 4, cells := 0, slots := 0, locals := 104 })
theorem mX4_send : zzM yX4_send wsX4_send cX4_send 8 (some .int) RX4 2 := ⟨⟨_, rfl⟩, by decide +kernel⟩
def sX4_send_29 (p0 : Int32) (p1 : Int32) (r3 : Int32) : (Int32 × Int32 × zzS) → ((Int32 × Int32 × zzS) → Option (Int32 × zzS)) → Option (Int32 × zzS) := fun v4 rec5 => (if r3 < v4.2.1 then (some (v4.1, v4.2.2)) else (if v4.1 = (-9 : Int32) then (if (1 : Int32) = 0 then (rec5 (v4.1, (v4.2.1 + (1 : Int32)), v4.2.2)) else ((fX4_countedOn 0 v4.2.2 p0 (r3 &&& (v4.2.1 ^^^ (-1 : Int32)))).bind (fun r10 => (if r10.1 = p1 then (rec5 (v4.2.1, (v4.2.1 + (1 : Int32)), r10.2)) else (rec5 (v4.1, (v4.2.1 + (1 : Int32)), r10.2)))))) else ((fJ6_bitCount_0f7a4 v4.2.1).bind (fun r12 => ((fJ6_bitCount_0f7a4 v4.1).bind (fun r13 => (if r13 ≤ r12 then (if (0 : Int32) = 0 then (rec5 (v4.1, (v4.2.1 + (1 : Int32)), v4.2.2)) else ((fX4_countedOn 0 v4.2.2 p0 (r3 &&& (v4.2.1 ^^^ (-1 : Int32)))).bind (fun r16 => (if r16.1 = p1 then (rec5 (v4.2.1, (v4.2.1 + (1 : Int32)), r16.2)) else (rec5 (v4.1, (v4.2.1 + (1 : Int32)), r16.2)))))) else (if (1 : Int32) = 0 then (rec5 (v4.1, (v4.2.1 + (1 : Int32)), v4.2.2)) else ((fX4_countedOn 0 v4.2.2 p0 (r3 &&& (v4.2.1 ^^^ (-1 : Int32)))).bind (fun r19 => (if r19.1 = p1 then (rec5 (v4.2.1, (v4.2.1 + (1 : Int32)), r19.2)) else (rec5 (v4.1, (v4.2.1 + (1 : Int32)), r19.2)))))))))))))
set_option maxHeartbeats 4000000 in
set_option maxRecDepth 100000 in
theorem wX4_send_29 (l : Launch) (g : zzG) (q : Nat → Nat) (p0 : Int32) (p1 : Int32) (r3 : Int32) (x : Int32 × zzS) {p : Program} {e : Env} {s : State} {m : MethodId} {below : List Frame} {meth : Method} {c : Code} {A : Nat → Prop} {Q : State → Prop} (C : zzC g p s m ([.ref (q 0), .int p0, .int p1] : List Value).toArray c cX4_send 8 RX4 wsX4_send A) (ret : zzRI l g rX4_send cX4_send [.ref (q 0), .int p0, .int p1] (fun x : Int32 × zzS => x.1) (fun x : Int32 × zzS => (zzX g q x.2)) x p e s m below meth c A Q)  (n : Nat) (v4 : Int32 × Int32 × zzS) (hf : zzlp (sX4_send_29 p0 p1 r3) n v4 = some x) : ∀ (H : Heap) (locs : List Loc) (ls : Array Slot), va_P g.1 vwCl (zzX g q v4.2.2) H → va_D A (zzX g q v4.2.2) → va_S A s.heap H locs → lv_has ls 8 [(0, .ref (q 0)), (1, .int p0), (2, .int p1), (4, .int r3), (5, .int (v4.1)), (6, .int (v4.2.1))] → W p l e rX4_send s m ([.ref (q 0), .int p0, .int p1] : List Value).toArray below meth c H locs 0 0 Q (F0 m 29 ls []) := by
  have hx := C.1.1
  have hb := C.1.2.1
  have hml := C.1.2.2.1
  have hown := C.1.2.2.2.1
  have hts := C.1.2.2.2.2
  have hK := C.2.1
  have iX4 : ∀ w ∈ wsX40, w ∈ wsX4_send := fun _ h => List.mem_cons_of_mem _ (List.mem_append_left _ (List.mem_append_left _ (List.mem_append_right _ h)))
  have iX3 : ∀ w ∈ wsX30, w ∈ wsX4_send := fun _ h => List.mem_cons_of_mem _ (List.mem_append_left _ (List.mem_append_right _ h))
  have iX1 : ∀ w ∈ wsX10, w ∈ wsX4_send := fun _ h => List.mem_cons_of_mem _ (List.mem_append_right _ h)
  refine zz_lp (P := fun (v4 : Int32 × Int32 × zzS) => ∀ (H : Heap) (locs : List Loc) (ls : Array Slot), va_P g.1 vwCl (zzX g q v4.2.2) H → va_D A (zzX g q v4.2.2) → va_S A s.heap H locs → lv_has ls 8 [(0, .ref (q 0)), (1, .int p0), (2, .int p1), (4, .int r3), (5, .int (v4.1)), (6, .int (v4.2.1))] → W p l e rX4_send s m ([.ref (q 0), .int p0, .int p1] : List Value).toArray below meth c H locs 0 0 Q (F0 m 29 ls [])) (fun v4 rec5 ih6 hf H locs ls hP hD hS hl => ?_) n v4 hf
  unfold sX4_send_29 at hf
  refine lv_iload hx hb dX4_send_29 (lv_at hl 5 rfl) ?_
  refine lv_iload hx hb dX4_send_31 (lv_at hl 3 rfl) ?_
  refine lv_icmp_gt (tgt := 98) hx hb dX4_send_33 (by decide) (fun c7 => ?_) (fun c7 => ?_)
  · have hf := zz_t c7 hf
    refine lv_iload hx hb dX4_send_98 (lv_at hl 4 rfl) ?_
    exact ret _ _ _ _ (v4.1, v4.2.2) hf dX4_send_100 hP hD hS
  · have hf := zz_f c7 hf
    refine lv_iload hx hb dX4_send_36 (lv_at hl 4 rfl) ?_
    refine lv_bipush (v := (-9 : Int32)) hx hb dX4_send_38 (by decide) ?_
    refine lv_icmp_eq (tgt := 56) hx hb dX4_send_40 (by decide) (fun c8 => ?_) (fun c8 => ?_)
    · have hf := zz_t c8 hf
      refine lv_iconst (v := (1 : Int32)) hx hb dX4_send_56 (by decide) ?_
      refine lv_goto (tgt := 61) hx hb dX4_send_57 (by decide) ?_
      refine lv_istore (lv' := [(7, .int (1 : Int32)), (0, .ref (q 0)), (1, .int p0), (2, .int p1), (4, .int r3), (5, .int (v4.1)), (6, .int (v4.2.1))]) hx hb dX4_send_61 hl (by decide) rfl (fun ls hl => ?_)
      refine lv_iload hx hb dX4_send_63 (lv_at hl 0 rfl) ?_
      refine lv_if_eq (tgt := 92) hx hb dX4_send_65 (by decide) (fun c9 => ?_) (fun c9 => ?_)
      · have hf := zz_t c9 hf
        refine lv_iinc (v := (v4.2.1 + (1 : Int32))) (lv' := [(6, .int (v4.2.1 + (1 : Int32))), (7, .int (1 : Int32)), (0, .ref (q 0)), (1, .int p0), (2, .int p1), (4, .int r3), (5, .int (v4.1))]) hx hb dX4_send_92 hl (k := 6) rfl rfl (by decide) rfl (fun ls hl => ?_)
        refine lv_goto (tgt := 29) hx hb dX4_send_95 (by decide) ?_
        exact ih6 _ hf _ _ _ hP hD hS (lv_sub hl [2, 3, 4, 5, 6, 0] rfl)
      · have hf := zz_f c9 hf
        refine lv_aload_n hx hb dX4_send_68 rfl (lv_at hl 1 rfl) ?_
        refine lv_aload_n hx hb dX4_send_69 rfl (lv_at hl 1 rfl) ?_
        refine va_get (D := g.1) (ci := 4) (v := .ref (q 1)) (C := RX4) (T := TX4) (N := 7) hx hb hts iX4 hown hK hP 0 rfl rfl 0 (by decide) (zz_mem hts 1 rfl) (fun _ h9 => h9) rfl dX4_send_70 ?_
        refine lv_iload_n hx hb dX4_send_73 rfl (lv_at hl 2 rfl) ?_
        refine lv_iload hx hb dX4_send_74 (lv_at hl 4 rfl) ?_
        refine lv_iload hx hb dX4_send_76 (lv_at hl 6 rfl) ?_
        refine lv_iconst (v := (-1 : Int32)) hx hb dX4_send_78 (by decide) ?_
        refine lv_ixor hx hb dX4_send_79 ?_
        refine lv_iand hx hb dX4_send_80 ?_
        obtain ⟨r10, hc10, hf⟩ := zz_bs hf
        refine zz_cVi C hP hD hS (kX4_countedOn l g q _ 0 (by decide) v4.2.2 p0 (r3 &&& (v4.2.1 ^^^ (-1 : Int32))) r10 hc10) gX4_send_X4_countedOn mX4_countedOn (by decide) ⟨Nat.zero_le _, Nat.zero_le _⟩ 0 rfl rfl rfl rfl (rest := []) rfl hl.1 (Nat.le_of_ble_eq_true rfl) dX4_send_81 (fun H locs hP hD hS => ?_)
        refine lv_iload_n hx hb dX4_send_84 rfl (lv_at hl 3 rfl) ?_
        refine lv_icmp_ne (tgt := 92) hx hb dX4_send_85 (by decide) (fun c11 => ?_) (fun c11 => ?_)
        · have hf := zz_f c11 hf
          refine lv_iinc (v := (v4.2.1 + (1 : Int32))) (lv' := [(6, .int (v4.2.1 + (1 : Int32))), (7, .int (1 : Int32)), (0, .ref (q 0)), (1, .int p0), (2, .int p1), (4, .int r3), (5, .int (v4.1))]) hx hb dX4_send_92 hl (k := 6) rfl rfl (by decide) rfl (fun ls hl => ?_)
          refine lv_goto (tgt := 29) hx hb dX4_send_95 (by decide) ?_
          exact ih6 _ hf _ _ _ hP hD hS (lv_sub hl [2, 3, 4, 5, 6, 0] rfl)
        · have hf := zz_t c11 hf
          refine lv_iload hx hb dX4_send_88 (lv_at hl 6 rfl) ?_
          refine lv_istore (lv' := [(5, .int (v4.2.1)), (7, .int (1 : Int32)), (0, .ref (q 0)), (1, .int p0), (2, .int p1), (4, .int r3), (6, .int (v4.2.1))]) hx hb dX4_send_90 hl (by decide) rfl (fun ls hl => ?_)
          refine lv_iinc (v := (v4.2.1 + (1 : Int32))) (lv' := [(6, .int (v4.2.1 + (1 : Int32))), (5, .int (v4.2.1)), (7, .int (1 : Int32)), (0, .ref (q 0)), (1, .int p0), (2, .int p1), (4, .int r3)]) hx hb dX4_send_92 hl (k := 6) rfl rfl (by decide) rfl (fun ls hl => ?_)
          refine lv_goto (tgt := 29) hx hb dX4_send_95 (by decide) ?_
          exact ih6 _ hf _ _ _ hP hD hS (lv_sub hl [3, 4, 5, 6, 1, 0] rfl)
    · have hf := zz_f c8 hf
      refine lv_iload hx hb dX4_send_43 (lv_at hl 5 rfl) ?_
      obtain ⟨r12, hc12, hf⟩ := zz_bs hf
      refine zz_cSi C hP hD hS (kJ6_bitCount_0f7a4 l g (zzX g q v4.2.2) _ v4.2.1 r12 hc12) gX4_send_J6_bitCount_0f7a4 mJ6_bitCount_0f7a4 (by decide) ⟨Nat.zero_le _, Nat.zero_le _⟩ rfl (rest := []) rfl hl.1 (Nat.le_of_ble_eq_true rfl) dX4_send_45 (fun H locs hP hD hS => ?_)
      refine lv_iload hx hb dX4_send_48 (lv_at hl 4 rfl) ?_
      obtain ⟨r13, hc13, hf⟩ := zz_bs hf
      refine zz_cSi C hP hD hS (kJ6_bitCount_0f7a4 l g (zzX g q v4.2.2) _ v4.1 r13 hc13) gX4_send_J6_bitCount_0f7a4 mJ6_bitCount_0f7a4 (by decide) ⟨Nat.zero_le _, Nat.zero_le _⟩ rfl (rest := [.int r12]) rfl hl.1 (Nat.le_of_ble_eq_true rfl) dX4_send_50 (fun H locs hP hD hS => ?_)
      refine lv_icmp_ge (tgt := 60) hx hb dX4_send_53 (by decide) (fun c14 => ?_) (fun c14 => ?_)
      · have hf := zz_t c14 hf
        refine lv_iconst (v := (0 : Int32)) hx hb dX4_send_60 (by decide) ?_
        refine lv_istore (lv' := [(7, .int (0 : Int32)), (0, .ref (q 0)), (1, .int p0), (2, .int p1), (4, .int r3), (5, .int (v4.1)), (6, .int (v4.2.1))]) hx hb dX4_send_61 hl (by decide) rfl (fun ls hl => ?_)
        refine lv_iload hx hb dX4_send_63 (lv_at hl 0 rfl) ?_
        refine lv_if_eq (tgt := 92) hx hb dX4_send_65 (by decide) (fun c15 => ?_) (fun c15 => ?_)
        · have hf := zz_t c15 hf
          refine lv_iinc (v := (v4.2.1 + (1 : Int32))) (lv' := [(6, .int (v4.2.1 + (1 : Int32))), (7, .int (0 : Int32)), (0, .ref (q 0)), (1, .int p0), (2, .int p1), (4, .int r3), (5, .int (v4.1))]) hx hb dX4_send_92 hl (k := 6) rfl rfl (by decide) rfl (fun ls hl => ?_)
          refine lv_goto (tgt := 29) hx hb dX4_send_95 (by decide) ?_
          exact ih6 _ hf _ _ _ hP hD hS (lv_sub hl [2, 3, 4, 5, 6, 0] rfl)
        · have hf := zz_f c15 hf
          refine lv_aload_n hx hb dX4_send_68 rfl (lv_at hl 1 rfl) ?_
          refine lv_aload_n hx hb dX4_send_69 rfl (lv_at hl 1 rfl) ?_
          refine va_get (D := g.1) (ci := 4) (v := .ref (q 1)) (C := RX4) (T := TX4) (N := 7) hx hb hts iX4 hown hK hP 0 rfl rfl 0 (by decide) (zz_mem hts 1 rfl) (fun _ h9 => h9) rfl dX4_send_70 ?_
          refine lv_iload_n hx hb dX4_send_73 rfl (lv_at hl 2 rfl) ?_
          refine lv_iload hx hb dX4_send_74 (lv_at hl 4 rfl) ?_
          refine lv_iload hx hb dX4_send_76 (lv_at hl 6 rfl) ?_
          refine lv_iconst (v := (-1 : Int32)) hx hb dX4_send_78 (by decide) ?_
          refine lv_ixor hx hb dX4_send_79 ?_
          refine lv_iand hx hb dX4_send_80 ?_
          obtain ⟨r16, hc16, hf⟩ := zz_bs hf
          refine zz_cVi C hP hD hS (kX4_countedOn l g q _ 0 (by decide) v4.2.2 p0 (r3 &&& (v4.2.1 ^^^ (-1 : Int32))) r16 hc16) gX4_send_X4_countedOn mX4_countedOn (by decide) ⟨Nat.zero_le _, Nat.zero_le _⟩ 0 rfl rfl rfl rfl (rest := []) rfl hl.1 (Nat.le_of_ble_eq_true rfl) dX4_send_81 (fun H locs hP hD hS => ?_)
          refine lv_iload_n hx hb dX4_send_84 rfl (lv_at hl 3 rfl) ?_
          refine lv_icmp_ne (tgt := 92) hx hb dX4_send_85 (by decide) (fun c17 => ?_) (fun c17 => ?_)
          · have hf := zz_f c17 hf
            refine lv_iinc (v := (v4.2.1 + (1 : Int32))) (lv' := [(6, .int (v4.2.1 + (1 : Int32))), (7, .int (0 : Int32)), (0, .ref (q 0)), (1, .int p0), (2, .int p1), (4, .int r3), (5, .int (v4.1))]) hx hb dX4_send_92 hl (k := 6) rfl rfl (by decide) rfl (fun ls hl => ?_)
            refine lv_goto (tgt := 29) hx hb dX4_send_95 (by decide) ?_
            exact ih6 _ hf _ _ _ hP hD hS (lv_sub hl [2, 3, 4, 5, 6, 0] rfl)
          · have hf := zz_t c17 hf
            refine lv_iload hx hb dX4_send_88 (lv_at hl 6 rfl) ?_
            refine lv_istore (lv' := [(5, .int (v4.2.1)), (7, .int (0 : Int32)), (0, .ref (q 0)), (1, .int p0), (2, .int p1), (4, .int r3), (6, .int (v4.2.1))]) hx hb dX4_send_90 hl (by decide) rfl (fun ls hl => ?_)
            refine lv_iinc (v := (v4.2.1 + (1 : Int32))) (lv' := [(6, .int (v4.2.1 + (1 : Int32))), (5, .int (v4.2.1)), (7, .int (0 : Int32)), (0, .ref (q 0)), (1, .int p0), (2, .int p1), (4, .int r3)]) hx hb dX4_send_92 hl (k := 6) rfl rfl (by decide) rfl (fun ls hl => ?_)
            refine lv_goto (tgt := 29) hx hb dX4_send_95 (by decide) ?_
            exact ih6 _ hf _ _ _ hP hD hS (lv_sub hl [3, 4, 5, 6, 1, 0] rfl)
      · have hf := zz_f c14 hf
        refine lv_iconst (v := (1 : Int32)) hx hb dX4_send_56 (by decide) ?_
        refine lv_goto (tgt := 61) hx hb dX4_send_57 (by decide) ?_
        refine lv_istore (lv' := [(7, .int (1 : Int32)), (0, .ref (q 0)), (1, .int p0), (2, .int p1), (4, .int r3), (5, .int (v4.1)), (6, .int (v4.2.1))]) hx hb dX4_send_61 hl (by decide) rfl (fun ls hl => ?_)
        refine lv_iload hx hb dX4_send_63 (lv_at hl 0 rfl) ?_
        refine lv_if_eq (tgt := 92) hx hb dX4_send_65 (by decide) (fun c18 => ?_) (fun c18 => ?_)
        · have hf := zz_t c18 hf
          refine lv_iinc (v := (v4.2.1 + (1 : Int32))) (lv' := [(6, .int (v4.2.1 + (1 : Int32))), (7, .int (1 : Int32)), (0, .ref (q 0)), (1, .int p0), (2, .int p1), (4, .int r3), (5, .int (v4.1))]) hx hb dX4_send_92 hl (k := 6) rfl rfl (by decide) rfl (fun ls hl => ?_)
          refine lv_goto (tgt := 29) hx hb dX4_send_95 (by decide) ?_
          exact ih6 _ hf _ _ _ hP hD hS (lv_sub hl [2, 3, 4, 5, 6, 0] rfl)
        · have hf := zz_f c18 hf
          refine lv_aload_n hx hb dX4_send_68 rfl (lv_at hl 1 rfl) ?_
          refine lv_aload_n hx hb dX4_send_69 rfl (lv_at hl 1 rfl) ?_
          refine va_get (D := g.1) (ci := 4) (v := .ref (q 1)) (C := RX4) (T := TX4) (N := 7) hx hb hts iX4 hown hK hP 0 rfl rfl 0 (by decide) (zz_mem hts 1 rfl) (fun _ h9 => h9) rfl dX4_send_70 ?_
          refine lv_iload_n hx hb dX4_send_73 rfl (lv_at hl 2 rfl) ?_
          refine lv_iload hx hb dX4_send_74 (lv_at hl 4 rfl) ?_
          refine lv_iload hx hb dX4_send_76 (lv_at hl 6 rfl) ?_
          refine lv_iconst (v := (-1 : Int32)) hx hb dX4_send_78 (by decide) ?_
          refine lv_ixor hx hb dX4_send_79 ?_
          refine lv_iand hx hb dX4_send_80 ?_
          obtain ⟨r19, hc19, hf⟩ := zz_bs hf
          refine zz_cVi C hP hD hS (kX4_countedOn l g q _ 0 (by decide) v4.2.2 p0 (r3 &&& (v4.2.1 ^^^ (-1 : Int32))) r19 hc19) gX4_send_X4_countedOn mX4_countedOn (by decide) ⟨Nat.zero_le _, Nat.zero_le _⟩ 0 rfl rfl rfl rfl (rest := []) rfl hl.1 (Nat.le_of_ble_eq_true rfl) dX4_send_81 (fun H locs hP hD hS => ?_)
          refine lv_iload_n hx hb dX4_send_84 rfl (lv_at hl 3 rfl) ?_
          refine lv_icmp_ne (tgt := 92) hx hb dX4_send_85 (by decide) (fun c20 => ?_) (fun c20 => ?_)
          · have hf := zz_f c20 hf
            refine lv_iinc (v := (v4.2.1 + (1 : Int32))) (lv' := [(6, .int (v4.2.1 + (1 : Int32))), (7, .int (1 : Int32)), (0, .ref (q 0)), (1, .int p0), (2, .int p1), (4, .int r3), (5, .int (v4.1))]) hx hb dX4_send_92 hl (k := 6) rfl rfl (by decide) rfl (fun ls hl => ?_)
            refine lv_goto (tgt := 29) hx hb dX4_send_95 (by decide) ?_
            exact ih6 _ hf _ _ _ hP hD hS (lv_sub hl [2, 3, 4, 5, 6, 0] rfl)
          · have hf := zz_t c20 hf
            refine lv_iload hx hb dX4_send_88 (lv_at hl 6 rfl) ?_
            refine lv_istore (lv' := [(5, .int (v4.2.1)), (7, .int (1 : Int32)), (0, .ref (q 0)), (1, .int p0), (2, .int p1), (4, .int r3), (6, .int (v4.2.1))]) hx hb dX4_send_90 hl (by decide) rfl (fun ls hl => ?_)
            refine lv_iinc (v := (v4.2.1 + (1 : Int32))) (lv' := [(6, .int (v4.2.1 + (1 : Int32))), (5, .int (v4.2.1)), (7, .int (1 : Int32)), (0, .ref (q 0)), (1, .int p0), (2, .int p1), (4, .int r3)]) hx hb dX4_send_92 hl (k := 6) rfl rfl (by decide) rfl (fun ls hl => ?_)
            refine lv_goto (tgt := 29) hx hb dX4_send_95 (by decide) ?_
            exact ih6 _ hf _ _ _ hP hD hS (lv_sub hl [3, 4, 5, 6, 1, 0] rfl)
def fX4_send (u : zzS) (p0 : Int32) (p1 : Int32) : Option (Int32 × zzS) := ((fX4_refusalOfCount u p0 p1).bind (fun r1 => (if r1 = 0 then ((fX3_everyone 0 u).bind (fun r3 => (zzlp (sX4_send_29 p0 p1 r3) zzFU ((-9 : Int32), (0 : Int32), u)))) else (some (r1, u)))))
set_option maxHeartbeats 4000000 in
set_option maxRecDepth 100000 in
theorem kX4_send (l : Launch) (g : zzG) (q : Nat → Nat) (sz : Nat) (u : zzS) (p0 : Int32) (p1 : Int32) (x : Int32 × zzS) (hf : fX4_send u p0 p1 = some x) : zzI l g yX4_send wsX4_send rX4_send [.ref (q 0), .int p0, .int p1] (zzX g q u) (zzX g q x.2) sz x.1 := by
  refine zz_mi (cc := cX4_send) (mL := 8) (own := RX4) (fun x : Int32 × zzS => x.1) (fun x : Int32 × zzS => (zzX g q x.2)) x (by decide) rfl rfl (Nat.le_of_ble_eq_true rfl) ?_
  intro p e s m below meth c A Q ls C ret hP hD hS hl
  have hl : lv_has ls 8 [(0, .ref (q 0)), (1, .int p0), (2, .int p1)] := hl
  have hx := C.1.1
  have hb := C.1.2.1
  have hml := C.1.2.2.1
  have hown := C.1.2.2.2.1
  have hts := C.1.2.2.2.2
  have hK := C.2.1
  have iX4 : ∀ w ∈ wsX40, w ∈ wsX4_send := fun _ h => List.mem_cons_of_mem _ (List.mem_append_left _ (List.mem_append_left _ (List.mem_append_right _ h)))
  have iX3 : ∀ w ∈ wsX30, w ∈ wsX4_send := fun _ h => List.mem_cons_of_mem _ (List.mem_append_left _ (List.mem_append_right _ h))
  have iX1 : ∀ w ∈ wsX10, w ∈ wsX4_send := fun _ h => List.mem_cons_of_mem _ (List.mem_append_right _ h)
  unfold fX4_send at hf
  refine lv_aload_n hx hb dX4_send_0 rfl (lv_at hl 0 rfl) ?_
  refine lv_iload_n hx hb dX4_send_1 rfl (lv_at hl 1 rfl) ?_
  refine lv_iload_n hx hb dX4_send_2 rfl (lv_at hl 2 rfl) ?_
  obtain ⟨r1, hc1, hf⟩ := zz_bs hf
  refine zz_cVi C hP hD hS (kX4_refusalOfCount l g q _ u p0 p1 r1 hc1) gX4_send_X4_refusalOfCount mX4_refusalOfCount (by decide) ⟨Nat.zero_le _, Nat.zero_le _⟩ 0 rfl rfl rfl rfl (rest := []) rfl hl.1 (Nat.le_of_ble_eq_true rfl) dX4_send_3 (fun H locs hP hD hS => ?_)
  refine lv_istore_n (lv' := [(3, .int r1), (0, .ref (q 0)), (1, .int p0), (2, .int p1)]) hx hb dX4_send_6 rfl hl (by decide) rfl (fun ls hl => ?_)
  refine lv_iload_n hx hb dX4_send_7 rfl (lv_at hl 0 rfl) ?_
  refine lv_if_eq (tgt := 13) hx hb dX4_send_8 (by decide) (fun c2 => ?_) (fun c2 => ?_)
  · have hf := zz_t c2 hf
    refine lv_aload_n hx hb dX4_send_13 rfl (lv_at hl 1 rfl) ?_
    refine va_get (D := g.1) (ci := 4) (v := .ref (q 1)) (C := RX4) (T := TX4) (N := 7) hx hb hts iX4 hown hK hP 0 rfl rfl 0 (by decide) (zz_mem hts 1 rfl) (fun _ h9 => h9) rfl dX4_send_14 ?_
    obtain ⟨r3, hc3, hf⟩ := zz_bs hf
    refine zz_cVi C hP hD hS (kX3_everyone l g q _ 0 (by decide) u r3 hc3) gX4_send_X3_everyone mX3_everyone (by decide) ⟨Nat.zero_le _, Nat.zero_le _⟩ 1 rfl rfl rfl rfl (rest := []) rfl hl.1 (Nat.le_of_ble_eq_true rfl) dX4_send_17 (fun H locs hP hD hS => ?_)
    refine lv_istore (lv' := [(4, .int r3), (3, .int r1), (0, .ref (q 0)), (1, .int p0), (2, .int p1)]) hx hb dX4_send_20 hl (by decide) rfl (fun ls hl => ?_)
    refine lv_bipush (v := (-9 : Int32)) hx hb dX4_send_22 (by decide) ?_
    refine lv_istore (lv' := [(5, .int (-9 : Int32)), (4, .int r3), (3, .int r1), (0, .ref (q 0)), (1, .int p0), (2, .int p1)]) hx hb dX4_send_24 hl (by decide) rfl (fun ls hl => ?_)
    refine lv_iconst (v := (0 : Int32)) hx hb dX4_send_26 (by decide) ?_
    refine lv_istore (lv' := [(6, .int (0 : Int32)), (5, .int (-9 : Int32)), (4, .int r3), (3, .int r1), (0, .ref (q 0)), (1, .int p0), (2, .int p1)]) hx hb dX4_send_27 hl (by decide) rfl (fun ls hl => ?_)
    exact wX4_send_29 l g q p0 p1 r3 x C ret  _ _ hf _ _ _ hP hD hS (lv_sub hl [4, 5, 6, 2, 1, 0] rfl)
  · have hf := zz_f c2 hf
    refine lv_iload_n hx hb dX4_send_11 rfl (lv_at hl 0 rfl) ?_
    exact ret _ _ _ _ (r1, u) hf dX4_send_12 hP hD hS
abbrev rX4_reading : Room := ({ frames := 3, cells := 0, slots := 0, locals := 63 })
theorem mX4_reading : zzM yX4_reading wsX4_reading cX4_reading 5 (some .int) RX4 2 := ⟨⟨_, rfl⟩, by decide +kernel⟩
def fX4_reading (u : zzS) (p0 : Int32) (p1 : Int32) : Option (Int32 × zzS) := ((fX4_refusalOfCount u p0 p1).bind (fun r1 => (if r1 = 0 then ((fX0_note u p0 p1).bind (fun r3 => (if r3.1 = 0 then (some ((-4 : Int32), r3.2)) else (some ((u.1 10), r3.2))))) else (some (r1, u)))))
set_option maxHeartbeats 4000000 in
set_option maxRecDepth 100000 in
theorem kX4_reading (l : Launch) (g : zzG) (q : Nat → Nat) (sz : Nat) (u : zzS) (p0 : Int32) (p1 : Int32) (x : Int32 × zzS) (hf : fX4_reading u p0 p1 = some x) : zzI l g yX4_reading wsX4_reading rX4_reading [.ref (q 0), .int p0, .int p1] (zzX g q u) (zzX g q x.2) sz x.1 := by
  refine zz_mi (cc := cX4_reading) (mL := 5) (own := RX4) (fun x : Int32 × zzS => x.1) (fun x : Int32 × zzS => (zzX g q x.2)) x (by decide) rfl rfl (Nat.le_of_ble_eq_true rfl) ?_
  intro p e s m below meth c A Q ls C ret hP hD hS hl
  have hl : lv_has ls 5 [(0, .ref (q 0)), (1, .int p0), (2, .int p1)] := hl
  have hx := C.1.1
  have hb := C.1.2.1
  have hml := C.1.2.2.1
  have hown := C.1.2.2.2.1
  have hts := C.1.2.2.2.2
  have hK := C.2.1
  have iX4 : ∀ w ∈ wsX40, w ∈ wsX4_reading := fun _ h => List.mem_cons_of_mem _ (List.mem_append_left _ (List.mem_append_left _ (List.mem_append_right _ h)))
  have iX0 : ∀ w ∈ wsX00, w ∈ wsX4_reading := fun _ h => List.mem_cons_of_mem _ (List.mem_append_left _ (List.mem_append_right _ h))
  have iX3 : ∀ w ∈ wsX30, w ∈ wsX4_reading := fun _ h => List.mem_cons_of_mem _ (List.mem_append_right _ h)
  unfold fX4_reading at hf
  refine lv_aload_n hx hb dX4_reading_0 rfl (lv_at hl 0 rfl) ?_
  refine lv_iload_n hx hb dX4_reading_1 rfl (lv_at hl 1 rfl) ?_
  refine lv_iload_n hx hb dX4_reading_2 rfl (lv_at hl 2 rfl) ?_
  obtain ⟨r1, hc1, hf⟩ := zz_bs hf
  refine zz_cVi C hP hD hS (kX4_refusalOfCount l g q _ u p0 p1 r1 hc1) gX4_reading_X4_refusalOfCount mX4_refusalOfCount (by decide) ⟨Nat.zero_le _, Nat.zero_le _⟩ 0 rfl rfl rfl rfl (rest := []) rfl hl.1 (Nat.le_of_ble_eq_true rfl) dX4_reading_3 (fun H locs hP hD hS => ?_)
  refine lv_istore_n (lv' := [(3, .int r1), (0, .ref (q 0)), (1, .int p0), (2, .int p1)]) hx hb dX4_reading_6 rfl hl (by decide) rfl (fun ls hl => ?_)
  refine lv_iload_n hx hb dX4_reading_7 rfl (lv_at hl 0 rfl) ?_
  refine lv_if_eq (tgt := 13) hx hb dX4_reading_8 (by decide) (fun c2 => ?_) (fun c2 => ?_)
  · have hf := zz_t c2 hf
    refine lv_aload_n hx hb dX4_reading_13 rfl (lv_at hl 1 rfl) ?_
    refine va_get (D := g.1) (ci := 4) (v := .ref (q 10)) (C := RX4) (T := TX4) (N := 7) hx hb hts iX4 hown hK hP 0 rfl rfl 3 (by decide) (zz_mem hts 1 rfl) (fun _ h9 => h9) rfl dX4_reading_14 ?_
    refine va_get (D := g.1) (ci := 0) (v := .int (u.1 10)) (C := RX0) (T := TX0) (N := 3) hx hb hts iX0 hown hK hP 10 rfl rfl 2 (by decide) (zz_mem hts 2 rfl) (fun _ h9 => h9) rfl dX4_reading_17 ?_
    refine lv_istore (lv' := [(4, .int (u.1 10)), (3, .int r1), (0, .ref (q 0)), (1, .int p0), (2, .int p1)]) hx hb dX4_reading_20 hl (by decide) rfl (fun ls hl => ?_)
    refine lv_aload_n hx hb dX4_reading_22 rfl (lv_at hl 2 rfl) ?_
    refine va_get (D := g.1) (ci := 4) (v := .ref (q 10)) (C := RX4) (T := TX4) (N := 7) hx hb hts iX4 hown hK hP 0 rfl rfl 3 (by decide) (zz_mem hts 1 rfl) (fun _ h9 => h9) rfl dX4_reading_23 ?_
    refine lv_iload_n hx hb dX4_reading_26 rfl (lv_at hl 3 rfl) ?_
    refine lv_iload_n hx hb dX4_reading_27 rfl (lv_at hl 4 rfl) ?_
    obtain ⟨r3, hc3, hf⟩ := zz_bs hf
    refine zz_cVz C hP hD hS (kX0_note l g q _ u p0 p1 r3 hc3) gX4_reading_X0_note mX0_note (by decide) ⟨Nat.zero_le _, Nat.zero_le _⟩ 10 rfl rfl rfl rfl (rest := []) rfl hl.1 (Nat.le_of_ble_eq_true rfl) dX4_reading_28 (fun hz3 H locs hP hD hS => ?_)
    refine lv_if_eq (tgt := 39) hx hb dX4_reading_31 (by decide) (fun c4 => ?_) (fun c4 => ?_)
    · have hf := zz_t c4 hf
      refine lv_bipush (v := (-4 : Int32)) hx hb dX4_reading_39 (by decide) ?_
      exact ret _ _ _ _ ((-4 : Int32), r3.2) hf dX4_reading_41 hP hD hS
    · have hf := zz_f c4 hf
      refine lv_iload hx hb dX4_reading_34 (lv_at hl 0 rfl) ?_
      refine lv_goto (tgt := 41) hx hb dX4_reading_36 (by decide) ?_
      exact ret _ _ _ _ ((u.1 10), r3.2) hf dX4_reading_41 hP hD hS
  · have hf := zz_f c2 hf
    refine lv_iload_n hx hb dX4_reading_11 rfl (lv_at hl 0 rfl) ?_
    exact ret _ _ _ _ (r1, u) hf dX4_reading_12 hP hD hS
abbrev rX4_back : Room := ({ frames := 0, cells := 0, slots := 0, locals := 0 })
theorem mX4_back : zzM yX4_back wsX4_back cX4_back 2 (some .int) RX4 1 := ⟨⟨_, rfl⟩, by decide +kernel⟩
def fX4_back (u : zzS) (p0 : Int32) : Option (Int32 × zzS) := (if p0 < 0 then (some ((-2 : Int32), u)) else (if p0 ≤ (u.1 10) then (some (((zzi u 10 ((u.1 10) - p0)).1 10), (zzi u 10 ((u.1 10) - p0)))) else (some ((-2 : Int32), u))))
set_option maxHeartbeats 4000000 in
set_option maxRecDepth 100000 in
theorem kX4_back (l : Launch) (g : zzG) (q : Nat → Nat) (sz : Nat) (u : zzS) (p0 : Int32) (x : Int32 × zzS) (hf : fX4_back u p0 = some x) : zzI l g yX4_back wsX4_back rX4_back [.ref (q 0), .int p0] (zzX g q u) (zzX g q x.2) sz x.1 := by
  refine zz_mi (cc := cX4_back) (mL := 2) (own := RX4) (fun x : Int32 × zzS => x.1) (fun x : Int32 × zzS => (zzX g q x.2)) x (by decide) rfl rfl (Nat.le_of_ble_eq_true rfl) ?_
  intro p e s m below meth c A Q ls C ret hP hD hS hl
  have hl : lv_has ls 2 [(0, .ref (q 0)), (1, .int p0)] := hl
  have hx := C.1.1
  have hb := C.1.2.1
  have hml := C.1.2.2.1
  have hown := C.1.2.2.2.1
  have hts := C.1.2.2.2.2
  have hK := C.2.1
  have iX4 : ∀ w ∈ wsX40, w ∈ wsX4_back := fun _ h => List.mem_cons_of_mem _ (List.mem_append_left _ (List.mem_append_right _ h))
  have iX0 : ∀ w ∈ wsX00, w ∈ wsX4_back := fun _ h => List.mem_cons_of_mem _ (List.mem_append_right _ h)
  unfold fX4_back at hf
  refine lv_iload_n hx hb dX4_back_0 rfl (lv_at hl 1 rfl) ?_
  refine lv_if_lt (tgt := 15) hx hb dX4_back_1 (by decide) (fun c1 => ?_) (fun c1 => ?_)
  · have hf := zz_t c1 hf
    refine lv_bipush (v := (-2 : Int32)) hx hb dX4_back_15 (by decide) ?_
    exact ret _ _ _ _ ((-2 : Int32), u) hf dX4_back_17 hP hD hS
  · have hf := zz_f c1 hf
    refine lv_iload_n hx hb dX4_back_4 rfl (lv_at hl 1 rfl) ?_
    refine lv_aload_n hx hb dX4_back_5 rfl (lv_at hl 0 rfl) ?_
    refine va_get (D := g.1) (ci := 4) (v := .ref (q 10)) (C := RX4) (T := TX4) (N := 7) hx hb hts iX4 hown hK hP 0 rfl rfl 3 (by decide) (zz_mem hts 1 rfl) (fun _ h9 => h9) rfl dX4_back_6 ?_
    refine va_get (D := g.1) (ci := 0) (v := .int (u.1 10)) (C := RX0) (T := TX0) (N := 3) hx hb hts iX0 hown hK hP 10 rfl rfl 2 (by decide) (zz_mem hts 2 rfl) (fun _ h9 => h9) rfl dX4_back_9 ?_
    refine lv_icmp_le (tgt := 18) hx hb dX4_back_12 (by decide) (fun c2 => ?_) (fun c2 => ?_)
    · have hf := zz_t c2 hf
      refine lv_aload_n hx hb dX4_back_18 rfl (lv_at hl 0 rfl) ?_
      refine va_get (D := g.1) (ci := 4) (v := .ref (q 10)) (C := RX4) (T := TX4) (N := 7) hx hb hts iX4 hown hK hP 0 rfl rfl 3 (by decide) (zz_mem hts 1 rfl) (fun _ h9 => h9) rfl dX4_back_19 ?_
      refine lv_dup hx hb dX4_back_22 rfl ?_
      refine va_get (D := g.1) (ci := 0) (v := .int (u.1 10)) (C := RX0) (T := TX0) (N := 3) hx hb hts iX0 hown hK hP 10 rfl rfl 2 (by decide) (zz_mem hts 2 rfl) (fun _ h9 => h9) rfl dX4_back_23 ?_
      refine lv_iload_n hx hb dX4_back_26 rfl (lv_at hl 1 rfl) ?_
      refine lv_isub hx hb dX4_back_27 ?_
      refine va_put (D := g.1) (ci := 0) (v := .int ((u.1 10) - p0)) (ty := .int) (C := RX0) (T := TX0) (N := 3) hx hb hts iX0 tyX0 tyX0_ok nmX0 hown hK hP hD hS 10 rfl rfl 2 (by decide) (zz_mem hts 2 rfl) (fun _ h9 => h9) rfl (tyX0_ok 2 (by decide)) rfl rfl (Nat.le_of_ble_eq_true rfl) dX4_back_28 (fun H locs hP hD hS => ?_)
      have hP : va_P g.1 vwCl (zzX g q (zzi u 10 ((u.1 10) - p0))) H := Eq.mp (congrArg (fun w => va_P g.1 vwCl w H) (zxo_10_2 g q u ((u.1 10) - p0))) hP
      have hD : va_D A (zzX g q (zzi u 10 ((u.1 10) - p0))) := Eq.mp (congrArg (va_D A) (zxo_10_2 g q u ((u.1 10) - p0))) hD
      refine lv_aload_n hx hb dX4_back_31 rfl (lv_at hl 0 rfl) ?_
      refine va_get (D := g.1) (ci := 4) (v := .ref (q 10)) (C := RX4) (T := TX4) (N := 7) hx hb hts iX4 hown hK hP 0 rfl rfl 3 (by decide) (zz_mem hts 1 rfl) (fun _ h9 => h9) rfl dX4_back_32 ?_
      refine va_get (D := g.1) (ci := 0) (v := .int ((zzi u 10 ((u.1 10) - p0)).1 10)) (C := RX0) (T := TX0) (N := 3) hx hb hts iX0 hown hK hP 10 rfl rfl 2 (by decide) (zz_mem hts 2 rfl) (fun _ h9 => h9) rfl dX4_back_35 ?_
      exact ret _ _ _ _ (((zzi u 10 ((u.1 10) - p0)).1 10), (zzi u 10 ((u.1 10) - p0))) hf dX4_back_38 hP hD hS
    · have hf := zz_f c2 hf
      refine lv_bipush (v := (-2 : Int32)) hx hb dX4_back_15 (by decide) ?_
      exact ret _ _ _ _ ((-2 : Int32), u) hf dX4_back_17 hP hD hS
abbrev rX4_areReadingsSoOnTrial : Room := ({ frames := 4, cells := 0, slots := 0, locals := 104 })
theorem mX4_areReadingsSoOnTrial : zzM yX4_areReadingsSoOnTrial wsX4_areReadingsSoOnTrial cX4_areReadingsSoOnTrial 2 (some .boolean) RX4 0 := ⟨⟨_, rfl⟩, by decide +kernel⟩
def sX4_areReadingsSoOnTrial_2  : (Int32 × zzS) → ((Int32 × zzS) → Option (Int32 × zzS)) → Option (Int32 × zzS) := fun v1 rec2 => (if (v1.2.1 10) ≤ v1.1 then (some ((1 : Int32), v1.2)) else (if (8 : Int32) ≤ v1.1 then (some ((1 : Int32), v1.2)) else (zzga (v1.2.2 6) 8 v1.1 (fun x7 => ((fX3_everyone 1 v1.2).bind (fun r8 => ((fX4_countedOn 1 v1.2 x7 r8).bind (fun r9 => (zzga (r9.2.2 7) 8 v1.1 (fun x11 => (if r9.1 = x11 then (rec2 ((v1.1 + (1 : Int32)), r9.2)) else (some ((0 : Int32), r9.2)))))))))))))
set_option maxHeartbeats 4000000 in
set_option maxRecDepth 100000 in
theorem wX4_areReadingsSoOnTrial_2 (l : Launch) (g : zzG) (q : Nat → Nat)  (x : Int32 × zzS) {p : Program} {e : Env} {s : State} {m : MethodId} {below : List Frame} {meth : Method} {c : Code} {A : Nat → Prop} {Q : State → Prop} (C : zzC g p s m ([.ref (q 0)] : List Value).toArray c cX4_areReadingsSoOnTrial 2 RX4 wsX4_areReadingsSoOnTrial A) (ret : zzRZ l g rX4_areReadingsSoOnTrial cX4_areReadingsSoOnTrial [.ref (q 0)] (fun x : Int32 × zzS => x.1) (fun x : Int32 × zzS => (zzX g q x.2)) x p e s m below meth c A Q)  (n : Nat) (v1 : Int32 × zzS) (hf : zzlp (sX4_areReadingsSoOnTrial_2 ) n v1 = some x) : ∀ (H : Heap) (locs : List Loc) (ls : Array Slot), va_P g.1 vwCl (zzX g q v1.2) H → va_D A (zzX g q v1.2) → va_S A s.heap H locs → lv_has ls 2 [(0, .ref (q 0)), (1, .int (v1.1))] → W p l e rX4_areReadingsSoOnTrial s m ([.ref (q 0)] : List Value).toArray below meth c H locs 0 0 Q (F0 m 2 ls []) := by
  have hx := C.1.1
  have hb := C.1.2.1
  have hml := C.1.2.2.1
  have hown := C.1.2.2.2.1
  have hts := C.1.2.2.2.2
  have hK := C.2.1
  have iX4 : ∀ w ∈ wsX40, w ∈ wsX4_areReadingsSoOnTrial := fun _ h => List.mem_cons_of_mem _ (List.mem_append_left _ (List.mem_append_left _ (List.mem_append_left _ (List.mem_append_right _ h))))
  have iX0 : ∀ w ∈ wsX00, w ∈ wsX4_areReadingsSoOnTrial := fun _ h => List.mem_cons_of_mem _ (List.mem_append_left _ (List.mem_append_left _ (List.mem_append_right _ h)))
  have iX3 : ∀ w ∈ wsX30, w ∈ wsX4_areReadingsSoOnTrial := fun _ h => List.mem_cons_of_mem _ (List.mem_append_left _ (List.mem_append_right _ h))
  have iX1 : ∀ w ∈ wsX10, w ∈ wsX4_areReadingsSoOnTrial := fun _ h => List.mem_cons_of_mem _ (List.mem_append_right _ h)
  refine zz_lp (P := fun (v1 : Int32 × zzS) => ∀ (H : Heap) (locs : List Loc) (ls : Array Slot), va_P g.1 vwCl (zzX g q v1.2) H → va_D A (zzX g q v1.2) → va_S A s.heap H locs → lv_has ls 2 [(0, .ref (q 0)), (1, .int (v1.1))] → W p l e rX4_areReadingsSoOnTrial s m ([.ref (q 0)] : List Value).toArray below meth c H locs 0 0 Q (F0 m 2 ls [])) (fun v1 rec2 ih3 hf H locs ls hP hD hS hl => ?_) n v1 hf
  unfold sX4_areReadingsSoOnTrial_2 at hf
  refine lv_iload_n hx hb dX4_areReadingsSoOnTrial_2 rfl (lv_at hl 1 rfl) ?_
  refine lv_aload_n hx hb dX4_areReadingsSoOnTrial_3 rfl (lv_at hl 0 rfl) ?_
  refine va_get (D := g.1) (ci := 4) (v := .ref (q 10)) (C := RX4) (T := TX4) (N := 7) hx hb hts iX4 hown hK hP 0 rfl rfl 3 (by decide) (zz_mem hts 1 rfl) (fun _ h9 => h9) rfl dX4_areReadingsSoOnTrial_4 ?_
  refine va_get (D := g.1) (ci := 0) (v := .int (v1.2.1 10)) (C := RX0) (T := TX0) (N := 3) hx hb hts iX0 hown hK hP 10 rfl rfl 2 (by decide) (zz_mem hts 2 rfl) (fun _ h9 => h9) rfl dX4_areReadingsSoOnTrial_7 ?_
  refine lv_icmp_ge (tgt := 63) hx hb dX4_areReadingsSoOnTrial_10 (by decide) (fun c4 => ?_) (fun c4 => ?_)
  · have hf := zz_t c4 hf
    refine lv_iconst (v := (1 : Int32)) hx hb dX4_areReadingsSoOnTrial_63 (by decide) ?_
    exact ret _ _ _ _ ((1 : Int32), v1.2) hf dX4_areReadingsSoOnTrial_64 zz_n1 hP hD hS
  · have hf := zz_f c4 hf
    refine lv_iload_n hx hb dX4_areReadingsSoOnTrial_13 rfl (lv_at hl 1 rfl) ?_
    refine lv_bipush (v := (8 : Int32)) hx hb dX4_areReadingsSoOnTrial_14 (by decide) ?_
    refine lv_icmp_ge (tgt := 63) hx hb dX4_areReadingsSoOnTrial_16 (by decide) (fun c5 => ?_) (fun c5 => ?_)
    · have hf := zz_t c5 hf
      refine lv_iconst (v := (1 : Int32)) hx hb dX4_areReadingsSoOnTrial_63 (by decide) ?_
      exact ret _ _ _ _ ((1 : Int32), v1.2) hf dX4_areReadingsSoOnTrial_64 zz_n1 hP hD hS
    · have hf := zz_f c5 hf
      refine lv_aload_n hx hb dX4_areReadingsSoOnTrial_19 rfl (lv_at hl 0 rfl) ?_
      refine lv_aload_n hx hb dX4_areReadingsSoOnTrial_20 rfl (lv_at hl 0 rfl) ?_
      refine va_get (D := g.1) (ci := 4) (v := .ref (q 5)) (C := RX4) (T := TX4) (N := 7) hx hb hts iX4 hown hK hP 0 rfl rfl 1 (by decide) (zz_mem hts 3 rfl) (fun _ h9 => h9) rfl dX4_areReadingsSoOnTrial_21 ?_
      refine lv_aload_n hx hb dX4_areReadingsSoOnTrial_24 rfl (lv_at hl 0 rfl) ?_
      refine va_get (D := g.1) (ci := 4) (v := .ref (q 10)) (C := RX4) (T := TX4) (N := 7) hx hb hts iX4 hown hK hP 0 rfl rfl 3 (by decide) (zz_mem hts 1 rfl) (fun _ h9 => h9) rfl dX4_areReadingsSoOnTrial_25 ?_
      refine va_get (D := g.1) (ci := 0) (v := .ref (q 11)) (C := RX0) (T := TX0) (N := 3) hx hb hts iX0 hown hK hP 10 rfl rfl 0 (by decide) (zz_mem hts 4 rfl) (fun _ h9 => h9) rfl dX4_areReadingsSoOnTrial_28 ?_
      refine lv_iload_n hx hb dX4_areReadingsSoOnTrial_31 rfl (lv_at hl 1 rfl) ?_
      obtain ⟨x7, h6, ex7, hf⟩ := zz_gx hf
      refine zz_iald hx hb hK hP 11 0 rfl rfl h6 ex7 dX4_areReadingsSoOnTrial_32 ?_
      refine lv_aload_n hx hb dX4_areReadingsSoOnTrial_33 rfl (lv_at hl 0 rfl) ?_
      refine va_get (D := g.1) (ci := 4) (v := .ref (q 5)) (C := RX4) (T := TX4) (N := 7) hx hb hts iX4 hown hK hP 0 rfl rfl 1 (by decide) (zz_mem hts 3 rfl) (fun _ h9 => h9) rfl dX4_areReadingsSoOnTrial_34 ?_
      obtain ⟨r8, hc8, hf⟩ := zz_bs hf
      refine zz_cVi C hP hD hS (kX3_everyone l g q _ 1 (by decide) v1.2 r8 hc8) gX4_areReadingsSoOnTrial_X3_everyone mX3_everyone (by decide) ⟨Nat.zero_le _, Nat.zero_le _⟩ 5 rfl rfl rfl rfl (rest := [.int x7, .ref (q 5), .ref (q 0)]) rfl hl.1 (Nat.le_of_ble_eq_true rfl) dX4_areReadingsSoOnTrial_37 (fun H locs hP hD hS => ?_)
      obtain ⟨r9, hc9, hf⟩ := zz_bs hf
      refine zz_cVi C hP hD hS (kX4_countedOn l g q _ 1 (by decide) v1.2 x7 r8 r9 hc9) gX4_areReadingsSoOnTrial_X4_countedOn mX4_countedOn (by decide) ⟨Nat.zero_le _, Nat.zero_le _⟩ 0 rfl rfl rfl rfl (rest := []) rfl hl.1 (Nat.le_of_ble_eq_true rfl) dX4_areReadingsSoOnTrial_40 (fun H locs hP hD hS => ?_)
      refine lv_aload_n hx hb dX4_areReadingsSoOnTrial_43 rfl (lv_at hl 0 rfl) ?_
      refine va_get (D := g.1) (ci := 4) (v := .ref (q 10)) (C := RX4) (T := TX4) (N := 7) hx hb hts iX4 hown hK hP 0 rfl rfl 3 (by decide) (zz_mem hts 1 rfl) (fun _ h9 => h9) rfl dX4_areReadingsSoOnTrial_44 ?_
      refine va_get (D := g.1) (ci := 0) (v := .ref (q 12)) (C := RX0) (T := TX0) (N := 3) hx hb hts iX0 hown hK hP 10 rfl rfl 1 (by decide) (zz_mem hts 5 rfl) (fun _ h9 => h9) rfl dX4_areReadingsSoOnTrial_47 ?_
      refine lv_iload_n hx hb dX4_areReadingsSoOnTrial_50 rfl (lv_at hl 1 rfl) ?_
      obtain ⟨x11, h10, ex11, hf⟩ := zz_gx hf
      refine zz_iald hx hb hK hP 12 0 rfl rfl h10 ex11 dX4_areReadingsSoOnTrial_51 ?_
      refine lv_icmp_eq (tgt := 57) hx hb dX4_areReadingsSoOnTrial_52 (by decide) (fun c12 => ?_) (fun c12 => ?_)
      · have hf := zz_t c12 hf
        refine lv_iinc (v := (v1.1 + (1 : Int32))) (lv' := [(1, .int (v1.1 + (1 : Int32))), (0, .ref (q 0))]) hx hb dX4_areReadingsSoOnTrial_57 hl (k := 1) rfl rfl (by decide) rfl (fun ls hl => ?_)
        refine lv_goto (tgt := 2) hx hb dX4_areReadingsSoOnTrial_60 (by decide) ?_
        exact ih3 _ hf _ _ _ hP hD hS (lv_sub hl [1, 0] rfl)
      · have hf := zz_f c12 hf
        refine lv_iconst (v := (0 : Int32)) hx hb dX4_areReadingsSoOnTrial_55 (by decide) ?_
        exact ret _ _ _ _ ((0 : Int32), r9.2) hf dX4_areReadingsSoOnTrial_56 zz_n0 hP hD hS
def fX4_areReadingsSoOnTrial (u : zzS) : Option (Int32 × zzS) := (zzlp (sX4_areReadingsSoOnTrial_2 ) zzFU ((0 : Int32), u))
set_option maxHeartbeats 4000000 in
set_option maxRecDepth 100000 in
theorem kX4_areReadingsSoOnTrial (l : Launch) (g : zzG) (q : Nat → Nat) (sz : Nat) (u : zzS)  (x : Int32 × zzS) (hf : fX4_areReadingsSoOnTrial u = some x) : zzZ l g yX4_areReadingsSoOnTrial wsX4_areReadingsSoOnTrial rX4_areReadingsSoOnTrial [.ref (q 0)] (zzX g q u) (zzX g q x.2) sz x.1 := by
  refine zz_mz (cc := cX4_areReadingsSoOnTrial) (mL := 2) (own := RX4) (fun x : Int32 × zzS => x.1) (fun x : Int32 × zzS => (zzX g q x.2)) x (by decide) rfl rfl (Nat.le_of_ble_eq_true rfl) ?_
  intro p e s m below meth c A Q ls C ret hP hD hS hl
  have hl : lv_has ls 2 [(0, .ref (q 0))] := hl
  have hx := C.1.1
  have hb := C.1.2.1
  have hml := C.1.2.2.1
  have hown := C.1.2.2.2.1
  have hts := C.1.2.2.2.2
  have hK := C.2.1
  have iX4 : ∀ w ∈ wsX40, w ∈ wsX4_areReadingsSoOnTrial := fun _ h => List.mem_cons_of_mem _ (List.mem_append_left _ (List.mem_append_left _ (List.mem_append_left _ (List.mem_append_right _ h))))
  have iX0 : ∀ w ∈ wsX00, w ∈ wsX4_areReadingsSoOnTrial := fun _ h => List.mem_cons_of_mem _ (List.mem_append_left _ (List.mem_append_left _ (List.mem_append_right _ h)))
  have iX3 : ∀ w ∈ wsX30, w ∈ wsX4_areReadingsSoOnTrial := fun _ h => List.mem_cons_of_mem _ (List.mem_append_left _ (List.mem_append_right _ h))
  have iX1 : ∀ w ∈ wsX10, w ∈ wsX4_areReadingsSoOnTrial := fun _ h => List.mem_cons_of_mem _ (List.mem_append_right _ h)
  unfold fX4_areReadingsSoOnTrial at hf
  refine lv_iconst (v := (0 : Int32)) hx hb dX4_areReadingsSoOnTrial_0 (by decide) ?_
  refine lv_istore_n (lv' := [(1, .int (0 : Int32)), (0, .ref (q 0))]) hx hb dX4_areReadingsSoOnTrial_1 rfl hl (by decide) rfl (fun ls hl => ?_)
  exact wX4_areReadingsSoOnTrial_2 l g q  x C ret  _ _ hf _ _ _ hP hD hS (lv_sub hl [1, 0] rfl)
abbrev rX4_heights : Room := ({ frames := 5, cells := 0, slots := 0, locals := 125 })
theorem mX4_heights : zzM yX4_heights wsX4_heights cX4_heights 4 (some .int) RX4 1 := ⟨⟨_, rfl⟩, by decide +kernel⟩
def sX4_heights_28 (p0 : Int32) : (Int32 × Int32 × zzS) → ((Int32 × Int32 × zzS) → Option (Int32 × zzS)) → Option (Int32 × zzS) := fun v4 rec5 => (if (9 : Int32) < v4.2.1 then (some (v4.1, v4.2.2)) else (zzpa 5 p0 ((fX4_areReadingsSoOnTrial (zza v4.2.2 5 p0.toNatClampNeg v4.2.1)).bind (fun r9 => (if r9.1 = 0 then (rec5 (v4.1, (v4.2.1 + (1 : Int32)), r9.2)) else (rec5 ((v4.1 ||| ((1 : Int32) <<< (v4.2.1 &&& 31))), (v4.2.1 + (1 : Int32)), r9.2)))))))
set_option maxHeartbeats 4000000 in
set_option maxRecDepth 100000 in
theorem wX4_heights_28 (l : Launch) (g : zzG) (q : Nat → Nat) (p0 : Int32) (x : Int32 × zzS) {p : Program} {e : Env} {s : State} {m : MethodId} {below : List Frame} {meth : Method} {c : Code} {A : Nat → Prop} {Q : State → Prop} (C : zzC g p s m ([.ref (q 0), .int p0] : List Value).toArray c cX4_heights 4 RX4 wsX4_heights A) (ret : zzRI l g rX4_heights cX4_heights [.ref (q 0), .int p0] (fun x : Int32 × zzS => x.1) (fun x : Int32 × zzS => (zzX g q x.2)) x p e s m below meth c A Q)  (n : Nat) (v4 : Int32 × Int32 × zzS) (hf : zzlp (sX4_heights_28 p0) n v4 = some x) : ∀ (H : Heap) (locs : List Loc) (ls : Array Slot), va_P g.1 vwCl (zzX g q v4.2.2) H → va_D A (zzX g q v4.2.2) → va_S A s.heap H locs → lv_has ls 4 [(0, .ref (q 0)), (1, .int p0), (2, .int (v4.1)), (3, .int (v4.2.1))] → W p l e rX4_heights s m ([.ref (q 0), .int p0] : List Value).toArray below meth c H locs 0 0 Q (F0 m 28 ls []) := by
  have hx := C.1.1
  have hb := C.1.2.1
  have hml := C.1.2.2.1
  have hown := C.1.2.2.2.1
  have hts := C.1.2.2.2.2
  have hK := C.2.1
  have iX4 : ∀ w ∈ wsX40, w ∈ wsX4_heights := fun _ h => List.mem_cons_of_mem _ (List.mem_append_left _ (List.mem_append_left _ (List.mem_append_left _ (List.mem_append_right _ h))))
  have iX3 : ∀ w ∈ wsX30, w ∈ wsX4_heights := fun _ h => List.mem_cons_of_mem _ (List.mem_append_left _ (List.mem_append_left _ (List.mem_append_right _ h)))
  have iX0 : ∀ w ∈ wsX00, w ∈ wsX4_heights := fun _ h => List.mem_cons_of_mem _ (List.mem_append_left _ (List.mem_append_right _ h))
  have iX1 : ∀ w ∈ wsX10, w ∈ wsX4_heights := fun _ h => List.mem_cons_of_mem _ (List.mem_append_right _ h)
  refine zz_lp (P := fun (v4 : Int32 × Int32 × zzS) => ∀ (H : Heap) (locs : List Loc) (ls : Array Slot), va_P g.1 vwCl (zzX g q v4.2.2) H → va_D A (zzX g q v4.2.2) → va_S A s.heap H locs → lv_has ls 4 [(0, .ref (q 0)), (1, .int p0), (2, .int (v4.1)), (3, .int (v4.2.1))] → W p l e rX4_heights s m ([.ref (q 0), .int p0] : List Value).toArray below meth c H locs 0 0 Q (F0 m 28 ls [])) (fun v4 rec5 ih6 hf H locs ls hP hD hS hl => ?_) n v4 hf
  unfold sX4_heights_28 at hf
  refine lv_iload_n hx hb dX4_heights_28 rfl (lv_at hl 3 rfl) ?_
  refine lv_bipush (v := (9 : Int32)) hx hb dX4_heights_29 (by decide) ?_
  refine lv_icmp_gt (tgt := 63) hx hb dX4_heights_31 (by decide) (fun c7 => ?_) (fun c7 => ?_)
  · have hf := zz_t c7 hf
    refine lv_iload_n hx hb dX4_heights_63 rfl (lv_at hl 2 rfl) ?_
    exact ret _ _ _ _ (v4.1, v4.2.2) hf dX4_heights_64 hP hD hS
  · have hf := zz_f c7 hf
    refine lv_aload_n hx hb dX4_heights_34 rfl (lv_at hl 0 rfl) ?_
    refine va_get (D := g.1) (ci := 4) (v := .ref (q 5)) (C := RX4) (T := TX4) (N := 7) hx hb hts iX4 hown hK hP 0 rfl rfl 1 (by decide) (zz_mem hts 2 rfl) (fun _ h9 => h9) rfl dX4_heights_35 ?_
    refine va_get (D := g.1) (ci := 3) (v := .ref (q 8)) (C := RX3) (T := TX3) (N := 6) hx hb hts iX3 hown hK hP 5 rfl rfl 2 (by decide) (zz_mem hts 3 rfl) (fun _ h9 => h9) rfl dX4_heights_38 ?_
    refine lv_iload_n hx hb dX4_heights_41 rfl (lv_at hl 1 rfl) ?_
    refine lv_iload_n hx hb dX4_heights_42 rfl (lv_at hl 3 rfl) ?_
    obtain ⟨h8, hf⟩ := zz_pa hf
    refine va_iast hx hb hK hP hD hS 8 0 rfl rfl h8 dX4_heights_43 (fun H locs hP hD hS => ?_)
    have hP : va_P g.1 vwCl (zzX g q (zza v4.2.2 5 p0.toNatClampNeg v4.2.1)) H := Eq.mp (congrArg (fun w => va_P g.1 vwCl w H) (zxa_8 g q v4.2.2 (upd (v4.2.2.2 5) p0.toNatClampNeg v4.2.1))) hP
    have hD : va_D A (zzX g q (zza v4.2.2 5 p0.toNatClampNeg v4.2.1)) := Eq.mp (congrArg (va_D A) (zxa_8 g q v4.2.2 (upd (v4.2.2.2 5) p0.toNatClampNeg v4.2.1))) hD
    refine lv_aload_n hx hb dX4_heights_44 rfl (lv_at hl 0 rfl) ?_
    obtain ⟨r9, hc9, hf⟩ := zz_bs hf
    refine zz_cVz C hP hD hS (kX4_areReadingsSoOnTrial l g q _ (zza v4.2.2 5 p0.toNatClampNeg v4.2.1) r9 hc9) gX4_heights_X4_areReadingsSoOnTrial mX4_areReadingsSoOnTrial (by decide) ⟨Nat.zero_le _, Nat.zero_le _⟩ 0 rfl rfl rfl rfl (rest := []) rfl hl.1 (Nat.le_of_ble_eq_true rfl) dX4_heights_45 (fun hz9 H locs hP hD hS => ?_)
    refine lv_if_eq (tgt := 57) hx hb dX4_heights_48 (by decide) (fun c10 => ?_) (fun c10 => ?_)
    · have hf := zz_t c10 hf
      refine lv_iinc (v := (v4.2.1 + (1 : Int32))) (lv' := [(3, .int (v4.2.1 + (1 : Int32))), (0, .ref (q 0)), (1, .int p0), (2, .int (v4.1))]) hx hb dX4_heights_57 hl (k := 3) rfl rfl (by decide) rfl (fun ls hl => ?_)
      refine lv_goto (tgt := 28) hx hb dX4_heights_60 (by decide) ?_
      exact ih6 _ hf _ _ _ hP hD hS (lv_sub hl [1, 2, 3, 0] rfl)
    · have hf := zz_f c10 hf
      refine lv_iload_n hx hb dX4_heights_51 rfl (lv_at hl 2 rfl) ?_
      refine lv_iconst (v := (1 : Int32)) hx hb dX4_heights_52 (by decide) ?_
      refine lv_iload_n hx hb dX4_heights_53 rfl (lv_at hl 3 rfl) ?_
      refine lv_ishl hx hb dX4_heights_54 ?_
      refine lv_ior hx hb dX4_heights_55 ?_
      refine lv_istore_n (lv' := [(2, .int (v4.1 ||| ((1 : Int32) <<< (v4.2.1 &&& 31)))), (0, .ref (q 0)), (1, .int p0), (3, .int (v4.2.1))]) hx hb dX4_heights_56 rfl hl (by decide) rfl (fun ls hl => ?_)
      refine lv_iinc (v := (v4.2.1 + (1 : Int32))) (lv' := [(3, .int (v4.2.1 + (1 : Int32))), (2, .int (v4.1 ||| ((1 : Int32) <<< (v4.2.1 &&& 31)))), (0, .ref (q 0)), (1, .int p0)]) hx hb dX4_heights_57 hl (k := 3) rfl rfl (by decide) rfl (fun ls hl => ?_)
      refine lv_goto (tgt := 28) hx hb dX4_heights_60 (by decide) ?_
      exact ih6 _ hf _ _ _ hP hD hS (lv_sub hl [2, 3, 1, 0] rfl)
def fX4_heights (u : zzS) (p0 : Int32) : Option (Int32 × zzS) := ((fX3_has 0 u p0).bind (fun r1 => (if r1 = 0 then (some ((-1 : Int32), u)) else ((fX3_becomeLike u).bind (fun r3 => (zzlp (sX4_heights_28 p0) zzFU ((0 : Int32), (0 : Int32), r3)))))))
set_option maxHeartbeats 4000000 in
set_option maxRecDepth 100000 in
theorem kX4_heights (l : Launch) (g : zzG) (q : Nat → Nat) (sz : Nat) (u : zzS) (p0 : Int32) (x : Int32 × zzS) (hf : fX4_heights u p0 = some x) : zzI l g yX4_heights wsX4_heights rX4_heights [.ref (q 0), .int p0] (zzX g q u) (zzX g q x.2) sz x.1 := by
  refine zz_mi (cc := cX4_heights) (mL := 4) (own := RX4) (fun x : Int32 × zzS => x.1) (fun x : Int32 × zzS => (zzX g q x.2)) x (by decide) rfl rfl (Nat.le_of_ble_eq_true rfl) ?_
  intro p e s m below meth c A Q ls C ret hP hD hS hl
  have hl : lv_has ls 4 [(0, .ref (q 0)), (1, .int p0)] := hl
  have hx := C.1.1
  have hb := C.1.2.1
  have hml := C.1.2.2.1
  have hown := C.1.2.2.2.1
  have hts := C.1.2.2.2.2
  have hK := C.2.1
  have iX4 : ∀ w ∈ wsX40, w ∈ wsX4_heights := fun _ h => List.mem_cons_of_mem _ (List.mem_append_left _ (List.mem_append_left _ (List.mem_append_left _ (List.mem_append_right _ h))))
  have iX3 : ∀ w ∈ wsX30, w ∈ wsX4_heights := fun _ h => List.mem_cons_of_mem _ (List.mem_append_left _ (List.mem_append_left _ (List.mem_append_right _ h)))
  have iX0 : ∀ w ∈ wsX00, w ∈ wsX4_heights := fun _ h => List.mem_cons_of_mem _ (List.mem_append_left _ (List.mem_append_right _ h))
  have iX1 : ∀ w ∈ wsX10, w ∈ wsX4_heights := fun _ h => List.mem_cons_of_mem _ (List.mem_append_right _ h)
  unfold fX4_heights at hf
  refine lv_aload_n hx hb dX4_heights_0 rfl (lv_at hl 0 rfl) ?_
  refine va_get (D := g.1) (ci := 4) (v := .ref (q 1)) (C := RX4) (T := TX4) (N := 7) hx hb hts iX4 hown hK hP 0 rfl rfl 0 (by decide) (zz_mem hts 1 rfl) (fun _ h9 => h9) rfl dX4_heights_1 ?_
  refine lv_iload_n hx hb dX4_heights_4 rfl (lv_at hl 1 rfl) ?_
  obtain ⟨r1, hc1, hf⟩ := zz_bs hf
  refine zz_cVz C hP hD hS (kX3_has l g q _ 0 (by decide) u p0 r1 hc1) gX4_heights_X3_has mX3_has (by decide) ⟨Nat.zero_le _, Nat.zero_le _⟩ 1 rfl rfl rfl rfl (rest := []) rfl hl.1 (Nat.le_of_ble_eq_true rfl) dX4_heights_5 (fun hz1 H locs hP hD hS => ?_)
  refine lv_if_ne (tgt := 13) hx hb dX4_heights_8 (by decide) (fun c2 => ?_) (fun c2 => ?_)
  · have hf := zz_f c2 hf
    refine lv_aload_n hx hb dX4_heights_13 rfl (lv_at hl 0 rfl) ?_
    refine va_get (D := g.1) (ci := 4) (v := .ref (q 5)) (C := RX4) (T := TX4) (N := 7) hx hb hts iX4 hown hK hP 0 rfl rfl 1 (by decide) (zz_mem hts 2 rfl) (fun _ h9 => h9) rfl dX4_heights_14 ?_
    refine lv_aload_n hx hb dX4_heights_17 rfl (lv_at hl 0 rfl) ?_
    refine va_get (D := g.1) (ci := 4) (v := .ref (q 1)) (C := RX4) (T := TX4) (N := 7) hx hb hts iX4 hown hK hP 0 rfl rfl 0 (by decide) (zz_mem hts 1 rfl) (fun _ h9 => h9) rfl dX4_heights_18 ?_
    obtain ⟨r3, hc3, hf⟩ := zz_bs hf
    refine zz_cVv C hP hD hS (kX3_becomeLike l g q _ u r3 hc3) gX4_heights_X3_becomeLike mX3_becomeLike (by decide) ⟨Nat.zero_le _, Nat.zero_le _⟩ 5 rfl rfl rfl rfl (rest := []) rfl hl.1 (Nat.le_of_ble_eq_true rfl) dX4_heights_21 (fun H locs hP hD hS => ?_)
    refine lv_iconst (v := (0 : Int32)) hx hb dX4_heights_24 (by decide) ?_
    refine lv_istore_n (lv' := [(2, .int (0 : Int32)), (0, .ref (q 0)), (1, .int p0)]) hx hb dX4_heights_25 rfl hl (by decide) rfl (fun ls hl => ?_)
    refine lv_iconst (v := (0 : Int32)) hx hb dX4_heights_26 (by decide) ?_
    refine lv_istore_n (lv' := [(3, .int (0 : Int32)), (2, .int (0 : Int32)), (0, .ref (q 0)), (1, .int p0)]) hx hb dX4_heights_27 rfl hl (by decide) rfl (fun ls hl => ?_)
    exact wX4_heights_28 l g q p0 x C ret  _ _ hf _ _ _ hP hD hS (lv_sub hl [2, 3, 1, 0] rfl)
  · have hf := zz_t c2 hf
    refine lv_iconst (v := (-1 : Int32)) hx hb dX4_heights_11 (by decide) ?_
    exact ret _ _ _ _ ((-1 : Int32), u) hf dX4_heights_12 hP hD hS
abbrev rX4_kinds : Room := ({ frames := 5, cells := 0, slots := 0, locals := 125 })
theorem mX4_kinds : zzM yX4_kinds wsX4_kinds cX4_kinds 4 (some .int) RX4 1 := ⟨⟨_, rfl⟩, by decide +kernel⟩
def sX4_kinds_28 (p0 : Int32) : (Int32 × Int32 × zzS) → ((Int32 × Int32 × zzS) → Option (Int32 × zzS)) → Option (Int32 × zzS) := fun v4 rec5 => (if (2 : Int32) < v4.2.1 then (some (v4.1, v4.2.2)) else (zzpa 5 p0 ((fX4_areReadingsSoOnTrial (zza v4.2.2 3 p0.toNatClampNeg v4.2.1)).bind (fun r9 => (if r9.1 = 0 then (rec5 (v4.1, (v4.2.1 + (1 : Int32)), r9.2)) else (rec5 ((v4.1 ||| ((1 : Int32) <<< (v4.2.1 &&& 31))), (v4.2.1 + (1 : Int32)), r9.2)))))))
set_option maxHeartbeats 4000000 in
set_option maxRecDepth 100000 in
theorem wX4_kinds_28 (l : Launch) (g : zzG) (q : Nat → Nat) (p0 : Int32) (x : Int32 × zzS) {p : Program} {e : Env} {s : State} {m : MethodId} {below : List Frame} {meth : Method} {c : Code} {A : Nat → Prop} {Q : State → Prop} (C : zzC g p s m ([.ref (q 0), .int p0] : List Value).toArray c cX4_kinds 4 RX4 wsX4_kinds A) (ret : zzRI l g rX4_kinds cX4_kinds [.ref (q 0), .int p0] (fun x : Int32 × zzS => x.1) (fun x : Int32 × zzS => (zzX g q x.2)) x p e s m below meth c A Q)  (n : Nat) (v4 : Int32 × Int32 × zzS) (hf : zzlp (sX4_kinds_28 p0) n v4 = some x) : ∀ (H : Heap) (locs : List Loc) (ls : Array Slot), va_P g.1 vwCl (zzX g q v4.2.2) H → va_D A (zzX g q v4.2.2) → va_S A s.heap H locs → lv_has ls 4 [(0, .ref (q 0)), (1, .int p0), (2, .int (v4.1)), (3, .int (v4.2.1))] → W p l e rX4_kinds s m ([.ref (q 0), .int p0] : List Value).toArray below meth c H locs 0 0 Q (F0 m 28 ls []) := by
  have hx := C.1.1
  have hb := C.1.2.1
  have hml := C.1.2.2.1
  have hown := C.1.2.2.2.1
  have hts := C.1.2.2.2.2
  have hK := C.2.1
  have iX4 : ∀ w ∈ wsX40, w ∈ wsX4_kinds := fun _ h => List.mem_cons_of_mem _ (List.mem_append_left _ (List.mem_append_left _ (List.mem_append_left _ (List.mem_append_right _ h))))
  have iX3 : ∀ w ∈ wsX30, w ∈ wsX4_kinds := fun _ h => List.mem_cons_of_mem _ (List.mem_append_left _ (List.mem_append_left _ (List.mem_append_right _ h)))
  have iX0 : ∀ w ∈ wsX00, w ∈ wsX4_kinds := fun _ h => List.mem_cons_of_mem _ (List.mem_append_left _ (List.mem_append_right _ h))
  have iX1 : ∀ w ∈ wsX10, w ∈ wsX4_kinds := fun _ h => List.mem_cons_of_mem _ (List.mem_append_right _ h)
  refine zz_lp (P := fun (v4 : Int32 × Int32 × zzS) => ∀ (H : Heap) (locs : List Loc) (ls : Array Slot), va_P g.1 vwCl (zzX g q v4.2.2) H → va_D A (zzX g q v4.2.2) → va_S A s.heap H locs → lv_has ls 4 [(0, .ref (q 0)), (1, .int p0), (2, .int (v4.1)), (3, .int (v4.2.1))] → W p l e rX4_kinds s m ([.ref (q 0), .int p0] : List Value).toArray below meth c H locs 0 0 Q (F0 m 28 ls [])) (fun v4 rec5 ih6 hf H locs ls hP hD hS hl => ?_) n v4 hf
  unfold sX4_kinds_28 at hf
  refine lv_iload_n hx hb dX4_kinds_28 rfl (lv_at hl 3 rfl) ?_
  refine lv_iconst (v := (2 : Int32)) hx hb dX4_kinds_29 (by decide) ?_
  refine lv_icmp_gt (tgt := 62) hx hb dX4_kinds_30 (by decide) (fun c7 => ?_) (fun c7 => ?_)
  · have hf := zz_t c7 hf
    refine lv_iload_n hx hb dX4_kinds_62 rfl (lv_at hl 2 rfl) ?_
    exact ret _ _ _ _ (v4.1, v4.2.2) hf dX4_kinds_63 hP hD hS
  · have hf := zz_f c7 hf
    refine lv_aload_n hx hb dX4_kinds_33 rfl (lv_at hl 0 rfl) ?_
    refine va_get (D := g.1) (ci := 4) (v := .ref (q 5)) (C := RX4) (T := TX4) (N := 7) hx hb hts iX4 hown hK hP 0 rfl rfl 1 (by decide) (zz_mem hts 2 rfl) (fun _ h9 => h9) rfl dX4_kinds_34 ?_
    refine va_get (D := g.1) (ci := 3) (v := .ref (q 6)) (C := RX3) (T := TX3) (N := 6) hx hb hts iX3 hown hK hP 5 rfl rfl 0 (by decide) (zz_mem hts 3 rfl) (fun _ h9 => h9) rfl dX4_kinds_37 ?_
    refine lv_iload_n hx hb dX4_kinds_40 rfl (lv_at hl 1 rfl) ?_
    refine lv_iload_n hx hb dX4_kinds_41 rfl (lv_at hl 3 rfl) ?_
    obtain ⟨h8, hf⟩ := zz_pa hf
    refine va_iast hx hb hK hP hD hS 6 0 rfl rfl h8 dX4_kinds_42 (fun H locs hP hD hS => ?_)
    have hP : va_P g.1 vwCl (zzX g q (zza v4.2.2 3 p0.toNatClampNeg v4.2.1)) H := Eq.mp (congrArg (fun w => va_P g.1 vwCl w H) (zxa_6 g q v4.2.2 (upd (v4.2.2.2 3) p0.toNatClampNeg v4.2.1))) hP
    have hD : va_D A (zzX g q (zza v4.2.2 3 p0.toNatClampNeg v4.2.1)) := Eq.mp (congrArg (va_D A) (zxa_6 g q v4.2.2 (upd (v4.2.2.2 3) p0.toNatClampNeg v4.2.1))) hD
    refine lv_aload_n hx hb dX4_kinds_43 rfl (lv_at hl 0 rfl) ?_
    obtain ⟨r9, hc9, hf⟩ := zz_bs hf
    refine zz_cVz C hP hD hS (kX4_areReadingsSoOnTrial l g q _ (zza v4.2.2 3 p0.toNatClampNeg v4.2.1) r9 hc9) gX4_kinds_X4_areReadingsSoOnTrial mX4_areReadingsSoOnTrial (by decide) ⟨Nat.zero_le _, Nat.zero_le _⟩ 0 rfl rfl rfl rfl (rest := []) rfl hl.1 (Nat.le_of_ble_eq_true rfl) dX4_kinds_44 (fun hz9 H locs hP hD hS => ?_)
    refine lv_if_eq (tgt := 56) hx hb dX4_kinds_47 (by decide) (fun c10 => ?_) (fun c10 => ?_)
    · have hf := zz_t c10 hf
      refine lv_iinc (v := (v4.2.1 + (1 : Int32))) (lv' := [(3, .int (v4.2.1 + (1 : Int32))), (0, .ref (q 0)), (1, .int p0), (2, .int (v4.1))]) hx hb dX4_kinds_56 hl (k := 3) rfl rfl (by decide) rfl (fun ls hl => ?_)
      refine lv_goto (tgt := 28) hx hb dX4_kinds_59 (by decide) ?_
      exact ih6 _ hf _ _ _ hP hD hS (lv_sub hl [1, 2, 3, 0] rfl)
    · have hf := zz_f c10 hf
      refine lv_iload_n hx hb dX4_kinds_50 rfl (lv_at hl 2 rfl) ?_
      refine lv_iconst (v := (1 : Int32)) hx hb dX4_kinds_51 (by decide) ?_
      refine lv_iload_n hx hb dX4_kinds_52 rfl (lv_at hl 3 rfl) ?_
      refine lv_ishl hx hb dX4_kinds_53 ?_
      refine lv_ior hx hb dX4_kinds_54 ?_
      refine lv_istore_n (lv' := [(2, .int (v4.1 ||| ((1 : Int32) <<< (v4.2.1 &&& 31)))), (0, .ref (q 0)), (1, .int p0), (3, .int (v4.2.1))]) hx hb dX4_kinds_55 rfl hl (by decide) rfl (fun ls hl => ?_)
      refine lv_iinc (v := (v4.2.1 + (1 : Int32))) (lv' := [(3, .int (v4.2.1 + (1 : Int32))), (2, .int (v4.1 ||| ((1 : Int32) <<< (v4.2.1 &&& 31)))), (0, .ref (q 0)), (1, .int p0)]) hx hb dX4_kinds_56 hl (k := 3) rfl rfl (by decide) rfl (fun ls hl => ?_)
      refine lv_goto (tgt := 28) hx hb dX4_kinds_59 (by decide) ?_
      exact ih6 _ hf _ _ _ hP hD hS (lv_sub hl [2, 3, 1, 0] rfl)
def fX4_kinds (u : zzS) (p0 : Int32) : Option (Int32 × zzS) := ((fX3_has 0 u p0).bind (fun r1 => (if r1 = 0 then (some ((-1 : Int32), u)) else ((fX3_becomeLike u).bind (fun r3 => (zzlp (sX4_kinds_28 p0) zzFU ((0 : Int32), (0 : Int32), r3)))))))
set_option maxHeartbeats 4000000 in
set_option maxRecDepth 100000 in
theorem kX4_kinds (l : Launch) (g : zzG) (q : Nat → Nat) (sz : Nat) (u : zzS) (p0 : Int32) (x : Int32 × zzS) (hf : fX4_kinds u p0 = some x) : zzI l g yX4_kinds wsX4_kinds rX4_kinds [.ref (q 0), .int p0] (zzX g q u) (zzX g q x.2) sz x.1 := by
  refine zz_mi (cc := cX4_kinds) (mL := 4) (own := RX4) (fun x : Int32 × zzS => x.1) (fun x : Int32 × zzS => (zzX g q x.2)) x (by decide) rfl rfl (Nat.le_of_ble_eq_true rfl) ?_
  intro p e s m below meth c A Q ls C ret hP hD hS hl
  have hl : lv_has ls 4 [(0, .ref (q 0)), (1, .int p0)] := hl
  have hx := C.1.1
  have hb := C.1.2.1
  have hml := C.1.2.2.1
  have hown := C.1.2.2.2.1
  have hts := C.1.2.2.2.2
  have hK := C.2.1
  have iX4 : ∀ w ∈ wsX40, w ∈ wsX4_kinds := fun _ h => List.mem_cons_of_mem _ (List.mem_append_left _ (List.mem_append_left _ (List.mem_append_left _ (List.mem_append_right _ h))))
  have iX3 : ∀ w ∈ wsX30, w ∈ wsX4_kinds := fun _ h => List.mem_cons_of_mem _ (List.mem_append_left _ (List.mem_append_left _ (List.mem_append_right _ h)))
  have iX0 : ∀ w ∈ wsX00, w ∈ wsX4_kinds := fun _ h => List.mem_cons_of_mem _ (List.mem_append_left _ (List.mem_append_right _ h))
  have iX1 : ∀ w ∈ wsX10, w ∈ wsX4_kinds := fun _ h => List.mem_cons_of_mem _ (List.mem_append_right _ h)
  unfold fX4_kinds at hf
  refine lv_aload_n hx hb dX4_kinds_0 rfl (lv_at hl 0 rfl) ?_
  refine va_get (D := g.1) (ci := 4) (v := .ref (q 1)) (C := RX4) (T := TX4) (N := 7) hx hb hts iX4 hown hK hP 0 rfl rfl 0 (by decide) (zz_mem hts 1 rfl) (fun _ h9 => h9) rfl dX4_kinds_1 ?_
  refine lv_iload_n hx hb dX4_kinds_4 rfl (lv_at hl 1 rfl) ?_
  obtain ⟨r1, hc1, hf⟩ := zz_bs hf
  refine zz_cVz C hP hD hS (kX3_has l g q _ 0 (by decide) u p0 r1 hc1) gX4_kinds_X3_has mX3_has (by decide) ⟨Nat.zero_le _, Nat.zero_le _⟩ 1 rfl rfl rfl rfl (rest := []) rfl hl.1 (Nat.le_of_ble_eq_true rfl) dX4_kinds_5 (fun hz1 H locs hP hD hS => ?_)
  refine lv_if_ne (tgt := 13) hx hb dX4_kinds_8 (by decide) (fun c2 => ?_) (fun c2 => ?_)
  · have hf := zz_f c2 hf
    refine lv_aload_n hx hb dX4_kinds_13 rfl (lv_at hl 0 rfl) ?_
    refine va_get (D := g.1) (ci := 4) (v := .ref (q 5)) (C := RX4) (T := TX4) (N := 7) hx hb hts iX4 hown hK hP 0 rfl rfl 1 (by decide) (zz_mem hts 2 rfl) (fun _ h9 => h9) rfl dX4_kinds_14 ?_
    refine lv_aload_n hx hb dX4_kinds_17 rfl (lv_at hl 0 rfl) ?_
    refine va_get (D := g.1) (ci := 4) (v := .ref (q 1)) (C := RX4) (T := TX4) (N := 7) hx hb hts iX4 hown hK hP 0 rfl rfl 0 (by decide) (zz_mem hts 1 rfl) (fun _ h9 => h9) rfl dX4_kinds_18 ?_
    obtain ⟨r3, hc3, hf⟩ := zz_bs hf
    refine zz_cVv C hP hD hS (kX3_becomeLike l g q _ u r3 hc3) gX4_kinds_X3_becomeLike mX3_becomeLike (by decide) ⟨Nat.zero_le _, Nat.zero_le _⟩ 5 rfl rfl rfl rfl (rest := []) rfl hl.1 (Nat.le_of_ble_eq_true rfl) dX4_kinds_21 (fun H locs hP hD hS => ?_)
    refine lv_iconst (v := (0 : Int32)) hx hb dX4_kinds_24 (by decide) ?_
    refine lv_istore_n (lv' := [(2, .int (0 : Int32)), (0, .ref (q 0)), (1, .int p0)]) hx hb dX4_kinds_25 rfl hl (by decide) rfl (fun ls hl => ?_)
    refine lv_iconst (v := (0 : Int32)) hx hb dX4_kinds_26 (by decide) ?_
    refine lv_istore_n (lv' := [(3, .int (0 : Int32)), (2, .int (0 : Int32)), (0, .ref (q 0)), (1, .int p0)]) hx hb dX4_kinds_27 rfl hl (by decide) rfl (fun ls hl => ?_)
    exact wX4_kinds_28 l g q p0 x C ret  _ _ hf _ _ _ hP hD hS (lv_sub hl [2, 3, 1, 0] rfl)
  · have hf := zz_t c2 hf
    refine lv_iconst (v := (-1 : Int32)) hx hb dX4_kinds_11 (by decide) ?_
    exact ret _ _ _ _ ((-1 : Int32), u) hf dX4_kinds_12 hP hD hS
abbrev rX4_spans : Room := ({ frames := 5, cells := 0, slots := 0, locals := 125 })
theorem mX4_spans : zzM yX4_spans wsX4_spans cX4_spans 3 (some .int) RX4 0 := ⟨⟨_, rfl⟩, by decide +kernel⟩
def sX4_spans_28  : (Int32 × Int32 × zzS) → ((Int32 × Int32 × zzS) → Option (Int32 × zzS)) → Option (Int32 × zzS) := fun v4 rec5 => (if (9 : Int32) < v4.2.1 then (some (v4.1, v4.2.2)) else ((fX4_areReadingsSoOnTrial (zzi v4.2.2 4 v4.2.1)).bind (fun r8 => (if r8.1 = 0 then (rec5 (v4.1, (v4.2.1 + (1 : Int32)), r8.2)) else (rec5 ((v4.1 ||| ((1 : Int32) <<< (v4.2.1 &&& 31))), (v4.2.1 + (1 : Int32)), r8.2))))))
set_option maxHeartbeats 4000000 in
set_option maxRecDepth 100000 in
theorem wX4_spans_28 (l : Launch) (g : zzG) (q : Nat → Nat)  (x : Int32 × zzS) {p : Program} {e : Env} {s : State} {m : MethodId} {below : List Frame} {meth : Method} {c : Code} {A : Nat → Prop} {Q : State → Prop} (C : zzC g p s m ([.ref (q 0)] : List Value).toArray c cX4_spans 3 RX4 wsX4_spans A) (ret : zzRI l g rX4_spans cX4_spans [.ref (q 0)] (fun x : Int32 × zzS => x.1) (fun x : Int32 × zzS => (zzX g q x.2)) x p e s m below meth c A Q)  (n : Nat) (v4 : Int32 × Int32 × zzS) (hf : zzlp (sX4_spans_28 ) n v4 = some x) : ∀ (H : Heap) (locs : List Loc) (ls : Array Slot), va_P g.1 vwCl (zzX g q v4.2.2) H → va_D A (zzX g q v4.2.2) → va_S A s.heap H locs → lv_has ls 3 [(0, .ref (q 0)), (1, .int (v4.1)), (2, .int (v4.2.1))] → W p l e rX4_spans s m ([.ref (q 0)] : List Value).toArray below meth c H locs 0 0 Q (F0 m 28 ls []) := by
  have hx := C.1.1
  have hb := C.1.2.1
  have hml := C.1.2.2.1
  have hown := C.1.2.2.2.1
  have hts := C.1.2.2.2.2
  have hK := C.2.1
  have iX4 : ∀ w ∈ wsX40, w ∈ wsX4_spans := fun _ h => List.mem_cons_of_mem _ (List.mem_append_left _ (List.mem_append_left _ (List.mem_append_left _ (List.mem_append_right _ h))))
  have iX3 : ∀ w ∈ wsX30, w ∈ wsX4_spans := fun _ h => List.mem_cons_of_mem _ (List.mem_append_left _ (List.mem_append_left _ (List.mem_append_right _ h)))
  have iX0 : ∀ w ∈ wsX00, w ∈ wsX4_spans := fun _ h => List.mem_cons_of_mem _ (List.mem_append_left _ (List.mem_append_right _ h))
  have iX1 : ∀ w ∈ wsX10, w ∈ wsX4_spans := fun _ h => List.mem_cons_of_mem _ (List.mem_append_right _ h)
  refine zz_lp (P := fun (v4 : Int32 × Int32 × zzS) => ∀ (H : Heap) (locs : List Loc) (ls : Array Slot), va_P g.1 vwCl (zzX g q v4.2.2) H → va_D A (zzX g q v4.2.2) → va_S A s.heap H locs → lv_has ls 3 [(0, .ref (q 0)), (1, .int (v4.1)), (2, .int (v4.2.1))] → W p l e rX4_spans s m ([.ref (q 0)] : List Value).toArray below meth c H locs 0 0 Q (F0 m 28 ls [])) (fun v4 rec5 ih6 hf H locs ls hP hD hS hl => ?_) n v4 hf
  unfold sX4_spans_28 at hf
  refine lv_iload_n hx hb dX4_spans_28 rfl (lv_at hl 2 rfl) ?_
  refine lv_bipush (v := (9 : Int32)) hx hb dX4_spans_29 (by decide) ?_
  refine lv_icmp_gt (tgt := 61) hx hb dX4_spans_31 (by decide) (fun c7 => ?_) (fun c7 => ?_)
  · have hf := zz_t c7 hf
    refine lv_iload_n hx hb dX4_spans_61 rfl (lv_at hl 1 rfl) ?_
    exact ret _ _ _ _ (v4.1, v4.2.2) hf dX4_spans_62 hP hD hS
  · have hf := zz_f c7 hf
    refine lv_aload_n hx hb dX4_spans_34 rfl (lv_at hl 0 rfl) ?_
    refine va_get (D := g.1) (ci := 4) (v := .ref (q 5)) (C := RX4) (T := TX4) (N := 7) hx hb hts iX4 hown hK hP 0 rfl rfl 1 (by decide) (zz_mem hts 2 rfl) (fun _ h9 => h9) rfl dX4_spans_35 ?_
    refine lv_iload_n hx hb dX4_spans_38 rfl (lv_at hl 2 rfl) ?_
    refine va_put (D := g.1) (ci := 3) (v := .int (v4.2.1)) (ty := .int) (C := RX3) (T := TX3) (N := 6) hx hb hts iX3 tyX3 tyX3_ok nmX3 hown hK hP hD hS 5 rfl rfl 4 (by decide) (zz_mem hts 3 rfl) (fun _ h9 => h9) rfl (tyX3_ok 4 (by decide)) rfl rfl (Nat.le_of_ble_eq_true rfl) dX4_spans_39 (fun H locs hP hD hS => ?_)
    have hP : va_P g.1 vwCl (zzX g q (zzi v4.2.2 4 v4.2.1)) H := Eq.mp (congrArg (fun w => va_P g.1 vwCl w H) (zxo_5_4 g q v4.2.2 v4.2.1)) hP
    have hD : va_D A (zzX g q (zzi v4.2.2 4 v4.2.1)) := Eq.mp (congrArg (va_D A) (zxo_5_4 g q v4.2.2 v4.2.1)) hD
    refine lv_aload_n hx hb dX4_spans_42 rfl (lv_at hl 0 rfl) ?_
    obtain ⟨r8, hc8, hf⟩ := zz_bs hf
    refine zz_cVz C hP hD hS (kX4_areReadingsSoOnTrial l g q _ (zzi v4.2.2 4 v4.2.1) r8 hc8) gX4_spans_X4_areReadingsSoOnTrial mX4_areReadingsSoOnTrial (by decide) ⟨Nat.zero_le _, Nat.zero_le _⟩ 0 rfl rfl rfl rfl (rest := []) rfl hl.1 (Nat.le_of_ble_eq_true rfl) dX4_spans_43 (fun hz8 H locs hP hD hS => ?_)
    refine lv_if_eq (tgt := 55) hx hb dX4_spans_46 (by decide) (fun c9 => ?_) (fun c9 => ?_)
    · have hf := zz_t c9 hf
      refine lv_iinc (v := (v4.2.1 + (1 : Int32))) (lv' := [(2, .int (v4.2.1 + (1 : Int32))), (0, .ref (q 0)), (1, .int (v4.1))]) hx hb dX4_spans_55 hl (k := 2) rfl rfl (by decide) rfl (fun ls hl => ?_)
      refine lv_goto (tgt := 28) hx hb dX4_spans_58 (by decide) ?_
      exact ih6 _ hf _ _ _ hP hD hS (lv_sub hl [1, 2, 0] rfl)
    · have hf := zz_f c9 hf
      refine lv_iload_n hx hb dX4_spans_49 rfl (lv_at hl 1 rfl) ?_
      refine lv_iconst (v := (1 : Int32)) hx hb dX4_spans_50 (by decide) ?_
      refine lv_iload_n hx hb dX4_spans_51 rfl (lv_at hl 2 rfl) ?_
      refine lv_ishl hx hb dX4_spans_52 ?_
      refine lv_ior hx hb dX4_spans_53 ?_
      refine lv_istore_n (lv' := [(1, .int (v4.1 ||| ((1 : Int32) <<< (v4.2.1 &&& 31)))), (0, .ref (q 0)), (2, .int (v4.2.1))]) hx hb dX4_spans_54 rfl hl (by decide) rfl (fun ls hl => ?_)
      refine lv_iinc (v := (v4.2.1 + (1 : Int32))) (lv' := [(2, .int (v4.2.1 + (1 : Int32))), (1, .int (v4.1 ||| ((1 : Int32) <<< (v4.2.1 &&& 31)))), (0, .ref (q 0))]) hx hb dX4_spans_55 hl (k := 2) rfl rfl (by decide) rfl (fun ls hl => ?_)
      refine lv_goto (tgt := 28) hx hb dX4_spans_58 (by decide) ?_
      exact ih6 _ hf _ _ _ hP hD hS (lv_sub hl [2, 1, 0] rfl)
def fX4_spans (u : zzS) : Option (Int32 × zzS) := ((fX3_isLaid 0 u).bind (fun r1 => (if r1 = 0 then (some ((-3 : Int32), u)) else ((fX3_becomeLike u).bind (fun r3 => (zzlp (sX4_spans_28 ) zzFU ((0 : Int32), (1 : Int32), r3)))))))
set_option maxHeartbeats 4000000 in
set_option maxRecDepth 100000 in
theorem kX4_spans (l : Launch) (g : zzG) (q : Nat → Nat) (sz : Nat) (u : zzS)  (x : Int32 × zzS) (hf : fX4_spans u = some x) : zzI l g yX4_spans wsX4_spans rX4_spans [.ref (q 0)] (zzX g q u) (zzX g q x.2) sz x.1 := by
  refine zz_mi (cc := cX4_spans) (mL := 3) (own := RX4) (fun x : Int32 × zzS => x.1) (fun x : Int32 × zzS => (zzX g q x.2)) x (by decide) rfl rfl (Nat.le_of_ble_eq_true rfl) ?_
  intro p e s m below meth c A Q ls C ret hP hD hS hl
  have hl : lv_has ls 3 [(0, .ref (q 0))] := hl
  have hx := C.1.1
  have hb := C.1.2.1
  have hml := C.1.2.2.1
  have hown := C.1.2.2.2.1
  have hts := C.1.2.2.2.2
  have hK := C.2.1
  have iX4 : ∀ w ∈ wsX40, w ∈ wsX4_spans := fun _ h => List.mem_cons_of_mem _ (List.mem_append_left _ (List.mem_append_left _ (List.mem_append_left _ (List.mem_append_right _ h))))
  have iX3 : ∀ w ∈ wsX30, w ∈ wsX4_spans := fun _ h => List.mem_cons_of_mem _ (List.mem_append_left _ (List.mem_append_left _ (List.mem_append_right _ h)))
  have iX0 : ∀ w ∈ wsX00, w ∈ wsX4_spans := fun _ h => List.mem_cons_of_mem _ (List.mem_append_left _ (List.mem_append_right _ h))
  have iX1 : ∀ w ∈ wsX10, w ∈ wsX4_spans := fun _ h => List.mem_cons_of_mem _ (List.mem_append_right _ h)
  unfold fX4_spans at hf
  refine lv_aload_n hx hb dX4_spans_0 rfl (lv_at hl 0 rfl) ?_
  refine va_get (D := g.1) (ci := 4) (v := .ref (q 1)) (C := RX4) (T := TX4) (N := 7) hx hb hts iX4 hown hK hP 0 rfl rfl 0 (by decide) (zz_mem hts 1 rfl) (fun _ h9 => h9) rfl dX4_spans_1 ?_
  obtain ⟨r1, hc1, hf⟩ := zz_bs hf
  refine zz_cVz C hP hD hS (kX3_isLaid l g q _ 0 (by decide) u r1 hc1) gX4_spans_X3_isLaid mX3_isLaid (by decide) ⟨Nat.zero_le _, Nat.zero_le _⟩ 1 rfl rfl rfl rfl (rest := []) rfl hl.1 (Nat.le_of_ble_eq_true rfl) dX4_spans_4 (fun hz1 H locs hP hD hS => ?_)
  refine lv_if_ne (tgt := 13) hx hb dX4_spans_7 (by decide) (fun c2 => ?_) (fun c2 => ?_)
  · have hf := zz_f c2 hf
    refine lv_aload_n hx hb dX4_spans_13 rfl (lv_at hl 0 rfl) ?_
    refine va_get (D := g.1) (ci := 4) (v := .ref (q 5)) (C := RX4) (T := TX4) (N := 7) hx hb hts iX4 hown hK hP 0 rfl rfl 1 (by decide) (zz_mem hts 2 rfl) (fun _ h9 => h9) rfl dX4_spans_14 ?_
    refine lv_aload_n hx hb dX4_spans_17 rfl (lv_at hl 0 rfl) ?_
    refine va_get (D := g.1) (ci := 4) (v := .ref (q 1)) (C := RX4) (T := TX4) (N := 7) hx hb hts iX4 hown hK hP 0 rfl rfl 0 (by decide) (zz_mem hts 1 rfl) (fun _ h9 => h9) rfl dX4_spans_18 ?_
    obtain ⟨r3, hc3, hf⟩ := zz_bs hf
    refine zz_cVv C hP hD hS (kX3_becomeLike l g q _ u r3 hc3) gX4_spans_X3_becomeLike mX3_becomeLike (by decide) ⟨Nat.zero_le _, Nat.zero_le _⟩ 5 rfl rfl rfl rfl (rest := []) rfl hl.1 (Nat.le_of_ble_eq_true rfl) dX4_spans_21 (fun H locs hP hD hS => ?_)
    refine lv_iconst (v := (0 : Int32)) hx hb dX4_spans_24 (by decide) ?_
    refine lv_istore_n (lv' := [(1, .int (0 : Int32)), (0, .ref (q 0))]) hx hb dX4_spans_25 rfl hl (by decide) rfl (fun ls hl => ?_)
    refine lv_iconst (v := (1 : Int32)) hx hb dX4_spans_26 (by decide) ?_
    refine lv_istore_n (lv' := [(2, .int (1 : Int32)), (1, .int (0 : Int32)), (0, .ref (q 0))]) hx hb dX4_spans_27 rfl hl (by decide) rfl (fun ls hl => ?_)
    exact wX4_spans_28 l g q  x C ret  _ _ hf _ _ _ hP hD hS (lv_sub hl [2, 1, 0] rfl)
  · have hf := zz_t c2 hf
    refine lv_bipush (v := (-3 : Int32)) hx hb dX4_spans_10 (by decide) ?_
    exact ret _ _ _ _ ((-3 : Int32), u) hf dX4_spans_12 hP hD hS
abbrev rX4_odds : Room := ({ frames := 4, cells := 0, slots := 0, locals := 104 })
theorem mX4_odds : zzM yX4_odds wsX4_odds cX4_odds 8 (some .long) RX4 3 := ⟨⟨_, rfl⟩, by decide +kernel⟩
def sX4_odds_77 (p0 : Int32) (p1 : Int32) (p2 : Int32) (v6 : Int32 × Int32 × zzS) : (Int32 × Int32 × Int32) → ((Int32 × Int32 × Int32) → Option (Int64 × zzS)) → Option (Int64 × zzS) := fun v10 rec11 => (if (5 : Int32) ≤ v10.2.2 then (if p2 = 0 then (some ((v10.1.toInt64), v6.2.2)) else (some ((v10.2.1.toInt64), v6.2.2))) else (if (v10.2.1 - v10.2.1 / (2 : Int32) * (2 : Int32)) = 0 then (if (v10.1 - v10.1 / (2 : Int32) * (2 : Int32)) = 0 then (rec11 ((v10.1 / (2 : Int32)), (v10.2.1 / (2 : Int32)), (v10.2.2 + (1 : Int32)))) else (if p2 = 0 then (some ((v10.1.toInt64), v6.2.2)) else (some ((v10.2.1.toInt64), v6.2.2)))) else (if p2 = 0 then (some ((v10.1.toInt64), v6.2.2)) else (some ((v10.2.1.toInt64), v6.2.2)))))
set_option maxHeartbeats 4000000 in
set_option maxRecDepth 100000 in
theorem wX4_odds_77 (l : Launch) (g : zzG) (q : Nat → Nat) (p0 : Int32) (p1 : Int32) (p2 : Int32) (v6 : Int32 × Int32 × zzS) (x : Int64 × zzS) {p : Program} {e : Env} {s : State} {m : MethodId} {below : List Frame} {meth : Method} {c : Code} {A : Nat → Prop} {Q : State → Prop} (C : zzC g p s m ([.ref (q 0), .int p0, .int p1, .int p2] : List Value).toArray c cX4_odds 8 RX4 wsX4_odds A) (ret : zzRL l g rX4_odds cX4_odds [.ref (q 0), .int p0, .int p1, .int p2] (fun x : Int64 × zzS => x.1) (fun x : Int64 × zzS => (zzX g q x.2)) x p e s m below meth c A Q)  (n : Nat) (v10 : Int32 × Int32 × Int32) (hf : zzlp (sX4_odds_77 p0 p1 p2 v6) n v10 = some x) : ∀ (H : Heap) (locs : List Loc) (ls : Array Slot), va_P g.1 vwCl (zzX g q v6.2.2) H → va_D A (zzX g q v6.2.2) → va_S A s.heap H locs → lv_has ls 8 [(3, .int p2), (5, .int (v10.1)), (6, .int (v10.2.1)), (7, .int (v10.2.2))] → W p l e rX4_odds s m ([.ref (q 0), .int p0, .int p1, .int p2] : List Value).toArray below meth c H locs 0 0 Q (F0 m 77 ls []) := by
  have hx := C.1.1
  have hb := C.1.2.1
  have hml := C.1.2.2.1
  have hown := C.1.2.2.2.1
  have hts := C.1.2.2.2.2
  have hK := C.2.1
  have iX4 : ∀ w ∈ wsX40, w ∈ wsX4_odds := fun _ h => List.mem_cons_of_mem _ (List.mem_append_left _ (List.mem_append_left _ (List.mem_append_right _ h)))
  have iX3 : ∀ w ∈ wsX30, w ∈ wsX4_odds := fun _ h => List.mem_cons_of_mem _ (List.mem_append_left _ (List.mem_append_right _ h))
  have iX1 : ∀ w ∈ wsX10, w ∈ wsX4_odds := fun _ h => List.mem_cons_of_mem _ (List.mem_append_right _ h)
  refine zz_lp (P := fun (v10 : Int32 × Int32 × Int32) => ∀ (H : Heap) (locs : List Loc) (ls : Array Slot), va_P g.1 vwCl (zzX g q v6.2.2) H → va_D A (zzX g q v6.2.2) → va_S A s.heap H locs → lv_has ls 8 [(3, .int p2), (5, .int (v10.1)), (6, .int (v10.2.1)), (7, .int (v10.2.2))] → W p l e rX4_odds s m ([.ref (q 0), .int p0, .int p1, .int p2] : List Value).toArray below meth c H locs 0 0 Q (F0 m 77 ls [])) (fun v10 rec11 ih12 hf H locs ls hP hD hS hl => ?_) n v10 hf
  unfold sX4_odds_77 at hf
  refine lv_iload hx hb dX4_odds_77 (lv_at hl 3 rfl) ?_
  refine lv_iconst (v := (5 : Int32)) hx hb dX4_odds_79 (by decide) ?_
  refine lv_icmp_ge (tgt := 115) hx hb dX4_odds_80 (by decide) (fun c13 => ?_) (fun c13 => ?_)
  · have hf := zz_t c13 hf
    refine lv_iload_n hx hb dX4_odds_115 rfl (lv_at hl 0 rfl) ?_
    refine lv_if_ne (tgt := 125) hx hb dX4_odds_116 (by decide) (fun c14 => ?_) (fun c14 => ?_)
    · have hf := zz_f c14 hf
      refine lv_iload hx hb dX4_odds_125 (lv_at hl 2 rfl) ?_
      refine lv_i2l hx hb dX4_odds_127 rfl ?_
      exact ret _ _ _ _ ((v10.2.1.toInt64), v6.2.2) hf dX4_odds_128 hP hD hS
    · have hf := zz_t c14 hf
      refine lv_iload hx hb dX4_odds_119 (lv_at hl 1 rfl) ?_
      refine lv_i2l hx hb dX4_odds_121 rfl ?_
      refine lv_goto (tgt := 128) hx hb dX4_odds_122 (by decide) ?_
      exact ret _ _ _ _ ((v10.1.toInt64), v6.2.2) hf dX4_odds_128 hP hD hS
  · have hf := zz_f c13 hf
    refine lv_iload hx hb dX4_odds_83 (lv_at hl 2 rfl) ?_
    refine lv_iconst (v := (2 : Int32)) hx hb dX4_odds_85 (by decide) ?_
    have h15 : ¬ (2 : Int32) = 0 := by decide
    refine lv_irem hx hb dX4_odds_86 h15 ?_
    refine lv_if_ne (tgt := 115) hx hb dX4_odds_87 (by decide) (fun c16 => ?_) (fun c16 => ?_)
    · have hf := zz_f c16 hf
      refine lv_iload_n hx hb dX4_odds_115 rfl (lv_at hl 0 rfl) ?_
      refine lv_if_ne (tgt := 125) hx hb dX4_odds_116 (by decide) (fun c17 => ?_) (fun c17 => ?_)
      · have hf := zz_f c17 hf
        refine lv_iload hx hb dX4_odds_125 (lv_at hl 2 rfl) ?_
        refine lv_i2l hx hb dX4_odds_127 rfl ?_
        exact ret _ _ _ _ ((v10.2.1.toInt64), v6.2.2) hf dX4_odds_128 hP hD hS
      · have hf := zz_t c17 hf
        refine lv_iload hx hb dX4_odds_119 (lv_at hl 1 rfl) ?_
        refine lv_i2l hx hb dX4_odds_121 rfl ?_
        refine lv_goto (tgt := 128) hx hb dX4_odds_122 (by decide) ?_
        exact ret _ _ _ _ ((v10.1.toInt64), v6.2.2) hf dX4_odds_128 hP hD hS
    · have hf := zz_t c16 hf
      refine lv_iload hx hb dX4_odds_90 (lv_at hl 1 rfl) ?_
      refine lv_iconst (v := (2 : Int32)) hx hb dX4_odds_92 (by decide) ?_
      have h18 : ¬ (2 : Int32) = 0 := by decide
      refine lv_irem hx hb dX4_odds_93 h18 ?_
      refine lv_if_ne (tgt := 115) hx hb dX4_odds_94 (by decide) (fun c19 => ?_) (fun c19 => ?_)
      · have hf := zz_f c19 hf
        refine lv_iload_n hx hb dX4_odds_115 rfl (lv_at hl 0 rfl) ?_
        refine lv_if_ne (tgt := 125) hx hb dX4_odds_116 (by decide) (fun c20 => ?_) (fun c20 => ?_)
        · have hf := zz_f c20 hf
          refine lv_iload hx hb dX4_odds_125 (lv_at hl 2 rfl) ?_
          refine lv_i2l hx hb dX4_odds_127 rfl ?_
          exact ret _ _ _ _ ((v10.2.1.toInt64), v6.2.2) hf dX4_odds_128 hP hD hS
        · have hf := zz_t c20 hf
          refine lv_iload hx hb dX4_odds_119 (lv_at hl 1 rfl) ?_
          refine lv_i2l hx hb dX4_odds_121 rfl ?_
          refine lv_goto (tgt := 128) hx hb dX4_odds_122 (by decide) ?_
          exact ret _ _ _ _ ((v10.1.toInt64), v6.2.2) hf dX4_odds_128 hP hD hS
      · have hf := zz_t c19 hf
        refine lv_iload hx hb dX4_odds_97 (lv_at hl 1 rfl) ?_
        refine lv_iconst (v := (2 : Int32)) hx hb dX4_odds_99 (by decide) ?_
        have h21 : ¬ (2 : Int32) = 0 := by decide
        refine lv_idiv hx hb dX4_odds_100 h21 ?_
        refine lv_istore (lv' := [(5, .int (v10.1 / (2 : Int32))), (3, .int p2), (6, .int (v10.2.1)), (7, .int (v10.2.2))]) hx hb dX4_odds_101 hl (by decide) rfl (fun ls hl => ?_)
        refine lv_iload hx hb dX4_odds_103 (lv_at hl 2 rfl) ?_
        refine lv_iconst (v := (2 : Int32)) hx hb dX4_odds_105 (by decide) ?_
        have h22 : ¬ (2 : Int32) = 0 := by decide
        refine lv_idiv hx hb dX4_odds_106 h22 ?_
        refine lv_istore (lv' := [(6, .int (v10.2.1 / (2 : Int32))), (5, .int (v10.1 / (2 : Int32))), (3, .int p2), (7, .int (v10.2.2))]) hx hb dX4_odds_107 hl (by decide) rfl (fun ls hl => ?_)
        refine lv_iinc (v := (v10.2.2 + (1 : Int32))) (lv' := [(7, .int (v10.2.2 + (1 : Int32))), (6, .int (v10.2.1 / (2 : Int32))), (5, .int (v10.1 / (2 : Int32))), (3, .int p2)]) hx hb dX4_odds_109 hl (k := 3) rfl rfl (by decide) rfl (fun ls hl => ?_)
        refine lv_goto (tgt := 77) hx hb dX4_odds_112 (by decide) ?_
        exact ih12 _ hf _ _ _ hP hD hS (lv_sub hl [3, 2, 1, 0] rfl)
def sX4_odds_37 (p0 : Int32) (p1 : Int32) (p2 : Int32) (r5 : Int32) : (Int32 × Int32 × zzS) → ((Int32 × Int32 × zzS) → Option (Int64 × zzS)) → Option (Int64 × zzS) := fun v6 rec7 => (if r5 < v6.2.1 then (zzlp (sX4_odds_77 p0 p1 p2 v6) zzFU (v6.1, (r5 + (1 : Int32)), (0 : Int32))) else ((fX4_countedOn 0 v6.2.2 p0 v6.2.1).bind (fun r23 => (if r23.1 = p1 then (rec7 ((v6.1 + (1 : Int32)), (v6.2.1 + (1 : Int32)), r23.2)) else (rec7 (v6.1, (v6.2.1 + (1 : Int32)), r23.2))))))
set_option maxHeartbeats 4000000 in
set_option maxRecDepth 100000 in
theorem wX4_odds_37 (l : Launch) (g : zzG) (q : Nat → Nat) (p0 : Int32) (p1 : Int32) (p2 : Int32) (r5 : Int32) (x : Int64 × zzS) {p : Program} {e : Env} {s : State} {m : MethodId} {below : List Frame} {meth : Method} {c : Code} {A : Nat → Prop} {Q : State → Prop} (C : zzC g p s m ([.ref (q 0), .int p0, .int p1, .int p2] : List Value).toArray c cX4_odds 8 RX4 wsX4_odds A) (ret : zzRL l g rX4_odds cX4_odds [.ref (q 0), .int p0, .int p1, .int p2] (fun x : Int64 × zzS => x.1) (fun x : Int64 × zzS => (zzX g q x.2)) x p e s m below meth c A Q)  (n : Nat) (v6 : Int32 × Int32 × zzS) (hf : zzlp (sX4_odds_37 p0 p1 p2 r5) n v6 = some x) : ∀ (H : Heap) (locs : List Loc) (ls : Array Slot), va_P g.1 vwCl (zzX g q v6.2.2) H → va_D A (zzX g q v6.2.2) → va_S A s.heap H locs → lv_has ls 8 [(0, .ref (q 0)), (1, .int p0), (2, .int p1), (3, .int p2), (4, .int r5), (5, .int (v6.1)), (6, .int (v6.2.1))] → W p l e rX4_odds s m ([.ref (q 0), .int p0, .int p1, .int p2] : List Value).toArray below meth c H locs 0 0 Q (F0 m 37 ls []) := by
  have hx := C.1.1
  have hb := C.1.2.1
  have hml := C.1.2.2.1
  have hown := C.1.2.2.2.1
  have hts := C.1.2.2.2.2
  have hK := C.2.1
  have iX4 : ∀ w ∈ wsX40, w ∈ wsX4_odds := fun _ h => List.mem_cons_of_mem _ (List.mem_append_left _ (List.mem_append_left _ (List.mem_append_right _ h)))
  have iX3 : ∀ w ∈ wsX30, w ∈ wsX4_odds := fun _ h => List.mem_cons_of_mem _ (List.mem_append_left _ (List.mem_append_right _ h))
  have iX1 : ∀ w ∈ wsX10, w ∈ wsX4_odds := fun _ h => List.mem_cons_of_mem _ (List.mem_append_right _ h)
  refine zz_lp (P := fun (v6 : Int32 × Int32 × zzS) => ∀ (H : Heap) (locs : List Loc) (ls : Array Slot), va_P g.1 vwCl (zzX g q v6.2.2) H → va_D A (zzX g q v6.2.2) → va_S A s.heap H locs → lv_has ls 8 [(0, .ref (q 0)), (1, .int p0), (2, .int p1), (3, .int p2), (4, .int r5), (5, .int (v6.1)), (6, .int (v6.2.1))] → W p l e rX4_odds s m ([.ref (q 0), .int p0, .int p1, .int p2] : List Value).toArray below meth c H locs 0 0 Q (F0 m 37 ls [])) (fun v6 rec7 ih8 hf H locs ls hP hD hS hl => ?_) n v6 hf
  unfold sX4_odds_37 at hf
  refine lv_iload hx hb dX4_odds_37 (lv_at hl 6 rfl) ?_
  refine lv_iload hx hb dX4_odds_39 (lv_at hl 4 rfl) ?_
  refine lv_icmp_gt (tgt := 68) hx hb dX4_odds_41 (by decide) (fun c9 => ?_) (fun c9 => ?_)
  · have hf := zz_t c9 hf
    refine lv_iload hx hb dX4_odds_68 (lv_at hl 4 rfl) ?_
    refine lv_iconst (v := (1 : Int32)) hx hb dX4_odds_70 (by decide) ?_
    refine lv_iadd hx hb dX4_odds_71 ?_
    refine lv_istore (lv' := [(6, .int (r5 + (1 : Int32))), (0, .ref (q 0)), (1, .int p0), (2, .int p1), (3, .int p2), (4, .int r5), (5, .int (v6.1))]) hx hb dX4_odds_72 hl (by decide) rfl (fun ls hl => ?_)
    refine lv_iconst (v := (0 : Int32)) hx hb dX4_odds_74 (by decide) ?_
    refine lv_istore (lv' := [(7, .int (0 : Int32)), (6, .int (r5 + (1 : Int32))), (0, .ref (q 0)), (1, .int p0), (2, .int p1), (3, .int p2), (4, .int r5), (5, .int (v6.1))]) hx hb dX4_odds_75 hl (by decide) rfl (fun ls hl => ?_)
    exact wX4_odds_77 l g q p0 p1 p2 v6 x C ret  _ _ hf _ _ _ hP hD hS (lv_sub hl [5, 7, 1, 0] rfl)
  · have hf := zz_f c9 hf
    refine lv_aload_n hx hb dX4_odds_44 rfl (lv_at hl 0 rfl) ?_
    refine lv_aload_n hx hb dX4_odds_45 rfl (lv_at hl 0 rfl) ?_
    refine va_get (D := g.1) (ci := 4) (v := .ref (q 1)) (C := RX4) (T := TX4) (N := 7) hx hb hts iX4 hown hK hP 0 rfl rfl 0 (by decide) (zz_mem hts 2 rfl) (fun _ h9 => h9) rfl dX4_odds_46 ?_
    refine lv_iload_n hx hb dX4_odds_49 rfl (lv_at hl 1 rfl) ?_
    refine lv_iload hx hb dX4_odds_50 (lv_at hl 6 rfl) ?_
    obtain ⟨r23, hc23, hf⟩ := zz_bs hf
    refine zz_cVi C hP hD hS (kX4_countedOn l g q _ 0 (by decide) v6.2.2 p0 v6.2.1 r23 hc23) gX4_odds_X4_countedOn mX4_countedOn (by decide) ⟨Nat.zero_le _, Nat.zero_le _⟩ 0 rfl rfl rfl rfl (rest := []) rfl hl.1 (Nat.le_of_ble_eq_true rfl) dX4_odds_52 (fun H locs hP hD hS => ?_)
    refine lv_iload_n hx hb dX4_odds_55 rfl (lv_at hl 2 rfl) ?_
    refine lv_icmp_ne (tgt := 62) hx hb dX4_odds_56 (by decide) (fun c24 => ?_) (fun c24 => ?_)
    · have hf := zz_f c24 hf
      refine lv_iinc (v := (v6.2.1 + (1 : Int32))) (lv' := [(6, .int (v6.2.1 + (1 : Int32))), (0, .ref (q 0)), (1, .int p0), (2, .int p1), (3, .int p2), (4, .int r5), (5, .int (v6.1))]) hx hb dX4_odds_62 hl (k := 6) rfl rfl (by decide) rfl (fun ls hl => ?_)
      refine lv_goto (tgt := 37) hx hb dX4_odds_65 (by decide) ?_
      exact ih8 _ hf _ _ _ hP hD hS (lv_sub hl [1, 2, 3, 4, 5, 6, 0] rfl)
    · have hf := zz_t c24 hf
      refine lv_iinc (v := (v6.1 + (1 : Int32))) (lv' := [(5, .int (v6.1 + (1 : Int32))), (0, .ref (q 0)), (1, .int p0), (2, .int p1), (3, .int p2), (4, .int r5), (6, .int (v6.2.1))]) hx hb dX4_odds_59 hl (k := 5) rfl rfl (by decide) rfl (fun ls hl => ?_)
      refine lv_iinc (v := (v6.2.1 + (1 : Int32))) (lv' := [(6, .int (v6.2.1 + (1 : Int32))), (5, .int (v6.1 + (1 : Int32))), (0, .ref (q 0)), (1, .int p0), (2, .int p1), (3, .int p2), (4, .int r5)]) hx hb dX4_odds_62 hl (k := 6) rfl rfl (by decide) rfl (fun ls hl => ?_)
      refine lv_goto (tgt := 37) hx hb dX4_odds_65 (by decide) ?_
      exact ih8 _ hf _ _ _ hP hD hS (lv_sub hl [2, 3, 4, 5, 6, 1, 0] rfl)
def fX4_odds (u : zzS) (p0 : Int32) (p1 : Int32) (p2 : Int32) : Option (Int64 × zzS) := ((fX4_refusalOfCount u p0 p1).bind (fun r1 => (if r1 = 0 then (if p2 < 0 then (some (((-9223372036854775808) : Int64), u)) else (if p2 ≤ (1 : Int32) then ((fX3_everyone 0 u).bind (fun r5 => (zzlp (sX4_odds_37 p0 p1 p2 r5) zzFU ((0 : Int32), (0 : Int32), u)))) else (some (((-9223372036854775808) : Int64), u)))) else (some (((-9223372036854775808) : Int64), u)))))
set_option maxHeartbeats 4000000 in
set_option maxRecDepth 100000 in
theorem kX4_odds (l : Launch) (g : zzG) (q : Nat → Nat) (sz : Nat) (u : zzS) (p0 : Int32) (p1 : Int32) (p2 : Int32) (x : Int64 × zzS) (hf : fX4_odds u p0 p1 p2 = some x) : zzL l g yX4_odds wsX4_odds rX4_odds [.ref (q 0), .int p0, .int p1, .int p2] (zzX g q u) (zzX g q x.2) sz x.1 := by
  refine zz_ml (cc := cX4_odds) (mL := 8) (own := RX4) (fun x : Int64 × zzS => x.1) (fun x : Int64 × zzS => (zzX g q x.2)) x (by decide) rfl rfl (Nat.le_of_ble_eq_true rfl) ?_
  intro p e s m below meth c A Q ls C ret hP hD hS hl
  have hl : lv_has ls 8 [(0, .ref (q 0)), (1, .int p0), (2, .int p1), (3, .int p2)] := hl
  have hx := C.1.1
  have hb := C.1.2.1
  have hml := C.1.2.2.1
  have hown := C.1.2.2.2.1
  have hts := C.1.2.2.2.2
  have hK := C.2.1
  have iX4 : ∀ w ∈ wsX40, w ∈ wsX4_odds := fun _ h => List.mem_cons_of_mem _ (List.mem_append_left _ (List.mem_append_left _ (List.mem_append_right _ h)))
  have iX3 : ∀ w ∈ wsX30, w ∈ wsX4_odds := fun _ h => List.mem_cons_of_mem _ (List.mem_append_left _ (List.mem_append_right _ h))
  have iX1 : ∀ w ∈ wsX10, w ∈ wsX4_odds := fun _ h => List.mem_cons_of_mem _ (List.mem_append_right _ h)
  unfold fX4_odds at hf
  refine lv_aload_n hx hb dX4_odds_0 rfl (lv_at hl 0 rfl) ?_
  refine lv_iload_n hx hb dX4_odds_1 rfl (lv_at hl 1 rfl) ?_
  refine lv_iload_n hx hb dX4_odds_2 rfl (lv_at hl 2 rfl) ?_
  obtain ⟨r1, hc1, hf⟩ := zz_bs hf
  refine zz_cVi C hP hD hS (kX4_refusalOfCount l g q _ u p0 p1 r1 hc1) gX4_odds_X4_refusalOfCount mX4_refusalOfCount (by decide) ⟨Nat.zero_le _, Nat.zero_le _⟩ 0 rfl rfl rfl rfl (rest := []) rfl hl.1 (Nat.le_of_ble_eq_true rfl) dX4_odds_3 (fun H locs hP hD hS => ?_)
  refine lv_if_ne (tgt := 18) hx hb dX4_odds_6 (by decide) (fun c2 => ?_) (fun c2 => ?_)
  · have hf := zz_f c2 hf
    refine lv_ldc2 (v := ((-9223372036854775808) : Int64)) hx hb hown (zz_mem hts 1 rfl) dX4_odds_18 ?_
    exact ret _ _ _ _ (((-9223372036854775808) : Int64), u) hf dX4_odds_21 hP hD hS
  · have hf := zz_t c2 hf
    refine lv_iload_n hx hb dX4_odds_9 rfl (lv_at hl 3 rfl) ?_
    refine lv_if_lt (tgt := 18) hx hb dX4_odds_10 (by decide) (fun c3 => ?_) (fun c3 => ?_)
    · have hf := zz_t c3 hf
      refine lv_ldc2 (v := ((-9223372036854775808) : Int64)) hx hb hown (zz_mem hts 1 rfl) dX4_odds_18 ?_
      exact ret _ _ _ _ (((-9223372036854775808) : Int64), u) hf dX4_odds_21 hP hD hS
    · have hf := zz_f c3 hf
      refine lv_iload_n hx hb dX4_odds_13 rfl (lv_at hl 3 rfl) ?_
      refine lv_iconst (v := (1 : Int32)) hx hb dX4_odds_14 (by decide) ?_
      refine lv_icmp_le (tgt := 22) hx hb dX4_odds_15 (by decide) (fun c4 => ?_) (fun c4 => ?_)
      · have hf := zz_t c4 hf
        refine lv_aload_n hx hb dX4_odds_22 rfl (lv_at hl 0 rfl) ?_
        refine va_get (D := g.1) (ci := 4) (v := .ref (q 1)) (C := RX4) (T := TX4) (N := 7) hx hb hts iX4 hown hK hP 0 rfl rfl 0 (by decide) (zz_mem hts 2 rfl) (fun _ h9 => h9) rfl dX4_odds_23 ?_
        obtain ⟨r5, hc5, hf⟩ := zz_bs hf
        refine zz_cVi C hP hD hS (kX3_everyone l g q _ 0 (by decide) u r5 hc5) gX4_odds_X3_everyone mX3_everyone (by decide) ⟨Nat.zero_le _, Nat.zero_le _⟩ 1 rfl rfl rfl rfl (rest := []) rfl hl.1 (Nat.le_of_ble_eq_true rfl) dX4_odds_26 (fun H locs hP hD hS => ?_)
        refine lv_istore (lv' := [(4, .int r5), (0, .ref (q 0)), (1, .int p0), (2, .int p1), (3, .int p2)]) hx hb dX4_odds_29 hl (by decide) rfl (fun ls hl => ?_)
        refine lv_iconst (v := (0 : Int32)) hx hb dX4_odds_31 (by decide) ?_
        refine lv_istore (lv' := [(5, .int (0 : Int32)), (4, .int r5), (0, .ref (q 0)), (1, .int p0), (2, .int p1), (3, .int p2)]) hx hb dX4_odds_32 hl (by decide) rfl (fun ls hl => ?_)
        refine lv_iconst (v := (0 : Int32)) hx hb dX4_odds_34 (by decide) ?_
        refine lv_istore (lv' := [(6, .int (0 : Int32)), (5, .int (0 : Int32)), (4, .int r5), (0, .ref (q 0)), (1, .int p0), (2, .int p1), (3, .int p2)]) hx hb dX4_odds_35 hl (by decide) rfl (fun ls hl => ?_)
        exact wX4_odds_37 l g q p0 p1 p2 r5 x C ret  _ _ hf _ _ _ hP hD hS (lv_sub hl [3, 4, 5, 6, 2, 1, 0] rfl)
      · have hf := zz_f c4 hf
        refine lv_ldc2 (v := ((-9223372036854775808) : Int64)) hx hb hown (zz_mem hts 1 rfl) dX4_odds_18 ?_
        exact ret _ _ _ _ (((-9223372036854775808) : Int64), u) hf dX4_odds_21 hP hD hS
abbrev rX4_sheet : Room := ({ frames := 1, cells := 0, slots := 0, locals := 23 })
theorem mX4_sheet : zzM yX4_sheet wsX4_sheet cX4_sheet 5 (some .int) RX4 3 := ⟨⟨_, rfl⟩, by decide +kernel⟩
def fX4_sheet (u : zzS) (p0 : Int32) (p1 : Int32) (p2 : Int32) : Option (Int32 × zzS) := (zzop (fX4_sheetAt p0) (some ((-1 : Int32), (zzi u 12 (0 : Int32)))) (fun j1 => ((fX4_isLane p1).bind (fun r2 => (if r2 = 0 then (some ((-2 : Int32), (zzi u 12 (0 : Int32)))) else (if p2 ≤ (60 : Int32) then (if (0 : Int32) ≤ p2 then ((fX2_renew j1 (zzi u 12 (0 : Int32)) p1 p2).bind (fun r6 => (some ((1 : Int32), r6)))) else ((fX4_failed (zzi u 12 (0 : Int32)) (4 : Int32)).bind (fun r7 => (some (r7.1, r7.2))))) else (some ((-2 : Int32), (zzi u 12 (0 : Int32))))))))))
set_option maxHeartbeats 4000000 in
set_option maxRecDepth 100000 in
theorem kX4_sheet (l : Launch) (g : zzG) (q : Nat → Nat) (sz : Nat) (u : zzS) (p0 : Int32) (p1 : Int32) (p2 : Int32) (x : Int32 × zzS) (hf : fX4_sheet u p0 p1 p2 = some x) : zzI l g yX4_sheet wsX4_sheet rX4_sheet [.ref (q 0), .int p0, .int p1, .int p2] (zzX g q u) (zzX g q x.2) sz x.1 := by
  refine zz_mi (cc := cX4_sheet) (mL := 5) (own := RX4) (fun x : Int32 × zzS => x.1) (fun x : Int32 × zzS => (zzX g q x.2)) x (by decide) rfl rfl (Nat.le_of_ble_eq_true rfl) ?_
  intro p e s m below meth c A Q ls C ret hP hD hS hl
  have hl : lv_has ls 5 [(0, .ref (q 0)), (1, .int p0), (2, .int p1), (3, .int p2)] := hl
  have hx := C.1.1
  have hb := C.1.2.1
  have hml := C.1.2.2.1
  have hown := C.1.2.2.2.1
  have hts := C.1.2.2.2.2
  have hK := C.2.1
  have iX4 : ∀ w ∈ wsX40, w ∈ wsX4_sheet := fun _ h => List.mem_cons_of_mem _ (List.mem_append_left _ (List.mem_append_right _ h))
  have iX2 : ∀ w ∈ wsX20, w ∈ wsX4_sheet := fun _ h => List.mem_cons_of_mem _ (List.mem_append_right _ h)
  unfold fX4_sheet at hf
  refine lv_aload_n hx hb dX4_sheet_0 rfl (lv_at hl 0 rfl) ?_
  refine lv_iconst (v := (0 : Int32)) hx hb dX4_sheet_1 (by decide) ?_
  refine va_put (D := g.1) (ci := 4) (v := .int (0 : Int32)) (ty := .int) (C := RX4) (T := TX4) (N := 7) hx hb hts iX4 tyX4 tyX4_ok nmX4 hown hK hP hD hS 0 rfl rfl 6 (by decide) (zz_mem hts 1 rfl) (fun _ h9 => h9) rfl (tyX4_ok 6 (by decide)) rfl rfl (Nat.le_of_ble_eq_true rfl) dX4_sheet_2 (fun H locs hP hD hS => ?_)
  have hP : va_P g.1 vwCl (zzX g q (zzi u 12 (0 : Int32))) H := Eq.mp (congrArg (fun w => va_P g.1 vwCl w H) (zxo_0_6 g q u (0 : Int32))) hP
  have hD : va_D A (zzX g q (zzi u 12 (0 : Int32))) := Eq.mp (congrArg (va_D A) (zxo_0_6 g q u (0 : Int32))) hD
  refine lv_aload_n hx hb dX4_sheet_5 rfl (lv_at hl 0 rfl) ?_
  refine lv_iload_n hx hb dX4_sheet_6 rfl (lv_at hl 1 rfl) ?_
  refine zz_sa C hP hD hS (kX4_sheetAt l g q _ (zzi u 12 (0 : Int32)) p0) gX4_sheet_X4_sheetAt mX4_sheetAt (by decide) ⟨Nat.zero_le _, Nat.zero_le _⟩ 0 rfl rfl rfl (rest := []) rfl rfl hl.1 (Nat.le_of_ble_eq_true rfl) dX4_sheet_7 (fun or1 H locs hP hD hS => ?_) (fun j1 or1 hj1 H locs hP hD hS => ?_)
  · have hf := zz_on or1 hf
    refine lv_astoreN (lv' := [(4, .null), (0, .ref (q 0)), (1, .int p0), (2, .int p1), (3, .int p2)]) hx hb dX4_sheet_10 hl (by decide) rfl (fun ls hl => ?_)
    refine lv_aloadN hx hb dX4_sheet_12 (lv_at hl 0 rfl) ?_
    refine lv_ifnonnullN hx hb dX4_sheet_14 ?_
    refine lv_iconst (v := (-1 : Int32)) hx hb dX4_sheet_17 (by decide) ?_
    exact ret _ _ _ _ ((-1 : Int32), (zzi u 12 (0 : Int32))) hf dX4_sheet_18 hP hD hS
  · have hf := zz_os or1 hf
    refine lv_astore (lv' := [(4, .ref (q (14 + 2 * j1))), (0, .ref (q 0)), (1, .int p0), (2, .int p1), (3, .int p2)]) hx hb dX4_sheet_10 hl (by decide) rfl (fun ls hl => ?_)
    refine lv_aload hx hb dX4_sheet_12 (lv_at hl 0 rfl) ?_
    refine lv_ifnonnull (tgt := 19) hx hb dX4_sheet_14 (by decide) ?_
    refine lv_iload_n hx hb dX4_sheet_19 rfl (lv_at hl 3 rfl) ?_
    obtain ⟨r2, hc2, hf⟩ := zz_bs hf
    refine zz_cSz C hP hD hS (kX4_isLane l g (zzX g q (zzi u 12 (0 : Int32))) _ p1 r2 hc2) gX4_sheet_X4_isLane mX4_isLane (by decide) ⟨Nat.zero_le _, Nat.zero_le _⟩ rfl (rest := []) rfl hl.1 (Nat.le_of_ble_eq_true rfl) dX4_sheet_20 (fun hz2 H locs hP hD hS => ?_)
    refine lv_if_eq (tgt := 32) hx hb dX4_sheet_23 (by decide) (fun c3 => ?_) (fun c3 => ?_)
    · have hf := zz_t c3 hf
      refine lv_bipush (v := (-2 : Int32)) hx hb dX4_sheet_32 (by decide) ?_
      exact ret _ _ _ _ ((-2 : Int32), (zzi u 12 (0 : Int32))) hf dX4_sheet_34 hP hD hS
    · have hf := zz_f c3 hf
      refine lv_iload_n hx hb dX4_sheet_26 rfl (lv_at hl 4 rfl) ?_
      refine lv_bipush (v := (60 : Int32)) hx hb dX4_sheet_27 (by decide) ?_
      refine lv_icmp_le (tgt := 35) hx hb dX4_sheet_29 (by decide) (fun c4 => ?_) (fun c4 => ?_)
      · have hf := zz_t c4 hf
        refine lv_iload_n hx hb dX4_sheet_35 rfl (lv_at hl 4 rfl) ?_
        refine lv_if_ge (tgt := 45) hx hb dX4_sheet_36 (by decide) (fun c5 => ?_) (fun c5 => ?_)
        · have hf := zz_t c5 hf
          refine lv_aload hx hb dX4_sheet_45 (lv_at hl 0 rfl) ?_
          refine lv_iload_n hx hb dX4_sheet_47 rfl (lv_at hl 3 rfl) ?_
          refine lv_iload_n hx hb dX4_sheet_48 rfl (lv_at hl 4 rfl) ?_
          obtain ⟨r6, hc6, hf⟩ := zz_bs hf
          refine zz_cVv C hP hD hS (kX2_renew l g q _ j1 hj1 (zzi u 12 (0 : Int32)) p1 p2 r6 hc6) gX4_sheet_X2_renew mX2_renew (by decide) ⟨Nat.zero_le _, Nat.zero_le _⟩ (14 + 2 * j1) (zx_sh g q (zzi u 12 (0 : Int32)) hj1) rfl rfl rfl (rest := []) rfl hl.1 (Nat.le_of_ble_eq_true rfl) dX4_sheet_49 (fun H locs hP hD hS => ?_)
          refine lv_iconst (v := (1 : Int32)) hx hb dX4_sheet_52 (by decide) ?_
          exact ret _ _ _ _ ((1 : Int32), r6) hf dX4_sheet_53 hP hD hS
        · have hf := zz_f c5 hf
          refine lv_aload_n hx hb dX4_sheet_39 rfl (lv_at hl 1 rfl) ?_
          refine lv_iconst (v := (4 : Int32)) hx hb dX4_sheet_40 (by decide) ?_
          obtain ⟨r7, hc7, hf⟩ := zz_bs hf
          refine zz_cVi C hP hD hS (kX4_failed l g q _ (zzi u 12 (0 : Int32)) (4 : Int32) r7 hc7) gX4_sheet_X4_failed mX4_failed (by decide) ⟨Nat.zero_le _, Nat.zero_le _⟩ 0 rfl rfl rfl rfl (rest := []) rfl hl.1 (Nat.le_of_ble_eq_true rfl) dX4_sheet_41 (fun H locs hP hD hS => ?_)
          exact ret _ _ _ _ (r7.1, r7.2) hf dX4_sheet_44 hP hD hS
      · have hf := zz_f c4 hf
        refine lv_bipush (v := (-2 : Int32)) hx hb dX4_sheet_32 (by decide) ?_
        exact ret _ _ _ _ ((-2 : Int32), (zzi u 12 (0 : Int32))) hf dX4_sheet_34 hP hD hS
abbrev rX4_lose : Room := ({ frames := 1, cells := 0, slots := 0, locals := 21 })
theorem mX4_lose : zzM yX4_lose wsX4_lose cX4_lose 4 (some .int) RX4 1 := ⟨⟨_, rfl⟩, by decide +kernel⟩
def fX4_lose (u : zzS) (p0 : Int32) : Option (Int32 × zzS) := (zzop (fX4_sheetAt p0) (some ((-1 : Int32), u)) (fun j1 => ((fX2_empty j1 u).bind (fun r2 => (if (u.1 (13 + 3 * j1)) = 0 then (some ((0 : Int32), r2)) else (some ((1 : Int32), r2)))))))
set_option maxHeartbeats 4000000 in
set_option maxRecDepth 100000 in
theorem kX4_lose (l : Launch) (g : zzG) (q : Nat → Nat) (sz : Nat) (u : zzS) (p0 : Int32) (x : Int32 × zzS) (hf : fX4_lose u p0 = some x) : zzI l g yX4_lose wsX4_lose rX4_lose [.ref (q 0), .int p0] (zzX g q u) (zzX g q x.2) sz x.1 := by
  refine zz_mi (cc := cX4_lose) (mL := 4) (own := RX4) (fun x : Int32 × zzS => x.1) (fun x : Int32 × zzS => (zzX g q x.2)) x (by decide) rfl rfl (Nat.le_of_ble_eq_true rfl) ?_
  intro p e s m below meth c A Q ls C ret hP hD hS hl
  have hl : lv_has ls 4 [(0, .ref (q 0)), (1, .int p0)] := hl
  have hx := C.1.1
  have hb := C.1.2.1
  have hml := C.1.2.2.1
  have hown := C.1.2.2.2.1
  have hts := C.1.2.2.2.2
  have hK := C.2.1
  have iX2 : ∀ w ∈ wsX20, w ∈ wsX4_lose := fun _ h => List.mem_cons_of_mem _ (List.mem_append_left _ (List.mem_append_right _ h))
  have iX4 : ∀ w ∈ wsX40, w ∈ wsX4_lose := fun _ h => List.mem_cons_of_mem _ (List.mem_append_right _ h)
  unfold fX4_lose at hf
  refine lv_aload_n hx hb dX4_lose_0 rfl (lv_at hl 0 rfl) ?_
  refine lv_iload_n hx hb dX4_lose_1 rfl (lv_at hl 1 rfl) ?_
  refine zz_sa C hP hD hS (kX4_sheetAt l g q _ u p0) gX4_lose_X4_sheetAt mX4_sheetAt (by decide) ⟨Nat.zero_le _, Nat.zero_le _⟩ 0 rfl rfl rfl (rest := []) rfl rfl hl.1 (Nat.le_of_ble_eq_true rfl) dX4_lose_2 (fun or1 H locs hP hD hS => ?_) (fun j1 or1 hj1 H locs hP hD hS => ?_)
  · have hf := zz_on or1 hf
    refine lv_astore_nN (lv' := [(2, .null), (0, .ref (q 0)), (1, .int p0)]) hx hb dX4_lose_5 rfl hl (by decide) rfl (fun ls hl => ?_)
    refine lv_aload_nN hx hb dX4_lose_6 rfl (lv_at hl 0 rfl) ?_
    refine lv_ifnonnullN hx hb dX4_lose_7 ?_
    refine lv_iconst (v := (-1 : Int32)) hx hb dX4_lose_10 (by decide) ?_
    exact ret _ _ _ _ ((-1 : Int32), u) hf dX4_lose_11 hP hD hS
  · have hf := zz_os or1 hf
    refine lv_astore_n (lv' := [(2, .ref (q (14 + 2 * j1))), (0, .ref (q 0)), (1, .int p0)]) hx hb dX4_lose_5 rfl hl (by decide) rfl (fun ls hl => ?_)
    refine lv_aload_n hx hb dX4_lose_6 rfl (lv_at hl 0 rfl) ?_
    refine lv_ifnonnull (tgt := 12) hx hb dX4_lose_7 (by decide) ?_
    refine lv_aload_n hx hb dX4_lose_12 rfl (lv_at hl 0 rfl) ?_
    refine va_get (D := g.1) (ci := 2) (v := .int (u.1 (13 + 3 * j1))) (C := RX2) (T := TX2) (N := 4) hx hb hts iX2 hown hK hP (14 + 2 * j1) (zx_sh g q u hj1) rfl 1 (by decide) (zz_mem hts 1 rfl) (fun _ h9 => h9) rfl dX4_lose_13 ?_
    refine lv_istore_n (lv' := [(3, .int (u.1 (13 + 3 * j1))), (2, .ref (q (14 + 2 * j1))), (0, .ref (q 0)), (1, .int p0)]) hx hb dX4_lose_16 rfl hl (by decide) rfl (fun ls hl => ?_)
    refine lv_aload_n hx hb dX4_lose_17 rfl (lv_at hl 1 rfl) ?_
    obtain ⟨r2, hc2, hf⟩ := zz_bs hf
    refine zz_cVv C hP hD hS (kX2_empty l g q _ j1 hj1 u r2 hc2) gX4_lose_X2_empty mX2_empty (by decide) ⟨Nat.zero_le _, Nat.zero_le _⟩ (14 + 2 * j1) (zx_sh g q u hj1) rfl rfl rfl (rest := []) rfl hl.1 (Nat.le_of_ble_eq_true rfl) dX4_lose_18 (fun H locs hP hD hS => ?_)
    refine lv_iload_n hx hb dX4_lose_21 rfl (lv_at hl 0 rfl) ?_
    refine lv_if_eq (tgt := 29) hx hb dX4_lose_22 (by decide) (fun c3 => ?_) (fun c3 => ?_)
    · have hf := zz_t c3 hf
      refine lv_iconst (v := (0 : Int32)) hx hb dX4_lose_29 (by decide) ?_
      exact ret _ _ _ _ ((0 : Int32), r2) hf dX4_lose_30 hP hD hS
    · have hf := zz_f c3 hf
      refine lv_iconst (v := (1 : Int32)) hx hb dX4_lose_25 (by decide) ?_
      refine lv_goto (tgt := 30) hx hb dX4_lose_26 (by decide) ?_
      exact ret _ _ _ _ ((1 : Int32), r2) hf dX4_lose_30 hP hD hS
abbrev rX4_put : Room := ({ frames := 1, cells := 0, slots := 0, locals := 21 })
theorem mX4_put : zzM yX4_put wsX4_put cX4_put 5 (some .int) RX4 3 := ⟨⟨_, rfl⟩, by decide +kernel⟩
def fX4_put (u : zzS) (p0 : Int32) (p1 : Int32) (p2 : Int32) : Option (Int32 × zzS) := (zzop (fX4_sheetAt p0) (some ((-1 : Int32), (zzi u 12 (0 : Int32)))) (fun j1 => (if ((zzi u 12 (0 : Int32)).1 (13 + 3 * j1)) = 0 then ((fX4_failed (zzi u 12 (0 : Int32)) (1 : Int32)).bind (fun r8 => (some (r8.1, r8.2)))) else ((fX2_hasCell j1 (zzi u 12 (0 : Int32)) p1).bind (fun r3 => (if r3 = 0 then ((fX4_failed (zzi u 12 (0 : Int32)) (3 : Int32)).bind (fun r7 => (some (r7.1, r7.2)))) else ((fX2_cutToLane j1 (zzi u 12 (0 : Int32)) p2).bind (fun r5 => (zzpa 60 p1 (some ((1 : Int32), (zza (zzi u 12 (0 : Int32)) (8 + j1) p1.toNatClampNeg r5))))))))))))
set_option maxHeartbeats 4000000 in
set_option maxRecDepth 100000 in
theorem kX4_put (l : Launch) (g : zzG) (q : Nat → Nat) (sz : Nat) (u : zzS) (p0 : Int32) (p1 : Int32) (p2 : Int32) (x : Int32 × zzS) (hf : fX4_put u p0 p1 p2 = some x) : zzI l g yX4_put wsX4_put rX4_put [.ref (q 0), .int p0, .int p1, .int p2] (zzX g q u) (zzX g q x.2) sz x.1 := by
  refine zz_mi (cc := cX4_put) (mL := 5) (own := RX4) (fun x : Int32 × zzS => x.1) (fun x : Int32 × zzS => (zzX g q x.2)) x (by decide) rfl rfl (Nat.le_of_ble_eq_true rfl) ?_
  intro p e s m below meth c A Q ls C ret hP hD hS hl
  have hl : lv_has ls 5 [(0, .ref (q 0)), (1, .int p0), (2, .int p1), (3, .int p2)] := hl
  have hx := C.1.1
  have hb := C.1.2.1
  have hml := C.1.2.2.1
  have hown := C.1.2.2.2.1
  have hts := C.1.2.2.2.2
  have hK := C.2.1
  have iX4 : ∀ w ∈ wsX40, w ∈ wsX4_put := fun _ h => List.mem_cons_of_mem _ (List.mem_append_left _ (List.mem_append_right _ h))
  have iX2 : ∀ w ∈ wsX20, w ∈ wsX4_put := fun _ h => List.mem_cons_of_mem _ (List.mem_append_right _ h)
  unfold fX4_put at hf
  refine lv_aload_n hx hb dX4_put_0 rfl (lv_at hl 0 rfl) ?_
  refine lv_iconst (v := (0 : Int32)) hx hb dX4_put_1 (by decide) ?_
  refine va_put (D := g.1) (ci := 4) (v := .int (0 : Int32)) (ty := .int) (C := RX4) (T := TX4) (N := 7) hx hb hts iX4 tyX4 tyX4_ok nmX4 hown hK hP hD hS 0 rfl rfl 6 (by decide) (zz_mem hts 1 rfl) (fun _ h9 => h9) rfl (tyX4_ok 6 (by decide)) rfl rfl (Nat.le_of_ble_eq_true rfl) dX4_put_2 (fun H locs hP hD hS => ?_)
  have hP : va_P g.1 vwCl (zzX g q (zzi u 12 (0 : Int32))) H := Eq.mp (congrArg (fun w => va_P g.1 vwCl w H) (zxo_0_6 g q u (0 : Int32))) hP
  have hD : va_D A (zzX g q (zzi u 12 (0 : Int32))) := Eq.mp (congrArg (va_D A) (zxo_0_6 g q u (0 : Int32))) hD
  refine lv_aload_n hx hb dX4_put_5 rfl (lv_at hl 0 rfl) ?_
  refine lv_iload_n hx hb dX4_put_6 rfl (lv_at hl 1 rfl) ?_
  refine zz_sa C hP hD hS (kX4_sheetAt l g q _ (zzi u 12 (0 : Int32)) p0) gX4_put_X4_sheetAt mX4_sheetAt (by decide) ⟨Nat.zero_le _, Nat.zero_le _⟩ 0 rfl rfl rfl (rest := []) rfl rfl hl.1 (Nat.le_of_ble_eq_true rfl) dX4_put_7 (fun or1 H locs hP hD hS => ?_) (fun j1 or1 hj1 H locs hP hD hS => ?_)
  · have hf := zz_on or1 hf
    refine lv_astoreN (lv' := [(4, .null), (0, .ref (q 0)), (1, .int p0), (2, .int p1), (3, .int p2)]) hx hb dX4_put_10 hl (by decide) rfl (fun ls hl => ?_)
    refine lv_aloadN hx hb dX4_put_12 (lv_at hl 0 rfl) ?_
    refine lv_ifnonnullN hx hb dX4_put_14 ?_
    refine lv_iconst (v := (-1 : Int32)) hx hb dX4_put_17 (by decide) ?_
    exact ret _ _ _ _ ((-1 : Int32), (zzi u 12 (0 : Int32))) hf dX4_put_18 hP hD hS
  · have hf := zz_os or1 hf
    refine lv_astore (lv' := [(4, .ref (q (14 + 2 * j1))), (0, .ref (q 0)), (1, .int p0), (2, .int p1), (3, .int p2)]) hx hb dX4_put_10 hl (by decide) rfl (fun ls hl => ?_)
    refine lv_aload hx hb dX4_put_12 (lv_at hl 0 rfl) ?_
    refine lv_ifnonnull (tgt := 19) hx hb dX4_put_14 (by decide) ?_
    refine lv_aload hx hb dX4_put_19 (lv_at hl 0 rfl) ?_
    refine va_get (D := g.1) (ci := 2) (v := .int ((zzi u 12 (0 : Int32)).1 (13 + 3 * j1))) (C := RX2) (T := TX2) (N := 4) hx hb hts iX2 hown hK hP (14 + 2 * j1) (zx_sh g q (zzi u 12 (0 : Int32)) hj1) rfl 1 (by decide) (zz_mem hts 2 rfl) (fun _ h9 => h9) rfl dX4_put_21 ?_
    refine lv_if_ne (tgt := 33) hx hb dX4_put_24 (by decide) (fun c2 => ?_) (fun c2 => ?_)
    · have hf := zz_f c2 hf
      refine lv_aload hx hb dX4_put_33 (lv_at hl 0 rfl) ?_
      refine lv_iload_n hx hb dX4_put_35 rfl (lv_at hl 3 rfl) ?_
      obtain ⟨r3, hc3, hf⟩ := zz_bs hf
      refine zz_cVz C hP hD hS (kX2_hasCell l g q _ j1 hj1 (zzi u 12 (0 : Int32)) p1 r3 hc3) gX4_put_X2_hasCell mX2_hasCell (by decide) ⟨Nat.zero_le _, Nat.zero_le _⟩ (14 + 2 * j1) (zx_sh g q (zzi u 12 (0 : Int32)) hj1) rfl rfl rfl (rest := []) rfl hl.1 (Nat.le_of_ble_eq_true rfl) dX4_put_36 (fun hz3 H locs hP hD hS => ?_)
      refine lv_if_ne (tgt := 48) hx hb dX4_put_39 (by decide) (fun c4 => ?_) (fun c4 => ?_)
      · have hf := zz_f c4 hf
        refine lv_aload hx hb dX4_put_48 (lv_at hl 0 rfl) ?_
        refine va_get (D := g.1) (ci := 2) (v := .ref (q (15 + 2 * j1))) (C := RX2) (T := TX2) (N := 4) hx hb hts iX2 hown hK hP (14 + 2 * j1) (zx_sh g q (zzi u 12 (0 : Int32)) hj1) rfl 0 (by decide) (zz_mem hts 3 rfl) (fun _ h9 => h9) rfl dX4_put_50 ?_
        refine lv_iload_n hx hb dX4_put_53 rfl (lv_at hl 3 rfl) ?_
        refine lv_aload hx hb dX4_put_54 (lv_at hl 0 rfl) ?_
        refine lv_iload_n hx hb dX4_put_56 rfl (lv_at hl 4 rfl) ?_
        obtain ⟨r5, hc5, hf⟩ := zz_bs hf
        refine zz_cVi C hP hD hS (kX2_cutToLane l g q _ j1 hj1 (zzi u 12 (0 : Int32)) p2 r5 hc5) gX4_put_X2_cutToLane mX2_cutToLane (by decide) ⟨Nat.zero_le _, Nat.zero_le _⟩ (14 + 2 * j1) (zx_sh g q (zzi u 12 (0 : Int32)) hj1) rfl rfl rfl (rest := [.int p1, .ref (q (15 + 2 * j1))]) rfl hl.1 (Nat.le_of_ble_eq_true rfl) dX4_put_57 (fun H locs hP hD hS => ?_)
        obtain ⟨h6, hf⟩ := zz_pa hf
        refine va_iast hx hb hK hP hD hS (15 + 2 * j1) 0 (zx_sha g q (zzi u 12 (0 : Int32)) hj1) rfl h6 dX4_put_60 (fun H locs hP hD hS => ?_)
        have hP : va_P g.1 vwCl (zzX g q (zza (zzi u 12 (0 : Int32)) (8 + j1) p1.toNatClampNeg r5)) H := Eq.mp (congrArg (fun w => va_P g.1 vwCl w H) (zx_shA g q (zzi u 12 (0 : Int32)) hj1 (upd ((zzi u 12 (0 : Int32)).2 (8 + j1)) p1.toNatClampNeg r5))) hP
        have hD : va_D A (zzX g q (zza (zzi u 12 (0 : Int32)) (8 + j1) p1.toNatClampNeg r5)) := Eq.mp (congrArg (va_D A) (zx_shA g q (zzi u 12 (0 : Int32)) hj1 (upd ((zzi u 12 (0 : Int32)).2 (8 + j1)) p1.toNatClampNeg r5))) hD
        refine lv_iconst (v := (1 : Int32)) hx hb dX4_put_61 (by decide) ?_
        exact ret _ _ _ _ ((1 : Int32), (zza (zzi u 12 (0 : Int32)) (8 + j1) p1.toNatClampNeg r5)) hf dX4_put_62 hP hD hS
      · have hf := zz_t c4 hf
        refine lv_aload_n hx hb dX4_put_42 rfl (lv_at hl 1 rfl) ?_
        refine lv_iconst (v := (3 : Int32)) hx hb dX4_put_43 (by decide) ?_
        obtain ⟨r7, hc7, hf⟩ := zz_bs hf
        refine zz_cVi C hP hD hS (kX4_failed l g q _ (zzi u 12 (0 : Int32)) (3 : Int32) r7 hc7) gX4_put_X4_failed mX4_failed (by decide) ⟨Nat.zero_le _, Nat.zero_le _⟩ 0 rfl rfl rfl rfl (rest := []) rfl hl.1 (Nat.le_of_ble_eq_true rfl) dX4_put_44 (fun H locs hP hD hS => ?_)
        exact ret _ _ _ _ (r7.1, r7.2) hf dX4_put_47 hP hD hS
    · have hf := zz_t c2 hf
      refine lv_aload_n hx hb dX4_put_27 rfl (lv_at hl 1 rfl) ?_
      refine lv_iconst (v := (1 : Int32)) hx hb dX4_put_28 (by decide) ?_
      obtain ⟨r8, hc8, hf⟩ := zz_bs hf
      refine zz_cVi C hP hD hS (kX4_failed l g q _ (zzi u 12 (0 : Int32)) (1 : Int32) r8 hc8) gX4_put_X4_failed mX4_failed (by decide) ⟨Nat.zero_le _, Nat.zero_le _⟩ 0 rfl rfl rfl rfl (rest := []) rfl hl.1 (Nat.le_of_ble_eq_true rfl) dX4_put_29 (fun H locs hP hD hS => ?_)
      exact ret _ _ _ _ (r8.1, r8.2) hf dX4_put_32 hP hD hS
abbrev rX4_cell : Room := ({ frames := 2, cells := 0, slots := 0, locals := 42 })
theorem mX4_cell : zzM yX4_cell wsX4_cell cX4_cell 5 (some .long) RX4 3 := ⟨⟨_, rfl⟩, by decide +kernel⟩
def fX4_cell (u : zzS) (p0 : Int32) (p1 : Int32) (p2 : Int32) : Option (Int64 × zzS) := (zzop (fX4_sheetAt p0) (some (((-9223372036854775808) : Int64), (zzi u 12 (0 : Int32)))) (fun j1 => ((fX4_isLane p2).bind (fun r2 => (if r2 = 0 then (some (((-9223372036854775808) : Int64), (zzi u 12 (0 : Int32)))) else ((fX2_faultAs j1 (zzi u 12 (0 : Int32)) p2).bind (fun r4 => (if ((zzi (zzi u 12 (0 : Int32)) 12 r4).1 12) = 0 then ((fX2_hasCell j1 (zzi (zzi u 12 (0 : Int32)) 12 r4) p1).bind (fun r8 => (if r8 = 0 then (if ((zzi (zzi (zzi u 12 (0 : Int32)) 12 r4) 12 (3 : Int32)).1 12) = 0 then ((fX2_at j1 (zzi (zzi (zzi u 12 (0 : Int32)) 12 r4) 12 (3 : Int32)) p1).bind (fun r13 => (some ((r13.toInt64), (zzi (zzi (zzi u 12 (0 : Int32)) 12 r4) 12 (3 : Int32)))))) else (some (((-9223372036854775808) : Int64), (zzi (zzi (zzi u 12 (0 : Int32)) 12 r4) 12 (3 : Int32))))) else (if ((zzi (zzi u 12 (0 : Int32)) 12 r4).1 12) = 0 then ((fX2_at j1 (zzi (zzi u 12 (0 : Int32)) 12 r4) p1).bind (fun r11 => (some ((r11.toInt64), (zzi (zzi u 12 (0 : Int32)) 12 r4))))) else (some (((-9223372036854775808) : Int64), (zzi (zzi u 12 (0 : Int32)) 12 r4))))))) else (if ((zzi (zzi u 12 (0 : Int32)) 12 r4).1 12) = 0 then ((fX2_at j1 (zzi (zzi u 12 (0 : Int32)) 12 r4) p1).bind (fun r7 => (some ((r7.toInt64), (zzi (zzi u 12 (0 : Int32)) 12 r4))))) else (some (((-9223372036854775808) : Int64), (zzi (zzi u 12 (0 : Int32)) 12 r4))))))))))))
set_option maxHeartbeats 4000000 in
set_option maxRecDepth 100000 in
theorem kX4_cell (l : Launch) (g : zzG) (q : Nat → Nat) (sz : Nat) (u : zzS) (p0 : Int32) (p1 : Int32) (p2 : Int32) (x : Int64 × zzS) (hf : fX4_cell u p0 p1 p2 = some x) : zzL l g yX4_cell wsX4_cell rX4_cell [.ref (q 0), .int p0, .int p1, .int p2] (zzX g q u) (zzX g q x.2) sz x.1 := by
  refine zz_ml (cc := cX4_cell) (mL := 5) (own := RX4) (fun x : Int64 × zzS => x.1) (fun x : Int64 × zzS => (zzX g q x.2)) x (by decide) rfl rfl (Nat.le_of_ble_eq_true rfl) ?_
  intro p e s m below meth c A Q ls C ret hP hD hS hl
  have hl : lv_has ls 5 [(0, .ref (q 0)), (1, .int p0), (2, .int p1), (3, .int p2)] := hl
  have hx := C.1.1
  have hb := C.1.2.1
  have hml := C.1.2.2.1
  have hown := C.1.2.2.2.1
  have hts := C.1.2.2.2.2
  have hK := C.2.1
  have iX4 : ∀ w ∈ wsX40, w ∈ wsX4_cell := fun _ h => List.mem_cons_of_mem _ (List.mem_append_left _ (List.mem_append_right _ h))
  have iX2 : ∀ w ∈ wsX20, w ∈ wsX4_cell := fun _ h => List.mem_cons_of_mem _ (List.mem_append_right _ h)
  unfold fX4_cell at hf
  refine lv_aload_n hx hb dX4_cell_0 rfl (lv_at hl 0 rfl) ?_
  refine lv_iconst (v := (0 : Int32)) hx hb dX4_cell_1 (by decide) ?_
  refine va_put (D := g.1) (ci := 4) (v := .int (0 : Int32)) (ty := .int) (C := RX4) (T := TX4) (N := 7) hx hb hts iX4 tyX4 tyX4_ok nmX4 hown hK hP hD hS 0 rfl rfl 6 (by decide) (zz_mem hts 1 rfl) (fun _ h9 => h9) rfl (tyX4_ok 6 (by decide)) rfl rfl (Nat.le_of_ble_eq_true rfl) dX4_cell_2 (fun H locs hP hD hS => ?_)
  have hP : va_P g.1 vwCl (zzX g q (zzi u 12 (0 : Int32))) H := Eq.mp (congrArg (fun w => va_P g.1 vwCl w H) (zxo_0_6 g q u (0 : Int32))) hP
  have hD : va_D A (zzX g q (zzi u 12 (0 : Int32))) := Eq.mp (congrArg (va_D A) (zxo_0_6 g q u (0 : Int32))) hD
  refine lv_aload_n hx hb dX4_cell_5 rfl (lv_at hl 0 rfl) ?_
  refine lv_iload_n hx hb dX4_cell_6 rfl (lv_at hl 1 rfl) ?_
  refine zz_sa C hP hD hS (kX4_sheetAt l g q _ (zzi u 12 (0 : Int32)) p0) gX4_cell_X4_sheetAt mX4_sheetAt (by decide) ⟨Nat.zero_le _, Nat.zero_le _⟩ 0 rfl rfl rfl (rest := []) rfl rfl hl.1 (Nat.le_of_ble_eq_true rfl) dX4_cell_7 (fun or1 H locs hP hD hS => ?_) (fun j1 or1 hj1 H locs hP hD hS => ?_)
  · have hf := zz_on or1 hf
    refine lv_astoreN (lv' := [(4, .null), (0, .ref (q 0)), (1, .int p0), (2, .int p1), (3, .int p2)]) hx hb dX4_cell_10 hl (by decide) rfl (fun ls hl => ?_)
    refine lv_aloadN hx hb dX4_cell_12 (lv_at hl 0 rfl) ?_
    refine lv_ifnullN (tgt := 24) hx hb dX4_cell_14 (by decide) ?_
    refine lv_ldc2 (v := ((-9223372036854775808) : Int64)) hx hb hown (zz_mem hts 2 rfl) dX4_cell_24 ?_
    exact ret _ _ _ _ (((-9223372036854775808) : Int64), (zzi u 12 (0 : Int32))) hf dX4_cell_27 hP hD hS
  · have hf := zz_os or1 hf
    refine lv_astore (lv' := [(4, .ref (q (14 + 2 * j1))), (0, .ref (q 0)), (1, .int p0), (2, .int p1), (3, .int p2)]) hx hb dX4_cell_10 hl (by decide) rfl (fun ls hl => ?_)
    refine lv_aload hx hb dX4_cell_12 (lv_at hl 0 rfl) ?_
    refine lv_ifnull hx hb dX4_cell_14 ?_
    refine lv_iload_n hx hb dX4_cell_17 rfl (lv_at hl 4 rfl) ?_
    obtain ⟨r2, hc2, hf⟩ := zz_bs hf
    refine zz_cSz C hP hD hS (kX4_isLane l g (zzX g q (zzi u 12 (0 : Int32))) _ p2 r2 hc2) gX4_cell_X4_isLane mX4_isLane (by decide) ⟨Nat.zero_le _, Nat.zero_le _⟩ rfl (rest := []) rfl hl.1 (Nat.le_of_ble_eq_true rfl) dX4_cell_18 (fun hz2 H locs hP hD hS => ?_)
    refine lv_if_ne (tgt := 28) hx hb dX4_cell_21 (by decide) (fun c3 => ?_) (fun c3 => ?_)
    · have hf := zz_f c3 hf
      refine lv_aload_n hx hb dX4_cell_28 rfl (lv_at hl 1 rfl) ?_
      refine lv_aload hx hb dX4_cell_29 (lv_at hl 0 rfl) ?_
      refine lv_iload_n hx hb dX4_cell_31 rfl (lv_at hl 4 rfl) ?_
      obtain ⟨r4, hc4, hf⟩ := zz_bs hf
      refine zz_cVi C hP hD hS (kX2_faultAs l g q _ j1 hj1 (zzi u 12 (0 : Int32)) p2 r4 hc4) gX4_cell_X2_faultAs mX2_faultAs (by decide) ⟨Nat.zero_le _, Nat.zero_le _⟩ (14 + 2 * j1) (zx_sh g q (zzi u 12 (0 : Int32)) hj1) rfl rfl rfl (rest := [.ref (q 0)]) rfl hl.1 (Nat.le_of_ble_eq_true rfl) dX4_cell_32 (fun H locs hP hD hS => ?_)
      refine va_put (D := g.1) (ci := 4) (v := .int r4) (ty := .int) (C := RX4) (T := TX4) (N := 7) hx hb hts iX4 tyX4 tyX4_ok nmX4 hown hK hP hD hS 0 rfl rfl 6 (by decide) (zz_mem hts 1 rfl) (fun _ h9 => h9) rfl (tyX4_ok 6 (by decide)) rfl rfl (Nat.le_of_ble_eq_true rfl) dX4_cell_35 (fun H locs hP hD hS => ?_)
      have hP : va_P g.1 vwCl (zzX g q (zzi (zzi u 12 (0 : Int32)) 12 r4)) H := Eq.mp (congrArg (fun w => va_P g.1 vwCl w H) (zxo_0_6 g q (zzi u 12 (0 : Int32)) r4)) hP
      have hD : va_D A (zzX g q (zzi (zzi u 12 (0 : Int32)) 12 r4)) := Eq.mp (congrArg (va_D A) (zxo_0_6 g q (zzi u 12 (0 : Int32)) r4)) hD
      refine lv_aload_n hx hb dX4_cell_38 rfl (lv_at hl 1 rfl) ?_
      refine va_get (D := g.1) (ci := 4) (v := .int ((zzi (zzi u 12 (0 : Int32)) 12 r4).1 12)) (C := RX4) (T := TX4) (N := 7) hx hb hts iX4 hown hK hP 0 rfl rfl 6 (by decide) (zz_mem hts 1 rfl) (fun _ h9 => h9) rfl dX4_cell_39 ?_
      refine lv_if_ne (tgt := 59) hx hb dX4_cell_42 (by decide) (fun c5 => ?_) (fun c5 => ?_)
      · have hf := zz_f c5 hf
        refine lv_aload_n hx hb dX4_cell_59 rfl (lv_at hl 1 rfl) ?_
        refine va_get (D := g.1) (ci := 4) (v := .int ((zzi (zzi u 12 (0 : Int32)) 12 r4).1 12)) (C := RX4) (T := TX4) (N := 7) hx hb hts iX4 hown hK hP 0 rfl rfl 6 (by decide) (zz_mem hts 1 rfl) (fun _ h9 => h9) rfl dX4_cell_60 ?_
        refine lv_if_ne (tgt := 76) hx hb dX4_cell_63 (by decide) (fun c6 => ?_) (fun c6 => ?_)
        · have hf := zz_f c6 hf
          refine lv_ldc2 (v := ((-9223372036854775808) : Int64)) hx hb hown (zz_mem hts 2 rfl) dX4_cell_76 ?_
          exact ret _ _ _ _ (((-9223372036854775808) : Int64), (zzi (zzi u 12 (0 : Int32)) 12 r4)) hf dX4_cell_79 hP hD hS
        · have hf := zz_t c6 hf
          refine lv_aload hx hb dX4_cell_66 (lv_at hl 0 rfl) ?_
          refine lv_iload_n hx hb dX4_cell_68 rfl (lv_at hl 3 rfl) ?_
          obtain ⟨r7, hc7, hf⟩ := zz_bs hf
          refine zz_cVi C hP hD hS (kX2_at l g q _ j1 hj1 (zzi (zzi u 12 (0 : Int32)) 12 r4) p1 r7 hc7) gX4_cell_X2_at mX2_at (by decide) ⟨Nat.zero_le _, Nat.zero_le _⟩ (14 + 2 * j1) (zx_sh g q (zzi (zzi u 12 (0 : Int32)) 12 r4) hj1) rfl rfl rfl (rest := []) rfl hl.1 (Nat.le_of_ble_eq_true rfl) dX4_cell_69 (fun H locs hP hD hS => ?_)
          refine lv_i2l hx hb dX4_cell_72 rfl ?_
          refine lv_goto (tgt := 79) hx hb dX4_cell_73 (by decide) ?_
          exact ret _ _ _ _ ((r7.toInt64), (zzi (zzi u 12 (0 : Int32)) 12 r4)) hf dX4_cell_79 hP hD hS
      · have hf := zz_t c5 hf
        refine lv_aload hx hb dX4_cell_45 (lv_at hl 0 rfl) ?_
        refine lv_iload_n hx hb dX4_cell_47 rfl (lv_at hl 3 rfl) ?_
        obtain ⟨r8, hc8, hf⟩ := zz_bs hf
        refine zz_cVz C hP hD hS (kX2_hasCell l g q _ j1 hj1 (zzi (zzi u 12 (0 : Int32)) 12 r4) p1 r8 hc8) gX4_cell_X2_hasCell mX2_hasCell (by decide) ⟨Nat.zero_le _, Nat.zero_le _⟩ (14 + 2 * j1) (zx_sh g q (zzi (zzi u 12 (0 : Int32)) 12 r4) hj1) rfl rfl rfl (rest := []) rfl hl.1 (Nat.le_of_ble_eq_true rfl) dX4_cell_48 (fun hz8 H locs hP hD hS => ?_)
        refine lv_if_ne (tgt := 59) hx hb dX4_cell_51 (by decide) (fun c9 => ?_) (fun c9 => ?_)
        · have hf := zz_f c9 hf
          refine lv_aload_n hx hb dX4_cell_59 rfl (lv_at hl 1 rfl) ?_
          refine va_get (D := g.1) (ci := 4) (v := .int ((zzi (zzi u 12 (0 : Int32)) 12 r4).1 12)) (C := RX4) (T := TX4) (N := 7) hx hb hts iX4 hown hK hP 0 rfl rfl 6 (by decide) (zz_mem hts 1 rfl) (fun _ h9 => h9) rfl dX4_cell_60 ?_
          refine lv_if_ne (tgt := 76) hx hb dX4_cell_63 (by decide) (fun c10 => ?_) (fun c10 => ?_)
          · have hf := zz_f c10 hf
            refine lv_ldc2 (v := ((-9223372036854775808) : Int64)) hx hb hown (zz_mem hts 2 rfl) dX4_cell_76 ?_
            exact ret _ _ _ _ (((-9223372036854775808) : Int64), (zzi (zzi u 12 (0 : Int32)) 12 r4)) hf dX4_cell_79 hP hD hS
          · have hf := zz_t c10 hf
            refine lv_aload hx hb dX4_cell_66 (lv_at hl 0 rfl) ?_
            refine lv_iload_n hx hb dX4_cell_68 rfl (lv_at hl 3 rfl) ?_
            obtain ⟨r11, hc11, hf⟩ := zz_bs hf
            refine zz_cVi C hP hD hS (kX2_at l g q _ j1 hj1 (zzi (zzi u 12 (0 : Int32)) 12 r4) p1 r11 hc11) gX4_cell_X2_at mX2_at (by decide) ⟨Nat.zero_le _, Nat.zero_le _⟩ (14 + 2 * j1) (zx_sh g q (zzi (zzi u 12 (0 : Int32)) 12 r4) hj1) rfl rfl rfl (rest := []) rfl hl.1 (Nat.le_of_ble_eq_true rfl) dX4_cell_69 (fun H locs hP hD hS => ?_)
            refine lv_i2l hx hb dX4_cell_72 rfl ?_
            refine lv_goto (tgt := 79) hx hb dX4_cell_73 (by decide) ?_
            exact ret _ _ _ _ ((r11.toInt64), (zzi (zzi u 12 (0 : Int32)) 12 r4)) hf dX4_cell_79 hP hD hS
        · have hf := zz_t c9 hf
          refine lv_aload_n hx hb dX4_cell_54 rfl (lv_at hl 1 rfl) ?_
          refine lv_iconst (v := (3 : Int32)) hx hb dX4_cell_55 (by decide) ?_
          refine va_put (D := g.1) (ci := 4) (v := .int (3 : Int32)) (ty := .int) (C := RX4) (T := TX4) (N := 7) hx hb hts iX4 tyX4 tyX4_ok nmX4 hown hK hP hD hS 0 rfl rfl 6 (by decide) (zz_mem hts 1 rfl) (fun _ h9 => h9) rfl (tyX4_ok 6 (by decide)) rfl rfl (Nat.le_of_ble_eq_true rfl) dX4_cell_56 (fun H locs hP hD hS => ?_)
          have hP : va_P g.1 vwCl (zzX g q (zzi (zzi (zzi u 12 (0 : Int32)) 12 r4) 12 (3 : Int32))) H := Eq.mp (congrArg (fun w => va_P g.1 vwCl w H) (zxo_0_6 g q (zzi (zzi u 12 (0 : Int32)) 12 r4) (3 : Int32))) hP
          have hD : va_D A (zzX g q (zzi (zzi (zzi u 12 (0 : Int32)) 12 r4) 12 (3 : Int32))) := Eq.mp (congrArg (va_D A) (zxo_0_6 g q (zzi (zzi u 12 (0 : Int32)) 12 r4) (3 : Int32))) hD
          refine lv_aload_n hx hb dX4_cell_59 rfl (lv_at hl 1 rfl) ?_
          refine va_get (D := g.1) (ci := 4) (v := .int ((zzi (zzi (zzi u 12 (0 : Int32)) 12 r4) 12 (3 : Int32)).1 12)) (C := RX4) (T := TX4) (N := 7) hx hb hts iX4 hown hK hP 0 rfl rfl 6 (by decide) (zz_mem hts 1 rfl) (fun _ h9 => h9) rfl dX4_cell_60 ?_
          refine lv_if_ne (tgt := 76) hx hb dX4_cell_63 (by decide) (fun c12 => ?_) (fun c12 => ?_)
          · have hf := zz_f c12 hf
            refine lv_ldc2 (v := ((-9223372036854775808) : Int64)) hx hb hown (zz_mem hts 2 rfl) dX4_cell_76 ?_
            exact ret _ _ _ _ (((-9223372036854775808) : Int64), (zzi (zzi (zzi u 12 (0 : Int32)) 12 r4) 12 (3 : Int32))) hf dX4_cell_79 hP hD hS
          · have hf := zz_t c12 hf
            refine lv_aload hx hb dX4_cell_66 (lv_at hl 0 rfl) ?_
            refine lv_iload_n hx hb dX4_cell_68 rfl (lv_at hl 3 rfl) ?_
            obtain ⟨r13, hc13, hf⟩ := zz_bs hf
            refine zz_cVi C hP hD hS (kX2_at l g q _ j1 hj1 (zzi (zzi (zzi u 12 (0 : Int32)) 12 r4) 12 (3 : Int32)) p1 r13 hc13) gX4_cell_X2_at mX2_at (by decide) ⟨Nat.zero_le _, Nat.zero_le _⟩ (14 + 2 * j1) (zx_sh g q (zzi (zzi (zzi u 12 (0 : Int32)) 12 r4) 12 (3 : Int32)) hj1) rfl rfl rfl (rest := []) rfl hl.1 (Nat.le_of_ble_eq_true rfl) dX4_cell_69 (fun H locs hP hD hS => ?_)
            refine lv_i2l hx hb dX4_cell_72 rfl ?_
            refine lv_goto (tgt := 79) hx hb dX4_cell_73 (by decide) ?_
            exact ret _ _ _ _ ((r13.toInt64), (zzi (zzi (zzi u 12 (0 : Int32)) 12 r4) 12 (3 : Int32))) hf dX4_cell_79 hP hD hS
    · have hf := zz_t c3 hf
      refine lv_ldc2 (v := ((-9223372036854775808) : Int64)) hx hb hown (zz_mem hts 2 rfl) dX4_cell_24 ?_
      exact ret _ _ _ _ (((-9223372036854775808) : Int64), (zzi u 12 (0 : Int32))) hf dX4_cell_27 hP hD hS
abbrev rX4_copy : Room := ({ frames := 1, cells := 0, slots := 0, locals := 30 })
theorem mX4_copy : zzM yX4_copy wsX4_copy cX4_copy 8 (some .int) RX4 5 := ⟨⟨_, rfl⟩, by decide +kernel⟩
def fX4_copy (u : zzS) (p0 : Int32) (p1 : Int32) (p2 : Int32) (p3 : Int32) (p4 : Int32) : Option (Int32 × zzS) := (zzop (fX4_sheetAt p0) (zzop (fX4_sheetAt p2) (some ((-1 : Int32), (zzi u 12 (0 : Int32)))) (fun j2 => (some ((-1 : Int32), (zzi u 12 (0 : Int32)))))) (fun j1 => (zzop (fX4_sheetAt p2) (some ((-1 : Int32), (zzi u 12 (0 : Int32)))) (fun j3 => (if ((zzi u 12 (0 : Int32)).1 (13 + 3 * j1)) = 0 then ((fX4_failed (zzi u 12 (0 : Int32)) (1 : Int32)).bind (fun r5 => (some (r5.1, r5.2)))) else (if ((zzi u 12 (0 : Int32)).1 (13 + 3 * j3)) = 0 then ((fX4_failed (zzi u 12 (0 : Int32)) (1 : Int32)).bind (fun r16 => (some (r16.1, r16.2)))) else (if ((zzi u 12 (0 : Int32)).1 (14 + 3 * j1)) = ((zzi u 12 (0 : Int32)).1 (14 + 3 * j3)) then ((fX2_holds j1 (zzi u 12 (0 : Int32)) p1 p4).bind (fun r8 => (if r8 = 0 then ((fX4_failed (zzi u 12 (0 : Int32)) (3 : Int32)).bind (fun r10 => (some (r10.1, r10.2)))) else ((fX2_holds j3 (zzi u 12 (0 : Int32)) p3 p4).bind (fun r11 => (if r11 = 0 then ((fX4_failed (zzi u 12 (0 : Int32)) (3 : Int32)).bind (fun r14 => (some (r14.1, r14.2)))) else (zzac p1 p3 p4 (some (p4, (((zzi u 12 (0 : Int32)).1, va_up (zzi u 12 (0 : Int32)).2 (8 + j3) (va_cpy ((zzi u 12 (0 : Int32)).2 (8 + j1)) ((zzi u 12 (0 : Int32)).2 (8 + j3)) p1.toNatClampNeg p3.toNatClampNeg p4.toNatClampNeg)) : zzS)))))))))) else ((fX4_failed (zzi u 12 (0 : Int32)) (2 : Int32)).bind (fun r15 => (some (r15.1, r15.2)))))))))))
set_option maxHeartbeats 4000000 in
set_option maxRecDepth 100000 in
theorem kX4_copy (l : Launch) (g : zzG) (q : Nat → Nat) (sz : Nat) (u : zzS) (p0 : Int32) (p1 : Int32) (p2 : Int32) (p3 : Int32) (p4 : Int32) (x : Int32 × zzS) (hf : fX4_copy u p0 p1 p2 p3 p4 = some x) : zzI l g yX4_copy wsX4_copy rX4_copy [.ref (q 0), .int p0, .int p1, .int p2, .int p3, .int p4] (zzX g q u) (zzX g q x.2) sz x.1 := by
  refine zz_mi (cc := cX4_copy) (mL := 8) (own := RX4) (fun x : Int32 × zzS => x.1) (fun x : Int32 × zzS => (zzX g q x.2)) x (by decide) rfl rfl (Nat.le_of_ble_eq_true rfl) ?_
  intro p e s m below meth c A Q ls C ret hP hD hS hl
  have hl : lv_has ls 8 [(0, .ref (q 0)), (1, .int p0), (2, .int p1), (3, .int p2), (4, .int p3), (5, .int p4)] := hl
  have hx := C.1.1
  have hb := C.1.2.1
  have hml := C.1.2.2.1
  have hown := C.1.2.2.2.1
  have hts := C.1.2.2.2.2
  have hK := C.2.1
  have iX4 : ∀ w ∈ wsX40, w ∈ wsX4_copy := fun _ h => List.mem_cons_of_mem _ (List.mem_append_left _ (List.mem_append_right _ h))
  have iX2 : ∀ w ∈ wsX20, w ∈ wsX4_copy := fun _ h => List.mem_cons_of_mem _ (List.mem_append_right _ h)
  unfold fX4_copy at hf
  refine lv_aload_n hx hb dX4_copy_0 rfl (lv_at hl 0 rfl) ?_
  refine lv_iconst (v := (0 : Int32)) hx hb dX4_copy_1 (by decide) ?_
  refine va_put (D := g.1) (ci := 4) (v := .int (0 : Int32)) (ty := .int) (C := RX4) (T := TX4) (N := 7) hx hb hts iX4 tyX4 tyX4_ok nmX4 hown hK hP hD hS 0 rfl rfl 6 (by decide) (zz_mem hts 1 rfl) (fun _ h9 => h9) rfl (tyX4_ok 6 (by decide)) rfl rfl (Nat.le_of_ble_eq_true rfl) dX4_copy_2 (fun H locs hP hD hS => ?_)
  have hP : va_P g.1 vwCl (zzX g q (zzi u 12 (0 : Int32))) H := Eq.mp (congrArg (fun w => va_P g.1 vwCl w H) (zxo_0_6 g q u (0 : Int32))) hP
  have hD : va_D A (zzX g q (zzi u 12 (0 : Int32))) := Eq.mp (congrArg (va_D A) (zxo_0_6 g q u (0 : Int32))) hD
  refine lv_aload_n hx hb dX4_copy_5 rfl (lv_at hl 0 rfl) ?_
  refine lv_iload_n hx hb dX4_copy_6 rfl (lv_at hl 1 rfl) ?_
  refine zz_sa C hP hD hS (kX4_sheetAt l g q _ (zzi u 12 (0 : Int32)) p0) gX4_copy_X4_sheetAt mX4_sheetAt (by decide) ⟨Nat.zero_le _, Nat.zero_le _⟩ 0 rfl rfl rfl (rest := []) rfl rfl hl.1 (Nat.le_of_ble_eq_true rfl) dX4_copy_7 (fun or1 H locs hP hD hS => ?_) (fun j1 or1 hj1 H locs hP hD hS => ?_)
  · have hf := zz_on or1 hf
    refine lv_astoreN (lv' := [(6, .null), (0, .ref (q 0)), (1, .int p0), (2, .int p1), (3, .int p2), (4, .int p3), (5, .int p4)]) hx hb dX4_copy_10 hl (by decide) rfl (fun ls hl => ?_)
    refine lv_aload_n hx hb dX4_copy_12 rfl (lv_at hl 1 rfl) ?_
    refine lv_iload_n hx hb dX4_copy_13 rfl (lv_at hl 4 rfl) ?_
    refine zz_sa C hP hD hS (kX4_sheetAt l g q _ (zzi u 12 (0 : Int32)) p2) gX4_copy_X4_sheetAt mX4_sheetAt (by decide) ⟨Nat.zero_le _, Nat.zero_le _⟩ 0 rfl rfl rfl (rest := []) rfl rfl hl.1 (Nat.le_of_ble_eq_true rfl) dX4_copy_14 (fun or2 H locs hP hD hS => ?_) (fun j2 or2 hj2 H locs hP hD hS => ?_)
    · have hf := zz_on or2 hf
      refine lv_astoreN (lv' := [(7, .null), (6, .null), (0, .ref (q 0)), (1, .int p0), (2, .int p1), (3, .int p2), (4, .int p3), (5, .int p4)]) hx hb dX4_copy_17 hl (by decide) rfl (fun ls hl => ?_)
      refine lv_aloadN hx hb dX4_copy_19 (lv_at hl 1 rfl) ?_
      refine lv_ifnullN (tgt := 29) hx hb dX4_copy_21 (by decide) ?_
      refine lv_iconst (v := (-1 : Int32)) hx hb dX4_copy_29 (by decide) ?_
      exact ret _ _ _ _ ((-1 : Int32), (zzi u 12 (0 : Int32))) hf dX4_copy_30 hP hD hS
    · have hf := zz_os or2 hf
      refine lv_astore (lv' := [(7, .ref (q (14 + 2 * j2))), (6, .null), (0, .ref (q 0)), (1, .int p0), (2, .int p1), (3, .int p2), (4, .int p3), (5, .int p4)]) hx hb dX4_copy_17 hl (by decide) rfl (fun ls hl => ?_)
      refine lv_aloadN hx hb dX4_copy_19 (lv_at hl 1 rfl) ?_
      refine lv_ifnullN (tgt := 29) hx hb dX4_copy_21 (by decide) ?_
      refine lv_iconst (v := (-1 : Int32)) hx hb dX4_copy_29 (by decide) ?_
      exact ret _ _ _ _ ((-1 : Int32), (zzi u 12 (0 : Int32))) hf dX4_copy_30 hP hD hS
  · have hf := zz_os or1 hf
    refine lv_astore (lv' := [(6, .ref (q (14 + 2 * j1))), (0, .ref (q 0)), (1, .int p0), (2, .int p1), (3, .int p2), (4, .int p3), (5, .int p4)]) hx hb dX4_copy_10 hl (by decide) rfl (fun ls hl => ?_)
    refine lv_aload_n hx hb dX4_copy_12 rfl (lv_at hl 1 rfl) ?_
    refine lv_iload_n hx hb dX4_copy_13 rfl (lv_at hl 4 rfl) ?_
    refine zz_sa C hP hD hS (kX4_sheetAt l g q _ (zzi u 12 (0 : Int32)) p2) gX4_copy_X4_sheetAt mX4_sheetAt (by decide) ⟨Nat.zero_le _, Nat.zero_le _⟩ 0 rfl rfl rfl (rest := []) rfl rfl hl.1 (Nat.le_of_ble_eq_true rfl) dX4_copy_14 (fun or3 H locs hP hD hS => ?_) (fun j3 or3 hj3 H locs hP hD hS => ?_)
    · have hf := zz_on or3 hf
      refine lv_astoreN (lv' := [(7, .null), (6, .ref (q (14 + 2 * j1))), (0, .ref (q 0)), (1, .int p0), (2, .int p1), (3, .int p2), (4, .int p3), (5, .int p4)]) hx hb dX4_copy_17 hl (by decide) rfl (fun ls hl => ?_)
      refine lv_aload hx hb dX4_copy_19 (lv_at hl 1 rfl) ?_
      refine lv_ifnull hx hb dX4_copy_21 ?_
      refine lv_aloadN hx hb dX4_copy_24 (lv_at hl 0 rfl) ?_
      refine lv_ifnonnullN hx hb dX4_copy_26 ?_
      refine lv_iconst (v := (-1 : Int32)) hx hb dX4_copy_29 (by decide) ?_
      exact ret _ _ _ _ ((-1 : Int32), (zzi u 12 (0 : Int32))) hf dX4_copy_30 hP hD hS
    · have hf := zz_os or3 hf
      refine lv_astore (lv' := [(7, .ref (q (14 + 2 * j3))), (6, .ref (q (14 + 2 * j1))), (0, .ref (q 0)), (1, .int p0), (2, .int p1), (3, .int p2), (4, .int p3), (5, .int p4)]) hx hb dX4_copy_17 hl (by decide) rfl (fun ls hl => ?_)
      refine lv_aload hx hb dX4_copy_19 (lv_at hl 1 rfl) ?_
      refine lv_ifnull hx hb dX4_copy_21 ?_
      refine lv_aload hx hb dX4_copy_24 (lv_at hl 0 rfl) ?_
      refine lv_ifnonnull (tgt := 31) hx hb dX4_copy_26 (by decide) ?_
      refine lv_aload hx hb dX4_copy_31 (lv_at hl 1 rfl) ?_
      refine va_get (D := g.1) (ci := 2) (v := .int ((zzi u 12 (0 : Int32)).1 (13 + 3 * j1))) (C := RX2) (T := TX2) (N := 4) hx hb hts iX2 hown hK hP (14 + 2 * j1) (zx_sh g q (zzi u 12 (0 : Int32)) hj1) rfl 1 (by decide) (zz_mem hts 2 rfl) (fun _ h9 => h9) rfl dX4_copy_33 ?_
      refine lv_if_eq (tgt := 47) hx hb dX4_copy_36 (by decide) (fun c4 => ?_) (fun c4 => ?_)
      · have hf := zz_t c4 hf
        refine lv_aload_n hx hb dX4_copy_47 rfl (lv_at hl 2 rfl) ?_
        refine lv_iconst (v := (1 : Int32)) hx hb dX4_copy_48 (by decide) ?_
        obtain ⟨r5, hc5, hf⟩ := zz_bs hf
        refine zz_cVi C hP hD hS (kX4_failed l g q _ (zzi u 12 (0 : Int32)) (1 : Int32) r5 hc5) gX4_copy_X4_failed mX4_failed (by decide) ⟨Nat.zero_le _, Nat.zero_le _⟩ 0 rfl rfl rfl rfl (rest := []) rfl hl.1 (Nat.le_of_ble_eq_true rfl) dX4_copy_49 (fun H locs hP hD hS => ?_)
        exact ret _ _ _ _ (r5.1, r5.2) hf dX4_copy_52 hP hD hS
      · have hf := zz_f c4 hf
        refine lv_aload hx hb dX4_copy_39 (lv_at hl 0 rfl) ?_
        refine va_get (D := g.1) (ci := 2) (v := .int ((zzi u 12 (0 : Int32)).1 (13 + 3 * j3))) (C := RX2) (T := TX2) (N := 4) hx hb hts iX2 hown hK hP (14 + 2 * j3) (zx_sh g q (zzi u 12 (0 : Int32)) hj3) rfl 1 (by decide) (zz_mem hts 2 rfl) (fun _ h9 => h9) rfl dX4_copy_41 ?_
        refine lv_if_ne (tgt := 53) hx hb dX4_copy_44 (by decide) (fun c6 => ?_) (fun c6 => ?_)
        · have hf := zz_f c6 hf
          refine lv_aload hx hb dX4_copy_53 (lv_at hl 1 rfl) ?_
          refine va_get (D := g.1) (ci := 2) (v := .int ((zzi u 12 (0 : Int32)).1 (14 + 3 * j1))) (C := RX2) (T := TX2) (N := 4) hx hb hts iX2 hown hK hP (14 + 2 * j1) (zx_sh g q (zzi u 12 (0 : Int32)) hj1) rfl 2 (by decide) (zz_mem hts 3 rfl) (fun _ h9 => h9) rfl dX4_copy_55 ?_
          refine lv_aload hx hb dX4_copy_58 (lv_at hl 0 rfl) ?_
          refine va_get (D := g.1) (ci := 2) (v := .int ((zzi u 12 (0 : Int32)).1 (14 + 3 * j3))) (C := RX2) (T := TX2) (N := 4) hx hb hts iX2 hown hK hP (14 + 2 * j3) (zx_sh g q (zzi u 12 (0 : Int32)) hj3) rfl 2 (by decide) (zz_mem hts 3 rfl) (fun _ h9 => h9) rfl dX4_copy_60 ?_
          refine lv_icmp_eq (tgt := 72) hx hb dX4_copy_63 (by decide) (fun c7 => ?_) (fun c7 => ?_)
          · have hf := zz_t c7 hf
            refine lv_aload hx hb dX4_copy_72 (lv_at hl 1 rfl) ?_
            refine lv_iload_n hx hb dX4_copy_74 rfl (lv_at hl 4 rfl) ?_
            refine lv_iload hx hb dX4_copy_75 (lv_at hl 7 rfl) ?_
            obtain ⟨r8, hc8, hf⟩ := zz_bs hf
            refine zz_cVz C hP hD hS (kX2_holds l g q _ j1 hj1 (zzi u 12 (0 : Int32)) p1 p4 r8 hc8) gX4_copy_X2_holds mX2_holds (by decide) ⟨Nat.zero_le _, Nat.zero_le _⟩ (14 + 2 * j1) (zx_sh g q (zzi u 12 (0 : Int32)) hj1) rfl rfl rfl (rest := []) rfl hl.1 (Nat.le_of_ble_eq_true rfl) dX4_copy_77 (fun hz8 H locs hP hD hS => ?_)
            refine lv_if_eq (tgt := 95) hx hb dX4_copy_80 (by decide) (fun c9 => ?_) (fun c9 => ?_)
            · have hf := zz_t c9 hf
              refine lv_aload_n hx hb dX4_copy_95 rfl (lv_at hl 2 rfl) ?_
              refine lv_iconst (v := (3 : Int32)) hx hb dX4_copy_96 (by decide) ?_
              obtain ⟨r10, hc10, hf⟩ := zz_bs hf
              refine zz_cVi C hP hD hS (kX4_failed l g q _ (zzi u 12 (0 : Int32)) (3 : Int32) r10 hc10) gX4_copy_X4_failed mX4_failed (by decide) ⟨Nat.zero_le _, Nat.zero_le _⟩ 0 rfl rfl rfl rfl (rest := []) rfl hl.1 (Nat.le_of_ble_eq_true rfl) dX4_copy_97 (fun H locs hP hD hS => ?_)
              exact ret _ _ _ _ (r10.1, r10.2) hf dX4_copy_100 hP hD hS
            · have hf := zz_f c9 hf
              refine lv_aload hx hb dX4_copy_83 (lv_at hl 0 rfl) ?_
              refine lv_iload hx hb dX4_copy_85 (lv_at hl 6 rfl) ?_
              refine lv_iload hx hb dX4_copy_87 (lv_at hl 7 rfl) ?_
              obtain ⟨r11, hc11, hf⟩ := zz_bs hf
              refine zz_cVz C hP hD hS (kX2_holds l g q _ j3 hj3 (zzi u 12 (0 : Int32)) p3 p4 r11 hc11) gX4_copy_X2_holds mX2_holds (by decide) ⟨Nat.zero_le _, Nat.zero_le _⟩ (14 + 2 * j3) (zx_sh g q (zzi u 12 (0 : Int32)) hj3) rfl rfl rfl (rest := []) rfl hl.1 (Nat.le_of_ble_eq_true rfl) dX4_copy_89 (fun hz11 H locs hP hD hS => ?_)
              refine lv_if_ne (tgt := 101) hx hb dX4_copy_92 (by decide) (fun c12 => ?_) (fun c12 => ?_)
              · have hf := zz_f c12 hf
                refine lv_aload hx hb dX4_copy_101 (lv_at hl 1 rfl) ?_
                refine va_get (D := g.1) (ci := 2) (v := .ref (q (15 + 2 * j1))) (C := RX2) (T := TX2) (N := 4) hx hb hts iX2 hown hK hP (14 + 2 * j1) (zx_sh g q (zzi u 12 (0 : Int32)) hj1) rfl 0 (by decide) (zz_mem hts 4 rfl) (fun _ h9 => h9) rfl dX4_copy_103 ?_
                refine lv_iload_n hx hb dX4_copy_106 rfl (lv_at hl 4 rfl) ?_
                refine lv_aload hx hb dX4_copy_107 (lv_at hl 0 rfl) ?_
                refine va_get (D := g.1) (ci := 2) (v := .ref (q (15 + 2 * j3))) (C := RX2) (T := TX2) (N := 4) hx hb hts iX2 hown hK hP (14 + 2 * j3) (zx_sh g q (zzi u 12 (0 : Int32)) hj3) rfl 0 (by decide) (zz_mem hts 4 rfl) (fun _ h9 => h9) rfl dX4_copy_109 ?_
                refine lv_iload hx hb dX4_copy_112 (lv_at hl 6 rfl) ?_
                refine lv_iload hx hb dX4_copy_114 (lv_at hl 7 rfl) ?_
                obtain ⟨h13, hf⟩ := zz_ac hf
                refine va_copyi hx hb (by rw [hml]; exact hl.1.symm) hown (zz_mem hts 5 rfl) (zz_mem hts 6 rfl) (zz_mem hts 7 rfl) (zz_mem hts 8 rfl) hK hP hD hS (15 + 2 * j1) (15 + 2 * j3) 0 0 (zx_sha g q (zzi u 12 (0 : Int32)) hj1) (zx_sha g q (zzi u 12 (0 : Int32)) hj3) rfl rfl rfl h13.1 h13.2.1 h13.2.2.1 h13.2.2.2.1 h13.2.2.2.2 (fun _ _ => rfl) (by decide) (Nat.le_of_ble_eq_true rfl) dX4_copy_116 (fun H locs hP hD hS => ?_)
                have hP : va_P g.1 vwCl (zzX g q (((zzi u 12 (0 : Int32)).1, va_up (zzi u 12 (0 : Int32)).2 (8 + j3) (va_cpy ((zzi u 12 (0 : Int32)).2 (8 + j1)) ((zzi u 12 (0 : Int32)).2 (8 + j3)) p1.toNatClampNeg p3.toNatClampNeg p4.toNatClampNeg)) : zzS)) H := Eq.mp (congrArg (fun w => va_P g.1 vwCl w H) (zx_shA g q (zzi u 12 (0 : Int32)) hj3 (va_cpy ((zzi u 12 (0 : Int32)).2 (8 + j1)) ((zzi u 12 (0 : Int32)).2 (8 + j3)) p1.toNatClampNeg p3.toNatClampNeg p4.toNatClampNeg))) hP
                have hD : va_D A (zzX g q (((zzi u 12 (0 : Int32)).1, va_up (zzi u 12 (0 : Int32)).2 (8 + j3) (va_cpy ((zzi u 12 (0 : Int32)).2 (8 + j1)) ((zzi u 12 (0 : Int32)).2 (8 + j3)) p1.toNatClampNeg p3.toNatClampNeg p4.toNatClampNeg)) : zzS)) := Eq.mp (congrArg (va_D A) (zx_shA g q (zzi u 12 (0 : Int32)) hj3 (va_cpy ((zzi u 12 (0 : Int32)).2 (8 + j1)) ((zzi u 12 (0 : Int32)).2 (8 + j3)) p1.toNatClampNeg p3.toNatClampNeg p4.toNatClampNeg))) hD
                refine lv_iload hx hb dX4_copy_119 (lv_at hl 7 rfl) ?_
                exact ret _ _ _ _ (p4, (((zzi u 12 (0 : Int32)).1, va_up (zzi u 12 (0 : Int32)).2 (8 + j3) (va_cpy ((zzi u 12 (0 : Int32)).2 (8 + j1)) ((zzi u 12 (0 : Int32)).2 (8 + j3)) p1.toNatClampNeg p3.toNatClampNeg p4.toNatClampNeg)) : zzS)) hf dX4_copy_121 hP hD hS
              · have hf := zz_t c12 hf
                refine lv_aload_n hx hb dX4_copy_95 rfl (lv_at hl 2 rfl) ?_
                refine lv_iconst (v := (3 : Int32)) hx hb dX4_copy_96 (by decide) ?_
                obtain ⟨r14, hc14, hf⟩ := zz_bs hf
                refine zz_cVi C hP hD hS (kX4_failed l g q _ (zzi u 12 (0 : Int32)) (3 : Int32) r14 hc14) gX4_copy_X4_failed mX4_failed (by decide) ⟨Nat.zero_le _, Nat.zero_le _⟩ 0 rfl rfl rfl rfl (rest := []) rfl hl.1 (Nat.le_of_ble_eq_true rfl) dX4_copy_97 (fun H locs hP hD hS => ?_)
                exact ret _ _ _ _ (r14.1, r14.2) hf dX4_copy_100 hP hD hS
          · have hf := zz_f c7 hf
            refine lv_aload_n hx hb dX4_copy_66 rfl (lv_at hl 2 rfl) ?_
            refine lv_iconst (v := (2 : Int32)) hx hb dX4_copy_67 (by decide) ?_
            obtain ⟨r15, hc15, hf⟩ := zz_bs hf
            refine zz_cVi C hP hD hS (kX4_failed l g q _ (zzi u 12 (0 : Int32)) (2 : Int32) r15 hc15) gX4_copy_X4_failed mX4_failed (by decide) ⟨Nat.zero_le _, Nat.zero_le _⟩ 0 rfl rfl rfl rfl (rest := []) rfl hl.1 (Nat.le_of_ble_eq_true rfl) dX4_copy_68 (fun H locs hP hD hS => ?_)
            exact ret _ _ _ _ (r15.1, r15.2) hf dX4_copy_71 hP hD hS
        · have hf := zz_t c6 hf
          refine lv_aload_n hx hb dX4_copy_47 rfl (lv_at hl 2 rfl) ?_
          refine lv_iconst (v := (1 : Int32)) hx hb dX4_copy_48 (by decide) ?_
          obtain ⟨r16, hc16, hf⟩ := zz_bs hf
          refine zz_cVi C hP hD hS (kX4_failed l g q _ (zzi u 12 (0 : Int32)) (1 : Int32) r16 hc16) gX4_copy_X4_failed mX4_failed (by decide) ⟨Nat.zero_le _, Nat.zero_le _⟩ 0 rfl rfl rfl rfl (rest := []) rfl hl.1 (Nat.le_of_ble_eq_true rfl) dX4_copy_49 (fun H locs hP hD hS => ?_)
          exact ret _ _ _ _ (r16.1, r16.2) hf dX4_copy_52 hP hD hS
abbrev rX4_leaveInTrace : Room := ({ frames := 0, cells := 0, slots := 0, locals := 0 })
theorem mX4_leaveInTrace : zzM yX4_leaveInTrace wsX4_leaveInTrace cX4_leaveInTrace 2 none RX4 1 := ⟨⟨_, rfl⟩, by decide +kernel⟩
def fX4_leaveInTrace (u : zzS) (p0 : Int32) : Option zzS := (some (zzi u 11 (((31 : Int32) * (u.1 11)) + p0)))
set_option maxHeartbeats 4000000 in
set_option maxRecDepth 100000 in
theorem kX4_leaveInTrace (l : Launch) (g : zzG) (q : Nat → Nat) (sz : Nat) (u : zzS) (p0 : Int32) (x : zzS) (hf : fX4_leaveInTrace u p0 = some x) : zzV l g yX4_leaveInTrace wsX4_leaveInTrace rX4_leaveInTrace [.ref (q 0), .int p0] (zzX g q u) (zzX g q x) sz := by
  refine zz_mv (cc := cX4_leaveInTrace) (mL := 2) (own := RX4) (fun x : zzS => (zzX g q x)) x (by decide) rfl rfl (Nat.le_of_ble_eq_true rfl) ?_
  intro p e s m below meth c A Q ls C ret hP hD hS hl
  have hl : lv_has ls 2 [(0, .ref (q 0)), (1, .int p0)] := hl
  have hx := C.1.1
  have hb := C.1.2.1
  have hml := C.1.2.2.1
  have hown := C.1.2.2.2.1
  have hts := C.1.2.2.2.2
  have hK := C.2.1
  have iX4 : ∀ w ∈ wsX40, w ∈ wsX4_leaveInTrace := fun _ h => List.mem_cons_of_mem _ (List.mem_append_right _ h)
  unfold fX4_leaveInTrace at hf
  refine lv_aload_n hx hb dX4_leaveInTrace_0 rfl (lv_at hl 0 rfl) ?_
  refine lv_bipush (v := (31 : Int32)) hx hb dX4_leaveInTrace_1 (by decide) ?_
  refine lv_aload_n hx hb dX4_leaveInTrace_3 rfl (lv_at hl 0 rfl) ?_
  refine va_get (D := g.1) (ci := 4) (v := .int (u.1 11)) (C := RX4) (T := TX4) (N := 7) hx hb hts iX4 hown hK hP 0 rfl rfl 5 (by decide) (zz_mem hts 1 rfl) (fun _ h9 => h9) rfl dX4_leaveInTrace_4 ?_
  refine lv_imul hx hb dX4_leaveInTrace_7 ?_
  refine lv_iload_n hx hb dX4_leaveInTrace_8 rfl (lv_at hl 1 rfl) ?_
  refine lv_iadd hx hb dX4_leaveInTrace_9 ?_
  refine va_put (D := g.1) (ci := 4) (v := .int (((31 : Int32) * (u.1 11)) + p0)) (ty := .int) (C := RX4) (T := TX4) (N := 7) hx hb hts iX4 tyX4 tyX4_ok nmX4 hown hK hP hD hS 0 rfl rfl 5 (by decide) (zz_mem hts 1 rfl) (fun _ h9 => h9) rfl (tyX4_ok 5 (by decide)) rfl rfl (Nat.le_of_ble_eq_true rfl) dX4_leaveInTrace_10 (fun H locs hP hD hS => ?_)
  have hP : va_P g.1 vwCl (zzX g q (zzi u 11 (((31 : Int32) * (u.1 11)) + p0))) H := Eq.mp (congrArg (fun w => va_P g.1 vwCl w H) (zxo_0_5 g q u (((31 : Int32) * (u.1 11)) + p0))) hP
  have hD : va_D A (zzX g q (zzi u 11 (((31 : Int32) * (u.1 11)) + p0))) := Eq.mp (congrArg (va_D A) (zxo_0_5 g q u (((31 : Int32) * (u.1 11)) + p0))) hD
  exact ret _ _ _ _ (zzi u 11 (((31 : Int32) * (u.1 11)) + p0)) hf dX4_leaveInTrace_13 hP hD hS
abbrev rX4_tellAsStander : Room := ({ frames := 1, cells := 0, slots := 0, locals := 21 })
theorem mX4_tellAsStander : zzM yX4_tellAsStander wsX4_tellAsStander cX4_tellAsStander 2 (some .int) RX4 1 := ⟨⟨_, rfl⟩, by decide +kernel⟩
def fX4_tellAsStander (u : zzS) (p0 : Int32) : Option (Int32 × zzS) := ((fX4_leaveInTrace u (1 : Int32)).bind (fun r1 => ((fX3_has 0 r1 p0).bind (fun r2 => (if r2 = 0 then (some ((0 : Int32), r1)) else (zzga (r1.2 2) 5 p0 (fun x5 => (some (x5, r1)))))))))
set_option maxHeartbeats 4000000 in
set_option maxRecDepth 100000 in
theorem kX4_tellAsStander (l : Launch) (g : zzG) (q : Nat → Nat) (sz : Nat) (u : zzS) (p0 : Int32) (x : Int32 × zzS) (hf : fX4_tellAsStander u p0 = some x) : zzI l g yX4_tellAsStander wsX4_tellAsStander rX4_tellAsStander [.ref (q 0), .int p0] (zzX g q u) (zzX g q x.2) sz x.1 := by
  refine zz_mi (cc := cX4_tellAsStander) (mL := 2) (own := RX4) (fun x : Int32 × zzS => x.1) (fun x : Int32 × zzS => (zzX g q x.2)) x (by decide) rfl rfl (Nat.le_of_ble_eq_true rfl) ?_
  intro p e s m below meth c A Q ls C ret hP hD hS hl
  have hl : lv_has ls 2 [(0, .ref (q 0)), (1, .int p0)] := hl
  have hx := C.1.1
  have hb := C.1.2.1
  have hml := C.1.2.2.1
  have hown := C.1.2.2.2.1
  have hts := C.1.2.2.2.2
  have hK := C.2.1
  have iX4 : ∀ w ∈ wsX40, w ∈ wsX4_tellAsStander := fun _ h => List.mem_cons_of_mem _ (List.mem_append_left _ (List.mem_append_right _ h))
  have iX3 : ∀ w ∈ wsX30, w ∈ wsX4_tellAsStander := fun _ h => List.mem_cons_of_mem _ (List.mem_append_right _ h)
  unfold fX4_tellAsStander at hf
  refine lv_aload_n hx hb dX4_tellAsStander_0 rfl (lv_at hl 0 rfl) ?_
  refine lv_iconst (v := (1 : Int32)) hx hb dX4_tellAsStander_1 (by decide) ?_
  obtain ⟨r1, hc1, hf⟩ := zz_bs hf
  refine zz_cVv C hP hD hS (kX4_leaveInTrace l g q _ u (1 : Int32) r1 hc1) gX4_tellAsStander_X4_leaveInTrace mX4_leaveInTrace (by decide) ⟨Nat.zero_le _, Nat.zero_le _⟩ 0 rfl rfl rfl rfl (rest := []) rfl hl.1 (Nat.le_of_ble_eq_true rfl) dX4_tellAsStander_2 (fun H locs hP hD hS => ?_)
  refine lv_aload_n hx hb dX4_tellAsStander_5 rfl (lv_at hl 0 rfl) ?_
  refine va_get (D := g.1) (ci := 4) (v := .ref (q 1)) (C := RX4) (T := TX4) (N := 7) hx hb hts iX4 hown hK hP 0 rfl rfl 0 (by decide) (zz_mem hts 1 rfl) (fun _ h9 => h9) rfl dX4_tellAsStander_6 ?_
  refine lv_iload_n hx hb dX4_tellAsStander_9 rfl (lv_at hl 1 rfl) ?_
  obtain ⟨r2, hc2, hf⟩ := zz_bs hf
  refine zz_cVz C hP hD hS (kX3_has l g q _ 0 (by decide) r1 p0 r2 hc2) gX4_tellAsStander_X3_has mX3_has (by decide) ⟨Nat.zero_le _, Nat.zero_le _⟩ 1 rfl rfl rfl rfl (rest := []) rfl hl.1 (Nat.le_of_ble_eq_true rfl) dX4_tellAsStander_10 (fun hz2 H locs hP hD hS => ?_)
  refine lv_if_eq (tgt := 28) hx hb dX4_tellAsStander_13 (by decide) (fun c3 => ?_) (fun c3 => ?_)
  · have hf := zz_t c3 hf
    refine lv_iconst (v := (0 : Int32)) hx hb dX4_tellAsStander_28 (by decide) ?_
    exact ret _ _ _ _ ((0 : Int32), r1) hf dX4_tellAsStander_29 hP hD hS
  · have hf := zz_f c3 hf
    refine lv_aload_n hx hb dX4_tellAsStander_16 rfl (lv_at hl 0 rfl) ?_
    refine va_get (D := g.1) (ci := 4) (v := .ref (q 1)) (C := RX4) (T := TX4) (N := 7) hx hb hts iX4 hown hK hP 0 rfl rfl 0 (by decide) (zz_mem hts 1 rfl) (fun _ h9 => h9) rfl dX4_tellAsStander_17 ?_
    refine va_get (D := g.1) (ci := 3) (v := .ref (q 4)) (C := RX3) (T := TX3) (N := 6) hx hb hts iX3 hown hK hP 1 rfl rfl 2 (by decide) (zz_mem hts 2 rfl) (fun _ h9 => h9) rfl dX4_tellAsStander_20 ?_
    refine lv_iload_n hx hb dX4_tellAsStander_23 rfl (lv_at hl 1 rfl) ?_
    obtain ⟨x5, h4, ex5, hf⟩ := zz_gx hf
    refine zz_iald hx hb hK hP 4 0 rfl rfl h4 ex5 dX4_tellAsStander_24 ?_
    refine lv_goto (tgt := 29) hx hb dX4_tellAsStander_25 (by decide) ?_
    exact ret _ _ _ _ (x5, r1) hf dX4_tellAsStander_29 hP hD hS
abbrev rX4_tellAsRider : Room := ({ frames := 2, cells := 0, slots := 0, locals := 42 })
theorem mX4_tellAsRider : zzM yX4_tellAsRider wsX4_tellAsRider cX4_tellAsRider 2 (some .int) RX4 1 := ⟨⟨_, rfl⟩, by decide +kernel⟩
def fX4_tellAsRider (u : zzS) (p0 : Int32) : Option (Int32 × zzS) := ((fX4_leaveInTrace u (2 : Int32)).bind (fun r1 => ((fX4_tellAsStander r1 p0).bind (fun r2 => (some ((r2.1 + (100 : Int32)), r2.2))))))
set_option maxHeartbeats 4000000 in
set_option maxRecDepth 100000 in
theorem kX4_tellAsRider (l : Launch) (g : zzG) (q : Nat → Nat) (sz : Nat) (u : zzS) (p0 : Int32) (x : Int32 × zzS) (hf : fX4_tellAsRider u p0 = some x) : zzI l g yX4_tellAsRider wsX4_tellAsRider rX4_tellAsRider [.ref (q 0), .int p0] (zzX g q u) (zzX g q x.2) sz x.1 := by
  refine zz_mi (cc := cX4_tellAsRider) (mL := 2) (own := RX4) (fun x : Int32 × zzS => x.1) (fun x : Int32 × zzS => (zzX g q x.2)) x (by decide) rfl rfl (Nat.le_of_ble_eq_true rfl) ?_
  intro p e s m below meth c A Q ls C ret hP hD hS hl
  have hl : lv_has ls 2 [(0, .ref (q 0)), (1, .int p0)] := hl
  have hx := C.1.1
  have hb := C.1.2.1
  have hml := C.1.2.2.1
  have hown := C.1.2.2.2.1
  have hts := C.1.2.2.2.2
  have hK := C.2.1
  have iX4 : ∀ w ∈ wsX40, w ∈ wsX4_tellAsRider := fun _ h => List.mem_cons_of_mem _ (List.mem_append_left _ (List.mem_append_right _ h))
  have iX3 : ∀ w ∈ wsX30, w ∈ wsX4_tellAsRider := fun _ h => List.mem_cons_of_mem _ (List.mem_append_right _ h)
  unfold fX4_tellAsRider at hf
  refine lv_aload_n hx hb dX4_tellAsRider_0 rfl (lv_at hl 0 rfl) ?_
  refine lv_iconst (v := (2 : Int32)) hx hb dX4_tellAsRider_1 (by decide) ?_
  obtain ⟨r1, hc1, hf⟩ := zz_bs hf
  refine zz_cVv C hP hD hS (kX4_leaveInTrace l g q _ u (2 : Int32) r1 hc1) gX4_tellAsRider_X4_leaveInTrace mX4_leaveInTrace (by decide) ⟨Nat.zero_le _, Nat.zero_le _⟩ 0 rfl rfl rfl rfl (rest := []) rfl hl.1 (Nat.le_of_ble_eq_true rfl) dX4_tellAsRider_2 (fun H locs hP hD hS => ?_)
  refine lv_aload_n hx hb dX4_tellAsRider_5 rfl (lv_at hl 0 rfl) ?_
  refine lv_iload_n hx hb dX4_tellAsRider_6 rfl (lv_at hl 1 rfl) ?_
  obtain ⟨r2, hc2, hf⟩ := zz_bs hf
  refine zz_cVi C hP hD hS (kX4_tellAsStander l g q _ r1 p0 r2 hc2) gX4_tellAsRider_X4_tellAsStander mX4_tellAsStander (by decide) ⟨Nat.zero_le _, Nat.zero_le _⟩ 0 rfl rfl rfl rfl (rest := []) rfl hl.1 (Nat.le_of_ble_eq_true rfl) dX4_tellAsRider_7 (fun H locs hP hD hS => ?_)
  refine lv_bipush (v := (100 : Int32)) hx hb dX4_tellAsRider_10 (by decide) ?_
  refine lv_iadd hx hb dX4_tellAsRider_12 ?_
  exact ret _ _ _ _ ((r2.1 + (100 : Int32)), r2.2) hf dX4_tellAsRider_13 hP hD hS
abbrev rX4_tellAsPole : Room := ({ frames := 3, cells := 0, slots := 0, locals := 63 })
theorem mX4_tellAsPole : zzM yX4_tellAsPole wsX4_tellAsPole cX4_tellAsPole 3 (some .int) RX4 1 := ⟨⟨_, rfl⟩, by decide +kernel⟩
def fX4_tellAsPole (u : zzS) (p0 : Int32) : Option (Int32 × zzS) := ((fX4_leaveInTrace u (3 : Int32)).bind (fun r1 => ((fX4_tellAsRider r1 p0).bind (fun r2 => ((fX4_tellAsStander r2.2 p0).bind (fun r3 => (some ((r2.1 + r3.1), r3.2))))))))
set_option maxHeartbeats 4000000 in
set_option maxRecDepth 100000 in
theorem kX4_tellAsPole (l : Launch) (g : zzG) (q : Nat → Nat) (sz : Nat) (u : zzS) (p0 : Int32) (x : Int32 × zzS) (hf : fX4_tellAsPole u p0 = some x) : zzI l g yX4_tellAsPole wsX4_tellAsPole rX4_tellAsPole [.ref (q 0), .int p0] (zzX g q u) (zzX g q x.2) sz x.1 := by
  refine zz_mi (cc := cX4_tellAsPole) (mL := 3) (own := RX4) (fun x : Int32 × zzS => x.1) (fun x : Int32 × zzS => (zzX g q x.2)) x (by decide) rfl rfl (Nat.le_of_ble_eq_true rfl) ?_
  intro p e s m below meth c A Q ls C ret hP hD hS hl
  have hl : lv_has ls 3 [(0, .ref (q 0)), (1, .int p0)] := hl
  have hx := C.1.1
  have hb := C.1.2.1
  have hml := C.1.2.2.1
  have hown := C.1.2.2.2.1
  have hts := C.1.2.2.2.2
  have hK := C.2.1
  have iX4 : ∀ w ∈ wsX40, w ∈ wsX4_tellAsPole := fun _ h => List.mem_cons_of_mem _ (List.mem_append_left _ (List.mem_append_right _ h))
  have iX3 : ∀ w ∈ wsX30, w ∈ wsX4_tellAsPole := fun _ h => List.mem_cons_of_mem _ (List.mem_append_right _ h)
  unfold fX4_tellAsPole at hf
  refine lv_aload_n hx hb dX4_tellAsPole_0 rfl (lv_at hl 0 rfl) ?_
  refine lv_iconst (v := (3 : Int32)) hx hb dX4_tellAsPole_1 (by decide) ?_
  obtain ⟨r1, hc1, hf⟩ := zz_bs hf
  refine zz_cVv C hP hD hS (kX4_leaveInTrace l g q _ u (3 : Int32) r1 hc1) gX4_tellAsPole_X4_leaveInTrace mX4_leaveInTrace (by decide) ⟨Nat.zero_le _, Nat.zero_le _⟩ 0 rfl rfl rfl rfl (rest := []) rfl hl.1 (Nat.le_of_ble_eq_true rfl) dX4_tellAsPole_2 (fun H locs hP hD hS => ?_)
  refine lv_aload_n hx hb dX4_tellAsPole_5 rfl (lv_at hl 0 rfl) ?_
  refine lv_iload_n hx hb dX4_tellAsPole_6 rfl (lv_at hl 1 rfl) ?_
  obtain ⟨r2, hc2, hf⟩ := zz_bs hf
  refine zz_cVi C hP hD hS (kX4_tellAsRider l g q _ r1 p0 r2 hc2) gX4_tellAsPole_X4_tellAsRider mX4_tellAsRider (by decide) ⟨Nat.zero_le _, Nat.zero_le _⟩ 0 rfl rfl rfl rfl (rest := []) rfl hl.1 (Nat.le_of_ble_eq_true rfl) dX4_tellAsPole_7 (fun H locs hP hD hS => ?_)
  refine lv_istore_n (lv' := [(2, .int (r2.1)), (0, .ref (q 0)), (1, .int p0)]) hx hb dX4_tellAsPole_10 rfl hl (by decide) rfl (fun ls hl => ?_)
  refine lv_iload_n hx hb dX4_tellAsPole_11 rfl (lv_at hl 0 rfl) ?_
  refine lv_aload_n hx hb dX4_tellAsPole_12 rfl (lv_at hl 1 rfl) ?_
  refine lv_iload_n hx hb dX4_tellAsPole_13 rfl (lv_at hl 2 rfl) ?_
  obtain ⟨r3, hc3, hf⟩ := zz_bs hf
  refine zz_cVi C hP hD hS (kX4_tellAsStander l g q _ r2.2 p0 r3 hc3) gX4_tellAsPole_X4_tellAsStander mX4_tellAsStander (by decide) ⟨Nat.zero_le _, Nat.zero_le _⟩ 0 rfl rfl rfl rfl (rest := [.int (r2.1)]) rfl hl.1 (Nat.le_of_ble_eq_true rfl) dX4_tellAsPole_14 (fun H locs hP hD hS => ?_)
  refine lv_iadd hx hb dX4_tellAsPole_17 ?_
  exact ret _ _ _ _ ((r2.1 + r3.1), r3.2) hf dX4_tellAsPole_18 hP hD hS
abbrev rX4_tell : Room := ({ frames := 4, cells := 0, slots := 0, locals := 85 })
theorem mX4_tell : zzM yX4_tell wsX4_tell cX4_tell 2 (some .int) RX4 1 := ⟨⟨_, rfl⟩, by decide +kernel⟩
def fX4_tell (u : zzS) (p0 : Int32) : Option (Int32 × zzS) := ((fX3_has 0 u p0).bind (fun r1 => (if r1 = 0 then (some ((-1 : Int32), u)) else (zzga (u.2 0) 5 p0 (fun x4 => (if x4 = (1 : Int32) then ((fX4_tellAsRider u p0).bind (fun r6 => (some (r6.1, r6.2)))) else (if x4 = (2 : Int32) then ((fX4_tellAsPole u p0).bind (fun r8 => (some (r8.1, r8.2)))) else ((fX4_tellAsStander u p0).bind (fun r9 => (some (r9.1, r9.2)))))))))))
set_option maxHeartbeats 4000000 in
set_option maxRecDepth 100000 in
theorem kX4_tell (l : Launch) (g : zzG) (q : Nat → Nat) (sz : Nat) (u : zzS) (p0 : Int32) (x : Int32 × zzS) (hf : fX4_tell u p0 = some x) : zzI l g yX4_tell wsX4_tell rX4_tell [.ref (q 0), .int p0] (zzX g q u) (zzX g q x.2) sz x.1 := by
  refine zz_mi (cc := cX4_tell) (mL := 2) (own := RX4) (fun x : Int32 × zzS => x.1) (fun x : Int32 × zzS => (zzX g q x.2)) x (by decide) rfl rfl (Nat.le_of_ble_eq_true rfl) ?_
  intro p e s m below meth c A Q ls C ret hP hD hS hl
  have hl : lv_has ls 2 [(0, .ref (q 0)), (1, .int p0)] := hl
  have hx := C.1.1
  have hb := C.1.2.1
  have hml := C.1.2.2.1
  have hown := C.1.2.2.2.1
  have hts := C.1.2.2.2.2
  have hK := C.2.1
  have iX4 : ∀ w ∈ wsX40, w ∈ wsX4_tell := fun _ h => List.mem_cons_of_mem _ (List.mem_append_left _ (List.mem_append_right _ h))
  have iX3 : ∀ w ∈ wsX30, w ∈ wsX4_tell := fun _ h => List.mem_cons_of_mem _ (List.mem_append_right _ h)
  unfold fX4_tell at hf
  refine lv_aload_n hx hb dX4_tell_0 rfl (lv_at hl 0 rfl) ?_
  refine va_get (D := g.1) (ci := 4) (v := .ref (q 1)) (C := RX4) (T := TX4) (N := 7) hx hb hts iX4 hown hK hP 0 rfl rfl 0 (by decide) (zz_mem hts 1 rfl) (fun _ h9 => h9) rfl dX4_tell_1 ?_
  refine lv_iload_n hx hb dX4_tell_4 rfl (lv_at hl 1 rfl) ?_
  obtain ⟨r1, hc1, hf⟩ := zz_bs hf
  refine zz_cVz C hP hD hS (kX3_has l g q _ 0 (by decide) u p0 r1 hc1) gX4_tell_X3_has mX3_has (by decide) ⟨Nat.zero_le _, Nat.zero_le _⟩ 1 rfl rfl rfl rfl (rest := []) rfl hl.1 (Nat.le_of_ble_eq_true rfl) dX4_tell_5 (fun hz1 H locs hP hD hS => ?_)
  refine lv_if_ne (tgt := 13) hx hb dX4_tell_8 (by decide) (fun c2 => ?_) (fun c2 => ?_)
  · have hf := zz_f c2 hf
    refine lv_aload_n hx hb dX4_tell_13 rfl (lv_at hl 0 rfl) ?_
    refine va_get (D := g.1) (ci := 4) (v := .ref (q 1)) (C := RX4) (T := TX4) (N := 7) hx hb hts iX4 hown hK hP 0 rfl rfl 0 (by decide) (zz_mem hts 1 rfl) (fun _ h9 => h9) rfl dX4_tell_14 ?_
    refine va_get (D := g.1) (ci := 3) (v := .ref (q 2)) (C := RX3) (T := TX3) (N := 6) hx hb hts iX3 hown hK hP 1 rfl rfl 0 (by decide) (zz_mem hts 2 rfl) (fun _ h9 => h9) rfl dX4_tell_17 ?_
    refine lv_iload_n hx hb dX4_tell_20 rfl (lv_at hl 1 rfl) ?_
    obtain ⟨x4, h3, ex4, hf⟩ := zz_gx hf
    refine zz_iald hx hb hK hP 2 0 rfl rfl h3 ex4 dX4_tell_21 ?_
    by_cases c5 : x4 = (1 : Int32)
    · have hf := zz_t c5 hf
      refine lv_lookup (tgt := 48) (off := 26) hx hb dX4_tell_22 (by decide) (by rw [c5]; decide) (by decide) ?_
      refine lv_aload_n hx hb dX4_tell_48 rfl (lv_at hl 0 rfl) ?_
      refine lv_iload_n hx hb dX4_tell_49 rfl (lv_at hl 1 rfl) ?_
      obtain ⟨r6, hc6, hf⟩ := zz_bs hf
      refine zz_cVi C hP hD hS (kX4_tellAsRider l g q _ u p0 r6 hc6) gX4_tell_X4_tellAsRider mX4_tellAsRider (by decide) ⟨Nat.zero_le _, Nat.zero_le _⟩ 0 rfl rfl rfl rfl (rest := []) rfl hl.1 (Nat.le_of_ble_eq_true rfl) dX4_tell_50 (fun H locs hP hD hS => ?_)
      exact ret _ _ _ _ (r6.1, r6.2) hf dX4_tell_53 hP hD hS
    · have hf := zz_f c5 hf
      by_cases c7 : x4 = (2 : Int32)
      · have hf := zz_t c7 hf
        refine lv_lookup (tgt := 54) (off := 32) hx hb dX4_tell_22 (by decide) (by rw [c7]; decide) (by decide) ?_
        refine lv_aload_n hx hb dX4_tell_54 rfl (lv_at hl 0 rfl) ?_
        refine lv_iload_n hx hb dX4_tell_55 rfl (lv_at hl 1 rfl) ?_
        obtain ⟨r8, hc8, hf⟩ := zz_bs hf
        refine zz_cVi C hP hD hS (kX4_tellAsPole l g q _ u p0 r8 hc8) gX4_tell_X4_tellAsPole mX4_tellAsPole (by decide) ⟨Nat.zero_le _, Nat.zero_le _⟩ 0 rfl rfl rfl rfl (rest := []) rfl hl.1 (Nat.le_of_ble_eq_true rfl) dX4_tell_56 (fun H locs hP hD hS => ?_)
        exact ret _ _ _ _ (r8.1, r8.2) hf dX4_tell_59 hP hD hS
      · have hf := zz_f c7 hf
        have ac5 : x4.toInt ≠ 1 := fun h => c5 (Int32.toInt_inj.mp (h.trans (by decide)))
        have ac7 : x4.toInt ≠ 2 := fun h => c7 (Int32.toInt_inj.mp (h.trans (by decide)))
        refine lv_lookup (tgt := 60) (off := 38) hx hb dX4_tell_22 (by decide) (zz_lk2 ac5 ac7) (by decide) ?_
        refine lv_aload_n hx hb dX4_tell_60 rfl (lv_at hl 0 rfl) ?_
        refine lv_iload_n hx hb dX4_tell_61 rfl (lv_at hl 1 rfl) ?_
        obtain ⟨r9, hc9, hf⟩ := zz_bs hf
        refine zz_cVi C hP hD hS (kX4_tellAsStander l g q _ u p0 r9 hc9) gX4_tell_X4_tellAsStander mX4_tellAsStander (by decide) ⟨Nat.zero_le _, Nat.zero_le _⟩ 0 rfl rfl rfl rfl (rest := []) rfl hl.1 (Nat.le_of_ble_eq_true rfl) dX4_tell_62 (fun H locs hP hD hS => ?_)
        exact ret _ _ _ _ (r9.1, r9.2) hf dX4_tell_65 hP hD hS
  · have hf := zz_t c2 hf
    refine lv_iconst (v := (-1 : Int32)) hx hb dX4_tell_11 (by decide) ?_
    exact ret _ _ _ _ ((-1 : Int32), u) hf dX4_tell_12 hP hD hS
abbrev rX4_tax : Room := ({ frames := 1, cells := 0, slots := 0, locals := 21 })
theorem mX4_tax : zzM yX4_tax wsX4_tax cX4_tax 2 (some .int) RX4 1 := ⟨⟨_, rfl⟩, by decide +kernel⟩
def fX4_tax (u : zzS) (p0 : Int32) : Option (Int32 × zzS) := ((fX3_has 0 u p0).bind (fun r1 => (if r1 = 0 then (some ((-1 : Int32), u)) else (zzga (u.2 0) 5 p0 (fun x4 => (if x4 = (2 : Int32) then ((fX4_leaveInTrace u (5 : Int32)).bind (fun r7 => (some ((60 : Int32), r7)))) else ((fX4_leaveInTrace u (4 : Int32)).bind (fun r6 => (some (p0, r6))))))))))
set_option maxHeartbeats 4000000 in
set_option maxRecDepth 100000 in
theorem kX4_tax (l : Launch) (g : zzG) (q : Nat → Nat) (sz : Nat) (u : zzS) (p0 : Int32) (x : Int32 × zzS) (hf : fX4_tax u p0 = some x) : zzI l g yX4_tax wsX4_tax rX4_tax [.ref (q 0), .int p0] (zzX g q u) (zzX g q x.2) sz x.1 := by
  refine zz_mi (cc := cX4_tax) (mL := 2) (own := RX4) (fun x : Int32 × zzS => x.1) (fun x : Int32 × zzS => (zzX g q x.2)) x (by decide) rfl rfl (Nat.le_of_ble_eq_true rfl) ?_
  intro p e s m below meth c A Q ls C ret hP hD hS hl
  have hl : lv_has ls 2 [(0, .ref (q 0)), (1, .int p0)] := hl
  have hx := C.1.1
  have hb := C.1.2.1
  have hml := C.1.2.2.1
  have hown := C.1.2.2.2.1
  have hts := C.1.2.2.2.2
  have hK := C.2.1
  have iX4 : ∀ w ∈ wsX40, w ∈ wsX4_tax := fun _ h => List.mem_cons_of_mem _ (List.mem_append_left _ (List.mem_append_right _ h))
  have iX3 : ∀ w ∈ wsX30, w ∈ wsX4_tax := fun _ h => List.mem_cons_of_mem _ (List.mem_append_right _ h)
  unfold fX4_tax at hf
  refine lv_aload_n hx hb dX4_tax_0 rfl (lv_at hl 0 rfl) ?_
  refine va_get (D := g.1) (ci := 4) (v := .ref (q 1)) (C := RX4) (T := TX4) (N := 7) hx hb hts iX4 hown hK hP 0 rfl rfl 0 (by decide) (zz_mem hts 1 rfl) (fun _ h9 => h9) rfl dX4_tax_1 ?_
  refine lv_iload_n hx hb dX4_tax_4 rfl (lv_at hl 1 rfl) ?_
  obtain ⟨r1, hc1, hf⟩ := zz_bs hf
  refine zz_cVz C hP hD hS (kX3_has l g q _ 0 (by decide) u p0 r1 hc1) gX4_tax_X3_has mX3_has (by decide) ⟨Nat.zero_le _, Nat.zero_le _⟩ 1 rfl rfl rfl rfl (rest := []) rfl hl.1 (Nat.le_of_ble_eq_true rfl) dX4_tax_5 (fun hz1 H locs hP hD hS => ?_)
  refine lv_if_ne (tgt := 13) hx hb dX4_tax_8 (by decide) (fun c2 => ?_) (fun c2 => ?_)
  · have hf := zz_f c2 hf
    refine lv_aload_n hx hb dX4_tax_13 rfl (lv_at hl 0 rfl) ?_
    refine va_get (D := g.1) (ci := 4) (v := .ref (q 1)) (C := RX4) (T := TX4) (N := 7) hx hb hts iX4 hown hK hP 0 rfl rfl 0 (by decide) (zz_mem hts 1 rfl) (fun _ h9 => h9) rfl dX4_tax_14 ?_
    refine va_get (D := g.1) (ci := 3) (v := .ref (q 2)) (C := RX3) (T := TX3) (N := 6) hx hb hts iX3 hown hK hP 1 rfl rfl 0 (by decide) (zz_mem hts 2 rfl) (fun _ h9 => h9) rfl dX4_tax_17 ?_
    refine lv_iload_n hx hb dX4_tax_20 rfl (lv_at hl 1 rfl) ?_
    obtain ⟨x4, h3, ex4, hf⟩ := zz_gx hf
    refine zz_iald hx hb hK hP 2 0 rfl rfl h3 ex4 dX4_tax_21 ?_
    refine lv_iconst (v := (2 : Int32)) hx hb dX4_tax_22 (by decide) ?_
    refine lv_icmp_ne (tgt := 34) hx hb dX4_tax_23 (by decide) (fun c5 => ?_) (fun c5 => ?_)
    · have hf := zz_f c5 hf
      refine lv_aload_n hx hb dX4_tax_34 rfl (lv_at hl 0 rfl) ?_
      refine lv_iconst (v := (4 : Int32)) hx hb dX4_tax_35 (by decide) ?_
      obtain ⟨r6, hc6, hf⟩ := zz_bs hf
      refine zz_cVv C hP hD hS (kX4_leaveInTrace l g q _ u (4 : Int32) r6 hc6) gX4_tax_X4_leaveInTrace mX4_leaveInTrace (by decide) ⟨Nat.zero_le _, Nat.zero_le _⟩ 0 rfl rfl rfl rfl (rest := []) rfl hl.1 (Nat.le_of_ble_eq_true rfl) dX4_tax_36 (fun H locs hP hD hS => ?_)
      refine lv_iload_n hx hb dX4_tax_39 rfl (lv_at hl 1 rfl) ?_
      exact ret _ _ _ _ (p0, r6) hf dX4_tax_40 hP hD hS
    · have hf := zz_t c5 hf
      refine lv_aload_n hx hb dX4_tax_26 rfl (lv_at hl 0 rfl) ?_
      refine lv_iconst (v := (5 : Int32)) hx hb dX4_tax_27 (by decide) ?_
      obtain ⟨r7, hc7, hf⟩ := zz_bs hf
      refine zz_cVv C hP hD hS (kX4_leaveInTrace l g q _ u (5 : Int32) r7 hc7) gX4_tax_X4_leaveInTrace mX4_leaveInTrace (by decide) ⟨Nat.zero_le _, Nat.zero_le _⟩ 0 rfl rfl rfl rfl (rest := []) rfl hl.1 (Nat.le_of_ble_eq_true rfl) dX4_tax_28 (fun H locs hP hD hS => ?_)
      refine lv_bipush (v := (60 : Int32)) hx hb dX4_tax_31 (by decide) ?_
      exact ret _ _ _ _ ((60 : Int32), r7) hf dX4_tax_33 hP hD hS
  · have hf := zz_t c2 hf
    refine lv_iconst (v := (-1 : Int32)) hx hb dX4_tax_11 (by decide) ?_
    exact ret _ _ _ _ ((-1 : Int32), u) hf dX4_tax_12 hP hD hS
abbrev rX4_as : Room := ({ frames := 1, cells := 0, slots := 0, locals := 21 })
theorem mX4_as : zzM yX4_as wsX4_as cX4_as 3 (some .int) RX4 2 := ⟨⟨_, rfl⟩, by decide +kernel⟩
def fX4_as (u : zzS) (p0 : Int32) (p1 : Int32) : Option (Int32 × zzS) := ((fX3_has 0 (zzi u 12 (0 : Int32)) p0).bind (fun r1 => (if r1 = 0 then (some ((-1 : Int32), (zzi u 12 (0 : Int32)))) else (if p1 < 0 then (some ((-2 : Int32), (zzi u 12 (0 : Int32)))) else (if p1 ≤ (2 : Int32) then (zzga ((zzi u 12 (0 : Int32)).2 0) 5 p0 (fun x6 => (if x6 < p1 then ((fX4_failed (zzi u 12 (0 : Int32)) (2 : Int32)).bind (fun r8 => (some (r8.1, r8.2)))) else (some ((1 : Int32), (zzi u 12 (0 : Int32))))))) else (some ((-2 : Int32), (zzi u 12 (0 : Int32)))))))))
set_option maxHeartbeats 4000000 in
set_option maxRecDepth 100000 in
theorem kX4_as (l : Launch) (g : zzG) (q : Nat → Nat) (sz : Nat) (u : zzS) (p0 : Int32) (p1 : Int32) (x : Int32 × zzS) (hf : fX4_as u p0 p1 = some x) : zzI l g yX4_as wsX4_as rX4_as [.ref (q 0), .int p0, .int p1] (zzX g q u) (zzX g q x.2) sz x.1 := by
  refine zz_mi (cc := cX4_as) (mL := 3) (own := RX4) (fun x : Int32 × zzS => x.1) (fun x : Int32 × zzS => (zzX g q x.2)) x (by decide) rfl rfl (Nat.le_of_ble_eq_true rfl) ?_
  intro p e s m below meth c A Q ls C ret hP hD hS hl
  have hl : lv_has ls 3 [(0, .ref (q 0)), (1, .int p0), (2, .int p1)] := hl
  have hx := C.1.1
  have hb := C.1.2.1
  have hml := C.1.2.2.1
  have hown := C.1.2.2.2.1
  have hts := C.1.2.2.2.2
  have hK := C.2.1
  have iX4 : ∀ w ∈ wsX40, w ∈ wsX4_as := fun _ h => List.mem_cons_of_mem _ (List.mem_append_left _ (List.mem_append_right _ h))
  have iX3 : ∀ w ∈ wsX30, w ∈ wsX4_as := fun _ h => List.mem_cons_of_mem _ (List.mem_append_right _ h)
  unfold fX4_as at hf
  refine lv_aload_n hx hb dX4_as_0 rfl (lv_at hl 0 rfl) ?_
  refine lv_iconst (v := (0 : Int32)) hx hb dX4_as_1 (by decide) ?_
  refine va_put (D := g.1) (ci := 4) (v := .int (0 : Int32)) (ty := .int) (C := RX4) (T := TX4) (N := 7) hx hb hts iX4 tyX4 tyX4_ok nmX4 hown hK hP hD hS 0 rfl rfl 6 (by decide) (zz_mem hts 1 rfl) (fun _ h9 => h9) rfl (tyX4_ok 6 (by decide)) rfl rfl (Nat.le_of_ble_eq_true rfl) dX4_as_2 (fun H locs hP hD hS => ?_)
  have hP : va_P g.1 vwCl (zzX g q (zzi u 12 (0 : Int32))) H := Eq.mp (congrArg (fun w => va_P g.1 vwCl w H) (zxo_0_6 g q u (0 : Int32))) hP
  have hD : va_D A (zzX g q (zzi u 12 (0 : Int32))) := Eq.mp (congrArg (va_D A) (zxo_0_6 g q u (0 : Int32))) hD
  refine lv_aload_n hx hb dX4_as_5 rfl (lv_at hl 0 rfl) ?_
  refine va_get (D := g.1) (ci := 4) (v := .ref (q 1)) (C := RX4) (T := TX4) (N := 7) hx hb hts iX4 hown hK hP 0 rfl rfl 0 (by decide) (zz_mem hts 2 rfl) (fun _ h9 => h9) rfl dX4_as_6 ?_
  refine lv_iload_n hx hb dX4_as_9 rfl (lv_at hl 1 rfl) ?_
  obtain ⟨r1, hc1, hf⟩ := zz_bs hf
  refine zz_cVz C hP hD hS (kX3_has l g q _ 0 (by decide) (zzi u 12 (0 : Int32)) p0 r1 hc1) gX4_as_X3_has mX3_has (by decide) ⟨Nat.zero_le _, Nat.zero_le _⟩ 1 rfl rfl rfl rfl (rest := []) rfl hl.1 (Nat.le_of_ble_eq_true rfl) dX4_as_10 (fun hz1 H locs hP hD hS => ?_)
  refine lv_if_ne (tgt := 18) hx hb dX4_as_13 (by decide) (fun c2 => ?_) (fun c2 => ?_)
  · have hf := zz_f c2 hf
    refine lv_iload_n hx hb dX4_as_18 rfl (lv_at hl 2 rfl) ?_
    refine lv_if_lt (tgt := 27) hx hb dX4_as_19 (by decide) (fun c3 => ?_) (fun c3 => ?_)
    · have hf := zz_t c3 hf
      refine lv_bipush (v := (-2 : Int32)) hx hb dX4_as_27 (by decide) ?_
      exact ret _ _ _ _ ((-2 : Int32), (zzi u 12 (0 : Int32))) hf dX4_as_29 hP hD hS
    · have hf := zz_f c3 hf
      refine lv_iload_n hx hb dX4_as_22 rfl (lv_at hl 2 rfl) ?_
      refine lv_iconst (v := (2 : Int32)) hx hb dX4_as_23 (by decide) ?_
      refine lv_icmp_le (tgt := 30) hx hb dX4_as_24 (by decide) (fun c4 => ?_) (fun c4 => ?_)
      · have hf := zz_t c4 hf
        refine lv_iload_n hx hb dX4_as_30 rfl (lv_at hl 2 rfl) ?_
        refine lv_aload_n hx hb dX4_as_31 rfl (lv_at hl 0 rfl) ?_
        refine va_get (D := g.1) (ci := 4) (v := .ref (q 1)) (C := RX4) (T := TX4) (N := 7) hx hb hts iX4 hown hK hP 0 rfl rfl 0 (by decide) (zz_mem hts 2 rfl) (fun _ h9 => h9) rfl dX4_as_32 ?_
        refine va_get (D := g.1) (ci := 3) (v := .ref (q 2)) (C := RX3) (T := TX3) (N := 6) hx hb hts iX3 hown hK hP 1 rfl rfl 0 (by decide) (zz_mem hts 3 rfl) (fun _ h9 => h9) rfl dX4_as_35 ?_
        refine lv_iload_n hx hb dX4_as_38 rfl (lv_at hl 1 rfl) ?_
        obtain ⟨x6, h5, ex6, hf⟩ := zz_gx hf
        refine zz_iald hx hb hK hP 2 0 rfl rfl h5 ex6 dX4_as_39 ?_
        refine lv_icmp_gt (tgt := 47) hx hb dX4_as_40 (by decide) (fun c7 => ?_) (fun c7 => ?_)
        · have hf := zz_t c7 hf
          refine lv_aload_n hx hb dX4_as_47 rfl (lv_at hl 0 rfl) ?_
          refine lv_iconst (v := (2 : Int32)) hx hb dX4_as_48 (by decide) ?_
          obtain ⟨r8, hc8, hf⟩ := zz_bs hf
          refine zz_cVi C hP hD hS (kX4_failed l g q _ (zzi u 12 (0 : Int32)) (2 : Int32) r8 hc8) gX4_as_X4_failed mX4_failed (by decide) ⟨Nat.zero_le _, Nat.zero_le _⟩ 0 rfl rfl rfl rfl (rest := []) rfl hl.1 (Nat.le_of_ble_eq_true rfl) dX4_as_49 (fun H locs hP hD hS => ?_)
          exact ret _ _ _ _ (r8.1, r8.2) hf dX4_as_52 hP hD hS
        · have hf := zz_f c7 hf
          refine lv_iconst (v := (1 : Int32)) hx hb dX4_as_43 (by decide) ?_
          refine lv_goto (tgt := 52) hx hb dX4_as_44 (by decide) ?_
          exact ret _ _ _ _ ((1 : Int32), (zzi u 12 (0 : Int32))) hf dX4_as_52 hP hD hS
      · have hf := zz_f c4 hf
        refine lv_bipush (v := (-2 : Int32)) hx hb dX4_as_27 (by decide) ?_
        exact ret _ _ _ _ ((-2 : Int32), (zzi u 12 (0 : Int32))) hf dX4_as_29 hP hD hS
  · have hf := zz_t c2 hf
    refine lv_iconst (v := (-1 : Int32)) hx hb dX4_as_16 (by decide) ?_
    exact ret _ _ _ _ ((-1 : Int32), (zzi u 12 (0 : Int32))) hf dX4_as_17 hP hD hS
abbrev rX4_trace : Room := ({ frames := 0, cells := 0, slots := 0, locals := 0 })
theorem mX4_trace : zzM yX4_trace wsX4_trace cX4_trace 1 (some .int) RX4 0 := ⟨⟨_, rfl⟩, by decide +kernel⟩
def fX4_trace (u : zzS) : Option Int32 := (some (u.1 11))
set_option maxHeartbeats 4000000 in
set_option maxRecDepth 100000 in
theorem kX4_trace (l : Launch) (g : zzG) (q : Nat → Nat) (sz : Nat) (u : zzS)  (x : Int32) (hf : fX4_trace u = some x) : zzI l g yX4_trace wsX4_trace rX4_trace [.ref (q 0)] (zzX g q u) (zzX g q u) sz x := by
  refine zz_mi (cc := cX4_trace) (mL := 1) (own := RX4) (fun x : Int32 => x) (fun x : Int32 => (zzX g q u)) x (by decide) rfl rfl (Nat.le_of_ble_eq_true rfl) ?_
  intro p e s m below meth c A Q ls C ret hP hD hS hl
  have hl : lv_has ls 1 [(0, .ref (q 0))] := hl
  have hx := C.1.1
  have hb := C.1.2.1
  have hml := C.1.2.2.1
  have hown := C.1.2.2.2.1
  have hts := C.1.2.2.2.2
  have hK := C.2.1
  have iX4 : ∀ w ∈ wsX40, w ∈ wsX4_trace := fun _ h => List.mem_cons_of_mem _ (List.mem_append_right _ h)
  unfold fX4_trace at hf
  refine lv_aload_n hx hb dX4_trace_0 rfl (lv_at hl 0 rfl) ?_
  refine va_get (D := g.1) (ci := 4) (v := .int (u.1 11)) (C := RX4) (T := TX4) (N := 7) hx hb hts iX4 hown hK hP 0 rfl rfl 5 (by decide) (zz_mem hts 1 rfl) (fun _ h9 => h9) rfl dX4_trace_1 ?_
  exact ret _ _ _ _ (u.1 11) hf dX4_trace_4 hP hD hS
abbrev rX4_fault : Room := ({ frames := 0, cells := 0, slots := 0, locals := 0 })
theorem mX4_fault : zzM yX4_fault wsX4_fault cX4_fault 1 (some .int) RX4 0 := ⟨⟨_, rfl⟩, by decide +kernel⟩
def fX4_fault (u : zzS) : Option Int32 := (some (u.1 12))
set_option maxHeartbeats 4000000 in
set_option maxRecDepth 100000 in
theorem kX4_fault (l : Launch) (g : zzG) (q : Nat → Nat) (sz : Nat) (u : zzS)  (x : Int32) (hf : fX4_fault u = some x) : zzI l g yX4_fault wsX4_fault rX4_fault [.ref (q 0)] (zzX g q u) (zzX g q u) sz x := by
  refine zz_mi (cc := cX4_fault) (mL := 1) (own := RX4) (fun x : Int32 => x) (fun x : Int32 => (zzX g q u)) x (by decide) rfl rfl (Nat.le_of_ble_eq_true rfl) ?_
  intro p e s m below meth c A Q ls C ret hP hD hS hl
  have hl : lv_has ls 1 [(0, .ref (q 0))] := hl
  have hx := C.1.1
  have hb := C.1.2.1
  have hml := C.1.2.2.1
  have hown := C.1.2.2.2.1
  have hts := C.1.2.2.2.2
  have hK := C.2.1
  have iX4 : ∀ w ∈ wsX40, w ∈ wsX4_fault := fun _ h => List.mem_cons_of_mem _ (List.mem_append_right _ h)
  unfold fX4_fault at hf
  refine lv_aload_n hx hb dX4_fault_0 rfl (lv_at hl 0 rfl) ?_
  refine va_get (D := g.1) (ci := 4) (v := .int (u.1 12)) (C := RX4) (T := TX4) (N := 7) hx hb hts iX4 hown hK hP 0 rfl rfl 6 (by decide) (zz_mem hts 1 rfl) (fun _ h9 => h9) rfl dX4_fault_1 ?_
  exact ret _ _ _ _ (u.1 12) hf dX4_fault_4 hP hD hS
abbrev rX4_many : Room := ({ frames := 0, cells := 0, slots := 0, locals := 0 })
theorem mX4_many : zzM yX4_many wsX4_many cX4_many 2 (some .int) RX4 1 := ⟨⟨_, rfl⟩, by decide +kernel⟩
def fX4_many (u : zzS) (p0 : Int32) : Option Int32 := (if p0 = (0 : Int32) then (some (u.1 0)) else (if p0 = (1 : Int32) then (some (u.1 1)) else (if p0 = (2 : Int32) then (some (u.1 2)) else (if p0 = (3 : Int32) then (some (u.1 10)) else (some (-2 : Int32))))))
set_option maxHeartbeats 4000000 in
set_option maxRecDepth 100000 in
theorem kX4_many (l : Launch) (g : zzG) (q : Nat → Nat) (sz : Nat) (u : zzS) (p0 : Int32) (x : Int32) (hf : fX4_many u p0 = some x) : zzI l g yX4_many wsX4_many rX4_many [.ref (q 0), .int p0] (zzX g q u) (zzX g q u) sz x := by
  refine zz_mi (cc := cX4_many) (mL := 2) (own := RX4) (fun x : Int32 => x) (fun x : Int32 => (zzX g q u)) x (by decide) rfl rfl (Nat.le_of_ble_eq_true rfl) ?_
  intro p e s m below meth c A Q ls C ret hP hD hS hl
  have hl : lv_has ls 2 [(0, .ref (q 0)), (1, .int p0)] := hl
  have hx := C.1.1
  have hb := C.1.2.1
  have hml := C.1.2.2.1
  have hown := C.1.2.2.2.1
  have hts := C.1.2.2.2.2
  have hK := C.2.1
  have iX4 : ∀ w ∈ wsX40, w ∈ wsX4_many := fun _ h => List.mem_cons_of_mem _ (List.mem_append_left _ (List.mem_append_left _ (List.mem_append_right _ h)))
  have iX3 : ∀ w ∈ wsX30, w ∈ wsX4_many := fun _ h => List.mem_cons_of_mem _ (List.mem_append_left _ (List.mem_append_right _ h))
  have iX0 : ∀ w ∈ wsX00, w ∈ wsX4_many := fun _ h => List.mem_cons_of_mem _ (List.mem_append_right _ h)
  unfold fX4_many at hf
  refine lv_iload_n hx hb dX4_many_0 rfl (lv_at hl 1 rfl) ?_
  by_cases c1 : p0 = (0 : Int32)
  · have hf := zz_t c1 hf
    refine lv_tableIn (tgt := 32) (off := 31) hx hb dX4_many_1 (by rw [c1]; decide) (by rw [c1]; decide) (by rw [c1]; decide) (by decide) ?_
    refine lv_aload_n hx hb dX4_many_32 rfl (lv_at hl 0 rfl) ?_
    refine va_get (D := g.1) (ci := 4) (v := .ref (q 1)) (C := RX4) (T := TX4) (N := 7) hx hb hts iX4 hown hK hP 0 rfl rfl 0 (by decide) (zz_mem hts 1 rfl) (fun _ h9 => h9) rfl dX4_many_33 ?_
    refine va_get (D := g.1) (ci := 3) (v := .int (u.1 0)) (C := RX3) (T := TX3) (N := 6) hx hb hts iX3 hown hK hP 1 rfl rfl 3 (by decide) (zz_mem hts 2 rfl) (fun _ h9 => h9) rfl dX4_many_36 ?_
    exact ret _ _ _ _ (u.1 0) hf dX4_many_39 hP hD hS
  · have hf := zz_f c1 hf
    by_cases c2 : p0 = (1 : Int32)
    · have hf := zz_t c2 hf
      refine lv_tableIn (tgt := 40) (off := 39) hx hb dX4_many_1 (by rw [c2]; decide) (by rw [c2]; decide) (by rw [c2]; decide) (by decide) ?_
      refine lv_aload_n hx hb dX4_many_40 rfl (lv_at hl 0 rfl) ?_
      refine va_get (D := g.1) (ci := 4) (v := .ref (q 1)) (C := RX4) (T := TX4) (N := 7) hx hb hts iX4 hown hK hP 0 rfl rfl 0 (by decide) (zz_mem hts 1 rfl) (fun _ h9 => h9) rfl dX4_many_41 ?_
      refine va_get (D := g.1) (ci := 3) (v := .int (u.1 1)) (C := RX3) (T := TX3) (N := 6) hx hb hts iX3 hown hK hP 1 rfl rfl 4 (by decide) (zz_mem hts 3 rfl) (fun _ h9 => h9) rfl dX4_many_44 ?_
      exact ret _ _ _ _ (u.1 1) hf dX4_many_47 hP hD hS
    · have hf := zz_f c2 hf
      by_cases c3 : p0 = (2 : Int32)
      · have hf := zz_t c3 hf
        refine lv_tableIn (tgt := 48) (off := 47) hx hb dX4_many_1 (by rw [c3]; decide) (by rw [c3]; decide) (by rw [c3]; decide) (by decide) ?_
        refine lv_aload_n hx hb dX4_many_48 rfl (lv_at hl 0 rfl) ?_
        refine va_get (D := g.1) (ci := 4) (v := .ref (q 1)) (C := RX4) (T := TX4) (N := 7) hx hb hts iX4 hown hK hP 0 rfl rfl 0 (by decide) (zz_mem hts 1 rfl) (fun _ h9 => h9) rfl dX4_many_49 ?_
        refine va_get (D := g.1) (ci := 3) (v := .int (u.1 2)) (C := RX3) (T := TX3) (N := 6) hx hb hts iX3 hown hK hP 1 rfl rfl 5 (by decide) (zz_mem hts 4 rfl) (fun _ h9 => h9) rfl dX4_many_52 ?_
        exact ret _ _ _ _ (u.1 2) hf dX4_many_55 hP hD hS
      · have hf := zz_f c3 hf
        by_cases c4 : p0 = (3 : Int32)
        · have hf := zz_t c4 hf
          refine lv_tableIn (tgt := 56) (off := 55) hx hb dX4_many_1 (by rw [c4]; decide) (by rw [c4]; decide) (by rw [c4]; decide) (by decide) ?_
          refine lv_aload_n hx hb dX4_many_56 rfl (lv_at hl 0 rfl) ?_
          refine va_get (D := g.1) (ci := 4) (v := .ref (q 10)) (C := RX4) (T := TX4) (N := 7) hx hb hts iX4 hown hK hP 0 rfl rfl 3 (by decide) (zz_mem hts 5 rfl) (fun _ h9 => h9) rfl dX4_many_57 ?_
          refine va_get (D := g.1) (ci := 0) (v := .int (u.1 10)) (C := RX0) (T := TX0) (N := 3) hx hb hts iX0 hown hK hP 10 rfl rfl 2 (by decide) (zz_mem hts 6 rfl) (fun _ h9 => h9) rfl dX4_many_60 ?_
          exact ret _ _ _ _ (u.1 10) hf dX4_many_63 hP hD hS
        · have hf := zz_f c4 hf
          have ac1 : p0.toInt ≠ 0 := fun h => c1 (Int32.toInt_inj.mp (h.trans (by decide)))
          have ac2 : p0.toInt ≠ 1 := fun h => c2 (Int32.toInt_inj.mp (h.trans (by decide)))
          have ac3 : p0.toInt ≠ 2 := fun h => c3 (Int32.toInt_inj.mp (h.trans (by decide)))
          have ac4 : p0.toInt ≠ 3 := fun h => c4 (Int32.toInt_inj.mp (h.trans (by decide)))
          refine lv_tableOut (tgt := 64) hx hb dX4_many_1 (by omega) (by decide) ?_
          refine lv_bipush (v := (-2 : Int32)) hx hb dX4_many_64 (by decide) ?_
          exact ret _ _ _ _ (-2 : Int32) hf dX4_many_66 hP hD hS
