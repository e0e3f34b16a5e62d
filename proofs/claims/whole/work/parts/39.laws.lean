/-! ===== the law: its start ===== -/
theorem lc_arr {t : FieldType} {args : Array Value} {s : State} (ho : ∀ k, t ≠ .object k) (h : (Cond.arrayClass t).before args s = true) : ∃ cA : ClassId, ArrOfT s cA t ∧ va_RA s cA t := by
  obtain ⟨cA, kA, comp, h1, h2, h3⟩ := Cond.arrayClass_spec h
  refine ⟨cA, fun n z => ⟨fun k h => (by cases h), kA, h2, comp, h3⟩, ?_⟩
  cases t with
  | object C => exact absurd rfl (ho C)
  | _ => exact h1
theorem lc_arq {C : String} {s : State} (h : va_AO C s) : ∃ cA : ClassId, ArrOfT s cA (.object C) ∧ va_RA s cA (.object C) := by
  obtain ⟨comp, cA, kA, h1, h2, h3, h4, h5⟩ := Cond.arrayOver_spec h
  exact ⟨cA, fun n z => ⟨fun k h => (by cases h), kA, h3, comp, h4⟩, kA, comp, h3, h4, h1, h5⟩
section LcStart
variable {p : Program} {l : Launch} {e : Env} {R : Room} {s : State} {m : MethodId} {args : Array Value} {below : List Frame} {meth : Method} {c : Code} {H : Heap} {locs : List Loc} {cells slots : Nat} {Q : State → Prop} {g : zzG} {cc : ByteArray} {mL : Nat} {own : String} {ws : List Cond} {A : Nat → Prop} {wr wc : va_W} {y : MethodName} {wy : List Cond} {rm : Room} {bytes : ByteArray} {maxL mc ms index : Nat} {rest st0 : List Value} {b pc : Nat} {ls : Array Slot} {w' : (Nat → Nat) → va_W} {Z : State → Prop}
theorem lc_cI (C : zzC g p s m args c cc mL own ws A) (hP : va_P g.1 vwCl (wr ++ wc) H) (hD : va_D A (wr ++ wc)) (hS : va_S A s.heap H locs) (ct : zzN l g y wy rm Z b wc w' H.size mc ms) (hZ1 : ∀ (U : State) (gg : JFrame) (mk : MethodId) (a : Array Value), Z U → Z (U.calling gg mk a)) (hZ2 : ∀ U : State, s.WarmedH U.vm → Z U) (cw : CallB R s args own index y bytes maxL none wy rm mc ms 0 ∧ y.name = "<init>" ∧ (Cond.instanceMethod y).before args s = true) (hst : st0 = .ref b :: rest) (hl : ls.size = mL) (hroom : (rest.map fun v => v.category).sum ≤ 8) (hdg : decode cc pc = .ok (.invokespecial index, 3)) (hf : cells + mc ≤ R.cells ∧ slots + ms ≤ R.slots)
    (kk : ∀ (q : Nat → Nat) (H : Heap) (locs : List Loc), va_P g.1 vwCl (wr ++ w' q) H → va_D A (wr ++ w' q) → va_S A s.heap H locs → W p l e R s m args below meth c H locs (cells + mc) (slots + ms) Q (F0 m (pc + 3) ls rest)) : W p l e R s m args below meth c H locs cells slots Q (F0 m pc ls st0) := by
  have hF : ∀ q, va_A wc H.size q → A q := fun q h => by
    rcases h with ⟨k, e, hk⟩ | h
    · exact (zz_dr hD).2 k _ hk
    · exact C.2.2 q (Nat.le_trans hS.1 h)
  refine va_callv (va_runI (As := []) (rest := rest) C.1 ct cw ⟨fun a U gg mk q => by
      obtain ⟨q0, q1, qP, qK, qD, qZ⟩ := q
      exact ⟨q0, q1, qP, va_K.moved (u := U) (U := U.calling gg mk a) (Vm.Alike.refl U.vm) qK, qD, hZ1 U gg mk a qZ⟩, fun U hU hW => ⟨rfl, by rw [hU], by rw [hU]; exact zz_pr hP, va_K.moved hW.alike C.2.1, (zz_dr hD).weaken (fun _ _ _ _ => trivial), hZ2 U hW⟩⟩ rfl rfl hl hst (lv_room hroom) hdg hf) hS (fun q _ h => hF q h) hF (fun q t H1 locs ht hvm hw2 hB hz1 hk1 hS1 => ?_)
  obtain ⟨hP1, hK1, hD1⟩ := hB
  rw [ht] at hP1
  obtain ⟨k1, k2⟩ := zz_keep (zz_pl hP) (zz_dap hD) hk1 hD1
  exact kk q H1 locs (k1.app hP1) ((zz_dl hD).app (hD1.weaken (fun _ q _ h => hF q.1 h)) (fun i j x y hx hy e => k2 i j x y hx hy e)) hS1
end LcStart
def zzU1 : zzS := (fun _ => 0, fun k => if k = 2 then upd (upd (upd (upd (fun _ => 0) 0 (-9)) 1 (-9)) 2 (-9)) 3 (-9) else fun _ => 0)
theorem lc_R0 : qR zzU0 zzU1 := by
  have z : (0 : Int32) = nI 0 := by decide
  have hs : ∀ j : Nat, j < 4 → zzU1.2 2 j = -9 := fun j hj => by
    rcases (show j = 0 ∨ j = 1 ∨ j = 2 ∨ j = 3 by omega) with rfl | rfl | rfl | rfl <;> rfl
  have hh : ∀ j : Nat, j < 4 → qH zzU0 zzU1 j := fun j hj => ⟨fun i _ => rfl, Or.inl ⟨rfl, hs j hj⟩⟩
  refine ⟨⟨(0, 0, 0, fun _ => 0, fun _ => 0, fun _ => 0), ?_, ?_⟩, ⟨⟨0, Nat.zero_le _, z, z⟩, fun k _ => ⟨rfl, rfl, 0, Nat.zero_le _, z⟩⟩, ⟨hh 0 (by omega), hh 1 (by omega), hh 2 (by omega), hh 3 (by omega)⟩, rfl, rfl, z⟩
  · exact ⟨z, z, z, Nat.zero_le _, Nat.zero_le _, Nat.zero_le _, fun h => absurd h (Nat.lt_irrefl 0), fun a _ => ⟨z, z, z, Nat.zero_le _, Nat.zero_le _, Nat.zero_le _⟩⟩
  · exact ⟨z, z, z, Nat.zero_le _, Nat.zero_le _, Nat.zero_le _, fun h => absurd h (Nat.lt_irrefl 0), fun a _ => ⟨z, z, z, Nat.zero_le _, Nat.zero_le _, Nat.zero_le _⟩⟩
def zzq' (h0 : Nat) (z : Nat → Nat) : Nat → Nat := fun k => ([h0, 0, z 1, z 2, z 3, 0, 0, 0, z 4, z 5, z 6, 0, 0, 0, 0, 0, z 7, z 8, z 9, z 10, 0, 0, 0, 0, z 11, 0, 0, z 12, z 13] : List Nat).getD k 0
theorem lc_Y0 (g : zzG) (h0 : Nat) (z : Nat → Nat) : eX5_init g h0 z = zzY g (zzq' h0 z) zzU1 := rfl
set_option maxRecDepth 20000 in
theorem lc_n0 : lw_tbl[56]? = some (.methodLinkNest RX4 13 yX3_init "SnowCensus") := by decide +kernel
set_option maxRecDepth 20000 in
theorem lc_n1 : lw_tbl[88]? = some (.methodLinkNest RX4 23 yX1_init "SnowCensus") := by decide +kernel
set_option maxRecDepth 20000 in
theorem lc_n2 : lw_tbl[111]? = some (.methodLinkNest RX4 30 yX0_init "SnowCensus") := by decide +kernel
set_option maxRecDepth 20000 in
theorem lc_n3 : lw_tbl[131]? = some (.methodLinkNest RX4 41 yX2_init "SnowCensus") := by decide +kernel
set_option maxRecDepth 20000 in
theorem lc_n4 : lw_tbl[129]? = some (.arrayOver (.object "SnowCensus$Sheet")) := by decide +kernel
set_option maxRecDepth 20000 in
theorem lc_n5 : lw_tbl[85]? = some (.arrayClass .int) := by decide +kernel
set_option maxRecDepth 20000 in
theorem lc_n6 : lw_tbl[569]? = some (.arrayClass .boolean) := by decide +kernel
set_option maxRecDepth 20000 in
theorem lc_n7 : lw_tbl[110]? = some (.instantiable RX0 3) := by decide +kernel
set_option maxRecDepth 20000 in
theorem lc_n8 : lw_tbl[87]? = some (.instantiable RX1 4) := by decide +kernel
set_option maxRecDepth 20000 in
theorem lc_n9 : lw_tbl[130]? = some (.instantiable RX2 4) := by decide +kernel
set_option maxRecDepth 20000 in
theorem lc_n10 : lw_tbl[55]? = some (.instantiable RX3 6) := by decide +kernel
theorem zzZ4_call (U : State) (gg : JFrame) (mk : MethodId) (a : Array Value) (h : zzZ4 U) : zzZ4 (U.calling gg mk a) := ⟨va_Nw.same rfl rfl h.1, va_Nw.same rfl rfl h.2.1, va_Nw.same rfl rfl h.2.2.1, va_Nw.same rfl rfl h.2.2.2.1, va_AO.moved (u := U) (U := U.calling gg mk a) (Vm.Alike.refl U.vm) h.2.2.2.2⟩
theorem zzZ4_warm {s : State} (h : zzZ4 s) (U : State) (hW : s.WarmedH U.vm) : zzZ4 U := ⟨va_Nw.warmM hW h.1, va_Nw.warmM hW h.2.1, va_Nw.warmM hW h.2.2.1, va_Nw.warmM hW h.2.2.2.1, va_AO.moved hW.alike h.2.2.2.2⟩
