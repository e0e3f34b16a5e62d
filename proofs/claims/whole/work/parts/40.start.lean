/-! ===== the law: from its entry ===== -/
set_option maxHeartbeats 4000000 in
set_option maxRecDepth 100000 in
theorem lc_world {args : Array Value} {s : State} (hts0 : ∀ w ∈ lw_tbl, w.before args s = true) : zzZ4 s ∧ ∃ g : zzG, va_K g.1 vwCl (zzT g) s := by
  have hZ : zzZ4 s := ⟨va_Nw.of rfl (zz_mem hts0 56 lc_n0), va_Nw.of rfl (zz_mem hts0 88 lc_n1), va_Nw.of rfl (zz_mem hts0 111 lc_n2), va_Nw.of rfl (zz_mem hts0 131 lc_n3), va_AO.of (zz_mem hts0 129 lc_n4)⟩
  refine ⟨hZ, ?_⟩
  have hts : ∀ w ∈ wsL_law, w.before args s = true := fun w h => hts0 w (wsL_law_in w h)
  obtain ⟨c0, i0, k0⟩ := u_known (C := RX0) (T := TX0) (N := 3) (n := 3) hts inlX0 (zz_mem hts0 110 lc_n7)
  obtain ⟨c1, i1, k1⟩ := u_known (C := RX1) (T := TX1) (N := 4) (n := 4) hts inlX1 (zz_mem hts0 87 lc_n8)
  obtain ⟨c2, i2, k2⟩ := u_known (C := RX2) (T := TX2) (N := 4) (n := 4) hts inlX2 (zz_mem hts0 130 lc_n9)
  obtain ⟨c3, i3, k3⟩ := u_known (C := RX3) (T := TX3) (N := 6) (n := 6) hts inlX3 (zz_mem hts0 55 lc_n10)
  obtain ⟨c4, i4, k4⟩ := u_known (C := RX4) (T := TX4) (N := 7) (n := 7) hts inlX4 (zz_mem hts 1 rfl)
  obtain ⟨c5, i5, k5⟩ := u_known (C := RX5) (T := TX5) (N := 29) (n := 29) hts inlX5 (zz_mem hts 4 rfl)
  obtain ⟨cI, a1, a2⟩ := lc_arr (t := .int) (fun k h => by cases h) (zz_mem hts0 85 lc_n5)
  obtain ⟨cB, b1, b2⟩ := lc_arr (t := .boolean) (fun k h => by cases h) (zz_mem hts0 569 lc_n6)
  obtain ⟨cQ, q1, q2⟩ := lc_arq hZ.2.2.2.2
  refine ⟨(((fun k => if k = 0 then c0 else if k = 1 then c1 else if k = 2 then c2 else if k = 3 then c3 else if k = 4 then c4 else c5), (fun k => if k = 0 then i0 else if k = 1 then i1 else if k = 2 then i2 else if k = 3 then i3 else if k = 4 then i4 else i5)), cI, cB, cQ), ?_, ?_⟩
  · intro k q hq
    match k, hq with
    | 0, hq => cases hq; exact k0
    | 1, hq => cases hq; exact k1
    | 2, hq => cases hq; exact k2
    | 3, hq => cases hq; exact k3
    | 4, hq => cases hq; exact k4
    | 5, hq => cases hq; exact k5
    | k + 6, hq => simp [vwCl] at hq
  · intro k q hq
    match k, hq with
    | 0, hq => cases hq; exact ⟨a1, a2⟩
    | 1, hq => cases hq; exact ⟨b1, b2⟩
    | 2, hq => cases hq; exact ⟨q1, q2⟩
    | k + 3, hq => simp [zzT] at hq
set_option maxHeartbeats 4000000 in
set_option maxRecDepth 100000 in
theorem whole_start {p : Program} {e : Env} {s : State} {m : MethodId} {below : List Frame} {meth : Method} {c : Code} (l : Launch) (hflags : l.flags = flags0) {b L : Nat} {xs : Nat → Int32} (hL : L ≤ 448) (C0 : lw_At p s m meth c b L xs) : W p l e room_1 s m #[Value.ref b] below meth c s.heap [] 0 0 (lw_Z below #[Value.ref b] s) (entryFrame m ([Value.ref b] : List Value).toArray 4) := by
  obtain ⟨hx, hb, hr, hml, hown, hts0, hX, hbl, hlocks, hgv⟩ := id C0
  have hts : ∀ w ∈ wsL_law, w.before #[Value.ref b] s = true := fun w h => hts0 w (wsL_law_in w h)
  obtain ⟨hZ, g, hK⟩ := lc_world hts0
  have hA : ∀ q : Nat, s.heap.size ≤ q → (fun q : Nat => s.heap.size ≤ q) q := fun _ h => h
  have C : zzC g p s m #[Value.ref b] c cL_law 4 RL wsL_law (fun q => s.heap.size ≤ q) := ⟨⟨hx, hb, hml, hown, hts⟩, hK, hA⟩
  have hown : s.vm.findClass RL = some m.cls := hown
  have hb : c.code = cL_law := hb
  have hS : va_S (fun q : Nat => s.heap.size ≤ q) s.heap s.heap [] := va_S.rf
  have hP : va_P g.1 vwCl [] s.heap := fun k q h => by simp at h
  have hD : va_D (fun q : Nat => s.heap.size ≤ q) [] := ⟨fun i j p q h => by simp at h, fun k q h => by simp at h⟩
  have hl := lv_entry ([.ref b]) (n := 4) (Nat.le_of_ble_eq_true rfl)
  rw [lg_entry_eq]
  generalize (lg_sl ([.ref b]) ++ List.replicate (4 - (lg_sl ([.ref b])).length) Slot.unset).toArray = ls at hl ⊢
  have hl : lv_has ls 4 [(0, .ref b)] := hl
  refine va_new (ci := 4) (fs := [.null, .null, .null, .null, .null, .int 0, .int 0]) (C := RX4) (T := TX4) (N := 7) hx hb hts inlX4 tyX4 tyX4_ok hown (zz_mem hts 0 rfl) (zz_mem hts 1 rfl) (zz_mem hts 2 rfl) hK hP hD hS hA rfl (fun j hj => by rcases (show j = 0 ∨ j = 1 ∨ j = 2 ∨ j = 3 ∨ j = 4 ∨ j = 5 ∨ j = 6 by omega) with rfl | rfl | rfl | rfl | rfl | rfl | rfl <;> rfl) (Nat.le_of_ble_eq_true rfl) (Nat.le_of_ble_eq_true rfl) dL_law_0 (fun b1 H hP hD hS => ?_)
  refine W.widen (k := 1) (n := 7) (Nat.le_of_ble_eq_true rfl) (Nat.le_of_ble_eq_true rfl) ?_
  refine lv_dup hx hb dL_law_3 rfl ?_
  refine lc_cI (wr := []) (wc := [(b1, .inr (4, [.null, .null, .null, .null, .null, .int 0, .int 0]))]) C hP hD hS (kX4_init l g b1 _) zzZ4_call (zzZ4_warm hZ) (cwI 0 hts gL_law_X4_init rfl rfl rfl (zz_mem hts 2 rfl) (zz_mem hts 6 rfl) (zz_mem hts 7 rfl) rfl (by decide +kernel) ⟨Nat.le_of_ble_eq_true rfl, Nat.le_of_ble_eq_true rfl⟩) (rest := [.ref b1]) rfl hl.1 (Nat.le_of_ble_eq_true rfl) dL_law_4 ⟨Nat.le_of_ble_eq_true rfl, Nat.le_of_ble_eq_true rfl⟩ (fun z1 H locs hP hD hS => ?_)
  refine W.widen (k := 22) (n := 332) (Nat.le_of_ble_eq_true rfl) (Nat.le_of_ble_eq_true rfl) ?_
  obtain ⟨q, hq0, hPx, hDx⟩ : ∃ q : Nat → Nat, q 0 = b1 ∧ va_P g.1 vwCl (zzX g q zzU0) H ∧ va_D (fun q : Nat => s.heap.size ≤ q) (zzX g q zzU0) := ⟨fun k => if k = 0 then b1 else z1 k, rfl, hP, hD⟩
  subst hq0
  refine lv_astore_n (lv' := [(1, .ref (q 0)), (0, .ref b)]) hx hb dL_law_7 rfl hl (by decide) rfl (fun ls hl => ?_)
  refine va_new (ci := 5) (fs := [.int 0, .int 0, .null, .null, .null, .int 0, .int 0, .int 0, .null, .null, .null, .int 0, .int 0, .int 0, .int 0, .int 0, .null, .null, .null, .null, .int 0, .int 0, .int 0, .int 0, .null, .int 0, .int 0, .null, .null]) (C := RX5) (T := TX5) (N := 29) hx hb hts inlX5 tyX5 tyX5_ok hown (zz_mem hts 3 rfl) (zz_mem hts 4 rfl) (zz_mem hts 5 rfl) hK hPx hDx hS hA rfl (fun j hj => by rcases (show j = 0 ∨ j = 1 ∨ j = 2 ∨ j = 3 ∨ j = 4 ∨ j = 5 ∨ j = 6 ∨ j = 7 ∨ j = 8 ∨ j = 9 ∨ j = 10 ∨ j = 11 ∨ j = 12 ∨ j = 13 ∨ j = 14 ∨ j = 15 ∨ j = 16 ∨ j = 17 ∨ j = 18 ∨ j = 19 ∨ j = 20 ∨ j = 21 ∨ j = 22 ∨ j = 23 ∨ j = 24 ∨ j = 25 ∨ j = 26 ∨ j = 27 ∨ j = 28 by omega) with rfl | rfl | rfl | rfl | rfl | rfl | rfl | rfl | rfl | rfl | rfl | rfl | rfl | rfl | rfl | rfl | rfl | rfl | rfl | rfl | rfl | rfl | rfl | rfl | rfl | rfl | rfl | rfl | rfl <;> rfl) (Nat.le_of_ble_eq_true rfl) (Nat.le_of_ble_eq_true rfl) dL_law_8 (fun b2 H hP hD hS => ?_)
  refine W.widen (k := 23) (n := 361) (Nat.le_of_ble_eq_true rfl) (Nat.le_of_ble_eq_true rfl) ?_
  refine lv_dup hx hb dL_law_11 rfl ?_
  refine lc_cI (wr := zzX g q zzU0) (wc := [(b2, .inr (5, [.int 0, .int 0, .null, .null, .null, .int 0, .int 0, .int 0, .null, .null, .null, .int 0, .int 0, .int 0, .int 0, .int 0, .null, .null, .null, .null, .int 0, .int 0, .int 0, .int 0, .null, .int 0, .int 0, .null, .null]))]) C hP hD hS (kX5_init l g b2 _) (fun _ _ _ _ _ => trivial) (fun _ _ => trivial) (cwI 0 hts gL_law_X5_init rfl rfl rfl (zz_mem hts 5 rfl) (zz_mem hts 48 rfl) (zz_mem hts 49 rfl) rfl (by decide +kernel) ⟨Nat.le_of_ble_eq_true rfl, Nat.le_of_ble_eq_true rfl⟩) (rest := [.ref b2]) rfl hl.1 (Nat.le_of_ble_eq_true rfl) dL_law_12 ⟨Nat.le_of_ble_eq_true rfl, Nat.le_of_ble_eq_true rfl⟩ (fun z2 H locs hP hD hS => ?_)
  refine W.widen (k := 36) (n := 700) (Nat.le_of_ble_eq_true rfl) (Nat.le_of_ble_eq_true rfl) ?_
  rw [lc_Y0] at hP hD
  obtain ⟨q', hq', hPy, hDy⟩ : ∃ q' : Nat → Nat, q' 0 = b2 ∧ va_P g.1 vwCl (zzX g q zzU0 ++ zzY g q' zzU1) H ∧ va_D (fun q : Nat => s.heap.size ≤ q) (zzX g q zzU0 ++ zzY g q' zzU1) := ⟨zzq' b2 z2, rfl, hP, hD⟩
  subst hq'
  refine lv_astore_n (lv' := [(2, .ref (q' 0)), (1, .ref (q 0)), (0, .ref b)]) hx hb dL_law_15 rfl hl (by decide) rfl (fun ls hl => ?_)
  refine lv_iconst (v := nI 0) hx hb dL_law_16 (by decide) ?_
  refine lv_istore_n (lv' := [(3, .int (nI 0)), (2, .ref (q' 0)), (1, .ref (q 0)), (0, .ref b)]) hx hb dL_law_17 rfl hl (by decide) rfl (fun ls hl => ?_)
  exact lc_loop hL C0 ⟨C, hX, hbl⟩ (L + 8) 0 (by omega) (by omega) H locs zzU0 zzU1 ls ⟨zz_pl hPy, zz_dl hDy, zz_pr hPy, zz_dr hDy, zz_aps (zz_dap hDy), hS⟩ lc_R0 (lv_sub hl [3, 2, 1, 0] rfl)
