/-! ===== pure part 7: what was counted: heights, kinds, spans ===== -/
def qJs (w w' : zzS) : Prop := (∀ k, k < 6 ∨ 9 < k → w'.1 k = w.1 k) ∧ (∀ k, w'.2 k = w.2 k)
theorem q_Js0 (u : zzS) : qJs u u := ⟨fun _ _ => rfl, fun _ => rfl⟩
theorem q_Jst {u v w : zzS} (h1 : qJs u v) (h2 : qJs v w) : qJs u w := ⟨fun k hk => (h2.1 k hk).trans (h1.1 k hk), fun k => (h2.2 k).trans (h1.2 k)⟩
theorem q_JsJ {u w : zzS} (h : qJs u w) : qJ u w := ⟨fun k hk => h.1 k (by omega), fun k _ => h.2 k⟩
theorem q_Jsw (u : zzS) (c : Nat × Nat × Nat) (n : Nat) : qJs u (qwn u c n) := by
  refine ⟨fun k hk => ?_, fun k => rfl⟩
  have a : ¬ k = 6 := by omega
  have b : ¬ k = 7 := by omega
  have e : ¬ k = 8 := by omega
  have f : ¬ k = 9 := by omega
  simp [qwn, qw, zzi, va_up, a, b, e, f]
theorem q_X1s {u w : zzS} {d : qD} (h : qJs u w) (hq : qX 1 u d) : qX 1 w d := by
  show qS (w.1 3) (w.1 4) (w.1 5) (w.2 3) (w.2 4) (w.2 5) d
  rw [h.1 3 (by omega), h.1 4 (by omega), h.1 5 (by omega), h.2 3, h.2 4, h.2 5]
  exact hq
theorem q_become {u : zzS} {d : qD} (hq : qX 0 u d) : ∃ w, fX3_becomeLike u = some w ∧ qJ u w ∧ qX 1 w d := by
  have key : ∀ m a, a + m = 5 → ∀ w, qJ u w → (∀ b, b < a → w.2 3 b = u.2 0 b ∧ w.2 4 b = u.2 1 b ∧ w.2 5 b = u.2 2 b) → ∀ fuel, m < fuel → ∃ w', zzlp sX3_becomeLike_2 fuel (nI a, w) = some w' ∧ qJ u w' ∧ (∀ b, b < 5 → w'.2 3 b = u.2 0 b ∧ w'.2 4 b = u.2 1 b ∧ w'.2 5 b = u.2 2 b) ∧ w'.1 3 = u.1 0 ∧ w'.1 4 = u.1 1 ∧ w'.1 5 = u.1 2 := by
    intro m
    induction m with
    | zero =>
      intro a ha w hJ hw fuel hf
      rw [q_fu (by omega)]
      unfold sX3_becomeLike_2
      dsimp only
      rw [if_pos (by rw [q_k5]; exact nI_le (by omega) (by omega))]
      refine ⟨_, rfl, ⟨fun k hk => ?_, hJ.2⟩, fun b hb => hw b (by omega), hJ.1 0 (by omega), hJ.1 1 (by omega), hJ.1 2 (by omega)⟩
      have c3 : ¬ k = 3 := by omega
      have c4 : ¬ k = 4 := by omega
      have c5 : ¬ k = 5 := by omega
      simp only [zzi, va_up, c3, c4, c5, if_false]
      exact hJ.1 k hk
    | succ m ih =>
      intro a ha w hJ hw fuel hf
      have e0 : w.2 0 = u.2 0 := hJ.2 0 (by omega)
      have e1 : w.2 1 = u.2 1 := hJ.2 1 (by omega)
      have e2 : w.2 2 = u.2 2 := hJ.2 2 (by omega)
      obtain ⟨w', h1, h2⟩ := ih (a + 1) (by omega) (zza (zza (zza w 3 a (u.2 0 a)) 4 a (u.2 1 a)) 5 a (u.2 2 a)) ⟨fun k hk => hJ.1 k hk, fun k hk => by
        have c3 : ¬ k = 3 := by omega
        have c4 : ¬ k = 4 := by omega
        have c5 : ¬ k = 5 := by omega
        simp only [zza, va_up, c3, c4, c5, if_false]
        exact hJ.2 k hk⟩ (fun b hb => by
        show upd (w.2 3) a (u.2 0 a) b = u.2 0 b ∧ upd (w.2 4) a (u.2 1 a) b = u.2 1 b ∧ upd (w.2 5) a (u.2 2 a) b = u.2 2 b
        unfold upd
        by_cases hba : b = a
        · subst hba; simp
        · simp only [if_neg hba]
          exact hw b (by omega)) (fuel - 1) (by omega)
      refine ⟨w', ?_, h2⟩
      rw [q_fu (by omega)]
      generalize zzlp sX3_becomeLike_2 (fuel - 1) = rec at h1 ⊢
      unfold sX3_becomeLike_2
      dsimp only
      rw [if_neg (by rw [q_k5]; exact nI_ge (by omega) (by omega))]
      simp only [q_ga (show a < 5 by omega) (show 5 < 1000 by decide), q_pa (show a < 5 by omega) (show 5 < 1000 by decide), q_cl (show a < 2 ^ 31 by omega)]
      rw [show w.2 0 a = u.2 0 a by rw [e0], show (zza w 3 a (u.2 0 a)).2 1 a = u.2 1 a from by rw [← e1]; rfl, show (zza (zza w 3 a (u.2 0 a)) 4 a (u.2 1 a)).2 2 a = u.2 2 a from by rw [← e2]; rfl, nI_1]
      exact h1
  obtain ⟨w', h1, h2, h3, h4, h5, h6⟩ := key 5 0 rfl u (q_J0 u) (fun b hb => absurd hb (by omega)) zzFU (by decide)
  refine ⟨w', h1, h2, h4.trans hq.1, h5.trans hq.2.1, h6.trans hq.2.2.1, hq.2.2.2.1, hq.2.2.2.2.1, hq.2.2.2.2.2.1, hq.2.2.2.2.2.2.1, fun a ha => ?_⟩
  obtain ⟨c0, c1, c2, c3⟩ := hq.2.2.2.2.2.2.2 a ha
  obtain ⟨b0, b1, b2⟩ := h3 a ha
  exact ⟨b0.trans c0, b1.trans c1, b2.trans c2, c3⟩
theorem q_so {wx wy : zzS} {d : qD} (hx : qX 1 wx d) (hy : qY wy d) (hn : 0 < d.1) (hr : qRd wx wy) (hi : wy.1 11 = nI 0) : ∃ (b : Int32) (wx' wy' : zzS), fX4_areReadingsSoOnTrial wx = some (b, wx') ∧ fX5_areSo wy = some (b, wy') ∧ qJs wx wx' ∧ qK wy wy' := by
  obtain ⟨⟨rn, hrn, r1, r2⟩, hrow⟩ := hr
  have key : ∀ m k, k + m = rn → ∀ ux uy, qJs wx ux → qK wy uy → ∀ fx fy, m < fx → m < fy → ∃ (b : Int32) (wx' wy' : zzS), zzlp sX4_areReadingsSoOnTrial_2 fx (nI k, ux) = some (b, wx') ∧ zzlp sX5_areSo_2 fy (nI k, uy) = some (b, wy') ∧ qJs wx wx' ∧ qK wy wy' := by
    intro m
    induction m with
    | zero =>
      intro k hk ux uy hJ hK fx fy h1 h2
      obtain rfl : k = rn := by omega
      refine ⟨1, ux, uy, ?_, ?_, hJ, hK⟩
      · rw [q_fu (by omega)]
        unfold sX4_areReadingsSoOnTrial_2
        dsimp only
        rw [hJ.1 10 (by omega), r1, if_pos (nI_le (by omega) (by omega))]
      · rw [q_fu (by omega)]
        unfold sX5_areSo_2
        dsimp only
        rw [hK.1 26 (by omega), r2, if_pos (nI_le (by omega) (by omega))]
    | succ m ih =>
      intro k hk ux uy hJ hK fx fy h1 h2
      obtain ⟨g1, g2, s, hs, g3⟩ := hrow k (by omega)
      have hux := q_X1s hJ hx
      have huy := q_YK hK hy
      have ex := q_cntX hux hn hs (q_ev _ hux.2.2.2.1)
      rw [(q_evC d s).1, (q_evC d s).2] at ex
      obtain ⟨dk, ey⟩ := q_cenY huy hn hs (by decide) ((hK.1 11 (by omega)).trans hi)
      have hJ1 := q_Jst hJ (q_Jsw ux (qCn d s (fun a => !(0 : Nat).testBit a)) (qNd d s (fun a => !(0 : Nat).testBit a)))
      have hK1 := q_Kt hK (q_Kv uy (qCn d s (fun a => !(0 : Nat).testBit a)) (qNd d s (fun a => !(0 : Nat).testBit a)) dk)
      have ih' := ih (k + 1) (by omega) _ _ hJ1 hK1 (fx - 1) (fy - 1) (by omega) (by omega)
      rw [q_fu (show 0 < fx by omega), q_fu (show 0 < fy by omega)]
      generalize zzlp sX4_areReadingsSoOnTrial_2 (fx - 1) = recx at ih' ⊢
      generalize zzlp sX5_areSo_2 (fy - 1) = recy at ih' ⊢
      unfold sX4_areReadingsSoOnTrial_2 sX5_areSo_2
      dsimp only
      rw [hJ.1 10 (by omega), r1, hK.1 26 (by omega), r2, if_neg (nI_ge (by omega) (by omega)), if_neg (by rw [q_k8]; exact nI_ge (by omega) (by omega)), if_neg (nI_ge (by omega) (by omega)), q_ga (by omega) (by decide), q_ga (by omega) (by decide)]
      rw [hJ.2 6, hK.2 27 (by omega), ← g1, g3, q_every hux, Option.bind_some, ex, ey, Option.bind_some, Option.bind_some, q_ga (by omega) (by decide), q_ga (by omega) (by decide)]
      rw [hJ1.2 7, hK1.2 28 (by omega), ← g2, nI_1]
      split
      · exact ih'
      · exact ⟨_, _, _, rfl, rfl, hJ1, hK1⟩
  exact key rn 0 (by omega) wx wy (q_Js0 wx) (q_K0 wy) zzFU zzFU (by unfold zzFU; omega) (by unfold zzFU; omega)
theorem q_zz (w : zzS) (r a : Nat) (x y : Int32) : zza (zza w r a x) r a y = zza w r a y := by
  refine q_ext (fun k => rfl) (fun k => ?_)
  by_cases hk : k = r
  · subst hk
    simp only [zza, va_up, if_true]
    funext b
    unfold upd
    by_cases hb : b = a
    · simp [hb]
    · simp [hb]
  · simp only [zza, va_up, hk, if_false]
theorem q_zs (w : zzS) (r a : Nat) : zza w r a (w.2 r a) = w := by
  refine q_ext (fun k => rfl) (fun k => ?_)
  by_cases hk : k = r
  · subst hk
    simp only [zza, va_up, if_true]
    funext b
    unfold upd
    by_cases hb : b = a
    · simp [hb]
    · simp [hb]
  · simp only [zza, va_up, hk, if_false]
theorem q_Kz {w w1 : zzS} {r a : Nat} {v : Int32} (o : Int32) (h : qK (zza w r a v) w1) (hr : r = 8 ∨ r = 9 ∨ r = 10) : qK (zza w r a o) (zza w1 r a o) := by
  refine ⟨fun k hk => h.1 k hk, fun k hk => ?_⟩
  have e := h.2 k hk
  by_cases hkr : k = r
  · subst hkr
    simp only [zza, va_up, if_true] at e ⊢
    rw [e]
    funext b
    unfold upd
    by_cases hb : b = a
    · simp [hb]
    · simp [hb]
  · simp only [zza, va_up, hkr, if_false] at e ⊢
    exact e
theorem q_Jz {w w1 : zzS} {r a : Nat} {v : Int32} (o : Int32) (h : qJs (zza w r a v) w1) : qJs (zza w r a o) (zza w1 r a o) := by
  refine ⟨fun k hk => h.1 k hk, fun k => ?_⟩
  have e := h.2 k
  by_cases hkr : k = r
  · subst hkr
    simp only [zza, va_up, if_true] at e ⊢
    rw [e]
    funext b
    unfold upd
    by_cases hb : b = a
    · simp [hb]
    · simp [hb]
  · simp only [zza, va_up, hkr, if_false] at e ⊢
    exact e
abbrev qdH (d : qD) (a v : Nat) : qD := (d.1, d.2.1, d.2.2.1, d.2.2.2.1, d.2.2.2.2.1, va_up d.2.2.2.2.2 a v)
abbrev qdK (d : qD) (a v : Nat) : qD := (d.1, d.2.1, d.2.2.1, va_up d.2.2.2.1 a v, d.2.2.2.2.1, d.2.2.2.2.2)
abbrev qdF (d : qD) (a v : Nat) : qD := (d.1, d.2.1, d.2.2.1, d.2.2.2.1, va_up d.2.2.2.2.1 a v, d.2.2.2.2.2)
abbrev qdS (d : qD) (v : Nat) : qD := (d.1, v, d.2.2)
theorem q_SH {i0 i1 i2 : Int32} {r0 r1 r2 : Nat → Int32} {d : qD} (h : qS i0 i1 i2 r0 r1 r2 d) (a : Nat) {v : Nat} (hv : v ≤ 9) : qS i0 i1 i2 r0 r1 (upd r2 a (nI v)) (qdH d a v) := by
  refine ⟨h.1, h.2.1, h.2.2.1, h.2.2.2.1, h.2.2.2.2.1, h.2.2.2.2.2.1, h.2.2.2.2.2.2.1, fun b hb => ?_⟩
  obtain ⟨c0, c1, c2, c3, c4, c5⟩ := h.2.2.2.2.2.2.2 b hb
  show r0 b = nI (d.2.2.2.1 b) ∧ r1 b = nI (d.2.2.2.2.1 b) ∧ upd r2 a (nI v) b = nI (va_up d.2.2.2.2.2 a v b) ∧ d.2.2.2.1 b ≤ 2 ∧ d.2.2.2.2.1 b ≤ 9 ∧ va_up d.2.2.2.2.2 a v b ≤ 9
  unfold upd va_up
  by_cases e : b = a
  · simp only [if_pos e]; exact ⟨c0, c1, trivial, c3, c4, hv⟩
  · simp only [if_neg e]; exact ⟨c0, c1, c2, c3, c4, c5⟩
theorem q_SK {i0 i1 i2 : Int32} {r0 r1 r2 : Nat → Int32} {d : qD} (h : qS i0 i1 i2 r0 r1 r2 d) (a : Nat) {v : Nat} (hv : v ≤ 2) : qS i0 i1 i2 (upd r0 a (nI v)) r1 r2 (qdK d a v) := by
  refine ⟨h.1, h.2.1, h.2.2.1, h.2.2.2.1, h.2.2.2.2.1, h.2.2.2.2.2.1, h.2.2.2.2.2.2.1, fun b hb => ?_⟩
  obtain ⟨c0, c1, c2, c3, c4, c5⟩ := h.2.2.2.2.2.2.2 b hb
  show upd r0 a (nI v) b = nI (va_up d.2.2.2.1 a v b) ∧ r1 b = nI (d.2.2.2.2.1 b) ∧ r2 b = nI (d.2.2.2.2.2 b) ∧ va_up d.2.2.2.1 a v b ≤ 2 ∧ d.2.2.2.2.1 b ≤ 9 ∧ d.2.2.2.2.2 b ≤ 9
  unfold upd va_up
  by_cases e : b = a
  · simp only [if_pos e]; exact ⟨trivial, c1, c2, hv, c4, c5⟩
  · simp only [if_neg e]; exact ⟨c0, c1, c2, c3, c4, c5⟩
theorem q_SF {i0 i1 i2 : Int32} {r0 r1 r2 : Nat → Int32} {d : qD} (h : qS i0 i1 i2 r0 r1 r2 d) (a : Nat) {v : Nat} (hv : v ≤ 9) : qS i0 i1 i2 r0 (upd r1 a (nI v)) r2 (qdF d a v) := by
  refine ⟨h.1, h.2.1, h.2.2.1, h.2.2.2.1, h.2.2.2.2.1, h.2.2.2.2.2.1, h.2.2.2.2.2.2.1, fun b hb => ?_⟩
  obtain ⟨c0, c1, c2, c3, c4, c5⟩ := h.2.2.2.2.2.2.2 b hb
  show r0 b = nI (d.2.2.2.1 b) ∧ upd r1 a (nI v) b = nI (va_up d.2.2.2.2.1 a v b) ∧ r2 b = nI (d.2.2.2.2.2 b) ∧ d.2.2.2.1 b ≤ 2 ∧ va_up d.2.2.2.2.1 a v b ≤ 9 ∧ d.2.2.2.2.2 b ≤ 9
  unfold upd va_up
  by_cases e : b = a
  · simp only [if_pos e]; exact ⟨c0, trivial, c2, c3, hv, c5⟩
  · simp only [if_neg e]; exact ⟨c0, c1, c2, c3, c4, c5⟩
theorem q_SS {i0 i1 i2 : Int32} {r0 r1 r2 : Nat → Int32} {d : qD} (h : qS i0 i1 i2 r0 r1 r2 d) {v : Nat} (hv : v ≤ 9) (h0 : 0 < v) : qS i0 (nI v) i2 r0 r1 r2 (qdS d v) := ⟨h.1, rfl, h.2.2.1, h.2.2.2.1, hv, h.2.2.2.2.2.1, fun _ => h0, h.2.2.2.2.2.2.2⟩
theorem q_rdJK {ux uy wx wy : zzS} (h : qRd ux uy) (h1 : qJ ux wx) (h2 : qK uy wy) : qRd wx wy := by
  unfold qRd at h ⊢
  rw [h1.1 10 (by omega), h1.2 6 (by omega), h1.2 7 (by omega), h2.1 26 (by omega), h2.2 27 (by omega), h2.2 28 (by omega)]
  exact h
theorem q_Jz3 {u w : zzS} {r a : Nat} {v : Int32} (h : qJ u w) (hr : r = 3 ∨ r = 4 ∨ r = 5) : qJ u (zza w r a v) := by
  refine ⟨h.1, fun k hk => ?_⟩
  have hkr : ¬ k = r := by omega
  simp only [zza, va_up, hkr, if_false]
  exact h.2 k hk
section QP
variable {ux uy : zzS}
theorem e_heights (h : qR ux uy) (p0 : Int32) : qE (fX4_heights ux p0) (fX5_heights uy p0) := by
  obtain ⟨⟨d, hx, hy⟩, hrd, hrest⟩ := id h
  have h5 := hx.2.2.2.1
  unfold fX4_heights fX5_heights
  rcases q_who d p0 with ⟨a, ha, rfl⟩ | hw
  · have hn : 0 < d.1 := by omega
    obtain ⟨w0, e0, hJ0, hX0⟩ := q_become hx
    rw [q_has1 hx ha, q_isS1 hy ha]
    simp only [Option.bind_some, if_neg q_10]
    rw [e0, Option.bind_some, q_ga (by omega) (by decide)]
    have hH : w0.2 5 a = nI (d.2.2.2.2.2 a) := (hX0.2.2.2.2.2.2.2 a (by omega)).2.2.1
    have key : ∀ m v, v + m = 10 → ∀ (st : Int32) (wx wy : zzS), qJ ux wx → qX 1 (zza wx 5 a (nI (d.2.2.2.2.2 a))) d → qK uy (zza wy 10 a (uy.2 10 a)) → ∀ fx fy, m < fx → m < fy → ∃ (r : Int32) (wx' wy' : zzS), zzlp (sX4_heights_28 (nI a)) fx (st, nI v, wx) = some (r, wx') ∧ zzlp (sX5_heights_22 (nI a) (uy.2 10 a)) fy (st, nI v, wy) = some (r, wy') ∧ qJ ux wx' ∧ qK uy wy' := by
      intro m
      induction m with
      | zero =>
        intro v hv st wx wy hJ hX hK fx fy h1 h2
        refine ⟨st, wx, _, ?_, ?_, hJ, hK⟩
        · rw [q_fu (by omega)]
          unfold sX4_heights_28
          dsimp only
          rw [if_pos (by rw [q_k9]; exact nI_lt (by omega) (by omega))]
        · rw [q_fu (by omega)]
          unfold sX5_heights_22
          dsimp only
          rw [if_pos (by rw [q_k9]; exact nI_lt (by omega) (by omega)), q_pa (by omega) (by decide), q_cl (by omega)]
      | succ m ih =>
        intro v hv st wx wy hJ hX hK fx fy h1 h2
        have hXv : qX 1 (zza wx 5 a (nI v)) (qdH d a v) := by
          have := q_SH hX a (v := v) (by omega)
          rw [← q_zz wx 5 a (nI (d.2.2.2.2.2 a)) (nI v)]
          exact this
        have hYv : qY (zza wy 10 a (nI v)) (qdH d a v) := by
          have := q_SH (q_YK hK hy) a (v := v) (by omega)
          rw [← q_zz wy 10 a (uy.2 10 a) (nI v)]
          exact this
        have hrd' : qRd (zza wx 5 a (nI v)) (zza wy 10 a (nI v)) := by
          have := q_rdJK hrd (q_Jz3 (r := 5) (a := a) (v := nI v) hJ (by omega)) hK
          exact this
        obtain ⟨b, wx1, wy1, ex, ey, hJ1, hK1⟩ := q_so hXv hYv hn hrd' ((hK.1 11 (by omega)).trans hrest.2.2.2)
        have hJ2 : qJ ux wx1 := q_Jt (q_Jz3 (r := 5) hJ (by omega)) (q_JsJ hJ1)
        have hX2 : qX 1 (zza wx1 5 a (nI (d.2.2.2.2.2 a))) d := q_X1s (q_Jz (nI (d.2.2.2.2.2 a)) hJ1) hX
        have hK2 : qK uy (zza wy1 10 a (uy.2 10 a)) := q_Kt hK (q_Kz (uy.2 10 a) hK1 (by omega))
        have ihA := fun st' => ih (v + 1) (by omega) st' wx1 wy1 hJ2 hX2 hK2 (fx - 1) (fy - 1) (by omega) (by omega)
        rw [q_fu (show 0 < fx by omega), q_fu (show 0 < fy by omega)]
        generalize zzlp (sX4_heights_28 (nI a)) (fx - 1) = recx at ihA ⊢
        generalize zzlp (sX5_heights_22 (nI a) (uy.2 10 a)) (fy - 1) = recy at ihA ⊢
        unfold sX4_heights_28 sX5_heights_22
        dsimp only
        rw [if_neg (by rw [q_k9]; exact nI_nlt (by omega) (by omega)), if_neg (by rw [q_k9]; exact nI_nlt (by omega) (by omega)), q_pa (by omega) (by decide), q_pa (by omega) (by decide), q_cl (by omega), ex, ey, Option.bind_some, Option.bind_some, nI_1, Int32.or_zero]
        dsimp only
        split
        · exact ihA st
        · exact ihA _
    obtain ⟨r, wx', wy', ex, ey, hJ', hK'⟩ := key 10 0 rfl 0 w0 uy hJ0 (by rw [← hH, q_zs]; exact hX0) (by rw [q_zs]; exact q_K0 uy) zzFU zzFU (by decide) (by decide)
    exact ⟨r, wx', wy', ex, ey, q_RJK h hJ' hK'⟩
  · rw [q_has0 hx hw, q_isS0 hy hw]
    exact ⟨_, _, _, rfl, rfl, h⟩
theorem e_kinds (h : qR ux uy) (p0 : Int32) : qE (fX4_kinds ux p0) (fX5_kinds uy p0) := by
  obtain ⟨⟨d, hx, hy⟩, hrd, hrest⟩ := id h
  have h5 := hx.2.2.2.1
  unfold fX4_kinds fX5_kinds
  rcases q_who d p0 with ⟨a, ha, rfl⟩ | hw
  · have hn : 0 < d.1 := by omega
    obtain ⟨w0, e0, hJ0, hX0⟩ := q_become hx
    rw [q_has1 hx ha, q_isS1 hy ha]
    simp only [Option.bind_some, if_neg q_10]
    rw [e0, Option.bind_some, q_ga (by omega) (by decide)]
    have hH : w0.2 3 a = nI (d.2.2.2.1 a) := (hX0.2.2.2.2.2.2.2 a (by omega)).1
    have key : ∀ m v, v + m = 3 → ∀ (st : Int32) (wx wy : zzS), qJ ux wx → qX 1 (zza wx 3 a (nI (d.2.2.2.1 a))) d → qK uy (zza wy 8 a (uy.2 8 a)) → ∀ fx fy, m < fx → m < fy → ∃ (r : Int32) (wx' wy' : zzS), zzlp (sX4_kinds_28 (nI a)) fx (st, nI v, wx) = some (r, wx') ∧ zzlp (sX5_kinds_22 (nI a) (uy.2 8 a)) fy (st, nI v, wy) = some (r, wy') ∧ qJ ux wx' ∧ qK uy wy' := by
      intro m
      induction m with
      | zero =>
        intro v hv st wx wy hJ hX hK fx fy h1 h2
        refine ⟨st, wx, _, ?_, ?_, hJ, hK⟩
        · rw [q_fu (by omega)]
          unfold sX4_kinds_28
          dsimp only
          rw [if_pos (by rw [q_k2]; exact nI_lt (by omega) (by omega))]
        · rw [q_fu (by omega)]
          unfold sX5_kinds_22
          dsimp only
          rw [if_pos (by rw [q_k3]; exact nI_le (by omega) (by omega)), q_pa (by omega) (by decide), q_cl (by omega)]
      | succ m ih =>
        intro v hv st wx wy hJ hX hK fx fy h1 h2
        have hXv : qX 1 (zza wx 3 a (nI v)) (qdK d a v) := by
          have := q_SK hX a (v := v) (by omega)
          rw [← q_zz wx 3 a (nI (d.2.2.2.1 a)) (nI v)]
          exact this
        have hYv : qY (zza wy 8 a (nI v)) (qdK d a v) := by
          have := q_SK (q_YK hK hy) a (v := v) (by omega)
          rw [← q_zz wy 8 a (uy.2 8 a) (nI v)]
          exact this
        have hrd' : qRd (zza wx 3 a (nI v)) (zza wy 8 a (nI v)) := by
          have := q_rdJK hrd (q_Jz3 (r := 3) (a := a) (v := nI v) hJ (by omega)) hK
          exact this
        obtain ⟨b, wx1, wy1, ex, ey, hJ1, hK1⟩ := q_so hXv hYv hn hrd' ((hK.1 11 (by omega)).trans hrest.2.2.2)
        have hJ2 : qJ ux wx1 := q_Jt (q_Jz3 (r := 3) hJ (by omega)) (q_JsJ hJ1)
        have hX2 : qX 1 (zza wx1 3 a (nI (d.2.2.2.1 a))) d := q_X1s (q_Jz (nI (d.2.2.2.1 a)) hJ1) hX
        have hK2 : qK uy (zza wy1 8 a (uy.2 8 a)) := q_Kt hK (q_Kz (uy.2 8 a) hK1 (by omega))
        have ihA := fun st' => ih (v + 1) (by omega) st' wx1 wy1 hJ2 hX2 hK2 (fx - 1) (fy - 1) (by omega) (by omega)
        rw [q_fu (show 0 < fx by omega), q_fu (show 0 < fy by omega)]
        generalize zzlp (sX4_kinds_28 (nI a)) (fx - 1) = recx at ihA ⊢
        generalize zzlp (sX5_kinds_22 (nI a) (uy.2 8 a)) (fy - 1) = recy at ihA ⊢
        unfold sX4_kinds_28 sX5_kinds_22
        dsimp only
        rw [if_neg (by rw [q_k2]; exact nI_nlt (by omega) (by omega)), if_neg (by rw [q_k3]; exact nI_ge (by omega) (by omega)), q_pa (by omega) (by decide), q_pa (by omega) (by decide), q_cl (by omega), ex, ey, Option.bind_some, Option.bind_some, nI_1, Int32.or_zero]
        dsimp only
        split
        · exact ihA st
        · exact ihA _
    obtain ⟨r, wx', wy', ex, ey, hJ', hK'⟩ := key 3 0 rfl 0 w0 uy hJ0 (by rw [← hH, q_zs]; exact hX0) (by rw [q_zs]; exact q_K0 uy) zzFU zzFU (by decide) (by decide)
    exact ⟨r, wx', wy', ex, ey, q_RJK h hJ' hK'⟩
  · rw [q_has0 hx hw, q_isS0 hy hw]
    exact ⟨_, _, _, rfl, rfl, h⟩
theorem q_zzi (w : zzS) (k : Nat) (x y : Int32) : zzi (zzi w k x) k y = zzi w k y := by
  refine q_ext (fun b => ?_) (fun b => rfl)
  by_cases hb : b = k
  · simp [zzi, va_up, hb]
  · simp [zzi, va_up, hb]
theorem q_zsi (w : zzS) (k : Nat) : zzi w k (w.1 k) = w := by
  refine q_ext (fun b => ?_) (fun b => rfl)
  by_cases hb : b = k
  · simp [zzi, va_up, hb]
  · simp [zzi, va_up, hb]
theorem e_spans (h : qR ux uy) : qE (fX4_spans ux) (fX5_spans uy) := by
  obtain ⟨⟨d, hx, hy⟩, hrd, hrest⟩ := id h
  have h5 := hx.2.2.2.1
  unfold fX4_spans fX5_spans
  rw [q_laid hx, Option.bind_some]
  simp only [q_st0 hy]
  by_cases h0 : d.1 = 0
  · rw [if_pos h0, if_pos h0, if_pos rfl]
    exact ⟨_, _, _, rfl, rfl, h⟩
  · rw [if_neg h0, if_neg h0, if_neg q_10]
    have hn : 0 < d.1 := by omega
    obtain ⟨w0, e0, hJ0, hX0⟩ := q_become hx
    rw [e0, Option.bind_some]
    have key : ∀ m v, v + m = 10 → 0 < v → ∀ (st : Int32) (wx wy : zzS), qJ ux wx → qX 1 (zzi wx 4 (nI d.2.1)) d → qK uy (zzi wy 6 (uy.1 6)) → ∀ fx fy, m < fx → m < fy → ∃ (r : Int32) (wx' wy' : zzS), zzlp sX4_spans_28 fx (st, nI v, wx) = some (r, wx') ∧ zzlp (sX5_spans_19 uy) fy (st, nI v, wy) = some (r, wy') ∧ qJ ux wx' ∧ qK uy wy' := by
      intro m
      induction m with
      | zero =>
        intro v hv hv0 st wx wy hJ hX hK fx fy h1 h2
        refine ⟨st, wx, _, ?_, ?_, hJ, hK⟩
        · rw [q_fu (by omega)]
          unfold sX4_spans_28
          dsimp only
          rw [if_pos (by rw [q_k9]; exact nI_lt (by omega) (by omega))]
        · rw [q_fu (by omega)]
          unfold sX5_spans_19
          dsimp only
          rw [if_pos (by rw [q_k9]; exact nI_lt (by omega) (by omega))]
      | succ m ih =>
        intro v hv hv0 st wx wy hJ hX hK fx fy h1 h2
        have hXv : qX 1 (zzi wx 4 (nI v)) (qdS d v) := by
          have := q_SS hX (v := v) (by omega) hv0
          exact this
        have hYv : qY (zzi wy 6 (nI v)) (qdS d v) := by
          have := q_SS (q_YK hK hy) (v := v) (by omega) hv0
          exact this
        have hJz : ∀ x, qJ ux (zzi wx 4 x) := fun x => ⟨fun k hk => by
          have hk4 : ¬ k = 4 := by omega
          simp only [zzi, va_up, hk4, if_false]
          exact hJ.1 k hk, hJ.2⟩
        have hrd' : qRd (zzi wx 4 (nI v)) (zzi wy 6 (nI v)) := by
          have := q_rdJK hrd (hJz (nI v)) hK
          exact this
        obtain ⟨b, wx1, wy1, ex, ey, hJ1, hK1⟩ := q_so hXv hYv hn hrd' ((hK.1 11 (by omega)).trans hrest.2.2.2)
        have hJ2 : qJ ux wx1 := q_Jt (hJz _) (q_JsJ hJ1)
        have hX2 : qX 1 (zzi wx1 4 (nI d.2.1)) d := by
          refine q_X1s (u := zzi wx 4 (nI d.2.1)) ⟨fun k hk => ?_, hJ1.2⟩ hX
          have e := hJ1.1 k hk
          by_cases hk4 : k = 4
          · subst hk4; rfl
          · simp only [zzi, va_up, hk4, if_false] at e ⊢
            exact e
        have hK2 : qK uy (zzi wy1 6 (uy.1 6)) := by
          refine q_Kt hK ⟨fun k hk => ?_, hK1.2⟩
          have e := hK1.1 k hk
          by_cases hk4 : k = 6
          · subst hk4; rfl
          · simp only [zzi, va_up, hk4, if_false] at e ⊢
            exact e
        have ihA := fun st' => ih (v + 1) (by omega) (by omega) st' wx1 wy1 hJ2 hX2 hK2 (fx - 1) (fy - 1) (by omega) (by omega)
        rw [q_fu (show 0 < fx by omega), q_fu (show 0 < fy by omega)]
        generalize zzlp sX4_spans_28 (fx - 1) = recx at ihA ⊢
        generalize zzlp (sX5_spans_19 uy) (fy - 1) = recy at ihA ⊢
        unfold sX4_spans_28 sX5_spans_19
        dsimp only
        rw [if_neg (by rw [q_k9]; exact nI_nlt (by omega) (by omega)), if_neg (by rw [q_k9]; exact nI_nlt (by omega) (by omega)), ex, ey, Option.bind_some, Option.bind_some, nI_1, Int32.or_zero]
        dsimp only
        split
        · exact ihA st
        · exact ihA _
    obtain ⟨r, wx', wy', ex, ey, hJ', hK'⟩ := key 9 1 rfl (by decide) 0 w0 uy hJ0 (by rw [show nI d.2.1 = w0.1 4 from hX0.2.1.symm, q_zsi]; exact hX0) (by rw [q_zsi]; exact q_K0 uy) zzFU zzFU (by decide) (by decide)
    exact ⟨r, wx', wy', ex, ey, q_RJK h hJ' hK'⟩
end QP
