/-! ===== pure part 17: field ===== -/
theorem q_m100 (F q : Nat) : nI (F + q) - nI F = nI q := by
  rw [pk_sub (by omega)]; exact congrArg nI (by omega)
section QP
variable {ux uy : zzS}
theorem q_fieldM (h : qR ux uy) {j sz a m : Nat} (hj : j < 4) (hsz : sz ≤ 60) (hs : ux.1 (15 + 3 * j) = nI sz) (ham : a + m ≤ sz) (p1 : Int32) : qE ((fX4_firstFault j ux (nI a) (nI m)).bind (fun r34 => (if r34 = (-9 : Int32) then ((fX4_layField j ux (nI a) (nI m)).bind (fun r36 => (some ((r36.1 0), r36)))) else (some (((-100 : Int32) - r34), ux))))) ((fX5_readField (zzi uy 12 (((60 : Int32) * nI j) + nI a)) ((((60 : Int32) * nI j) + nI a) + nI m)).bind (fun r7 => (if r7.1 = 0 then (some (((-100 : Int32) - ((r7.2.1 12) - (((60 : Int32) * nI j) + nI a))), r7.2)) else (zzlp (sX5_field_111 (nI j) p1 (nI a) (nI m)) zzFU ((0 : Int32), (zzi (zzi (zzi r7.2 6 (r7.2.1 13)) 7 ((zzi r7.2 6 (r7.2.1 13)).1 14)) 5 ((zzi (zzi r7.2 6 (r7.2.1 13)) 7 ((zzi r7.2 6 (r7.2.1 13)).1 14)).1 15))))))) := by
  have hH := (q_Hj h hj).1
  have hc : ∀ k, k < m → (zzi uy 12 (nI (60 * j + a))).2 4 (60 * j + a + k) = ux.2 (8 + j) (a + k) := fun k hk => by
    show uy.2 4 (60 * j + a + k) = _
    rw [hH (a + k) (by omega)]
    exact congrArg (uy.2 4) (by omega)
  have hK0 : qK uy (zzi uy 12 (nI (60 * j + a))) := q_Ki (q_K0 uy) (by omega)
  rw [q_ix, nI_add]
  rcases q_rf (c := fun k => ux.2 (8 + j) (a + k)) hc (by omega) (show (zzi uy 12 (nI (60 * j + a))).1 12 = nI (60 * j + a) from rfl) with ⟨q, w', e, e12, hfl, hK⟩ | ⟨r, w', e, hr1, hr5, hm, hok, e13, e14, e15, hrows, hK⟩
  · have hf : fX4_firstFault j ux (nI a) (nI m) = some (nI q) := by
      obtain ⟨f1, f2, f3⟩ := hfl
      rcases f3 with ⟨rfl, f4⟩ | ⟨f4, f5⟩
      · have := (q_ffX hs hsz ham).2 f2
        rw [if_neg f4] at this
        exact this
      · exact (q_ffX hs hsz ham).1 q f4 f2 f5
    have hq : q < 100 := by have := hfl.1; omega
    rw [hf, e, Option.bind_some, Option.bind_some, if_neg (q_e5 q hq), if_pos rfl]
    dsimp only
    rw [e12, q_m100]
    exact ⟨_, _, _, rfl, rfl, q_RJK h (q_J0 ux) (q_Kt hK0 hK)⟩
  · have hf : fX4_firstFault j ux (nI a) (nI m) = some (-9 : Int32) := by
      have := (q_ffX hs hsz ham).2 hok
      rw [if_pos ⟨by omega, by omega⟩] at this
      exact this
    obtain ⟨wx, ex, x0, x1, x2, x10, xk, xr, xd⟩ := q_lay hs hsz ham hm hr1 hr5 hok
    rw [hf, e, Option.bind_some, Option.bind_some, if_pos rfl, ex, Option.bind_some]
    dsimp only
    rw [if_neg q_10]
    obtain ⟨wy, ey, y1, y2, yd⟩ := q_layY (u := zzi (zzi (zzi w' 6 (w'.1 13)) 7 ((zzi w' 6 (w'.1 13)).1 14)) 5 ((zzi (zzi w' 6 (w'.1 13)) 7 ((zzi w' 6 (w'.1 13)).1 14)).1 15)) hr5 (show w'.1 15 = nI r from e15) (nI j) p1 (nI a) (nI m)
    rw [ey, x0]
    refine ⟨_, _, _, rfl, rfl, ?_⟩
    have hKK := q_Kt hK0 hK
    have o1 : qoc 1 (ux.2 (8 + j) (a + 1)) = true := hok 1 (by omega)
    have o2 : qoc 2 (ux.2 (8 + j) (a + 2)) = true := hok 2 (by omega)
    obtain ⟨g1, g2, g3⟩ := q_dg1 (c := ux.2 (8 + j) (a + 1)) o1
    obtain ⟨g4, g5⟩ := q_dg (c := ux.2 (8 + j) (a + 2)) o2
    obtain ⟨⟨d, hx, hy⟩, hrd, ⟨hh0, hh1, hh2, hh3⟩, ht, hft, hi⟩ := h
    have hdg : ∀ b, b < r → qdg (ux.2 (8 + j) (a + (5 + 4 * b))) ≤ 9 ∧ qdg (ux.2 (8 + j) (a + (6 + 4 * b))) ≤ 9 := fun b hb => by
      have p2 : qoc (5 + 4 * b) (ux.2 (8 + j) (a + (5 + 4 * b))) = true := hok (5 + 4 * b) (by omega)
      have p3 : qoc (6 + 4 * b) (ux.2 (8 + j) (a + (6 + 4 * b))) = true := hok (6 + 4 * b) (by omega)
      rw [show 5 + 4 * b = 4 + 4 * b + 1 by omega, (q_oc1 (by omega) _).2.1] at p2
      rw [show 6 + 4 * b = 4 + 4 * b + 2 by omega, (q_oc1 (by omega) _).2.2.1] at p3
      rw [show 5 + 4 * b = 4 + 4 * b + 1 by omega, show 6 + 4 * b = 4 + 4 * b + 2 by omega]
      exact ⟨(q_dg p2).2, (q_dg p3).2⟩
    have yi : ∀ k, ¬ k = 5 → ¬ k = 6 → ¬ k = 7 → ¬ k = 26 → ¬ (12 ≤ k ∧ k ≤ 15 ∨ 20 ≤ k ∧ k ≤ 25) → (zzi wy 26 0).1 k = uy.1 k := fun k c5 c6 c7 c26 hk => by
      simp only [zzi, va_up, c26, if_false]
      rw [y1]
      simp only [zzi, va_up, c5, c6, c7, if_false]
      exact hKK.1 k hk
    have yr : ∀ k, k < 8 ∨ 10 < k → ¬ (16 ≤ k ∧ k ≤ 19 ∨ k = 24) → (zzi wy 26 0).2 k = uy.2 k := fun k hk hk2 => (y2 k hk).trans (hKK.2 k hk2)
    refine ⟨⟨(r, qdg (ux.2 (8 + j) (a + 1)), qdg (ux.2 (8 + j) (a + 2)), fun b => if b < r then qkl (ux.2 (8 + j) (a + (4 + 4 * b))) else d.2.2.2.1 b, fun b => if b < r then qdg (ux.2 (8 + j) (a + (5 + 4 * b))) else d.2.2.2.2.1 b, fun b => if b < r then qdg (ux.2 (8 + j) (a + (6 + 4 * b))) else d.2.2.2.2.2 b), ?_, ?_⟩, ?_, ?_, ?_, ?_, ?_⟩
    · refine ⟨x0, x1.trans g1, x2.trans g4, hr5, g2, g5, fun _ => g3, fun b hb => ?_⟩
      obtain ⟨z0, z1, z2, z3, z4, z5⟩ := hx.2.2.2.2.2.2.2 b hb
      dsimp only
      by_cases hbr : b < r
      · simp only [if_pos hbr]
        obtain ⟨v0, v1, v2⟩ := (xd b).1 hbr
        exact ⟨v0, v1, v2, q_klle _, (hdg b hbr).1, (hdg b hbr).2⟩
      · simp only [if_neg hbr]
        obtain ⟨v0, v1, v2⟩ := (xd b).2 hbr
        exact ⟨v0.trans z0, v1.trans z1, v2.trans z2, z3, z4, z5⟩
    · refine ⟨?_, ?_, ?_, hr5, g2, g5, fun _ => g3, fun b hb => ?_⟩
      · show wy.1 5 = _; rw [y1]; exact e15
      · show wy.1 6 = _; rw [y1]; exact e13
      · show wy.1 7 = _; rw [y1]; exact e14
      obtain ⟨z0, z1, z2, z3, z4, z5⟩ := hy.2.2.2.2.2.2.2 b hb
      dsimp only
      by_cases hbr : b < r
      · simp only [if_pos hbr]
        obtain ⟨v0, v1, v2⟩ := (yd b).1 hbr
        obtain ⟨t0, t1, t2⟩ := hrows b hbr
        exact ⟨v0.trans t0, v1.trans t1, v2.trans t2, q_klle _, (hdg b hbr).1, (hdg b hbr).2⟩
      · simp only [if_neg hbr]
        obtain ⟨v0, v1, v2⟩ := (yd b).2 hbr
        refine ⟨v0.trans ?_, v1.trans ?_, v2.trans ?_, z3, z4, z5⟩
        · show w'.2 8 b = _; rw [hKK.2 8 (by omega)]; exact z0
        · show w'.2 9 b = _; rw [hKK.2 9 (by omega)]; exact z1
        · show w'.2 10 b = _; rw [hKK.2 10 (by omega)]; exact z2
    · refine ⟨⟨0, by omega, x10, rfl⟩, ?_⟩
      rw [xr 6 (by omega), xr 7 (by omega), yr 27 (by omega) (by omega), yr 28 (by omega) (by omega)]
      exact hrd.2
    · have hq : ∀ t, qH ux uy t → qH wx (zzi wy 26 0) t := fun t ht => by
        unfold qH at ht ⊢
        rw [xr (8 + t) (by omega), xk (13 + 3 * t) (by omega) (by omega), xk (14 + 3 * t) (by omega) (by omega), xk (15 + 3 * t) (by omega) (by omega), yr 4 (by omega) (by omega), yr 2 (by omega) (by omega), yr 3 (by omega) (by omega)]
        exact ht
      exact ⟨hq 0 hh0, hq 1 hh1, hq 2 hh2, hq 3 hh3⟩
    · rw [xk 11 (by omega) (by omega), yi 1 (by omega) (by omega) (by omega) (by omega) (by omega)]; exact ht
    · rw [xk 12 (by omega) (by omega), yi 0 (by omega) (by omega) (by omega) (by omega) (by omega)]; exact hft
    · rw [yi 11 (by omega) (by omega) (by omega) (by omega) (by omega)]; exact hi
theorem e_field (h : qR ux uy) (p0 p1 p2 p3 : Int32) : qE (fX4_field ux p0 p1 p2 p3) (fX5_field uy p0 p1 p2 p3) := by
  have h0 := q_R0 h 0
  unfold fX4_field fX5_field
  rcases q_shk p0 with ⟨j, hj, rfl, e1, e2⟩ | ⟨e1, e2⟩
  · rw [e1, e2, Option.bind_some, if_neg q_10]
    simp only [zzop]
    rcases q_lane p1 with ⟨⟨l2, l3, rfl⟩, e5, e6⟩ | ⟨e5, e6⟩
    · rw [e5, e6, Option.bind_some, Option.bind_some, if_neg q_10, if_neg q_10]
      rcases q_ag h0 hj l3 p2 p3 with ⟨f, hf, g1, g2⟩ | ⟨g1, sz, hsz, hs, g2⟩
      · have hf0 : ¬ f = 0 := by rcases hf with rfl | rfl <;> decide
        rw [g1, g2, Option.bind_some, Option.bind_some, if_neg hf0, if_neg hf0, if_neg hf0, if_neg hf0]
        exact ⟨_, _, _, rfl, rfl, q_R0 h0 f⟩
      · rw [g1, Option.bind_some, if_pos rfl]
        rcases g2 with ⟨b1, b2⟩ | ⟨b0, b1, b2⟩ | ⟨a, m, rfl, rfl, ham, b1, b2⟩
        · rw [b2, if_neg (show ¬ (0 : Int32) ≤ p3 from fun hh => (q_ge.mpr hh) b1), Option.bind_some, if_neg (show ¬ (4 : Int32) = 0 by decide), if_neg (show ¬ (4 : Int32) = 0 by decide), if_neg (show ¬ (4 : Int32) = 0 by decide)]
          exact ⟨_, _, _, rfl, rfl, q_R0 h0 4⟩
        · rw [b1, b2, if_pos (q_ge.mp b0), Option.bind_some, if_pos rfl, Option.bind_some, if_pos rfl, if_neg (show ¬ (3 : Int32) = 0 by decide), if_neg (show ¬ (3 : Int32) = 0 by decide)]
          exact ⟨_, _, _, rfl, rfl, q_R0 h0 3⟩
        · rw [b1, b2, Option.bind_some, if_pos rfl]
          by_cases hp : (0 : Int32) ≤ nI m
          · rw [if_pos hp, if_pos rfl, Option.bind_some, if_neg q_10, if_pos rfl]
            exact q_fieldM h0 hj hsz hs ham (nI l2)
          · exact absurd (nI_pos' (show m < 2 ^ 31 by omega)) hp
    · rw [e5, e6]
      exact ⟨_, _, _, rfl, rfl, h0⟩
  · rw [e1, e2]
    exact ⟨_, _, _, rfl, rfl, h0⟩
end QP
