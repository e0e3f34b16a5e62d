/-! ===== pure part 3: the relation of the two states; plain methods ===== -/
def qH (ux uy : zzS) (j : Nat) : Prop := (∀ i, i < 60 → ux.2 (8 + j) i = uy.2 4 (60 * j + i)) ∧ ((ux.1 (13 + 3 * j) = 0 ∧ uy.2 2 j = -9) ∨ (ux.1 (13 + 3 * j) = 1 ∧ ∃ l sz : Nat, l ≤ 2 ∧ sz ≤ 60 ∧ uy.2 2 j = nI l ∧ ux.1 (14 + 3 * j) = nI l ∧ ux.1 (15 + 3 * j) = nI sz ∧ uy.2 3 j = nI sz))
def qRd (ux uy : zzS) : Prop := (∃ rn : Nat, rn ≤ 8 ∧ ux.1 10 = nI rn ∧ uy.1 26 = nI rn) ∧ ∀ k, k < 8 → ux.2 6 k = uy.2 27 k ∧ ux.2 7 k = uy.2 28 k ∧ ∃ s : Nat, s ≤ 3 ∧ ux.2 6 k = nI s
def qR (ux uy : zzS) : Prop := (∃ d, qX 0 ux d ∧ qY uy d) ∧ qRd ux uy ∧ (qH ux uy 0 ∧ qH ux uy 1 ∧ qH ux uy 2 ∧ qH ux uy 3) ∧ ux.1 11 = uy.1 1 ∧ ux.1 12 = uy.1 0 ∧ uy.1 11 = nI 0
theorem q_Hj {ux uy : zzS} (h : qR ux uy) {j : Nat} (hj : j < 4) : qH ux uy j := by
  match j, hj with
  | 0, _ => exact h.2.2.1.1
  | 1, _ => exact h.2.2.1.2.1
  | 2, _ => exact h.2.2.1.2.2.1
  | 3, _ => exact h.2.2.1.2.2.2
def qJ (u w : zzS) : Prop := (∀ k, k < 3 ∨ 9 < k → w.1 k = u.1 k) ∧ (∀ k, k < 3 ∨ 5 < k → w.2 k = u.2 k)
def qK (u w : zzS) : Prop := (∀ k, ¬ (12 ≤ k ∧ k ≤ 15 ∨ 20 ≤ k ∧ k ≤ 25) → w.1 k = u.1 k) ∧ (∀ k, ¬ (16 ≤ k ∧ k ≤ 19 ∨ k = 24) → w.2 k = u.2 k)
theorem q_J0 (u : zzS) : qJ u u := ⟨fun _ _ => rfl, fun _ _ => rfl⟩
theorem q_K0 (u : zzS) : qK u u := ⟨fun _ _ => rfl, fun _ _ => rfl⟩
theorem q_Jt {u v w : zzS} (h1 : qJ u v) (h2 : qJ v w) : qJ u w := ⟨fun k hk => (h2.1 k hk).trans (h1.1 k hk), fun k hk => (h2.2 k hk).trans (h1.2 k hk)⟩
theorem q_Kt {u v w : zzS} (h1 : qK u v) (h2 : qK v w) : qK u w := ⟨fun k hk => (h2.1 k hk).trans (h1.1 k hk), fun k hk => (h2.2 k hk).trans (h1.2 k hk)⟩
theorem q_XJ {u w : zzS} {d : qD} (h : qJ u w) (hq : qX 0 u d) : qX 0 w d := by
  have a0 := h.1 0 (by omega)
  have a1 := h.1 1 (by omega)
  have a2 := h.1 2 (by omega)
  have b0 := h.2 0 (by omega)
  have b1 := h.2 1 (by omega)
  have b2 := h.2 2 (by omega)
  show qS (w.1 0) (w.1 1) (w.1 2) (w.2 0) (w.2 1) (w.2 2) d
  rw [a0, a1, a2, b0, b1, b2]
  exact hq
theorem q_YK {u w : zzS} {d : qD} (h : qK u w) (hq : qY u d) : qY w d := by
  have a0 := h.1 5 (by omega)
  have a1 := h.1 6 (by omega)
  have a2 := h.1 7 (by omega)
  have b0 := h.2 8 (by omega)
  have b1 := h.2 9 (by omega)
  have b2 := h.2 10 (by omega)
  show qS (w.1 5) (w.1 6) (w.1 7) (w.2 8) (w.2 9) (w.2 10) d
  rw [a0, a1, a2, b0, b1, b2]
  exact hq
theorem q_HJK {ux uy wx wy : zzS} (h1 : qJ ux wx) (h2 : qK uy wy) (j : Nat) (h : qH ux uy j) : qH wx wy j := by
  unfold qH at h ⊢
  rw [h1.2 (8 + j) (by omega), h1.1 (13 + 3 * j) (by omega), h1.1 (14 + 3 * j) (by omega), h1.1 (15 + 3 * j) (by omega), h2.2 4 (by omega), h2.2 2 (by omega), h2.2 3 (by omega)]
  exact h
theorem q_RJK {ux uy wx wy : zzS} (h : qR ux uy) (h1 : qJ ux wx) (h2 : qK uy wy) : qR wx wy := by
  obtain ⟨⟨d, hx, hy⟩, hr, ⟨g0, g1, g2, g3⟩, ht, hf, hi⟩ := h
  refine ⟨⟨d, q_XJ h1 hx, q_YK h2 hy⟩, ?_, ⟨q_HJK h1 h2 0 g0, q_HJK h1 h2 1 g1, q_HJK h1 h2 2 g2, q_HJK h1 h2 3 g3⟩, ?_, ?_, ?_⟩
  · unfold qRd at hr ⊢
    rw [h1.1 10 (by omega), h1.2 6 (by omega), h1.2 7 (by omega), h2.1 26 (by omega), h2.2 27 (by omega), h2.2 28 (by omega)]
    exact hr
  · rw [h1.1 11 (by omega), h2.1 1 (by omega)]; exact ht
  · rw [h1.1 12 (by omega), h2.1 0 (by omega)]; exact hf
  · rw [h2.1 11 (by omega)]; exact hi
theorem q_Jw (u : zzS) (c : Nat × Nat × Nat) (n : Nat) : qJ u (qwn u c n) := by
  refine ⟨fun k hk => ?_, fun k hk => rfl⟩
  have a : ¬ k = 6 := by omega
  have b : ¬ k = 7 := by omega
  have e : ¬ k = 8 := by omega
  have f : ¬ k = 9 := by omega
  simp [qwn, qw, zzi, va_up, a, b, e, f]
theorem q_Kv (u : zzS) (c : Nat × Nat × Nat) (n : Nat) (dk : Nat → Int32) : qK u (qv u c n dk) := by
  refine ⟨fun k hk => ?_, fun k hk => ?_⟩
  · have a : ¬ k = 20 := by omega
    have b : ¬ k = 21 := by omega
    have e : ¬ k = 22 := by omega
    have f : ¬ k = 23 := by omega
    simp [qv, a, b, e, f]
  · have a : ¬ k = 19 := by omega
    simp [qv, a]
/-- the two sides answer the same, and stay related -/
def qE {α : Type} (rx ry : Option (α × zzS)) : Prop := ∃ (r : α) (ux' uy' : zzS), rx = some (r, ux') ∧ ry = some (r, uy') ∧ qR ux' uy'
def qE0 (rx ry : Option Int32) : Prop := ∃ r : Int32, rx = some r ∧ ry = some r
-- ranges of an argument
theorem q_rng (p : Int32) (lo hi : Nat) (hh : hi < 2 ^ 31) (hl : lo < 2 ^ 31) : (∃ v : Nat, lo ≤ v ∧ v ≤ hi ∧ p = nI v) ∨ (p < nI lo ∨ nI hi < p) := by
  by_cases h1 : p < nI lo
  · exact Or.inr (Or.inl h1)
  · by_cases h2 : nI hi < p
    · exact Or.inr (Or.inr h2)
    · left
      have h0 : ¬ p < 0 := by
        intro h
        apply h1
        rw [Int32.lt_iff_toInt_lt] at h ⊢
        rw [nI_toInt hl]
        have : (0 : Int32).toInt = 0 := by decide
        omega
      obtain ⟨k, hk, rfl⟩ := nI_of h0
      rw [nI_ltI hk hl] at h1
      rw [nI_ltI hh hk] at h2
      exact ⟨k, by omega, by omega, rfl⟩
theorem q_win (p a b : Int32) : fX5_within p a b = some (if p < a ∨ b < p then 0 else 1) := by
  unfold fX5_within
  by_cases h1 : p < a
  · rw [if_pos h1, if_pos (Or.inl h1)]
  · rw [if_neg h1]
    by_cases h2 : b < p
    · rw [if_pos h2, if_pos (Or.inr h2)]
    · rw [if_neg h2, if_neg (by rintro (h | h); exact h1 h; exact h2 h)]
theorem q_10 : ¬ (1 : Int32) = 0 := by decide
theorem q_sun (p : Int32) : ((∃ s : Nat, 1 ≤ s ∧ s ≤ 3 ∧ p = nI s) ∧ fX4_isSun p = some 1 ∧ fX5_isSun p = some 1) ∨ (fX4_isSun p = some 0 ∧ fX5_isSun p = some 0) := by
  have e : ∀ s, s < 4 → 1 ≤ s → fX4_isSun (nI s) = some 1 ∧ fX5_isSun (nI s) = some 1 := by decide +kernel
  rcases q_rng p 1 3 (by decide) (by decide) with ⟨v, h1, h2, rfl⟩ | h
  · exact Or.inl ⟨⟨v, h1, h2, rfl⟩, e v (by omega) h1⟩
  · right
    unfold fX5_isSun fX4_isSun
    rw [q_win, if_pos (show p < (1 : Int32) ∨ (3 : Int32) < p from h)]
    refine ⟨?_, rfl⟩
    by_cases h1 : p < nI 1
    · rw [if_pos (show p < (1 : Int32) from h1)]
    · rw [if_neg (show ¬ p < (1 : Int32) from h1), if_pos (show (3 : Int32) < p from h.resolve_left h1)]
theorem q_dig (p : Int32) : ((∃ v : Nat, v ≤ 9 ∧ p = nI v) ∧ fX4_isDigit p = some 1 ∧ fX5_isDigit p = some 1) ∨ (fX4_isDigit p = some 0 ∧ fX5_isDigit p = some 0) := by
  have e : ∀ s, s < 10 → fX4_isDigit (nI s) = some 1 ∧ fX5_isDigit (nI s) = some 1 := by decide +kernel
  rcases q_rng p 0 9 (by decide) (by decide) with ⟨v, h1, h2, rfl⟩ | h
  · exact Or.inl ⟨⟨v, h2, rfl⟩, e v (by omega)⟩
  · right
    unfold fX5_isDigit fX4_isDigit
    rw [q_win, if_pos (show p < (0 : Int32) ∨ (9 : Int32) < p from h)]
    refine ⟨?_, rfl⟩
    by_cases h1 : p < nI 0
    · rw [if_pos (show p < (0 : Int32) from h1)]
    · rw [if_neg (show ¬ p < (0 : Int32) from h1), if_pos (show (9 : Int32) < p from h.resolve_left h1)]
theorem q_lane (p : Int32) : ((∃ v : Nat, v ≤ 2 ∧ p = nI v) ∧ fX4_isLane p = some 1 ∧ fX5_isSort p = some 1) ∨ (fX4_isLane p = some 0 ∧ fX5_isSort p = some 0) := by
  have e : ∀ s, s < 3 → fX4_isLane (nI s) = some 1 ∧ fX5_isSort (nI s) = some 1 := by decide +kernel
  rcases q_rng p 0 2 (by decide) (by decide) with ⟨v, h1, h2, rfl⟩ | h
  · exact Or.inl ⟨⟨v, h2, rfl⟩, e v (by omega)⟩
  · right
    unfold fX5_isSort fX4_isLane
    rw [q_win, if_pos (show p < (0 : Int32) ∨ (2 : Int32) < p from h)]
    refine ⟨?_, rfl⟩
    by_cases h1 : p < nI 0
    · rw [if_pos (show p < (0 : Int32) from h1)]
    · rw [if_neg (show ¬ p < (0 : Int32) from h1), if_pos (show (2 : Int32) < p from h.resolve_left h1)]
theorem q_shk (p : Int32) : (∃ j : Nat, j < 4 ∧ p = nI j ∧ fX4_sheetAt p = some j ∧ fX5_isSheet p = some 1) ∨ (fX4_sheetAt p = none ∧ fX5_isSheet p = some 0) := by
  have e : ∀ s, s < 4 → fX4_sheetAt (nI s) = some s ∧ fX5_isSheet (nI s) = some 1 := by decide +kernel
  rcases q_rng p 0 3 (by decide) (by decide) with ⟨v, h1, h2, rfl⟩ | h
  · exact Or.inl ⟨v, by omega, rfl, e v (by omega)⟩
  · right
    unfold fX5_isSheet fX4_sheetAt
    rw [q_win, if_pos (show p < (0 : Int32) ∨ (3 : Int32) < p from h)]
    refine ⟨?_, rfl⟩
    by_cases h1 : p < nI 0
    · rw [if_pos (show p < (0 : Int32) from h1)]
    · rw [if_neg (show ¬ p < (0 : Int32) from h1), if_pos]
      have h2 := h.resolve_left h1
      rw [Int32.le_iff_toInt_le]
      rw [Int32.lt_iff_toInt_lt] at h2
      have e3 : (nI 3).toInt = 3 := by decide
      have e4 : (4 : Int32).toInt = 4 := by decide
      omega
theorem q_who (d : qD) (p : Int32) : (∃ a : Nat, a < d.1 ∧ p = nI a) ∨ (∀ a, a < d.1 → p ≠ nI a) := by
  by_cases h : ∃ a : Nat, a < d.1 ∧ p = nI a
  · exact Or.inl h
  · exact Or.inr (fun a ha e => h ⟨a, ha, e⟩)
section QP
variable {ux uy : zzS}
theorem e_trace (h : qR ux uy) : qE0 (fX4_trace ux) (fX5_trace uy) := ⟨_, rfl, by unfold fX5_trace; rw [h.2.2.2.1]⟩
theorem e_fault (h : qR ux uy) : qE0 (fX4_fault ux) (fX5_fault uy) := ⟨_, rfl, by unfold fX5_fault; rw [h.2.2.2.2.1]⟩
theorem e_many (h : qR ux uy) (p0 : Int32) : qE0 (fX4_many ux p0) (fX5_many uy p0) := by
  obtain ⟨⟨d, hx, hy⟩, ⟨⟨rn, hr, r1, r2⟩, -⟩, -⟩ := h
  have e0 : ux.1 0 = uy.1 5 := hx.1.trans hy.1.symm
  have e1 : ux.1 1 = uy.1 6 := hx.2.1.trans hy.2.1.symm
  have e2 : ux.1 2 = uy.1 7 := hx.2.2.1.trans hy.2.2.1.symm
  unfold fX4_many fX5_many
  rw [e0, e1, e2, r1, r2]
  split
  · exact ⟨_, rfl, rfl⟩
  · split
    · exact ⟨_, rfl, rfl⟩
    · split
      · exact ⟨_, rfl, rfl⟩
      · split
        · exact ⟨_, rfl, rfl⟩
        · exact ⟨_, rfl, rfl⟩
theorem e_ofStander (h : qR ux uy) (p0 p1 : Int32) : qE0 (fX4_ofStander ux p0 p1) (fX5_ofStander uy p0 p1) := by
  obtain ⟨⟨d, hx, hy⟩, -⟩ := h
  have h5 := hx.2.2.2.1
  unfold fX4_ofStander fX5_ofStander
  rcases q_who d p0 with ⟨a, ha, rfl⟩ | hw
  · obtain ⟨x0, x1, x2, -⟩ := hx.2.2.2.2.2.2.2 a (by omega)
    obtain ⟨y0, y1, y2, -⟩ := hy.2.2.2.2.2.2.2 a (by omega)
    rw [q_has1 hx ha, q_isS1 hy ha, Option.bind_some, Option.bind_some, if_neg q_10, if_neg q_10]
    simp only [q_ga (show a < 5 by omega) (show 5 < 1000 by decide)]
    rw [y0, y1, y2]
    rw [show ux.2 0 a = nI (d.2.2.2.1 a) from x0, show ux.2 1 a = nI (d.2.2.2.2.1 a) from x1, show ux.2 2 a = nI (d.2.2.2.2.2 a) from x2]
    split
    · exact ⟨_, rfl, rfl⟩
    · split
      · exact ⟨_, rfl, rfl⟩
      · split
        · exact ⟨_, rfl, rfl⟩
        · exact ⟨_, rfl, rfl⟩
  · rw [q_has0 hx hw, q_isS0 hy hw]
    exact ⟨_, rfl, rfl⟩
theorem e_shade (h : qR ux uy) (p0 p1 : Int32) : qE0 (fX4_shade ux p0 p1) (fX5_shade uy p0 p1) := by
  obtain ⟨⟨d, hx, hy⟩, -⟩ := h
  have h5 := hx.2.2.2.1
  unfold fX4_shade fX5_shade
  rcases q_who d p0 with ⟨a, ha, rfl⟩ | hw
  · rw [q_has1 hx ha, q_isS1 hy ha, Option.bind_some, Option.bind_some, if_neg q_10, if_neg q_10]
    rcases q_sun p1 with ⟨⟨s, s1, s2, rfl⟩, e1, e2⟩ | ⟨e1, e2⟩
    · rw [e1, e2, Option.bind_some, Option.bind_some, if_neg q_10, if_neg q_10, q_shX hx ha s2, q_shY hy (by omega) s2]
      exact ⟨_, rfl, rfl⟩
    · rw [e1, e2]
      exact ⟨_, rfl, rfl⟩
  · rw [q_has0 hx hw, q_isS0 hy hw]
    exact ⟨_, rfl, rfl⟩
theorem e_walk (h : qR ux uy) (p0 p1 : Int32) : qE (fX4_walk ux p0 p1) (fX5_walk uy p0 p1) := by
  obtain ⟨⟨d, hx, hy⟩, hr⟩ := id h
  have h5 := hx.2.2.2.1
  unfold fX4_walk fX5_walk
  rcases q_who d p0 with ⟨a, ha, rfl⟩ | hw
  · rw [q_has1 hx ha, q_isS1 hy ha, Option.bind_some, Option.bind_some, if_neg q_10, if_neg q_10]
    rcases q_dig p1 with ⟨⟨v, v1, rfl⟩, e1, e2⟩ | ⟨e1, e2⟩
    · rw [e1, e2, Option.bind_some, Option.bind_some, if_neg q_10, if_neg q_10]
      simp only [q_ga (show a < 5 by omega) (show 5 < 1000 by decide), q_pa (show a < 5 by omega) (show 5 < 1000 by decide), q_cl (show a < 2 ^ 31 by omega)]
      have x1 : ux.2 1 a = nI (d.2.2.2.2.1 a) := (hx.2.2.2.2.2.2.2 a (by omega)).2.1
      have y1 : uy.2 9 a = nI (d.2.2.2.2.1 a) := (hy.2.2.2.2.2.2.2 a (by omega)).2.1
      rw [x1, y1]
      refine ⟨_, _, _, rfl, rfl, ⟨(d.1, d.2.1, d.2.2.1, d.2.2.2.1, va_up d.2.2.2.2.1 a v, d.2.2.2.2.2), ⟨hx.1, hx.2.1, hx.2.2.1, hx.2.2.2.1, hx.2.2.2.2.1, hx.2.2.2.2.2.1, hx.2.2.2.2.2.2.1, fun b hb => ?_⟩, ⟨hy.1, hy.2.1, hy.2.2.1, hy.2.2.2.1, hy.2.2.2.2.1, hy.2.2.2.2.2.1, hy.2.2.2.2.2.2.1, fun b hb => ?_⟩⟩, hr⟩
      · obtain ⟨c0, c1, c2, c3, c4, c5⟩ := hx.2.2.2.2.2.2.2 b hb
        refine ⟨c0, ?_, c2, c3, ?_, c5⟩
        · show upd (ux.2 1) a (nI v) b = nI (va_up d.2.2.2.2.1 a v b)
          unfold upd va_up
          split
          · rfl
          · exact c1
        · show va_up d.2.2.2.2.1 a v b ≤ 9
          unfold va_up
          split
          · exact v1
          · exact c4
      · obtain ⟨c0, c1, c2, c3, c4, c5⟩ := hy.2.2.2.2.2.2.2 b hb
        refine ⟨c0, ?_, c2, c3, ?_, c5⟩
        · show upd (uy.2 9) a (nI v) b = nI (va_up d.2.2.2.2.1 a v b)
          unfold upd va_up
          split
          · rfl
          · exact c1
        · show va_up d.2.2.2.2.1 a v b ≤ 9
          unfold va_up
          split
          · exact v1
          · exact c4
    · rw [e1, e2]
      exact ⟨_, _, _, rfl, rfl, h⟩
  · rw [q_has0 hx hw, q_isS0 hy hw]
    exact ⟨_, _, _, rfl, rfl, h⟩
theorem e_grow (h : qR ux uy) (p0 p1 : Int32) : qE (fX4_grow ux p0 p1) (fX5_grow uy p0 p1) := by
  obtain ⟨⟨d, hx, hy⟩, hr⟩ := id h
  have h5 := hx.2.2.2.1
  unfold fX4_grow fX5_grow
  rcases q_who d p0 with ⟨a, ha, rfl⟩ | hw
  · rw [q_has1 hx ha, q_isS1 hy ha, Option.bind_some, Option.bind_some, if_neg q_10, if_neg q_10]
    rcases q_dig p1 with ⟨⟨v, v1, rfl⟩, e1, e2⟩ | ⟨e1, e2⟩
    · rw [e1, e2, Option.bind_some, Option.bind_some, if_neg q_10, if_neg q_10]
      simp only [q_ga (show a < 5 by omega) (show 5 < 1000 by decide), q_pa (show a < 5 by omega) (show 5 < 1000 by decide), q_cl (show a < 2 ^ 31 by omega)]
      have x1 : ux.2 2 a = nI (d.2.2.2.2.2 a) := (hx.2.2.2.2.2.2.2 a (by omega)).2.2.1
      have y1 : uy.2 10 a = nI (d.2.2.2.2.2 a) := (hy.2.2.2.2.2.2.2 a (by omega)).2.2.1
      rw [x1, y1]
      refine ⟨_, _, _, rfl, rfl, ⟨(d.1, d.2.1, d.2.2.1, d.2.2.2.1, d.2.2.2.2.1, va_up d.2.2.2.2.2 a v), ⟨hx.1, hx.2.1, hx.2.2.1, hx.2.2.2.1, hx.2.2.2.2.1, hx.2.2.2.2.2.1, hx.2.2.2.2.2.2.1, fun b hb => ?_⟩, ⟨hy.1, hy.2.1, hy.2.2.1, hy.2.2.2.1, hy.2.2.2.2.1, hy.2.2.2.2.2.1, hy.2.2.2.2.2.2.1, fun b hb => ?_⟩⟩, hr⟩
      · obtain ⟨c0, c1, c2, c3, c4, c5⟩ := hx.2.2.2.2.2.2.2 b hb
        refine ⟨c0, c1, ?_, c3, c4, ?_⟩
        · show upd (ux.2 2) a (nI v) b = nI (va_up d.2.2.2.2.2 a v b)
          unfold upd va_up
          split
          · rfl
          · exact c2
        · show va_up d.2.2.2.2.2 a v b ≤ 9
          unfold va_up
          split
          · exact v1
          · exact c5
      · obtain ⟨c0, c1, c2, c3, c4, c5⟩ := hy.2.2.2.2.2.2.2 b hb
        refine ⟨c0, c1, ?_, c3, c4, ?_⟩
        · show upd (uy.2 10) a (nI v) b = nI (va_up d.2.2.2.2.2 a v b)
          unfold upd va_up
          split
          · rfl
          · exact c2
        · show va_up d.2.2.2.2.2 a v b ≤ 9
          unfold va_up
          split
          · exact v1
          · exact c5
    · rw [e1, e2]
      exact ⟨_, _, _, rfl, rfl, h⟩
  · rw [q_has0 hx hw, q_isS0 hy hw]
    exact ⟨_, _, _, rfl, rfl, h⟩
theorem q_st0 {u : zzS} {d : qD} (hy : qY u d) : (u.1 5 = 0) ↔ d.1 = 0 := by
  have h5 := hy.2.2.2.1
  rw [hy.1, q_k0, nI_eq (by omega) (by omega)]
theorem e_build (h : qR ux uy) (p0 : Int32) : qE (fX4_build ux p0) (fX5_build uy p0) := by
  obtain ⟨⟨d, hx, hy⟩, hr⟩ := id h
  unfold fX4_build fX5_build
  rcases q_dig p0 with ⟨⟨v, v1, rfl⟩, e1, e2⟩ | ⟨e1, e2⟩
  · rw [e1, e2, Option.bind_some, Option.bind_some, if_neg q_10, if_neg q_10, q_laid hx, Option.bind_some]
    simp only [q_st0 hy]
    by_cases h0 : d.1 = 0
    · rw [if_pos h0, if_pos h0, if_pos rfl]
      exact ⟨_, _, _, rfl, rfl, h⟩
    · rw [if_neg h0, if_neg h0, if_neg (by decide)]
      have x1 : ux.1 2 = uy.1 7 := hx.2.2.1.trans hy.2.2.1.symm
      rw [x1]
      exact ⟨_, _, _, rfl, rfl, ⟨(d.1, d.2.1, v, d.2.2.2), ⟨hx.1, hx.2.1, rfl, hx.2.2.2.1, hx.2.2.2.2.1, v1, hx.2.2.2.2.2.2.1, hx.2.2.2.2.2.2.2⟩, ⟨hy.1, hy.2.1, rfl, hy.2.2.2.1, hy.2.2.2.2.1, v1, hy.2.2.2.2.2.2.1, hy.2.2.2.2.2.2.2⟩⟩, hr⟩
  · rw [e1, e2]
    exact ⟨_, _, _, rfl, rfl, h⟩
theorem q_refA {u : zzS} {d : qD} (hx : qX 0 u d) {s : Nat} (e1 : fX4_isSun (nI s) = some 1) : fX4_refusalAt u (nI s) = some (if d.1 = 0 then -3 else 0) := by
  unfold fX4_refusalAt
  rw [e1, Option.bind_some, if_neg (by decide), q_laid hx, Option.bind_some]
  by_cases h0 : d.1 = 0
  · rw [if_pos h0, if_pos h0, if_pos rfl]
  · rw [if_neg h0, if_neg h0, if_neg (by decide)]
theorem q_refB {u : zzS} {p0 : Int32} (e1 : fX4_isSun p0 = some 0) : fX4_refusalAt u p0 = some (-2) := by
  unfold fX4_refusalAt
  rw [e1]
  rfl
theorem e_hidden (h : qR ux uy) (p0 : Int32) : qE0 (fX4_hidden ux p0) (fX5_hidden uy p0) := by
  obtain ⟨⟨d, hx, hy⟩, hr⟩ := id h
  unfold fX4_hidden fX5_hidden
  rcases q_sun p0 with ⟨⟨s, s1, s2, rfl⟩, e1, e2⟩ | ⟨e1, e2⟩
  · rw [q_refA hx e1, e2, Option.bind_some, Option.bind_some, if_neg (show ¬ (1 : Int32) = 0 by decide)]
    simp only [q_st0 hy]
    by_cases h0 : d.1 = 0
    · rw [if_pos h0, if_pos h0]
      exact ⟨_, rfl, rfl⟩
    · rw [if_neg h0, if_neg h0, if_pos rfl, q_hidX hx s2, q_hidY hy s2]
      exact ⟨_, rfl, rfl⟩
  · rw [q_refB e1, e2]
    exact ⟨_, rfl, rfl⟩
theorem q_ev (n : Nat) (h : n ≤ 5) : 2 ^ n - 1 < 32 := by
  have : 2 ^ n ≤ 2 ^ 5 := Nat.pow_le_pow_right (by decide) h
  omega
/-- all are out, seen by either side -/
theorem q_all {d : qD} {s : Nat} {o o' : Nat → Bool} (h : ∀ a, a < d.1 → o a = o' a) : qdk d s o d.1 = qdk d s o' d.1 := by
  have : ∀ n, (∀ a, a < n → o a = o' a) → qdk d s o n = qdk d s o' n := by
    intro n
    induction n with
    | zero => intro _; rfl
    | succ n ih =>
      intro hh
      funext f
      rw [qdk, qdk, ih (fun a ha => hh a (by omega))]
      unfold qon
      rw [hh n (by omega)]
  exact this d.1 h
theorem q_evo {d : qD} {s : Nat} : qdk d s (fun a => (2 ^ d.1 - 1).testBit a) d.1 = qdk d s (fun a => !(0 : Nat).testBit a) d.1 := q_all (fun a ha => by simp [Nat.testBit_two_pow_sub_one, ha])
theorem q_evC (d : qD) (s : Nat) : qCn d s (fun a => (2 ^ d.1 - 1).testBit a) = qCn d s (fun a => !(0 : Nat).testBit a) ∧ qNd d s (fun a => (2 ^ d.1 - 1).testBit a) = qNd d s (fun a => !(0 : Nat).testBit a) := by
  unfold qCn qNd
  rw [q_evo]
  exact ⟨rfl, rfl⟩
theorem e_census (h : qR ux uy) (p0 : Int32) : qE (fX4_census ux p0) (fX5_census uy p0) := by
  obtain ⟨⟨d, hx, hy⟩, hr⟩ := id h
  unfold fX4_census fX5_census
  rcases q_sun p0 with ⟨⟨s, s1, s2, rfl⟩, e1, e2⟩ | ⟨e1, e2⟩
  · rw [q_refA hx e1, e2, Option.bind_some, Option.bind_some, if_neg (show ¬ (1 : Int32) = 0 by decide)]
    simp only [q_st0 hy]
    by_cases h0 : d.1 = 0
    · rw [if_pos h0, if_pos h0]
      exact ⟨_, _, _, rfl, rfl, h⟩
    · rw [if_neg h0, if_neg h0, if_pos rfl, q_every hx, Option.bind_some, q_cntX hx (by omega) s2 (q_ev _ hx.2.2.2.1), Option.bind_some]
      obtain ⟨dk, e⟩ := q_cenY hy (by omega) s2 (by decide) hr.2.2.2.2
      rw [e, Option.bind_some, (q_evC d s).1]
      exact ⟨_, _, _, rfl, rfl, q_RJK h (q_Jw _ _ _) (q_Kv _ _ _ _)⟩
  · rw [q_refB e1, e2]
    exact ⟨_, _, _, rfl, rfl, h⟩
end QP
