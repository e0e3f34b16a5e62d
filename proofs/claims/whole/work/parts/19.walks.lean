/-! ===== pure part 10: walks ===== -/
theorem q_ag {ux uy : zzS} (h : qR ux uy) {j l2 : Nat} (hj : j < 4) (hl2 : l2 ≤ 2) (p n : Int32) : (∃ f : Int32, (f = 1 ∨ f = 2) ∧ fX2_faultAs j ux (nI l2) = some f ∧ fX5_against uy (nI j) (nI l2) p n = some f) ∨ (fX2_faultAs j ux (nI l2) = some 0 ∧ ∃ sz : Nat, sz ≤ 60 ∧ ux.1 (15 + 3 * j) = nI sz ∧ ((n < 0 ∧ fX5_against uy (nI j) (nI l2) p n = some 4) ∨ (¬ n < 0 ∧ fX2_holds j ux p n = some 0 ∧ fX5_against uy (nI j) (nI l2) p n = some 3) ∨ (∃ a m : Nat, p = nI a ∧ n = nI m ∧ a + m ≤ sz ∧ fX2_holds j ux p n = some 1 ∧ fX5_against uy (nI j) (nI l2) p n = some 0))) := by
  unfold fX2_faultAs fX5_against
  simp only [q_ga hj (show 4 < 1000 by decide)]
  rcases (q_Hj h hj).2 with ⟨a1, a2⟩ | ⟨a1, l, sz, l1, s1, a2, a3, a4, a5⟩
  · left
    rw [a1, a2, if_pos rfl, if_pos rfl, if_pos rfl]
    exact ⟨1, Or.inl rfl, rfl, rfl⟩
  · rw [a1, a2, a3, a5, if_neg q_10, if_neg (q_n9 l (by omega))]
    by_cases hl : nI l = nI l2
    · right
      rw [if_pos hl, if_pos hl, if_neg (q_n9 l (by omega))]
      refine ⟨rfl, sz, s1, a4, ?_⟩
      by_cases hn : n < 0
      · left
        refine ⟨hn, ?_⟩
        rw [if_neg]
        intro hc
        rw [Int32.lt_iff_toInt_lt] at hn
        rw [Int32.le_iff_toInt_le] at hc
        omega
      · right
        obtain ⟨m, hm, rfl⟩ := nI_of hn
        rw [if_pos (show (0 : Int32) ≤ nI m from nI_pos' hm)]
        rcases q_hold a4 s1 p (nI m) with ⟨a, m', rfl, hm', ham, c⟩ | ⟨c, c2⟩
        · right
          have hm2 : m = m' ∨ ¬ m' < 2 ^ 31 := by
            by_cases hlt : m' < 2 ^ 31
            · left; exact (nI_eq hm hlt).mp hm'
            · right; exact hlt
          have ham' : a + m ≤ sz := by
            rcases hm2 with e | e <;> omega
          refine ⟨a, m, rfl, rfl, ham', c, ?_⟩
          rw [if_neg (nI_pos (by omega)), if_neg (nI_nlt (by omega) (by omega)), pk_sub (by omega), if_pos (nI_le (by omega) (by omega))]
        · left
          refine ⟨hn, c, ?_⟩
          by_cases hp : p < 0
          · rw [if_pos hp]
          · rw [if_neg hp]
            obtain ⟨a, ha, rfl⟩ := nI_of hp
            simp only [nI_ltI (a := sz) (b := a) (by omega) ha]
            by_cases hsa : sz < a
            · rw [if_pos hsa]
            · rw [if_neg hsa, pk_sub (by omega)]
              simp only [nI_leI (a := m) (b := sz - a) hm (by omega)]
              rw [if_neg]
              intro hc
              have := c2 a m rfl rfl (by omega) (by omega)
              omega
    · left
      rw [if_neg hl, if_neg hl]
      exact ⟨2, Or.inr rfl, rfl, rfl⟩
theorem q_ask (p : Int32) : (∃ v : Nat, (v ≤ 3 ∨ 10 ≤ v ∧ v ≤ 14) ∧ p = nI v ∧ fX4_isAskedOfWalks p = some 1 ∧ (fX5_within p (0 : Int32) (3 : Int32) = some 1 ∨ fX5_within p (0 : Int32) (3 : Int32) = some 0 ∧ fX5_within p (10 : Int32) (14 : Int32) = some 1)) ∨ (fX4_isAskedOfWalks p = some 0 ∧ fX5_within p (0 : Int32) (3 : Int32) = some 0 ∧ fX5_within p (10 : Int32) (14 : Int32) = some 0) := by
  have e0 : (0 : Int32).toInt = 0 := by decide
  have e3 : (3 : Int32).toInt = 3 := by decide
  have e10 : (10 : Int32).toInt = 10 := by decide
  have e14 : (14 : Int32).toInt = 14 := by decide
  have e15 : (15 : Int32).toInt = 15 := by decide
  rw [q_win, q_win]
  unfold fX4_isAskedOfWalks
  simp only [Int32.lt_iff_toInt_lt, Int32.le_iff_toInt_le, e0, e3, e10, e14, e15]
  by_cases hp : (0 ≤ p.toInt ∧ p.toInt ≤ 3) ∨ (10 ≤ p.toInt ∧ p.toInt ≤ 14)
  · left
    obtain ⟨i, hi, rfl⟩ : ∃ i : Nat, i < 2 ^ 31 ∧ p = nI i := nI_of (by rw [Int32.lt_iff_toInt_lt]; omega)
    rw [nI_toInt hi] at hp ⊢
    refine ⟨i, by omega, rfl, ?_, ?_⟩
    · rw [if_neg (by omega)]
      by_cases h3 : (i : Int) ≤ 3
      · rw [if_pos h3]
      · rw [if_neg h3, if_neg (by omega), if_neg (by omega)]
    · by_cases h3 : (i : Int) ≤ 3
      · left; rw [if_neg (by omega)]
      · right; rw [if_pos (by omega), if_neg (by omega)]; exact ⟨rfl, rfl⟩
  · right
    refine ⟨?_, by rw [if_pos (by omega)], by rw [if_pos (by omega)]⟩
    by_cases h0 : p.toInt < 0
    · rw [if_pos h0, if_pos (by omega)]
    · rw [if_neg h0, if_neg (by omega)]
      by_cases h10 : p.toInt < 10
      · rw [if_pos h10]
      · rw [if_neg h10, if_pos (by omega)]
/-- another one stands there -/
def qtr (d : qD) (f a : Nat) : Nat → Nat → Bool
  | 0, _ => false
  | m + 1, b => (decide (b ≠ a) && decide (d.2.2.2.2.1 b = f)) || qtr d f a m (b + 1)
theorem q_anX {t : Nat} {u : zzS} {d : qD} (hq : qX t u d) {f a : Nat} (hf : f ≤ 9) (ha : a < 5) : fX3_isAnotherOn t u (nI f) (nI a) = some (qb (qtr d f a d.1 0)) := by
  have h5 := hq.2.2.2.1
  unfold fX3_isAnotherOn
  have key : ∀ m b, b + m = 5 → ∀ fuel, m < fuel → zzlp (sX3_isAnotherOn_2 (nI f) (nI a) t u) fuel (nI b) = some (qb (qtr d f a (d.1 - b) b)) := by
    intro m
    induction m with
    | zero =>
      intro b hb fuel hfu
      rw [q_fu (by omega)]
      unfold sX3_isAnotherOn_2
      rw [if_pos (by rw [q_k5]; exact nI_le (by omega) (by omega)), show d.1 - b = 0 by omega]
      rfl
    | succ m ih =>
      intro b hb fuel hfu
      have ih' := ih (b + 1) (by omega) (fuel - 1) (by omega)
      rw [q_fu (by omega)]
      generalize zzlp (sX3_isAnotherOn_2 (nI f) (nI a) t u) (fuel - 1) = rec at ih' ⊢
      unfold sX3_isAnotherOn_2
      rw [if_neg (by rw [q_k5]; exact nI_ge (by omega) (by omega)), q_has5 hq (by omega), Option.bind_some, nI_1]
      by_cases h1 : b < d.1
      · obtain ⟨k, hk⟩ : ∃ k, d.1 - b = k + 1 := ⟨d.1 - b - 1, by omega⟩
        rw [show d.1 - (b + 1) = k by omega] at ih'
        rw [if_pos h1, if_neg q_10, hk, qtr]
        simp only [nI_eq (a := b) (b := a) (by omega) (by omega)]
        by_cases hba : b = a
        · rw [if_pos hba, ih']
          simp [hba]
        · rw [if_neg hba, q_ga (by omega) (by decide), (hq.2.2.2.2.2.2.2 b (by omega)).2.1]
          have hF := (hq.2.2.2.2.2.2.2 b (by omega)).2.2.2.2.1
          simp only [nI_eq (a := d.2.2.2.2.1 b) (b := f) (by omega) (by omega)]
          by_cases hff : d.2.2.2.2.1 b = f
          · rw [if_pos hff]
            simp [hba, hff, qb]
          · rw [if_neg hff, ih']
            simp [hff]
      · rw [if_neg h1, if_pos rfl, ih', show d.1 - b = 0 by omega, show d.1 - (b + 1) = 0 by omega]
        rfl
  exact key 5 0 rfl zzFU (by decide)
theorem q_anY {u : zzS} {d : qD} (hq : qY u d) {f a : Nat} (hf : f ≤ 9) (ha : a < 5) : fX5_isTaken u (nI a) (nI f) = some (qb (qtr d f a d.1 0)) := by
  have h5 := hq.2.2.2.1
  unfold fX5_isTaken
  have key : ∀ m b, b + m = d.1 → ∀ fuel, m < fuel → zzlp (sX5_isTaken_2 (nI a) (nI f) u) fuel (nI b) = some (qb (qtr d f a (d.1 - b) b)) := by
    intro m
    induction m with
    | zero =>
      intro b hb fuel hfu
      rw [q_fu (by omega)]
      unfold sX5_isTaken_2
      rw [hq.1, if_pos (nI_le (by omega) (by omega)), show d.1 - b = 0 by omega]
      rfl
    | succ m ih =>
      intro b hb fuel hfu
      have ih' := ih (b + 1) (by omega) (fuel - 1) (by omega)
      rw [q_fu (by omega)]
      generalize zzlp (sX5_isTaken_2 (nI a) (nI f) u) (fuel - 1) = rec at ih' ⊢
      unfold sX5_isTaken_2
      rw [hq.1, if_neg (nI_ge (by omega) (by omega)), nI_1]
      obtain ⟨k, hk⟩ : ∃ k, d.1 - b = k + 1 := ⟨d.1 - b - 1, by omega⟩
      rw [show d.1 - (b + 1) = k by omega] at ih'
      rw [hk, qtr]
      simp only [nI_eq (a := b) (b := a) (by omega) (by omega)]
      by_cases hba : b = a
      · rw [if_pos hba, ih']
        simp [hba]
      · rw [if_neg hba, q_ga (by omega) (by decide), (hq.2.2.2.2.2.2.2 b (by omega)).2.1]
        have hF := (hq.2.2.2.2.2.2.2 b (by omega)).2.2.2.2.1
        simp only [nI_eq (a := d.2.2.2.2.1 b) (b := f) (by omega) (by omega)]
        by_cases hff : d.2.2.2.2.1 b = f
        · rw [if_pos hff]
          simp [hba, hff, qb]
        · rw [if_neg hff, ih']
          simp [hff]
  exact key d.1 0 (by omega) zzFU (by unfold zzFU; omega)
theorem q_w1 : ∀ x, x < 10 → ∀ y, y < 10 → (if 0 ≤ (nI x - nI y) then (nI x - nI y) else 0 - (nI x - nI y)) = nI (qad x y) ∧ fX5_apart (nI y) (nI x) = some (nI (qad x y)) := by decide +kernel
theorem q_w2 : ∀ k, k < 20 → ¬ (0 : Int32) ≤ (-100 : Int32) - nI k ∧ (-100 : Int32) - ((-100 : Int32) - nI k) = nI k ∧ ¬ nI k = (-9 : Int32) := by decide +kernel
theorem q_w3 (x y : Nat) : nI x + (2 : Int32) * nI y = nI (x + 2 * y) := by rw [q_k2, pk_mul, nI_add]
theorem q_w4 : ∀ v, v < 15 → 10 ≤ v → nI v - (10 : Int32) = nI (v - 10) := by decide +kernel
/-- the reference while it walks: only junk and the feet of standers differ -/
def qP9 (n : Nat) (u w : zzS) : Prop := qK u (w.1, va_up w.2 9 (u.2 9)) ∧ (∀ b, n ≤ b → w.2 9 b = u.2 9 b) ∧ (∀ a, a < n → w.2 24 a = u.2 9 a)
theorem q_P9K {n : Nat} {u w w1 : zzS} (h : qP9 n u w) (h1 : qK w w1) (h24 : w1.2 24 = w.2 24) : qP9 n u w1 := by
  obtain ⟨a1, a2, a3⟩ := h
  refine ⟨⟨fun k hk => (h1.1 k hk).trans (a1.1 k hk), fun k hk => ?_⟩, fun b hb => ?_, fun a ha => ?_⟩
  · have e := a1.2 k hk
    by_cases h9 : k = 9
    · subst h9; simp [va_up]
    · simp only [va_up, h9, if_false] at e ⊢
      exact (h1.2 k hk).trans e
  · rw [h1.2 9 (by omega)]; exact a2 b hb
  · rw [h24]; exact a3 a ha
