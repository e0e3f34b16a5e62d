/-! ===== pure part 6: copy ===== -/
theorem q_hold {u : zzS} {j sz : Nat} (hs : u.1 (15 + 3 * j) = nI sz) (h60 : sz ≤ 60) (p q : Int32) : (∃ a m : Nat, p = nI a ∧ q = nI m ∧ a + m ≤ sz ∧ fX2_holds j u p q = some 1) ∨ (fX2_holds j u p q = some 0 ∧ ∀ a m : Nat, p = nI a → q = nI m → a < 1000 → m < 1000 → sz < a + m) := by
  unfold fX2_holds
  rw [hs]
  by_cases h1 : p < 0
  · right
    rw [if_pos h1]
    refine ⟨rfl, fun a m ha hm h3 h4 => ?_⟩
    subst ha
    exact absurd h1 (nI_pos (by omega))
  · rw [if_neg h1]
    obtain ⟨a, ha, rfl⟩ := nI_of h1
    simp only [nI_ltI (a := sz) (b := a) (by omega) ha]
    by_cases h2 : sz < a
    · right
      rw [if_pos h2]
      refine ⟨rfl, fun b m hb hm h3 h4 => ?_⟩
      have := (nI_eq ha (by omega)).mp hb
      omega
    · rw [if_neg h2]
      by_cases h3 : q < 0
      · right
        rw [if_pos h3]
        refine ⟨rfl, fun b m hb hm h5 h4 => ?_⟩
        subst hm
        exact absurd h3 (nI_pos (by omega))
      · rw [if_neg h3]
        obtain ⟨m, hm, rfl⟩ := nI_of h3
        rw [pk_sub (by omega)]
        simp only [nI_ltI (a := sz - a) (b := m) (by omega) hm]
        by_cases h4 : sz - a < m
        · right
          rw [if_pos h4]
          refine ⟨rfl, fun b n hb hn h5 h6 => ?_⟩
          have e1 := (nI_eq ha (by omega)).mp hb
          have e2 := (nI_eq hm (by omega)).mp hn
          omega
        · left
          rw [if_neg h4]
          exact ⟨a, m, rfl, rfl, by omega, rfl⟩
theorem q_cp (g : Nat → Int32) (w1 : Nat → Int32) (w2 : Nat → Nat → Int32) {k o a b m : Nat} (hA : 60 * k + a + m ≤ 240) (hB : 60 * o + b + m ≤ 240) (flag : Int32) (hfl : (flag = 0 ∧ (60 * o + b ≤ 60 * k + a ∨ 60 * k + a + m ≤ 60 * o + b)) ∨ (flag = 1 ∧ (60 * k + a ≤ 60 * o + b ∨ 60 * o + b + m ≤ 60 * k + a))) (w : zzS) : ∃ g', (∀ x, g' x = if 60 * o + b ≤ x ∧ x < 60 * o + b + m then g (60 * k + a + (x - (60 * o + b))) else g x) ∧ zzlp (sX5_copy_166 (nI k) (nI a) (nI o) (nI b) (nI m) (flag, w)) zzFU ((0 : Int32), (w1, va_up w2 4 g)) = some (nI m, (w1, va_up w2 4 g')) := by
  have hza : ∀ (h : Nat → Int32) (i : Nat) (v : Int32), zza (w1, va_up w2 4 h) 4 i v = (w1, va_up w2 4 (upd h i v)) := by
    intro h i v
    refine q_ext (fun k => rfl) (fun k => ?_)
    by_cases hk : k = 4
    · subst hk; simp [zza, va_up]
    · simp [zza, va_up, hk]
  have hi : ∀ x y z : Nat, (60 : Int32) * nI x + nI y + nI z = nI (60 * x + y + z) := fun x y z => by rw [q_ix, nI_add]
  rcases hfl with ⟨rfl, hfl⟩ | ⟨rfl, hfl⟩
  · have key : ∀ n q, q + n = m → ∀ h : Nat → Int32, (∀ x, h x = if 60 * o + b ≤ x ∧ x < 60 * o + b + q then g (60 * k + a + (x - (60 * o + b))) else g x) → ∀ fuel, n < fuel → ∃ g', (∀ x, g' x = if 60 * o + b ≤ x ∧ x < 60 * o + b + m then g (60 * k + a + (x - (60 * o + b))) else g x) ∧ zzlp (sX5_copy_166 (nI k) (nI a) (nI o) (nI b) (nI m) ((0 : Int32), w)) fuel (nI q, (w1, va_up w2 4 h)) = some (nI m, (w1, va_up w2 4 g')) := by
      intro n
      induction n with
      | zero =>
        intro q hq h hh fuel hf
        obtain rfl : q = m := by omega
        refine ⟨h, hh, ?_⟩
        rw [q_fu (by omega)]
        unfold sX5_copy_166
        dsimp only
        rw [if_pos (nI_le (by omega) (by omega))]
      | succ n ih =>
        intro q hq h hh fuel hf
        obtain ⟨g', a1, a2⟩ := ih (q + 1) (by omega) (upd h (60 * o + b + q) (h (60 * k + a + q))) (fun x => by
          unfold upd
          by_cases hx : x = 60 * o + b + q
          · rw [if_pos hx, if_pos (by omega), hh, if_neg (by omega)]
            congr 1
            omega
          · rw [if_neg hx, hh]
            by_cases hy : 60 * o + b ≤ x ∧ x < 60 * o + b + q
            · rw [if_pos hy, if_pos (by omega)]
            · rw [if_neg hy, if_neg (by omega)]) (fuel - 1) (by omega)
        refine ⟨g', a1, ?_⟩
        rw [q_fu (by omega)]
        generalize zzlp (sX5_copy_166 (nI k) (nI a) (nI o) (nI b) (nI m) ((0 : Int32), w)) (fuel - 1) = rec at a2 ⊢
        unfold sX5_copy_166
        dsimp only
        rw [if_neg (nI_ge (by omega) (by omega)), if_pos rfl, hi, hi, q_ga (by omega) (by decide), q_pa (by omega) (by decide), q_cl (by omega), nI_1, hza]
        exact a2
    exact key m 0 (by omega) g (fun x => by rw [if_neg (by omega)]) zzFU (by unfold zzFU; omega)
  · have key : ∀ n q, q + n = m → ∀ h : Nat → Int32, (∀ x, h x = if 60 * o + b + (m - q) ≤ x ∧ x < 60 * o + b + m then g (60 * k + a + (x - (60 * o + b))) else g x) → ∀ fuel, n < fuel → ∃ g', (∀ x, g' x = if 60 * o + b ≤ x ∧ x < 60 * o + b + m then g (60 * k + a + (x - (60 * o + b))) else g x) ∧ zzlp (sX5_copy_166 (nI k) (nI a) (nI o) (nI b) (nI m) ((1 : Int32), w)) fuel (nI q, (w1, va_up w2 4 h)) = some (nI m, (w1, va_up w2 4 g')) := by
      intro n
      induction n with
      | zero =>
        intro q hq h hh fuel hf
        obtain rfl : q = m := by omega
        refine ⟨h, fun x => by rw [hh, Nat.sub_self]; rfl, ?_⟩
        rw [q_fu (by omega)]
        unfold sX5_copy_166
        dsimp only
        rw [if_pos (nI_le (by omega) (by omega))]
      | succ n ih =>
        intro q hq h hh fuel hf
        have hc : (nI m - (1 : Int32)) - nI q = nI (m - 1 - q) := by rw [q_k1, pk_sub (by omega), pk_sub (by omega)]
        obtain ⟨g', a1, a2⟩ := ih (q + 1) (by omega) (upd h (60 * o + b + (m - 1 - q)) (h (60 * k + a + (m - 1 - q)))) (fun x => by
          unfold upd
          by_cases hx : x = 60 * o + b + (m - 1 - q)
          · rw [if_pos hx, if_pos (by omega), hh, if_neg (by omega)]
            congr 1
            omega
          · rw [if_neg hx, hh]
            by_cases hy : 60 * o + b + (m - q) ≤ x ∧ x < 60 * o + b + m
            · rw [if_pos hy, if_pos (by omega)]
            · rw [if_neg hy, if_neg (by omega)]) (fuel - 1) (by omega)
        refine ⟨g', a1, ?_⟩
        rw [q_fu (by omega)]
        generalize zzlp (sX5_copy_166 (nI k) (nI a) (nI o) (nI b) (nI m) ((1 : Int32), w)) (fuel - 1) = rec at a2 ⊢
        unfold sX5_copy_166
        dsimp only
        rw [if_neg (nI_ge (by omega) (by omega)), if_neg q_10, hc, hi, hi, q_ga (by omega) (by decide), q_pa (by omega) (by decide), q_cl (by omega), nI_1, hza]
        exact a2
    exact key m 0 (by omega) g (fun x => by rw [if_neg (by omega)]) zzFU (by unfold zzFU; omega)
section QP
variable {ux uy : zzS}
theorem e_copy (h : qR ux uy) (p0 p1 p2 p3 p4 : Int32) : qE (fX4_copy ux p0 p1 p2 p3 p4) (fX5_copy uy p0 p1 p2 p3 p4) := by
  have h0 := q_R0 h 0
  unfold fX4_copy fX5_copy fX4_failed
  rcases q_shk p0 with ⟨k, hk, rfl, e1, e2⟩ | ⟨e1, e2⟩
  · rcases q_shk p2 with ⟨o, ho, rfl, e3, e4⟩ | ⟨e3, e4⟩
    · rw [e1, e2, e3, e4]
      simp only [zzop, Option.bind_some, if_neg q_10, q_ga hk (show 4 < 1000 by decide), q_ga ho (show 4 < 1000 by decide)]
      rcases (q_Hj h0 hk).2 with ⟨a1, a2⟩ | ⟨a1, l, sz, l1, s1, a2, a3, a4, a5⟩
      · rw [a1, a2, if_pos rfl, if_pos rfl]
        exact ⟨_, _, _, rfl, rfl, q_R0 h0 1⟩
      · rcases (q_Hj h0 ho).2 with ⟨b1, b2⟩ | ⟨b1, l', sz', l1', s1', b2, b3, b4, b5⟩
        · rw [a1, a2, b1, b2, if_neg q_10, if_neg (q_n9 l (by omega)), if_pos rfl, if_pos rfl]
          exact ⟨_, _, _, rfl, rfl, q_R0 h0 1⟩
        · rw [a1, a2, b1, b2, a3, b3, a5, b5, if_neg q_10, if_neg (q_n9 l (by omega)), if_neg q_10, if_neg (q_n9 l' (by omega))]
          by_cases hl : nI l = nI l'
          · rw [if_pos hl, if_pos hl]
            have fail : sX5_copy_110 (nI k) p1 (nI o) p3 p4 ((0 : Int32), zzi uy 0 0) = some ((-10 : Int32) - 3, zzi (zzi uy 0 0) 0 3) := rfl
            by_cases hok : (∃ a m : Nat, p1 = nI a ∧ p4 = nI m ∧ a + m ≤ sz) ∧ (∃ b m : Nat, p3 = nI b ∧ p4 = nI m ∧ b + m ≤ sz')
            · obtain ⟨⟨a, m, rfl, rfl, ham⟩, ⟨b, m', rfl, hm', hbm'⟩⟩ := hok
              have em : m = m' ∨ ¬ m' < 2 ^ 31 := by
                by_cases hlt : m' < 2 ^ 31
                · left; exact (nI_eq (by omega) hlt).mp hm'
                · right; exact hlt
              have hbm : b + m ≤ sz' := by
                rcases em with e | e
                · omega
                · omega
              have c1 : fX2_holds k (zzi ux 12 0) (nI a) (nI m) = some 1 := by
                rcases q_hold a4 s1 (nI a) (nI m) with ⟨_, _, _, _, _, c1⟩ | ⟨_, c1⟩
                · exact c1
                · exact absurd (c1 a m rfl rfl (by omega) (by omega)) (by omega)
              have c2 : fX2_holds o (zzi ux 12 0) (nI b) (nI m) = some 1 := by
                rcases q_hold b4 s1' (nI b) (nI m) with ⟨_, _, _, _, _, c2⟩ | ⟨_, c2⟩
                · exact c2
                · exact absurd (c2 b m rfl rfl (by omega) (by omega)) (by omega)
              rw [c1, c2]
              simp only [Option.bind_some, if_neg q_10]
              rw [if_neg (nI_pos (by omega)), if_neg (nI_pos (by omega)), if_neg (nI_pos (by omega)), if_neg (nI_nlt (by omega) (by omega)), if_neg (nI_nlt (by omega) (by omega))]
              unfold sX5_copy_110
              dsimp only
              rw [if_neg q_10, q_ga hk (by decide), q_ga ho (by decide), a5, b5, pk_sub (by omega), pk_sub (by omega), if_neg (nI_nlt (by omega) (by omega)), if_pos (nI_le (by omega) (by omega))]
              unfold zzac
              rw [if_pos ⟨nI_pos (by omega), nI_pos (by omega), nI_pos (by omega), by rw [q_cl (by omega), q_cl (by omega)]; omega, by rw [q_cl (by omega), q_cl (by omega)]; omega⟩, q_cl (by omega), q_cl (by omega), q_cl (by omega)]
              have main : ∀ flag : Int32, ((flag = 0 ∧ (60 * o + b ≤ 60 * k + a ∨ 60 * k + a + m ≤ 60 * o + b)) ∨ (flag = 1 ∧ (60 * k + a ≤ 60 * o + b ∨ 60 * o + b + m ≤ 60 * k + a))) → qE (some (nI m, (((zzi ux 12 0).1, va_up (zzi ux 12 0).2 (8 + o) (va_cpy ((zzi ux 12 0).2 (8 + k)) ((zzi ux 12 0).2 (8 + o)) a b m)) : zzS))) (sX5_copy_161 (nI k) (nI a) (nI o) (nI b) (nI m) (flag, zzi uy 0 0)) := by
                intro flag hfl
                obtain ⟨g', g1, g2⟩ := q_cp ((zzi uy 0 0).2 4) (zzi uy 0 0).1 (zzi uy 0 0).2 (k := k) (o := o) (a := a) (b := b) (m := m) (by omega) (by omega) flag hfl (zzi uy 0 0)
                have e : ((zzi uy 0 0).1, va_up (zzi uy 0 0).2 4 ((zzi uy 0 0).2 4)) = zzi uy 0 0 := by
                  refine q_ext (fun k => rfl) (fun k => ?_)
                  by_cases hk : k = 4
                  · subst hk; simp [va_up]
                  · simp [va_up, hk]
                rw [e] at g2
                refine ⟨_, _, _, rfl, g2, q_Rs h0 (fun k hk => rfl) (fun k hk => ?_) (fun k hk => rfl) (fun k hk => ?_) h0.2.2.2.2.1 (fun j' hj' => ?_)⟩
                · have c1 : ¬ k = 8 + o := by omega
                  simp only [va_up, c1, if_false]
                · have c1 : ¬ k = 4 := by omega
                  simp only [va_up, c1, if_false]
                · have hh := q_Hj h0 hj'
                  refine ⟨fun i hi => ?_, hh.2⟩
                  have h4 : va_up (zzi uy 0 0).2 4 g' 4 = g' := by simp [va_up]
                  show va_up (zzi ux 12 0).2 (8 + o) (va_cpy ((zzi ux 12 0).2 (8 + k)) ((zzi ux 12 0).2 (8 + o)) a b m) (8 + j') i = va_up (zzi uy 0 0).2 4 g' 4 (60 * j' + i)
                  rw [h4, g1]
                  by_cases hjj : j' = o
                  · subst hjj
                    have h8 : va_up (zzi ux 12 0).2 (8 + j') (va_cpy ((zzi ux 12 0).2 (8 + k)) ((zzi ux 12 0).2 (8 + j')) a b m) (8 + j') = va_cpy ((zzi ux 12 0).2 (8 + k)) ((zzi ux 12 0).2 (8 + j')) a b m := by simp [va_up]
                    rw [h8]
                    unfold va_cpy
                    by_cases hin : b ≤ i ∧ i < b + m
                    · rw [if_pos hin, if_pos (by omega), (q_Hj h0 hk).1 _ (by omega)]
                      exact congrArg ((zzi uy 0 0).2 4) (by omega)
                    · rw [if_neg hin, if_neg (by omega)]
                      exact hh.1 i hi
                  · have c1 : ¬ 8 + j' = 8 + o := by omega
                    have h8 : va_up (zzi ux 12 0).2 (8 + o) (va_cpy ((zzi ux 12 0).2 (8 + k)) ((zzi ux 12 0).2 (8 + o)) a b m) (8 + j') = (zzi ux 12 0).2 (8 + j') := by simp only [va_up, c1, if_false]
                    rw [h8, if_neg (by omega)]
                    exact hh.1 i hi
              simp only [nI_leI (a := b) (b := a) (by omega) (by omega)]
              by_cases hba : b ≤ a
              · rw [if_pos hba]
                exact main 0 (Or.inl ⟨rfl, by omega⟩)
              · rw [if_neg hba]
                exact main 1 (Or.inr ⟨rfl, by omega⟩)
            · -- not both hold: INDEX on either side
              have hY : ∃ wy, (if p1 < 0 then sX5_copy_110 (nI k) p1 (nI o) p3 p4 ((0 : Int32), zzi uy 0 0) else if p3 < 0 then sX5_copy_110 (nI k) p1 (nI o) p3 p4 ((0 : Int32), zzi uy 0 0) else if p4 < 0 then sX5_copy_110 (nI k) p1 (nI o) p3 p4 ((0 : Int32), zzi uy 0 0) else if nI sz < p1 then sX5_copy_110 (nI k) p1 (nI o) p3 p4 ((0 : Int32), zzi uy 0 0) else if nI sz' < p3 then sX5_copy_110 (nI k) p1 (nI o) p3 p4 ((0 : Int32), zzi uy 0 0) else sX5_copy_110 (nI k) p1 (nI o) p3 p4 ((1 : Int32), zzi uy 0 0)) = some ((-10 : Int32) - 3, wy) ∧ wy = zzi (zzi uy 0 0) 0 3 := by
                refine ⟨_, ?_, rfl⟩
                by_cases c1 : p1 < 0
                · rw [if_pos c1]; exact fail
                rw [if_neg c1]
                by_cases c2 : p3 < 0
                · rw [if_pos c2]; exact fail
                rw [if_neg c2]
                by_cases c3 : p4 < 0
                · rw [if_pos c3]; exact fail
                rw [if_neg c3]
                obtain ⟨a, ha, rfl⟩ := nI_of c1
                obtain ⟨b, hb, rfl⟩ := nI_of c2
                obtain ⟨m, hm, rfl⟩ := nI_of c3
                simp only [nI_ltI (a := sz) (b := a) (by omega) ha, nI_ltI (a := sz') (b := b) (by omega) hb]
                by_cases c4 : sz < a
                · rw [if_pos c4]; exact fail
                rw [if_neg c4]
                by_cases c5 : sz' < b
                · rw [if_pos c5]; exact fail
                rw [if_neg c5]
                unfold sX5_copy_110
                dsimp only
                rw [if_neg q_10, q_ga hk (by decide), q_ga ho (by decide), a5, b5, pk_sub (by omega), pk_sub (by omega)]
                simp only [nI_ltI (a := sz - a) (b := m) (by omega) hm, nI_leI (a := m) (b := sz' - b) hm (by omega)]
                by_cases c6 : sz - a < m
                · rw [if_pos c6]; rfl
                rw [if_neg c6]
                by_cases c7 : m ≤ sz' - b
                · exfalso
                  exact hok ⟨⟨a, m, rfl, rfl, by omega⟩, ⟨b, m, rfl, rfl, by omega⟩⟩
                rw [if_neg c7]; rfl
              obtain ⟨wy, y1, rfl⟩ := hY
              rw [y1]
              rcases q_hold a4 s1 p1 p4 with ⟨a, m, d1, d2, d3, c1⟩ | ⟨c1, _⟩
              · rw [c1]
                rcases q_hold b4 s1' p3 p4 with ⟨b, m', d4, d5, d6, c2⟩ | ⟨c2, _⟩
                · exact absurd ⟨⟨a, m, d1, d2, d3⟩, ⟨b, m', d4, d5, d6⟩⟩ hok
                · rw [Option.bind_some, if_neg q_10, c2]
                  exact ⟨_, _, _, rfl, rfl, q_R0 h0 3⟩
              · rw [c1]
                exact ⟨_, _, _, rfl, rfl, q_R0 h0 3⟩
          · rw [if_neg hl, if_neg hl]
            exact ⟨_, _, _, rfl, rfl, q_R0 h0 2⟩
    · rw [e1, e2, e3, e4]
      exact ⟨_, _, _, rfl, rfl, h0⟩
  · rw [e1, e2]
    refine ⟨_, _, _, ?_, rfl, h0⟩
    unfold zzop
    dsimp only
    cases fX4_sheetAt p2 <;> rfl
end QP
