/-! ===== pure part 5: sheets ===== -/
theorem q_C4 {ux uy : zzS} (h : ∀ j, j < 4 → qH ux uy j) : qH ux uy 0 ∧ qH ux uy 1 ∧ qH ux uy 2 ∧ qH ux uy 3 := ⟨h 0 (by decide), h 1 (by decide), h 2 (by decide), h 3 (by decide)⟩
theorem q_Ho {ux uy wx wy : zzS} {j : Nat} (h : qH ux uy j) (h1 : wx.1 (13 + 3 * j) = ux.1 (13 + 3 * j)) (h2 : wx.1 (14 + 3 * j) = ux.1 (14 + 3 * j)) (h3 : wx.1 (15 + 3 * j) = ux.1 (15 + 3 * j)) (h4 : wx.2 (8 + j) = ux.2 (8 + j)) (h5 : wy.2 2 j = uy.2 2 j) (h6 : wy.2 3 j = uy.2 3 j) (h7 : ∀ i, i < 60 → wy.2 4 (60 * j + i) = uy.2 4 (60 * j + i)) : qH wx wy j := by
  unfold qH at h ⊢
  rw [h1, h2, h3, h4, h5, h6]
  exact ⟨fun i hi => (h.1 i hi).trans (h7 i hi).symm, h.2⟩
/-- snow, readings and the rest do not see sheets -/
theorem q_Rs {ux uy wx wy : zzS} (h : qR ux uy) (hx1 : ∀ k, k < 12 → wx.1 k = ux.1 k) (hx2 : ∀ k, k < 8 → wx.2 k = ux.2 k) (hy1 : ∀ k, 0 < k → wy.1 k = uy.1 k) (hy2 : ∀ k, 4 < k → wy.2 k = uy.2 k) (hf : wx.1 12 = wy.1 0) (hH : ∀ j, j < 4 → qH wx wy j) : qR wx wy := by
  obtain ⟨⟨d, hx, hy⟩, hr, -, ht, -, hi⟩ := h
  refine ⟨⟨d, ?_, ?_⟩, ?_, q_C4 hH, ?_, hf, ?_⟩
  · show qS (wx.1 0) (wx.1 1) (wx.1 2) (wx.2 0) (wx.2 1) (wx.2 2) d
    rw [hx1 0 (by omega), hx1 1 (by omega), hx1 2 (by omega), hx2 0 (by omega), hx2 1 (by omega), hx2 2 (by omega)]
    exact hx
  · show qS (wy.1 5) (wy.1 6) (wy.1 7) (wy.2 8) (wy.2 9) (wy.2 10) d
    rw [hy1 5 (by omega), hy1 6 (by omega), hy1 7 (by omega), hy2 8 (by omega), hy2 9 (by omega), hy2 10 (by omega)]
    exact hy
  · unfold qRd at hr ⊢
    rw [hx1 10 (by omega), hx2 6 (by omega), hx2 7 (by omega), hy1 26 (by omega), hy2 27 (by omega), hy2 28 (by omega)]
    exact hr
  · rw [hx1 11 (by omega), hy1 1 (by omega)]; exact ht
  · rw [hy1 11 (by omega)]; exact hi
theorem q_ix (j i : Nat) : (60 : Int32) * nI j + nI i = nI (60 * j + i) := by rw [q_k60, pk_mul, nI_add]
theorem q_renew (u : zzS) (j : Nat) (p0 p1 : Int32) : ∃ f, (∀ i, i < 60 → f i = 0) ∧ fX2_renew j u p0 p1 = some ((zzi (zzi (zzi u (13 + 3 * j) (1 : Int32)) (14 + 3 * j) p0) (15 + 3 * j) p1).1, va_up u.2 (8 + j) f) := by
  unfold fX2_renew
  generalize hv : (zzi (zzi (zzi u (13 + 3 * j) (1 : Int32)) (14 + 3 * j) p0) (15 + 3 * j) p1) = v
  have hv2 : v.2 = u.2 := by rw [← hv]; rfl
  have key : ∀ m i, i + m = 60 → ∀ g, (∀ k, k < i → g k = 0) → ∀ fuel, m < fuel → ∃ f, (∀ i, i < 60 → f i = 0) ∧ zzlp (sX2_renew_17 p0 p1 j) fuel (nI i, (v.1, va_up u.2 (8 + j) g)) = some (v.1, va_up u.2 (8 + j) f) := by
    intro m
    induction m with
    | zero =>
      intro i hi g hg fuel hf
      refine ⟨g, fun k hk => hg k (by omega), ?_⟩
      rw [q_fu (by omega)]
      unfold sX2_renew_17
      dsimp only
      rw [if_pos (by rw [q_k60]; exact nI_le (by omega) (by omega))]
    | succ m ih =>
      intro i hi g hg fuel hf
      obtain ⟨f, h1, h2⟩ := ih (i + 1) (by omega) (upd g i 0) (fun k hk => by
        unfold upd
        split
        · rfl
        · exact hg k (by omega)) (fuel - 1) (by omega)
      refine ⟨f, h1, ?_⟩
      rw [q_fu (by omega)]
      generalize zzlp (sX2_renew_17 p0 p1 j) (fuel - 1) = rec at h2 ⊢
      unfold sX2_renew_17
      dsimp only
      rw [if_neg (by rw [q_k60]; exact nI_ge (by omega) (by omega)), q_pa (by omega) (by decide), q_cl (by omega), nI_1]
      have e : zza (v.1, va_up u.2 (8 + j) g) (8 + j) i (0 : Int32) = (v.1, va_up u.2 (8 + j) (upd g i 0)) := by
        refine q_ext (fun k => rfl) (fun k => ?_)
        by_cases hk : k = 8 + j
        · subst hk; simp [zza, va_up]
        · simp [zza, va_up, hk]
      rw [e]
      exact h2
  have h := key 60 0 rfl (u.2 (8 + j)) (fun k hk => absurd hk (by omega)) zzFU (by decide)
  have e : (v.1, va_up u.2 (8 + j) (u.2 (8 + j))) = v := by
    refine q_ext (fun k => rfl) (fun k => ?_)
    rw [hv2]
    by_cases hk : k = 8 + j
    · subst hk; simp [va_up]
    · simp [va_up, hk]
  rw [e] at h
  exact h
section QP
variable {ux uy : zzS}
theorem e_sheet (h : qR ux uy) (p0 p1 p2 : Int32) : qE (fX4_sheet ux p0 p1 p2) (fX5_sheet uy p0 p1 p2) := by
  have h0 := q_R0 h 0
  unfold fX4_sheet fX5_sheet fX4_failed fX5_fails
  rcases q_shk p0 with ⟨j, hj, rfl, e1, e2⟩ | ⟨e1, e2⟩
  · rw [e1, e2]
    simp only [zzop, Option.bind_some, if_neg q_10]
    rcases q_lane p1 with ⟨⟨l, l1, rfl⟩, e3, e4⟩ | ⟨e3, e4⟩
    · rw [e3, e4]
      simp only [Option.bind_some, if_neg q_10]
      by_cases h60 : p2 ≤ (60 : Int32)
      · rw [if_pos h60, if_pos h60]
        by_cases hz : (0 : Int32) ≤ p2
        · rw [if_pos hz, if_pos hz, q_pa hj (by decide), q_pa hj (by decide), q_cl (by omega)]
          obtain ⟨sz, hsz, rfl⟩ : ∃ sz : Nat, sz ≤ 60 ∧ p2 = nI sz := nI_of2 (M := 60) (n := 60) (by decide) (fun hc => by
            rw [Int32.lt_iff_toInt_lt] at hc
            rw [Int32.le_iff_toInt_le] at hz
            omega) h60
          obtain ⟨f, hf, ef⟩ := q_renew (zzi ux 12 0) j (nI l) (nI sz)
          rw [ef, Option.bind_some]
          have key : ∀ m i, i + m = 60 → ∀ g : Nat → Int32, (∀ k, k < i → g (60 * j + k) = 0) → (∀ k, k < 60 * j ∨ 60 * j + 60 ≤ k → g k = uy.2 4 k) → ∀ fuel, m < fuel → ∃ g', (∀ k, k < 60 → g' (60 * j + k) = 0) ∧ (∀ k, k < 60 * j ∨ 60 * j + 60 ≤ k → g' k = uy.2 4 k) ∧ zzlp (sX5_sheet_57 (nI j) (nI l) (nI sz)) fuel (nI i, ((zzi uy 0 0).1, va_up (zza (zza (zzi uy 0 0) 2 j (nI l)) 3 j (nI sz)).2 4 g)) = some (1, ((zzi uy 0 0).1, va_up (zza (zza (zzi uy 0 0) 2 j (nI l)) 3 j (nI sz)).2 4 g')) := by
            intro m
            induction m with
            | zero =>
              intro i hi g h1 h2 fuel hfu
              refine ⟨g, fun k hk => h1 k (by omega), h2, ?_⟩
              rw [q_fu (by omega)]
              unfold sX5_sheet_57
              dsimp only
              rw [if_pos (by rw [q_k60]; exact nI_le (by omega) (by omega))]
            | succ m ih =>
              intro i hi g h1 h2 fuel hfu
              obtain ⟨g', a1, a2, a3⟩ := ih (i + 1) (by omega) (upd g (60 * j + i) 0) (fun k hk => by
                unfold upd
                split
                · rfl
                · exact h1 k (by omega)) (fun k hk => by
                unfold upd
                rw [if_neg (by omega)]
                exact h2 k hk) (fuel - 1) (by omega)
              refine ⟨g', a1, a2, ?_⟩
              rw [q_fu (by omega)]
              generalize zzlp (sX5_sheet_57 (nI j) (nI l) (nI sz)) (fuel - 1) = rec at a3 ⊢
              unfold sX5_sheet_57
              dsimp only
              rw [if_neg (by rw [q_k60]; exact nI_ge (by omega) (by omega)), q_ix, q_pa (by omega) (by decide), q_cl (by omega), nI_1]
              have e : zza ((zzi uy 0 0).1, va_up (zza (zza (zzi uy 0 0) 2 j (nI l)) 3 j (nI sz)).2 4 g) 4 (60 * j + i) (0 : Int32) = ((zzi uy 0 0).1, va_up (zza (zza (zzi uy 0 0) 2 j (nI l)) 3 j (nI sz)).2 4 (upd g (60 * j + i) 0)) := by
                refine q_ext (fun k => rfl) (fun k => ?_)
                by_cases hk : k = 4
                · subst hk; simp [zza, va_up]
                · simp [zza, va_up, hk]
              rw [e]
              exact a3
          obtain ⟨g', a1, a2, a3⟩ := key 60 0 rfl (uy.2 4) (fun k hk => absurd hk (by omega)) (fun k _ => rfl) zzFU (by decide)
          have e : ((zzi uy 0 0).1, va_up (zza (zza (zzi uy 0 0) 2 j (nI l)) 3 j (nI sz)).2 4 (uy.2 4)) = zza (zza (zzi uy 0 0) 2 j (nI l)) 3 j (nI sz) := by
            refine q_ext (fun k => rfl) (fun k => ?_)
            by_cases hk : k = 4
            · subst hk; simp [zza, zzi, va_up]
            · simp [va_up, hk]
          rw [e] at a3
          refine ⟨_, _, _, rfl, a3, q_Rs h (fun k hk => ?_) (fun k hk => ?_) (fun k hk => ?_) (fun k hk => ?_) ?_ (fun j' hj' => ?_)⟩
          · have b1 : ¬ k = 13 + 3 * j := by omega
            have b2 : ¬ k = 14 + 3 * j := by omega
            have b3 : ¬ k = 15 + 3 * j := by omega
            have b4 : ¬ k = 12 := by omega
            simp only [zzi, va_up, b1, b2, b3, b4, if_false, if_true]
          · have b1 : ¬ k = 8 + j := by omega
            simp only [zzi, va_up, b1, if_false, if_true]
          · have b1 : ¬ k = 0 := by omega
            simp only [zzi, va_up, b1, if_false, if_true]
          · have b1 : ¬ k = 4 := by omega
            have b2 : ¬ k = 3 := by omega
            have b3 : ¬ k = 2 := by omega
            simp only [zza, zzi, va_up, b1, b2, b3, if_false, if_true]
          · have b1 : ¬ 12 = 13 + 3 * j := by omega
            have b2 : ¬ 12 = 14 + 3 * j := by omega
            have b3 : ¬ 12 = 15 + 3 * j := by omega
            simp only [zzi, va_up, b1, b2, b3, if_false, if_true]
          · by_cases hjj : j' = j
            · subst hjj
              refine ⟨fun i hi => ?_, Or.inr ⟨?_, l, sz, l1, hsz, ?_, ?_, ?_, ?_⟩⟩
              · simp only [va_up, if_true]
                rw [hf i hi, a1 i hi]
              · have b2 : ¬ 13 + 3 * j' = 14 + 3 * j' := by omega
                have b3 : ¬ 13 + 3 * j' = 15 + 3 * j' := by omega
                simp only [zzi, va_up, b2, b3, if_false, if_true]
              · simp [zza, zzi, va_up, upd]
              · have b3 : ¬ 14 + 3 * j' = 15 + 3 * j' := by omega
                simp only [zzi, va_up, b3, if_false, if_true]
              · simp [zzi, va_up]
              · simp [zza, zzi, va_up, upd]
            · refine q_Ho (q_Hj h hj') ?_ ?_ ?_ ?_ ?_ ?_ (fun i hi => ?_)
              · have b1 : ¬ 13 + 3 * j' = 13 + 3 * j := by omega
                have b2 : ¬ 13 + 3 * j' = 14 + 3 * j := by omega
                have b3 : ¬ 13 + 3 * j' = 15 + 3 * j := by omega
                have b4 : ¬ 13 + 3 * j' = 12 := by omega
                simp only [zzi, va_up, b1, b2, b3, b4, if_false, if_true]
              · have b1 : ¬ 14 + 3 * j' = 13 + 3 * j := by omega
                have b2 : ¬ 14 + 3 * j' = 14 + 3 * j := by omega
                have b3 : ¬ 14 + 3 * j' = 15 + 3 * j := by omega
                have b4 : ¬ 14 + 3 * j' = 12 := by omega
                simp only [zzi, va_up, b1, b2, b3, b4, if_false, if_true]
              · have b1 : ¬ 15 + 3 * j' = 13 + 3 * j := by omega
                have b2 : ¬ 15 + 3 * j' = 14 + 3 * j := by omega
                have b3 : ¬ 15 + 3 * j' = 15 + 3 * j := by omega
                have b4 : ¬ 15 + 3 * j' = 12 := by omega
                simp only [zzi, va_up, b1, b2, b3, b4, if_false, if_true]
              · have b1 : ¬ 8 + j' = 8 + j := by omega
                simp only [zzi, va_up, b1, if_false, if_true]
              · simp [zza, zzi, va_up, upd, hjj]
              · simp [zza, zzi, va_up, upd, hjj]
              · simp only [va_up, if_true]
                exact a2 _ (by omega)
        · rw [if_neg hz, if_neg hz]
          exact ⟨_, _, _, rfl, rfl, q_R0 h0 4⟩
      · rw [if_neg h60, if_neg h60]
        exact ⟨_, _, _, rfl, rfl, h0⟩
    · rw [e3, e4]
      exact ⟨_, _, _, rfl, rfl, h0⟩
  · rw [e1, e2]
    exact ⟨_, _, _, rfl, rfl, h0⟩
theorem e_lose (h : qR ux uy) (p0 : Int32) : qE (fX4_lose ux p0) (fX5_lose uy p0) := by
  unfold fX4_lose fX5_lose fX2_empty
  rcases q_shk p0 with ⟨j, hj, rfl, e1, e2⟩ | ⟨e1, e2⟩
  · rw [e1, e2]
    simp only [zzop, Option.bind_some, if_neg q_10, q_ga hj (show 4 < 1000 by decide), q_pa hj (show 4 < 1000 by decide), q_cl (show j < 2 ^ 31 by omega)]
    have hR : qR (zzi (zzi ux (13 + 3 * j) (0 : Int32)) (15 + 3 * j) (0 : Int32)) (zza uy 2 j (-9 : Int32)) := by
      refine q_Rs h (fun k hk => ?_) (fun k hk => rfl) (fun k hk => rfl) (fun k hk => ?_) ?_ (fun j' hj' => ?_)
      · have b1 : ¬ k = 13 + 3 * j := by omega
        have b3 : ¬ k = 15 + 3 * j := by omega
        simp only [zzi, va_up, b1, b3, if_false, if_true]
      · have b3 : ¬ k = 2 := by omega
        simp only [zza, va_up, b3, if_false, if_true]
      · have b1 : ¬ 12 = 13 + 3 * j := by omega
        have b3 : ¬ 12 = 15 + 3 * j := by omega
        simp only [zzi, va_up, b1, b3, if_false, if_true]
        exact h.2.2.2.2.1
      · by_cases hjj : j' = j
        · subst hjj
          refine ⟨(q_Hj h hj').1, Or.inl ⟨?_, ?_⟩⟩
          · have b3 : ¬ 13 + 3 * j' = 15 + 3 * j' := by omega
            simp only [zzi, va_up, b3, if_false, if_true]
          · simp [zza, va_up, upd]
        · refine q_Ho (q_Hj h hj') ?_ ?_ ?_ rfl ?_ rfl (fun i hi => rfl)
          · have b1 : ¬ 13 + 3 * j' = 13 + 3 * j := by omega
            have b3 : ¬ 13 + 3 * j' = 15 + 3 * j := by omega
            simp only [zzi, va_up, b1, b3, if_false, if_true]
          · have b1 : ¬ 14 + 3 * j' = 13 + 3 * j := by omega
            have b3 : ¬ 14 + 3 * j' = 15 + 3 * j := by omega
            simp only [zzi, va_up, b1, b3, if_false, if_true]
          · have b1 : ¬ 15 + 3 * j' = 13 + 3 * j := by omega
            have b3 : ¬ 15 + 3 * j' = 15 + 3 * j := by omega
            simp only [zzi, va_up, b1, b3, if_false, if_true]
          · simp [zza, va_up, upd, hjj]
    rcases (q_Hj h hj).2 with ⟨a1, a2⟩ | ⟨a1, l, sz, l1, s1, a2, -⟩
    · rw [a1, a2, if_pos rfl, if_pos rfl]
      exact ⟨_, _, _, rfl, rfl, hR⟩
    · rw [a1, a2, if_neg q_10, if_neg]
      · exact ⟨_, _, _, rfl, rfl, hR⟩
      · have : ∀ l, l < 3 → ¬ nI l = (-9 : Int32) := by decide
        exact this l (by omega)
  · rw [e1, e2]
    exact ⟨_, _, _, rfl, rfl, h⟩
theorem q_n9 : ∀ l, l < 3 → ¬ nI l = (-9 : Int32) := by decide
theorem q_hasC {u : zzS} {j sz : Nat} (hs : u.1 (15 + 3 * j) = nI sz) (h60 : sz ≤ 60) (p : Int32) : (∃ i : Nat, i < sz ∧ p = nI i ∧ fX2_hasCell j u p = some 1 ∧ fX5_within p (0 : Int32) (nI sz - (1 : Int32)) = some 1) ∨ (fX2_hasCell j u p = some 0 ∧ fX5_within p (0 : Int32) (nI sz - (1 : Int32)) = some 0) := by
  have e1 : (nI sz - (1 : Int32)).toInt = (sz : Int) - 1 := by
    have := pk_sub_toInt (a := sz) (b := 1) (by omega) (by omega)
    exact this
  have e0 : (0 : Int32).toInt = 0 := by decide
  have es : (nI sz).toInt = sz := nI_toInt (by omega)
  have e60 : (60 : Int32).toInt = 60 := by decide
  rw [q_win]
  unfold fX2_hasCell
  rw [hs]
  simp only [Int32.lt_iff_toInt_lt, Int32.le_iff_toInt_le, e0, e1, es, e60]
  by_cases hp : 0 ≤ p.toInt ∧ p.toInt < sz
  · left
    obtain ⟨i, hi, rfl⟩ : ∃ i : Nat, i < 2 ^ 31 ∧ p = nI i := nI_of (by rw [Int32.lt_iff_toInt_lt]; omega)
    rw [nI_toInt hi] at hp ⊢
    refine ⟨i, by omega, rfl, ?_, ?_⟩
    · rw [if_neg (by omega), if_neg (by omega), if_neg (by omega)]
    · rw [if_neg (by omega)]
  · right
    constructor
    · by_cases h1 : p.toInt < 0
      · rw [if_pos h1]
      · rw [if_neg h1, if_pos (by omega)]
    · rw [if_pos (by omega)]
theorem q_Rput (h : qR ux uy) {j i : Nat} (hj : j < 4) (hi : i < 60) (v : Int32) : qR (zza ux (8 + j) i v) (zza uy 4 (60 * j + i) v) := by
  refine q_Rs h (fun k hk => rfl) (fun k hk => ?_) (fun k hk => rfl) (fun k hk => ?_) h.2.2.2.2.1 (fun j' hj' => ?_)
  · have b1 : ¬ k = 8 + j := by omega
    simp only [zza, va_up, b1, if_false, if_true]
  · have b1 : ¬ k = 4 := by omega
    simp only [zza, va_up, b1, if_false, if_true]
  · have hh := q_Hj h hj'
    refine ⟨fun i' hi' => ?_, hh.2⟩
    have h4 : (zza uy 4 (60 * j + i) v).2 4 = upd (uy.2 4) (60 * j + i) v := by simp [zza, va_up]
    rw [h4]
    by_cases hjj : j' = j
    · subst hjj
      have h8 : (zza ux (8 + j') i v).2 (8 + j') = upd (ux.2 (8 + j')) i v := by simp [zza, va_up]
      rw [h8]
      unfold upd
      by_cases hii : i' = i
      · rw [if_pos hii, if_pos (by omega)]
      · rw [if_neg hii, if_neg (by omega)]
        exact hh.1 i' hi'
    · have b1 : ¬ 8 + j' = 8 + j := by omega
      have h8 : (zza ux (8 + j) i v).2 (8 + j') = ux.2 (8 + j') := by simp only [zza, va_up, b1, if_false, if_true]
      rw [h8]
      unfold upd
      rw [if_neg (by omega)]
      exact hh.1 i' hi'
theorem e_put (h : qR ux uy) (p0 p1 p2 : Int32) : qE (fX4_put ux p0 p1 p2) (fX5_put uy p0 p1 p2) := by
  have h0 := q_R0 h 0
  unfold fX4_put fX5_put fX4_failed fX5_fails
  rcases q_shk p0 with ⟨j, hj, rfl, e1, e2⟩ | ⟨e1, e2⟩
  · rw [e1, e2]
    simp only [zzop, Option.bind_some, if_neg q_10, q_ga hj (show 4 < 1000 by decide)]
    rcases (q_Hj h0 hj).2 with ⟨a1, a2⟩ | ⟨a1, l, sz, l1, s1, a2, a3, a4, a5⟩
    · rw [a1, a2, if_pos rfl, if_pos rfl]
      exact ⟨_, _, _, rfl, rfl, q_R0 h0 1⟩
    · rw [a1, a2, a5, if_neg q_10, if_neg (q_n9 l (by omega))]
      rcases q_hasC a4 s1 p1 with ⟨i, hi, rfl, b1, b2⟩ | ⟨b1, b2⟩
      · rw [b1, b2]
        simp only [Option.bind_some, if_neg q_10, q_ix, q_pa (show i < 60 by omega) (show 60 < 1000 by decide), q_pa (show 60 * j + i < 240 by omega) (show 240 < 1000 by decide), q_cl (show i < 2 ^ 31 by omega), q_cl (show 60 * j + i < 2 ^ 31 by omega)]
        unfold fX2_cutToLane
        rw [a3]
        split
        · exact ⟨_, _, _, rfl, rfl, q_Rput h0 hj (by omega) _⟩
        · split
          · exact ⟨_, _, _, rfl, rfl, q_Rput h0 hj (by omega) _⟩
          · exact ⟨_, _, _, rfl, rfl, q_Rput h0 hj (by omega) _⟩
      · rw [b1, b2]
        exact ⟨_, _, _, rfl, rfl, q_R0 h0 3⟩
  · rw [e1, e2]
    exact ⟨_, _, _, rfl, rfl, h0⟩
theorem q_at {u : zzS} {j sz i : Nat} (hs : u.1 (15 + 3 * j) = nI sz) (h60 : sz ≤ 60) (hi : i < sz) : fX2_at j u (nI i) = some (u.2 (8 + j) i) := by
  unfold fX2_at
  rcases q_hasC hs h60 (nI i) with ⟨i', hi', e, b1, -⟩ | ⟨b1, b2⟩
  · rw [b1, Option.bind_some, if_neg q_10, q_ga (by omega) (by decide)]
  · exfalso
    unfold fX2_hasCell at b1
    rw [hs, if_neg (nI_pos (by omega)), if_neg (nI_ge hi (by omega)), if_neg (by rw [q_k60]; exact nI_ge (by omega) (by omega))] at b1
    exact absurd b1 (by decide)
theorem e_cell (h : qR ux uy) (p0 p1 p2 : Int32) : qE (fX4_cell ux p0 p1 p2) (fX5_cell uy p0 p1 p2) := by
  have h0 := q_R0 h 0
  unfold fX4_cell fX5_cell fX5_lost
  rcases q_shk p0 with ⟨j, hj, rfl, e1, e2⟩ | ⟨e1, e2⟩
  · rw [e1, e2]
    simp only [zzop, Option.bind_some, if_neg q_10, q_ga hj (show 4 < 1000 by decide)]
    rcases q_lane p2 with ⟨⟨l2, l3, rfl⟩, e3, e4⟩ | ⟨e3, e4⟩
    · rw [e3, e4]
      simp only [Option.bind_some, if_neg q_10]
      have e12 : ∀ (w : zzS) (v : Int32), (zzi w 12 v).1 12 = v := fun w v => by simp [zzi, va_up]
      simp only [e12]
      rcases (q_Hj h0 hj).2 with ⟨a1, a2⟩ | ⟨a1, l, sz, l1, s1, a2, a3, a4, a5⟩
      · unfold fX2_faultAs
        rw [a1, a2]
        simp only [if_true, Option.bind_some]
        exact ⟨_, _, _, rfl, rfl, q_R0 h0 1⟩
      · unfold fX2_faultAs
        rw [a1, a2, a3, a5]
        simp only [if_neg q_10, if_neg (q_n9 l (by omega))]
        by_cases hl : nI l = nI l2
        · simp only [if_pos hl, Option.bind_some, if_true]
          have a4' : (zzi (zzi ux 12 0) 12 0).1 (15 + 3 * j) = nI sz := by
            have b1 : ¬ 15 + 3 * j = 12 := by omega
            simp only [zzi, va_up, b1, if_false, if_true] at a4 ⊢
            exact a4
          rcases q_hasC a4' s1 p1 with ⟨i, hi, rfl, b1, b2⟩ | ⟨b1, b2⟩
          · rw [b1, b2, q_at a4' s1 hi]
            simp only [Option.bind_some, if_neg q_10, q_ix, q_ga (show 60 * j + i < 240 by omega) (show 240 < 1000 by decide)]
            have hc : (zzi (zzi ux 12 0) 12 0).2 (8 + j) i = (zzi uy 0 0).2 4 (60 * j + i) := (q_Hj h hj).1 i (by omega)
            rw [hc]
            exact ⟨_, _, _, rfl, rfl, q_R0 h0 0⟩
          · rw [b1, b2]
            simp only [Option.bind_some, if_true, if_neg (show ¬ (3 : Int32) = 0 by decide)]
            exact ⟨_, _, _, rfl, rfl, q_R0 (q_R0 h0 0) 3⟩
        · simp only [if_neg hl, Option.bind_some, if_neg (show ¬ (2 : Int32) = 0 by decide)]
          exact ⟨_, _, _, rfl, rfl, q_R0 h0 2⟩
    · rw [e3, e4]
      exact ⟨_, _, _, rfl, rfl, h0⟩
  · rw [e1, e2]
    exact ⟨_, _, _, rfl, rfl, h0⟩
end QP
