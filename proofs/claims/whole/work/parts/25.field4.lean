/-! ===== pure part 16: field, the two sides ===== -/
theorem q_ax (a i s : Nat) (k : Int32) (hk : k = nI s) : nI a + (3 : Int32) + (4 : Int32) * nI i + k = nI (a + (3 + 4 * i + s)) := by
  rw [hk, show nI a + (3 : Int32) = nI (a + 3) from nI_add a 3, show (4 : Int32) * nI i = nI (4 * i) from pk_mul 4 i, nI_add, nI_add]
  exact congrArg nI (by omega)
/-- what the system lays -/
theorem q_lay {u : zzS} {j sz a m r : Nat} (hs : u.1 (15 + 3 * j) = nI sz) (h60 : sz ≤ 60) (ham : a + m ≤ sz) (hm : m = 3 + 4 * r) (hr1 : 1 ≤ r) (hr5 : r ≤ 5) (hok : ∀ k, k < m → qoc k (u.2 (8 + j) (a + k)) = true) : ∃ w : zzS, fX4_layField j u (nI a) (nI m) = some w ∧ w.1 0 = nI r ∧ w.1 1 = u.2 (8 + j) (a + 1) - (48 : Int32) ∧ w.1 2 = u.2 (8 + j) (a + 2) - (48 : Int32) ∧ w.1 10 = 0 ∧ (∀ k, ¬ k = 10 → 2 < k → w.1 k = u.1 k) ∧ (∀ k, 2 < k → w.2 k = u.2 k) ∧ ∀ b, (b < r → w.2 0 b = nI (qkl (u.2 (8 + j) (a + (4 + 4 * b)))) ∧ w.2 1 b = nI (qdg (u.2 (8 + j) (a + (5 + 4 * b)))) ∧ w.2 2 b = nI (qdg (u.2 (8 + j) (a + (6 + 4 * b))))) ∧ (¬ b < r → w.2 0 b = u.2 0 b ∧ w.2 1 b = u.2 1 b ∧ w.2 2 b = u.2 2 b) := by
  unfold fX4_layField
  rw [show nI a + (1 : Int32) = nI (a + 1) from nI_add a 1, show nI a + (2 : Int32) = nI (a + 2) from nI_add a 2, q_at hs h60 (by omega), Option.bind_some]
  rw [q_at (show (zzi u 1 (u.2 (8 + j) (a + 1) - (48 : Int32))).1 (15 + 3 * j) = nI sz by
    have : ¬ 15 + 3 * j = 1 := by omega
    simp only [zzi, va_up, this, if_false]; exact hs) h60 (by omega), Option.bind_some]
  rw [show (nI m - (3 : Int32)) / (4 : Int32) = nI r by
    rw [show nI m - (3 : Int32) = nI (m - 3) from pk_sub (b := 3) (by omega), show nI (m - 3) / (4 : Int32) = nI ((m - 3) / 4) from pk_div (d := 4) (by omega) (by decide) (by decide)]
    exact congrArg nI (by omega)]
  have hu2 : (zzi u 1 (u.2 (8 + j) (a + 1) - (48 : Int32))).2 (8 + j) (a + 2) = u.2 (8 + j) (a + 2) := rfl
  rw [hu2]
  generalize hu1 : zzi (zzi (zzi u 1 (u.2 (8 + j) (a + 1) - (48 : Int32))) 2 (u.2 (8 + j) (a + 2) - (48 : Int32))) 0 (nI r) = u1
  have i0 : u1.1 0 = nI r := by rw [← hu1]; rfl
  have i1 : u1.1 1 = u.2 (8 + j) (a + 1) - (48 : Int32) := by rw [← hu1]; rfl
  have i2 : u1.1 2 = u.2 (8 + j) (a + 2) - (48 : Int32) := by rw [← hu1]; rfl
  have ik : ∀ k, 2 < k → u1.1 k = u.1 k := fun k hk => by
    have c0 : ¬ k = 0 := by omega
    have c1 : ¬ k = 1 := by omega
    have c2 : ¬ k = 2 := by omega
    rw [← hu1]
    simp only [zzi, va_up, c0, c1, c2, if_false]
  have ir : u1.2 = u.2 := by rw [← hu1]; rfl
  have key : ∀ n i, i + n = r → ∀ w : zzS, w.1 = u1.1 → (∀ k, 2 < k → w.2 k = u.2 k) → (∀ b, (b < i → w.2 0 b = nI (qkl (u.2 (8 + j) (a + (4 + 4 * b)))) ∧ w.2 1 b = nI (qdg (u.2 (8 + j) (a + (5 + 4 * b)))) ∧ w.2 2 b = nI (qdg (u.2 (8 + j) (a + (6 + 4 * b))))) ∧ (¬ b < i → w.2 0 b = u.2 0 b ∧ w.2 1 b = u.2 1 b ∧ w.2 2 b = u.2 2 b)) → ∀ fuel, n < fuel → ∃ w' : zzS, zzlp (sX4_layField_49 (nI a) (nI m) j) fuel (nI i, w) = some (zzi w' 10 0) ∧ w'.1 = u1.1 ∧ (∀ k, 2 < k → w'.2 k = u.2 k) ∧ ∀ b, (b < r → w'.2 0 b = nI (qkl (u.2 (8 + j) (a + (4 + 4 * b)))) ∧ w'.2 1 b = nI (qdg (u.2 (8 + j) (a + (5 + 4 * b)))) ∧ w'.2 2 b = nI (qdg (u.2 (8 + j) (a + (6 + 4 * b))))) ∧ (¬ b < r → w'.2 0 b = u.2 0 b ∧ w'.2 1 b = u.2 1 b ∧ w'.2 2 b = u.2 2 b) := by
    intro n
    induction n with
    | zero =>
      intro i hi w hw1 hw2 hw fuel hf
      obtain rfl : i = r := by omega
      rw [q_fu (by omega)]
      unfold sX4_layField_49
      dsimp only
      rw [hw1, i0, if_pos (nI_le (by omega) (by omega))]
      exact ⟨w, rfl, hw1, hw2, hw⟩
    | succ n ih =>
      intro i hi w hw1 hw2 hw fuel hf
      have o1 : qlt (u.2 (8 + j) (a + (4 + 4 * i))) = true := by rw [← (q_oc1 (r := i) (by omega) _).1]; exact hok _ (by omega)
      have o2 : qdc (u.2 (8 + j) (a + (5 + 4 * i))) = true := by
        have := (q_oc1 (r := i) (by omega) (u.2 (8 + j) (a + (5 + 4 * i)))).2.1
        rw [← this, show 4 + 4 * i + 1 = 5 + 4 * i by omega]; exact hok _ (by omega)
      have o3 : qdc (u.2 (8 + j) (a + (6 + 4 * i))) = true := by
        have := (q_oc1 (r := i) (by omega) (u.2 (8 + j) (a + (6 + 4 * i)))).2.2.1
        rw [← this, show 4 + 4 * i + 2 = 6 + 4 * i by omega]; exact hok _ (by omega)
      obtain ⟨kv, ek, hk1, -⟩ := q_ltC (u.2 (8 + j) (a + (4 + 4 * i)))
      have hkv := (hk1 o1).1
      have g2 := (q_dg o2).1
      have g3 := (q_dg o3).1
      have ih' := ih (i + 1) (by omega) (zza (zza (zza w 0 i kv) 1 i (u.2 (8 + j) (a + (5 + 4 * i)) - (48 : Int32))) 2 i (u.2 (8 + j) (a + (6 + 4 * i)) - (48 : Int32))) hw1 (fun k hk => by
        have c0 : ¬ k = 0 := by omega
        have c1 : ¬ k = 1 := by omega
        have c2 : ¬ k = 2 := by omega
        simp only [zza, va_up, c0, c1, c2, if_false]
        exact hw2 k hk) (fun b => by
        show (b < i + 1 → upd (w.2 0) i kv b = _ ∧ upd (w.2 1) i _ b = _ ∧ upd (w.2 2) i _ b = _) ∧ (¬ b < i + 1 → upd (w.2 0) i kv b = _ ∧ upd (w.2 1) i _ b = _ ∧ upd (w.2 2) i _ b = _)
        unfold upd
        by_cases hb : b = i
        · subst hb
          simp only [if_true]
          exact ⟨fun _ => ⟨hkv, g2, g3⟩, fun h => absurd h (by omega)⟩
        · simp only [if_neg hb]
          exact ⟨fun h => (hw b).1 (by omega), fun h => (hw b).2 (by omega)⟩) (fuel - 1) (by omega)
      obtain ⟨w', h1, h2⟩ := ih'
      refine ⟨w', ?_, h2⟩
      rw [q_fu (by omega)]
      generalize zzlp (sX4_layField_49 (nI a) (nI m) j) (fuel - 1) = rec at h1 ⊢
      unfold sX4_layField_49
      dsimp only
      have hsz : ∀ w2 : zzS, w2.1 = w.1 → w2.1 (15 + 3 * j) = nI sz := fun w2 h => by rw [h, hw1, ik _ (by omega)]; exact hs
      have hrow : ∀ k, 2 < k → w.2 k = u.2 k := hw2
      rw [hw1, i0, if_neg (nI_ge (by omega) (by omega)), if_neg (by rw [q_k5]; exact nI_ge (by omega) (by omega)), q_ax a i 1 1 rfl, q_ax a i 2 2 rfl, q_ax a i 3 3 rfl]
      rw [q_at (hsz w rfl) h60 (by omega), Option.bind_some, hw2 (8 + j) (by omega), show 3 + 4 * i + 1 = 4 + 4 * i by omega, ek, Option.bind_some, q_pa (by omega) (by decide), q_cl (by omega)]
      rw [q_at (hsz (zza w 0 i kv) rfl) h60 (by omega), Option.bind_some, q_pa (by omega) (by decide)]
      have r1 : (zza w 0 i kv).2 (8 + j) = u.2 (8 + j) := by
        have c0 : ¬ 8 + j = 0 := by omega
        simp only [zza, va_up, c0, if_false]
        exact hw2 _ (by omega)
      rw [r1, show 3 + 4 * i + 2 = 5 + 4 * i by omega]
      rw [q_at (hsz (zza (zza w 0 i kv) 1 i (u.2 (8 + j) (a + (5 + 4 * i)) - (48 : Int32))) rfl) h60 (by omega), Option.bind_some, q_pa (by omega) (by decide)]
      have r2 : (zza (zza w 0 i kv) 1 i (u.2 (8 + j) (a + (5 + 4 * i)) - (48 : Int32))).2 (8 + j) = u.2 (8 + j) := by
        have c0 : ¬ 8 + j = 0 := by omega
        have c1 : ¬ 8 + j = 1 := by omega
        simp only [zza, va_up, c0, c1, if_false]
        exact hw2 _ (by omega)
      rw [r2, show 3 + 4 * i + 3 = 6 + 4 * i by omega, nI_1]
      exact h1
  obtain ⟨w', h1, h2, h3, h4⟩ := key r 0 (by omega) u1 rfl (fun k _ => by rw [ir]) (fun b => ⟨fun h => absurd h (by omega), fun _ => by rw [ir]; exact ⟨rfl, rfl, rfl⟩⟩) zzFU (by unfold zzFU; omega)
  refine ⟨zzi w' 10 0, h1, ?_, ?_, ?_, rfl, ?_, h3, h4⟩
  · show w'.1 0 = _; rw [h2, i0]
  · show w'.1 1 = _; rw [h2, i1]
  · show w'.1 2 = _; rw [h2, i2]
  · intro k hk hk2
    simp only [zzi, va_up, hk, if_false]
    rw [h2]
    exact ik k hk2
/-- what the reference lays -/
theorem q_layY {u : zzS} {r : Nat} (hr5 : r ≤ 5) (h5 : u.1 5 = nI r) (p0 p1 p2 p3 : Int32) : ∃ w : zzS, zzlp (sX5_field_111 p0 p1 p2 p3) zzFU ((0 : Int32), u) = some (nI r, zzi w 26 0) ∧ w.1 = u.1 ∧ (∀ k, k < 8 ∨ 10 < k → w.2 k = u.2 k) ∧ ∀ b, (b < r → w.2 8 b = u.2 16 b ∧ w.2 9 b = u.2 17 b ∧ w.2 10 b = u.2 18 b) ∧ (¬ b < r → w.2 8 b = u.2 8 b ∧ w.2 9 b = u.2 9 b ∧ w.2 10 b = u.2 10 b) := by
  have key : ∀ n i, i + n = r → ∀ w : zzS, w.1 = u.1 → (∀ k, k < 8 ∨ 10 < k → w.2 k = u.2 k) → (∀ b, (b < i → w.2 8 b = u.2 16 b ∧ w.2 9 b = u.2 17 b ∧ w.2 10 b = u.2 18 b) ∧ (¬ b < i → w.2 8 b = u.2 8 b ∧ w.2 9 b = u.2 9 b ∧ w.2 10 b = u.2 10 b)) → ∀ fuel, n < fuel → ∃ w' : zzS, zzlp (sX5_field_111 p0 p1 p2 p3) fuel (nI i, w) = some (nI r, zzi w' 26 0) ∧ w'.1 = u.1 ∧ (∀ k, k < 8 ∨ 10 < k → w'.2 k = u.2 k) ∧ ∀ b, (b < r → w'.2 8 b = u.2 16 b ∧ w'.2 9 b = u.2 17 b ∧ w'.2 10 b = u.2 18 b) ∧ (¬ b < r → w'.2 8 b = u.2 8 b ∧ w'.2 9 b = u.2 9 b ∧ w'.2 10 b = u.2 10 b) := by
    intro n
    induction n with
    | zero =>
      intro i hi w hw1 hw2 hw fuel hf
      obtain rfl : i = r := by omega
      rw [q_fu (by omega)]
      unfold sX5_field_111
      dsimp only
      have e5 : (zzi w 26 (0 : Int32)).1 5 = nI i := by
        show w.1 5 = _; rw [hw1, h5]
      rw [e5, hw1, h5, if_pos (nI_le (by omega) (by omega))]
      exact ⟨w, rfl, hw1, hw2, hw⟩
    | succ n ih =>
      intro i hi w hw1 hw2 hw fuel hf
      have ih' := ih (i + 1) (by omega) (zza (zza (zza w 8 i (u.2 16 i)) 9 i (u.2 17 i)) 10 i (u.2 18 i)) hw1 (fun k hk => by
        have c0 : ¬ k = 8 := by omega
        have c1 : ¬ k = 9 := by omega
        have c2 : ¬ k = 10 := by omega
        simp only [zza, va_up, c0, c1, c2, if_false]
        exact hw2 k hk) (fun b => by
        show (b < i + 1 → upd (w.2 8) i _ b = _ ∧ upd (w.2 9) i _ b = _ ∧ upd (w.2 10) i _ b = _) ∧ (¬ b < i + 1 → upd (w.2 8) i _ b = _ ∧ upd (w.2 9) i _ b = _ ∧ upd (w.2 10) i _ b = _)
        unfold upd
        by_cases hb : b = i
        · subst hb
          simp only [if_true]
          exact ⟨fun _ => ⟨trivial, trivial, trivial⟩, fun h => absurd h (by omega)⟩
        · simp only [if_neg hb]
          exact ⟨fun h => (hw b).1 (by omega), fun h => (hw b).2 (by omega)⟩) (fuel - 1) (by omega)
      obtain ⟨w', h1, h2⟩ := ih'
      refine ⟨w', ?_, h2⟩
      rw [q_fu (by omega)]
      generalize zzlp (sX5_field_111 p0 p1 p2 p3) (fuel - 1) = rec at h1 ⊢
      unfold sX5_field_111
      dsimp only
      rw [hw1, h5, if_neg (nI_ge (by omega) (by omega)), q_ga (by omega) (by decide), q_pa (by omega) (by decide), q_cl (by omega), hw2 16 (by omega)]
      rw [show (zza w 8 i (u.2 16 i)).2 17 = u.2 17 from hw2 17 (by omega), q_ga (by omega) (by decide), q_pa (by omega) (by decide)]
      rw [show (zza (zza w 8 i (u.2 16 i)) 9 i (u.2 17 i)).2 18 = u.2 18 from hw2 18 (by omega), q_ga (by omega) (by decide), q_pa (by omega) (by decide), nI_1]
      exact h1
  exact key r 0 (by omega) u rfl (fun k _ => rfl) (fun b => ⟨fun h => absurd h (by omega), fun _ => ⟨rfl, rfl, rfl⟩⟩) zzFU (by unfold zzFU; omega)
