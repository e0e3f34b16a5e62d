/-! ===== pure part 15: field, joined ===== -/
/-- the reference has read all of the text: r standers -/
def qGd (c : Nat → Int32) (m r : Nat) (u w : zzS) : Prop := 1 ≤ r ∧ r ≤ 5 ∧ m = 3 + 4 * r ∧ (∀ k, k < m → qoc k (c k) = true) ∧ w.1 13 = nI (qdg (c 1)) ∧ w.1 14 = nI (qdg (c 2)) ∧ w.1 15 = nI r ∧ (∀ a, a < r → w.2 16 a = nI (qkl (c (4 + 4 * a))) ∧ w.2 17 a = nI (qdg (c (5 + 4 * a))) ∧ w.2 18 a = nI (qdg (c (6 + 4 * a)))) ∧ qK u w
theorem q_rl {u : zzS} {F m : Nat} {c : Nat → Int32} (hc : ∀ k, k < m → u.2 4 (F + k) = c k) (hF : F + m ≤ 240) : ∀ n r, r + n = 5 → ∀ w, 3 + 4 * r ≤ m → w.1 12 = nI (F + (3 + 4 * r)) → w.1 15 = nI r → (∀ k, k < 3 + 4 * r → qoc k (c k) = true) → w.1 13 = nI (qdg (c 1)) → w.1 14 = nI (qdg (c 2)) → (∀ a, a < r → w.2 16 a = nI (qkl (c (4 + 4 * a))) ∧ w.2 17 a = nI (qdg (c (5 + 4 * a))) ∧ w.2 18 a = nI (qdg (c (6 + 4 * a)))) → qK u w → ∀ fuel, n < fuel → (∃ (q : Nat) (w' : zzS), zzlp (sX5_readField_59 (nI (F + m))) fuel w = some ((0 : Int32), w') ∧ w'.1 12 = nI (F + q) ∧ qFl c m q ∧ qK u w') ∨ (∃ (r' : Nat) (w' : zzS), zzlp (sX5_readField_59 (nI (F + m))) fuel w = some ((1 : Int32), w') ∧ qGd c m r' u w') := by
  intro n
  induction n with
  | zero =>
    intro r hr w hp h12 h15 hok h13 h14 hd hK fuel hf
    obtain rfl : r = 5 := by omega
    rw [q_fu (by omega)]
    unfold sX5_readField_59
    rw [h15, if_neg (by decide), if_pos (by decide), h12]
    simp only [nI_eq (a := F + (3 + 4 * 5)) (b := F + m) (by omega) (by omega)]
    by_cases hm : F + (3 + 4 * 5) = F + m
    · right
      rw [if_pos hm]
      exact ⟨5, w, rfl, by omega, by omega, by omega, fun k hk => hok k (by omega), h13, h14, h15, hd, hK⟩
    · left
      rw [if_neg hm]
      refine ⟨23, w, rfl, h12, ⟨by omega, fun k hk => hok k (by omega), Or.inr ⟨by omega, rfl⟩⟩, hK⟩
  | succ n ih =>
    intro r hr w hp h12 h15 hok h13 h14 hd hK fuel hf
    have hcw : ∀ k, k < m → w.2 4 (F + k) = c k := fun k hk => by rw [hK.2 4 (by omega)]; exact hc k hk
    -- sign and stander, from here
    have body : (r = 0 ∨ 3 + 4 * r < m) → ∀ rec : zzS → Option (Int32 × zzS), (∀ w', (3 + 4 * (r + 1) ≤ m) → w'.1 12 = nI (F + (3 + 4 * (r + 1))) → w'.1 15 = nI (r + 1) → (∀ k, k < 3 + 4 * (r + 1) → qoc k (c k) = true) → w'.1 13 = nI (qdg (c 1)) → w'.1 14 = nI (qdg (c 2)) → (∀ a, a < r + 1 → w'.2 16 a = nI (qkl (c (4 + 4 * a))) ∧ w'.2 17 a = nI (qdg (c (5 + 4 * a))) ∧ w'.2 18 a = nI (qdg (c (6 + 4 * a)))) → qK u w' → (∃ (q : Nat) (w2 : zzS), rec w' = some ((0 : Int32), w2) ∧ w2.1 12 = nI (F + q) ∧ qFl c m q ∧ qK u w2) ∨ (∃ (r' : Nat) (w2 : zzS), rec w' = some ((1 : Int32), w2) ∧ qGd c m r' u w2)) → (∃ (q : Nat) (w2 : zzS), ((fX5_isSign w (nI (F + m)) (59 : Int32)).bind (fun r11 => (if r11.1 = 0 then (some ((0 : Int32), r11.2)) else ((fX5_readStander r11.2 (nI (F + m))).bind (fun r13 => (if r13.1 = 0 then (some ((0 : Int32), r13.2)) else (rec (r13.2)))))))) = some ((0 : Int32), w2) ∧ w2.1 12 = nI (F + q) ∧ qFl c m q ∧ qK u w2) ∨ (∃ (r' : Nat) (w2 : zzS), ((fX5_isSign w (nI (F + m)) (59 : Int32)).bind (fun r11 => (if r11.1 = 0 then (some ((0 : Int32), r11.2)) else ((fX5_readStander r11.2 (nI (F + m))).bind (fun r13 => (if r13.1 = 0 then (some ((0 : Int32), r13.2)) else (rec (r13.2)))))))) = some ((1 : Int32), w2) ∧ qGd c m r' u w2) := by
      intro hstart rec hrec
      rw [q_sg hcw hF hp h12 59]
      by_cases hs : 3 + 4 * r < m ∧ c (3 + 4 * r) = (59 : Int32)
      · rw [if_pos hs, Option.bind_some]
        dsimp only
        rw [if_neg q_10]
        have ho4 : ∀ k, k < 4 + 4 * r → qoc k (c k) = true := by
          refine q_okx hok (fun k h1 h2 => ?_)
          obtain rfl : k = 3 + 4 * r := by omega
          rw [(q_oc1 (by omega) _).2.2.2, hs.2]
          rfl
        have hcw1 : ∀ k, k < m → (zzi w 12 (nI (F + (3 + 4 * r + 1)))).2 4 (F + k) = c k := hcw
        rcases q_rs hcw1 hF (show r < 5 by omega) (by omega) (show (zzi w 12 (nI (F + (3 + 4 * r + 1)))).1 12 = nI (F + (4 + 4 * r)) from congrArg nI (by omega)) (show (zzi w 12 (nI (F + (3 + 4 * r + 1)))).1 15 = nI r from h15) ho4 with ⟨q, w', e, e12, hfl, hKw⟩ | ⟨hm7, ho7, w', e, e12, e15, e13, e14, e16, e17, e18, hKw⟩
        · left
          rw [e]
          exact ⟨q, w', rfl, e12, hfl, q_Kt (q_Ki hK (by omega)) hKw⟩
        · rw [e, Option.bind_some]
          dsimp only
          rw [if_neg q_10]
          refine hrec w' (by omega) (by rw [e12]; exact congrArg nI (by omega)) e15 (fun k hk => ho7 k (by omega)) (e13.trans h13) (e14.trans h14) (fun a ha => ?_) (q_Kt (q_Ki hK (by omega)) hKw)
          rw [e16, e17, e18]
          unfold upd
          by_cases har : a = r
          · subst har
            simp only [if_true]
            exact ⟨trivial, trivial, trivial⟩
          · simp only [if_neg har]
            exact hd a (by omega)
      · rw [if_neg hs]
        left
        refine ⟨3 + 4 * r, w, rfl, h12, ⟨hp, hok, ?_⟩, hK⟩
        by_cases hlt : 3 + 4 * r < m
        · right
          refine ⟨hlt, ?_⟩
          rw [(q_oc1 (by omega) _).2.2.2]
          exact decide_eq_false (fun e => hs ⟨hlt, e⟩)
        · left
          exact ⟨by omega, by omega⟩
    have ih' := fun w' h1 h2 h3 h4 h5 h6 h7 h8 => ih (r + 1) (by omega) w' h1 h2 h3 h4 h5 h6 h7 h8 (fuel - 1) (by omega)
    rw [q_fu (by omega)]
    generalize zzlp (sX5_readField_59 (nI (F + m))) (fuel - 1) = rec at ih' ⊢
    unfold sX5_readField_59
    rw [h15]
    by_cases hr0 : r = 0
    · subst hr0
      rw [if_pos (show nI 0 = (0 : Int32) from rfl)]
      exact body (Or.inl rfl) rec ih'
    · rw [if_neg (nI_ne0 (by omega) (by omega)), if_neg (by rw [q_k5]; exact nI_ge (by omega) (by omega)), h12]
      simp only [nI_leI (a := F + m) (b := F + (3 + 4 * r)) (by omega) (by omega), nI_eq (a := F + (3 + 4 * r)) (b := F + m) (by omega) (by omega)]
      by_cases hle : F + m ≤ F + (3 + 4 * r)
      · rw [if_pos hle, if_pos (by omega)]
        right
        exact ⟨r, w, rfl, by omega, by omega, by omega, fun k hk => hok k (by omega), h13, h14, h15, hd, hK⟩
      · rw [if_neg hle]
        exact body (Or.inr (by omega)) rec ih'
theorem q_z49 (x : Int32) : (decide ((48 : Int32) + 1 ≤ x) && decide (x ≤ (57 : Int32))) = (decide ((49 : Int32) ≤ x) && decide (x ≤ (57 : Int32))) := rfl
theorem q_rf {u : zzS} {F m : Nat} {c : Nat → Int32} (hc : ∀ k, k < m → u.2 4 (F + k) = c k) (hF : F + m ≤ 240) (hat : u.1 12 = nI F) : (∃ (q : Nat) (w' : zzS), fX5_readField u (nI (F + m)) = some ((0 : Int32), w') ∧ w'.1 12 = nI (F + q) ∧ qFl c m q ∧ qK u w') ∨ (∃ (r : Nat) (w' : zzS), fX5_readField u (nI (F + m)) = some ((1 : Int32), w') ∧ qGd c m r u w') := by
  unfold fX5_readField
  have hc0 : ∀ k, k < m → (zzi u 15 0).2 4 (F + k) = c k := hc
  rw [q_sg hc0 hF (Nat.zero_le m) (show (zzi u 15 0).1 12 = nI (F + 0) from hat) 102]
  by_cases h0 : 0 < m ∧ c 0 = (102 : Int32)
  · rw [if_pos h0, Option.bind_some]
    dsimp only
    rw [if_neg q_10]
    have o0 : qoc 0 (c 0) = true := by rw [h0.2]; rfl
    have hc1 : ∀ k, k < m → (zzi (zzi u 15 0) 12 (nI (F + (0 + 1)))).2 4 (F + k) = c k := hc
    have hK1 : qK u (zzi (zzi u 15 0) 12 (nI (F + (0 + 1)))) := q_Ki (q_Ki (q_K0 u) (by omega)) (by omega)
    rw [q_dt hc1 hF (show 1 ≤ m by omega) (show (zzi (zzi u 15 0) 12 (nI (F + (0 + 1)))).1 12 = nI (F + 1) from rfl) 1, q_z49]
    by_cases h1 : 1 < m ∧ (decide ((49 : Int32) ≤ c 1) && decide (c 1 ≤ (57 : Int32))) = true
    · rw [if_pos h1, Option.bind_some]
      dsimp only
      obtain ⟨g1, g2, g3⟩ := q_dg1 h1.2
      have o1 : qoc 1 (c 1) = true := h1.2
      rw [g1]
      rw [if_neg (show ¬ (zzi (zzi (zzi (zzi u 15 0) 12 (nI (F + (0 + 1)))) 12 (nI (F + (1 + 1)))) 13 (nI (qdg (c 1)))).1 13 = (-9 : Int32) from q_e5 _ (by omega))]
      have hc2 : ∀ k, k < m → (zzi (zzi (zzi (zzi u 15 0) 12 (nI (F + (0 + 1)))) 12 (nI (F + (1 + 1)))) 13 (nI (qdg (c 1)))).2 4 (F + k) = c k := hc
      have hK2 : qK u (zzi (zzi (zzi (zzi u 15 0) 12 (nI (F + (0 + 1)))) 12 (nI (F + (1 + 1)))) 13 (nI (qdg (c 1)))) := q_Ki (q_Ki hK1 (by omega)) (by omega)
      rw [q_dt hc2 hF (show 2 ≤ m by omega) (show (zzi (zzi (zzi (zzi u 15 0) 12 (nI (F + (0 + 1)))) 12 (nI (F + (1 + 1)))) 13 (nI (qdg (c 1)))).1 12 = nI (F + 2) from rfl) 0, q_z48]
      by_cases h2 : 2 < m ∧ qdc (c 2) = true
      · rw [if_pos h2, Option.bind_some]
        dsimp only
        obtain ⟨k1, k2⟩ := q_dg h2.2
        have o2 : qoc 2 (c 2) = true := h2.2
        rw [k1]
        generalize hW : zzi (zzi (zzi (zzi (zzi u 15 0) 12 (nI (F + (0 + 1)))) 12 (nI (F + (1 + 1)))) 13 (nI (qdg (c 1)))) 12 (nI (F + (2 + 1))) = w3
        have hK3 : qK u w3 := by rw [← hW]; exact q_Ki hK2 (by omega)
        have a12 : w3.1 12 = nI (F + (3 + 4 * 0)) := by rw [← hW]; rfl
        have a13 : w3.1 13 = nI (qdg (c 1)) := by rw [← hW]; rfl
        have a15 : w3.1 15 = nI 0 := by rw [← hW]; rfl
        rw [if_neg (show ¬ (zzi w3 14 (nI (qdg (c 2)))).1 14 = (-9 : Int32) from q_e5 _ (by omega))]
        exact q_rl hc hF 5 0 rfl (zzi w3 14 (nI (qdg (c 2)))) (by omega) a12 a15 (fun k hk => by
          rcases (show k = 0 ∨ k = 1 ∨ k = 2 by omega) with rfl | rfl | rfl
          · exact o0
          · exact o1
          · exact o2) a13 rfl (fun a ha => absurd ha (by omega)) (q_Ki hK3 (by omega)) zzFU (by decide)
      · left
        rw [if_neg h2, Option.bind_some]
        dsimp only
        rw [if_pos (show (zzi (zzi (zzi (zzi (zzi u 15 0) 12 (nI (F + (0 + 1)))) 12 (nI (F + (1 + 1)))) 13 (nI (qdg (c 1)))) 14 (-9 : Int32)).1 14 = (-9 : Int32) from rfl)]
        refine ⟨2, _, rfl, rfl, ⟨by omega, fun k hk => ?_, ?_⟩, q_Ki hK2 (by omega)⟩
        · rcases (show k = 0 ∨ k = 1 by omega) with rfl | rfl
          · exact o0
          · exact o1
        · by_cases hm : 2 < m
          · right
            refine ⟨hm, ?_⟩
            show qdc (c 2) = false
            cases hd : qdc (c 2) with
            | false => rfl
            | true => exact absurd ⟨hm, hd⟩ h2
          · left; exact ⟨by omega, by omega⟩
    · left
      rw [if_neg h1, Option.bind_some]
      dsimp only
      rw [if_pos (show (zzi (zzi (zzi u 15 0) 12 (nI (F + (0 + 1)))) 13 (-9 : Int32)).1 13 = (-9 : Int32) from rfl)]
      refine ⟨1, _, rfl, rfl, ⟨by omega, fun k hk => ?_, ?_⟩, q_Ki hK1 (by omega)⟩
      · obtain rfl : k = 0 := by omega
        exact o0
      · by_cases hm : 1 < m
        · right
          refine ⟨hm, ?_⟩
          show (decide ((49 : Int32) ≤ c 1) && decide (c 1 ≤ (57 : Int32))) = false
          cases hd : (decide ((49 : Int32) ≤ c 1) && decide (c 1 ≤ (57 : Int32))) with
          | false => rfl
          | true => exact absurd ⟨hm, hd⟩ h1
        · left; exact ⟨by omega, by omega⟩
  · left
    rw [if_neg h0]
    refine ⟨0, zzi u 15 0, rfl, hat, ⟨Nat.zero_le m, fun k hk => absurd hk (by omega), ?_⟩, q_Ki (q_K0 u) (by omega)⟩
    by_cases hm : 0 < m
    · right
      refine ⟨hm, ?_⟩
      show decide (c 0 = (102 : Int32)) = false
      exact decide_eq_false (fun e => h0 ⟨hm, e⟩)
    · left; exact ⟨by omega, by omega⟩
