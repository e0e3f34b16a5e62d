/-! ===== pure part 14: field, how the reference reads ===== -/
def qFl (c : Nat → Int32) (m p : Nat) : Prop := p ≤ m ∧ (∀ k, k < p → qoc k (c k) = true) ∧ ((p = m ∧ ¬ (7 ≤ m ∧ (m - 3) % 4 = 0)) ∨ (p < m ∧ qoc p (c p) = false))
theorem q_Ki {w w' : zzS} {k : Nat} {v : Int32} (h : qK w w') (hk : 12 ≤ k ∧ k ≤ 15) : qK w (zzi w' k v) := by
  refine ⟨fun t ht => ?_, h.2⟩
  have : ¬ t = k := by omega
  simp only [zzi, va_up, this, if_false]
  exact h.1 t ht
theorem q_Ka {w w' : zzS} {k i : Nat} {v : Int32} (h : qK w w') (hk : 16 ≤ k ∧ k ≤ 19) : qK w (zza w' k i v) := by
  refine ⟨h.1, fun t ht => ?_⟩
  have : ¬ t = k := by omega
  simp only [zza, va_up, this, if_false]
  exact h.2 t ht
theorem q_z48 (x : Int32) : (decide ((48 : Int32) + 0 ≤ x) && decide (x ≤ (57 : Int32))) = qdc x := rfl
theorem q_n9g {c : Int32} (h : qdc c = true) : ¬ c - (48 : Int32) = (-9 : Int32) := by
  obtain ⟨e, h9⟩ := q_dg h
  rw [e]
  exact q_e5 _ (by omega)
/-- one stander, behind its letter -/
theorem q_s62 {w : zzS} {F m p r : Nat} {c : Nat → Int32} (hc : ∀ k, k < m → w.2 4 (F + k) = c k) (hF : F + m ≤ 240) (hp : p < m) (hat : w.1 12 = nI (F + p)) (hr : r < 5) (h15 : w.1 15 = nI r) {kv : Int32} (hkv : ¬ kv = (-9 : Int32)) : (∃ (q : Nat) (w' : zzS), (q = p + 1 ∨ q = p + 2 ∧ p + 1 < m ∧ qdc (c (p + 1)) = true) ∧ ¬ (q < m ∧ qdc (c q) = true) ∧ sX5_readStander_62 (nI (F + m)) (kv, nI r, w) = some ((0 : Int32), w') ∧ w'.1 12 = nI (F + q) ∧ qK w w') ∨ (p + 2 < m ∧ qdc (c (p + 1)) = true ∧ qdc (c (p + 2)) = true ∧ ∃ w' : zzS, sX5_readStander_62 (nI (F + m)) (kv, nI r, w) = some ((1 : Int32), w') ∧ w'.1 12 = nI (F + (p + 3)) ∧ w'.1 15 = nI (r + 1) ∧ w'.1 13 = w.1 13 ∧ w'.1 14 = w.1 14 ∧ w'.2 16 = upd (w.2 16) r kv ∧ w'.2 17 = upd (w.2 17) r (c (p + 1) - (48 : Int32)) ∧ w'.2 18 = upd (w.2 18) r (c (p + 2) - (48 : Int32)) ∧ qK w w') := by
  unfold sX5_readStander_62
  dsimp only
  rw [q_pa hr (by decide), q_cl (by omega)]
  have hK1 : qK w (zza w 16 r kv) := q_Ka (q_K0 w) (by omega)
  have a15 : (zza w 16 r kv).1 15 = nI r := h15
  have a12 : (zza w 16 r kv).1 12 = nI (F + p) := hat
  have a16 : (zza w 16 r kv).2 16 = upd (w.2 16) r kv := by simp [zza, va_up]
  have a4 : ∀ k, k < m → (zza w 16 r kv).2 4 (F + k) = c k := hc
  have a17 : (zza w 16 r kv).2 17 = w.2 17 := rfl
  have a18 : (zza w 16 r kv).2 18 = w.2 18 := rfl
  have a13 : (zza w 16 r kv).1 13 = w.1 13 := rfl
  have a14 : (zza w 16 r kv).1 14 = w.1 14 := rfl
  generalize zza w 16 r kv = w1 at *
  rw [a15, q_ga hr (by decide), a16, show upd (w.2 16) r kv r = kv by simp [upd], if_neg hkv, a12, nI_1]
  have hK2 : qK w (zzi w1 12 (nI (F + p + 1))) := q_Ki hK1 (by omega)
  have b15 : (zzi w1 12 (nI (F + p + 1))).1 15 = nI r := a15
  have b12 : (zzi w1 12 (nI (F + p + 1))).1 12 = nI (F + (p + 1)) := rfl
  have b13 : (zzi w1 12 (nI (F + p + 1))).1 13 = w.1 13 := a13
  have b14 : (zzi w1 12 (nI (F + p + 1))).1 14 = w.1 14 := a14
  have b4 : ∀ k, k < m → (zzi w1 12 (nI (F + p + 1))).2 4 (F + k) = c k := a4
  have b16 : (zzi w1 12 (nI (F + p + 1))).2 16 = upd (w.2 16) r kv := a16
  have b17 : (zzi w1 12 (nI (F + p + 1))).2 17 = w.2 17 := a17
  have b18 : (zzi w1 12 (nI (F + p + 1))).2 18 = w.2 18 := a18
  generalize zzi w1 12 (nI (F + p + 1)) = w2 at *
  rw [b15, q_cl (by omega), q_dt b4 hF (show p + 1 ≤ m by omega) b12 0, q_z48]
  by_cases h1 : p + 1 < m ∧ qdc (c (p + 1)) = true
  · rw [if_pos h1, Option.bind_some]
    dsimp only
    rw [q_pa hr (by decide)]
    have n1 := q_n9g h1.2
    have hK3 : qK w (zza (zzi w2 12 (nI (F + (p + 1 + 1)))) 17 r (c (p + 1) - (48 : Int32))) := q_Ka (q_Ki hK2 (by omega)) (by omega)
    have d15 : (zza (zzi w2 12 (nI (F + (p + 1 + 1)))) 17 r (c (p + 1) - (48 : Int32))).1 15 = nI r := b15
    have d12 : (zza (zzi w2 12 (nI (F + (p + 1 + 1)))) 17 r (c (p + 1) - (48 : Int32))).1 12 = nI (F + (p + 2)) := rfl
    have d13 : (zza (zzi w2 12 (nI (F + (p + 1 + 1)))) 17 r (c (p + 1) - (48 : Int32))).1 13 = w.1 13 := b13
    have d14 : (zza (zzi w2 12 (nI (F + (p + 1 + 1)))) 17 r (c (p + 1) - (48 : Int32))).1 14 = w.1 14 := b14
    have d4 : ∀ k, k < m → (zza (zzi w2 12 (nI (F + (p + 1 + 1)))) 17 r (c (p + 1) - (48 : Int32))).2 4 (F + k) = c k := b4
    have d16 : (zza (zzi w2 12 (nI (F + (p + 1 + 1)))) 17 r (c (p + 1) - (48 : Int32))).2 16 = upd (w.2 16) r kv := b16
    have d17 : (zza (zzi w2 12 (nI (F + (p + 1 + 1)))) 17 r (c (p + 1) - (48 : Int32))).2 17 = upd (w.2 17) r (c (p + 1) - (48 : Int32)) := by rw [← b17]; simp [zza, zzi, va_up]
    have d18 : (zza (zzi w2 12 (nI (F + (p + 1 + 1)))) 17 r (c (p + 1) - (48 : Int32))).2 18 = w.2 18 := b18
    generalize zza (zzi w2 12 (nI (F + (p + 1 + 1)))) 17 r (c (p + 1) - (48 : Int32)) = w3 at *
    rw [d15, q_ga hr (by decide), d17, show upd (w.2 17) r (c (p + 1) - (48 : Int32)) r = c (p + 1) - (48 : Int32) by simp [upd], if_neg n1, q_cl (by omega), q_dt d4 hF (show p + 2 ≤ m by omega) d12 0, q_z48]
    by_cases h2 : p + 2 < m ∧ qdc (c (p + 2)) = true
    · right
      refine ⟨h2.1, h1.2, h2.2, ?_⟩
      rw [if_pos h2, Option.bind_some]
      dsimp only
      rw [q_pa hr (by decide)]
      have n2 := q_n9g h2.2
      have f15 : (zza (zzi w3 12 (nI (F + (p + 2 + 1)))) 18 r (c (p + 2) - (48 : Int32))).1 15 = nI r := d15
      rw [f15, nI_1]
      have g15 : (zzi (zza (zzi w3 12 (nI (F + (p + 2 + 1)))) 18 r (c (p + 2) - (48 : Int32))) 15 (nI (r + 1))).1 15 - (1 : Int32) = nI r := nI_pred r
      have g18 : (zzi (zza (zzi w3 12 (nI (F + (p + 2 + 1)))) 18 r (c (p + 2) - (48 : Int32))) 15 (nI (r + 1))).2 18 = upd (w.2 18) r (c (p + 2) - (48 : Int32)) := by rw [← d18]; simp [zza, zzi, va_up]
      rw [g15, q_ga hr (by decide), g18, show upd (w.2 18) r (c (p + 2) - (48 : Int32)) r = c (p + 2) - (48 : Int32) by simp [upd], if_neg n2]
      exact ⟨_, rfl, rfl, rfl, d13, d14, d16, d17, g18, q_Ki (q_Ka (q_Ki hK3 (by omega)) (by omega)) (by omega)⟩
    · left
      rw [if_neg h2, Option.bind_some]
      dsimp only
      rw [q_pa hr (by decide)]
      have f15 : (zza w3 18 r (-9 : Int32)).1 15 = nI r := d15
      rw [f15, nI_1]
      have g15 : (zzi (zza w3 18 r (-9 : Int32)) 15 (nI (r + 1))).1 15 - (1 : Int32) = nI r := nI_pred r
      have g18 : (zzi (zza w3 18 r (-9 : Int32)) 15 (nI (r + 1))).2 18 r = (-9 : Int32) := by simp [zza, zzi, va_up, upd]
      rw [g15, q_ga hr (by decide), g18, if_pos rfl]
      exact ⟨p + 2, _, Or.inr ⟨rfl, h1⟩, h2, rfl, d12, q_Ki (q_Ka hK3 (by omega)) (by omega)⟩
  · left
    rw [if_neg h1, Option.bind_some]
    dsimp only
    rw [q_pa hr (by decide)]
    have d15 : (zza w2 17 r (-9 : Int32)).1 15 = nI r := b15
    have d17 : (zza w2 17 r (-9 : Int32)).2 17 r = (-9 : Int32) := by simp [zza, va_up, upd]
    rw [d15, q_ga hr (by decide), d17, if_pos rfl]
    exact ⟨p + 1, _, Or.inl rfl, h1, rfl, b12, q_Ka hK2 (by omega)⟩
theorem q_oc1 {r : Nat} (hr : r < 5) (x : Int32) : qoc (4 + 4 * r) x = qlt x ∧ qoc (4 + 4 * r + 1) x = qdc x ∧ qoc (4 + 4 * r + 2) x = qdc x ∧ qoc (3 + 4 * r) x = decide (x = (59 : Int32)) := by
  unfold qoc
  refine ⟨?_, ?_, ?_, ?_⟩
  · rw [if_neg (by omega), if_neg (by omega), if_neg (by omega), if_neg (by omega), if_neg (by omega), if_pos (by omega)]
  · rw [if_neg (by omega), if_neg (by omega), if_neg (by omega), if_neg (by omega), if_neg (by omega), if_neg (by omega)]
  · rw [if_neg (by omega), if_neg (by omega), if_neg (by omega), if_neg (by omega), if_neg (by omega), if_neg (by omega)]
  · rw [if_neg (by omega), if_neg (by omega), if_neg (by omega), if_neg (by omega), if_pos (by omega)]
theorem q_okx {c : Nat → Int32} {p q : Nat} (h : ∀ k, k < p → qoc k (c k) = true) (hpq : ∀ k, p ≤ k → k < q → qoc k (c k) = true) : ∀ k, k < q → qoc k (c k) = true := fun k hk => by
  by_cases h1 : k < p
  · exact h k h1
  · exact hpq k (by omega) hk
/-- a stander of the text -/
theorem q_rs {w : zzS} {F m r : Nat} {c : Nat → Int32} (hc : ∀ k, k < m → w.2 4 (F + k) = c k) (hF : F + m ≤ 240) (hr : r < 5) (hp : 4 + 4 * r ≤ m) (hat : w.1 12 = nI (F + (4 + 4 * r))) (h15 : w.1 15 = nI r) (hok : ∀ k, k < 4 + 4 * r → qoc k (c k) = true) : (∃ (q : Nat) (w' : zzS), fX5_readStander w (nI (F + m)) = some ((0 : Int32), w') ∧ w'.1 12 = nI (F + q) ∧ qFl c m q ∧ qK w w') ∨ (7 + 4 * r ≤ m ∧ (∀ k, k < 7 + 4 * r → qoc k (c k) = true) ∧ ∃ w' : zzS, fX5_readStander w (nI (F + m)) = some ((1 : Int32), w') ∧ w'.1 12 = nI (F + (7 + 4 * r)) ∧ w'.1 15 = nI (r + 1) ∧ w'.1 13 = w.1 13 ∧ w'.1 14 = w.1 14 ∧ w'.2 16 = upd (w.2 16) r (nI (qkl (c (4 + 4 * r)))) ∧ w'.2 17 = upd (w.2 17) r (nI (qdg (c (5 + 4 * r)))) ∧ w'.2 18 = upd (w.2 18) r (nI (qdg (c (6 + 4 * r)))) ∧ qK w w') := by
  obtain ⟨-, -, -, -⟩ := q_oc1 hr (c 0)
  unfold fX5_readStander
  rw [hat]
  simp only [nI_leI (a := F + m) (b := F + (4 + 4 * r)) (by omega) (by omega)]
  -- no letter: the fault is here
  have none_ : ∀ x : Int32, qlt x = false → (4 + 4 * r < m → c (4 + 4 * r) = x) → ∃ (q : Nat) (w' : zzS), sX5_readStander_21 (nI (F + m)) (x, w) = some ((0 : Int32), w') ∧ w'.1 12 = nI (F + q) ∧ qFl c m q ∧ qK w w' := by
    intro x hx hcx
    have hx' := hx
    unfold qlt at hx'
    rw [Bool.or_eq_false_iff, Bool.or_eq_false_iff, decide_eq_false_iff_not, decide_eq_false_iff_not, decide_eq_false_iff_not] at hx'
    unfold sX5_readStander_21
    dsimp only
    rw [if_neg hx'.1, if_neg hx'.2.1, if_neg hx'.2.2, h15]
    unfold sX5_readStander_62
    dsimp only
    rw [q_pa hr (by decide), q_cl (by omega), show (zza w 16 r (-9 : Int32)).1 15 = nI r from h15, q_ga hr (by decide), show (zza w 16 r (-9 : Int32)).2 16 r = (-9 : Int32) by simp [zza, va_up, upd], if_pos rfl]
    refine ⟨4 + 4 * r, _, rfl, hat, ⟨hp, hok, ?_⟩, q_Ka (q_K0 w) (by omega)⟩
    by_cases hlt : 4 + 4 * r < m
    · right
      refine ⟨hlt, ?_⟩
      rw [(q_oc1 hr _).1, hcx hlt, hx]
    · left
      exact ⟨by omega, by omega⟩
  by_cases hlt : 4 + 4 * r < m
  · rw [if_neg (by omega), q_ga (by omega) (by decide), hc _ hlt]
    cases hl : qlt (c (4 + 4 * r)) with
    | false =>
      left
      exact none_ _ hl (fun _ => rfl)
    | true =>
      have hocl : qoc (4 + 4 * r) (c (4 + 4 * r)) = true := by rw [(q_oc1 hr _).1, hl]
      have e21 : sX5_readStander_21 (nI (F + m)) (c (4 + 4 * r), w) = sX5_readStander_62 (nI (F + m)) (nI (qkl (c (4 + 4 * r))), nI r, w) := by
        unfold sX5_readStander_21 qkl
        dsimp only
        unfold qlt at hl
        rw [Bool.or_eq_true, Bool.or_eq_true, decide_eq_true_eq, decide_eq_true_eq, decide_eq_true_eq] at hl
        rw [h15]
        by_cases e1 : c (4 + 4 * r) = (115 : Int32)
        · rw [if_pos e1, if_pos e1]; rfl
        · rw [if_neg e1, if_neg e1]
          by_cases e2 : c (4 + 4 * r) = (114 : Int32)
          · rw [if_pos e2, if_pos e2]; rfl
          · rw [if_neg e2, if_neg e2, if_pos ((hl.resolve_left e1).resolve_left e2)]; rfl
      rw [e21]
      have hkv : ¬ nI (qkl (c (4 + 4 * r))) = (-9 : Int32) := q_e5 _ (by have := q_klle (c (4 + 4 * r)); omega)
      rcases q_s62 hc hF hlt hat hr h15 hkv with ⟨q, w', hq, hnq, e, e12, hK⟩ | ⟨hlt2, d1, d2, w', e, e12, e15, e13, e14, e16, e17, e18, hK⟩
      · left
        refine ⟨q, w', e, e12, ?_, hK⟩
        have hocq : ∀ x, qoc q x = qdc x := by
          intro x
          rcases hq with rfl | ⟨rfl, -⟩
          · exact (q_oc1 hr x).2.1
          · exact (q_oc1 hr x).2.2.1
        refine ⟨by omega, ?_, ?_⟩
        · refine q_okx hok (fun k h1 h2 => ?_)
          rcases hq with rfl | ⟨rfl, -, hd⟩
          · obtain rfl : k = 4 + 4 * r := by omega
            exact hocl
          · rcases (show k = 4 + 4 * r ∨ k = 4 + 4 * r + 1 by omega) with rfl | rfl
            · exact hocl
            · rw [(q_oc1 hr _).2.1, hd]
        · by_cases hqm : q < m
          · right
            refine ⟨hqm, ?_⟩
            rw [hocq]
            cases hd : qdc (c q) with
            | false => rfl
            | true => exact absurd ⟨hqm, hd⟩ hnq
          · left
            exact ⟨by omega, by omega⟩
      · right
        refine ⟨by omega, ?_, w', e, ?_, e15, e13, e14, e16, ?_, ?_, hK⟩
        · refine q_okx hok (fun k h1 h2 => ?_)
          rcases (show k = 4 + 4 * r ∨ k = 4 + 4 * r + 1 ∨ k = 4 + 4 * r + 2 by omega) with rfl | rfl | rfl
          · exact hocl
          · rw [(q_oc1 hr _).2.1, d1]
          · rw [(q_oc1 hr _).2.2.1, d2]
        · rw [e12]; exact congrArg nI (by omega)
        · rw [e17, (q_dg d1).1, show 4 + 4 * r + 1 = 5 + 4 * r by omega]
        · rw [e18, (q_dg d2).1, show 4 + 4 * r + 2 = 6 + 4 * r by omega]
  · left
    rw [if_pos (by omega)]
    exact none_ 0 (by decide) (fun h => absurd h hlt)
