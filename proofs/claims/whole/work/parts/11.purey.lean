/-! ===== pure part 2: the reference's snow ===== -/
def qb (b : Bool) : Int32 := if b then 1 else 0
theorem q_nar0 : vp_nar .boolean (0 : Int32) = 0 := rfl
theorem q_nar1 : vp_nar .boolean (1 : Int32) = 1 := rfl
theorem q_c1 : ∀ i, i < 32 → ∀ a, a < 5 → ((nI i) >>> (nI a &&& 31)) &&& (1 : Int32) = qb (i.testBit a) := by decide +kernel
theorem q_c2 : ∀ h, h < 10 → ∀ s, s < 4 → ((nI h * nI s) ≤ 0 → (0 : Int32) = nI (h * s - 1)) ∧ (¬ (nI h * nI s) ≤ 0 → (nI h * nI s) - (1 : Int32) = nI (h * s - 1)) ∧ (nI h * nI s) / (2 : Int32) = nI (h * s / 2) ∧ nI h * nI s = nI (h * s) := by decide +kernel
theorem q_c3 : ∀ len, len < 41 → ∀ sp, sp < 10 → 0 < sp → ((nI len - nI len / nI sp * nI sp) ≤ 0 → nI len / nI sp + (0 : Int32) = nI ((len + sp - 1) / sp)) ∧ (¬ (nI len - nI len / nI sp * nI sp) ≤ 0 → nI len / nI sp + (1 : Int32) = nI ((len + sp - 1) / sp)) := by decide +kernel
section QY
variable {u : zzS} {d : qD}
theorem q_isS1 (hq : qY u d) {a : Nat} (h : a < d.1) : fX5_isStander u (nI a) = some 1 := by
  have h5 := hq.2.2.2.1
  unfold fX5_isStander
  rw [hq.1, if_neg (nI_pos (by omega)), if_neg (nI_ge h (by omega))]
theorem q_isS0 (hq : qY u d) {p0 : Int32} (h : ∀ a, a < d.1 → p0 ≠ nI a) : fX5_isStander u p0 = some 0 := by
  unfold fX5_isStander
  rw [hq.1]
  split
  · rfl
  · rename_i h0
    obtain ⟨k, hk, rfl⟩ := nI_of h0
    rw [if_pos]
    refine nI_le ?_ hk
    exact Nat.le_of_not_lt (fun hlt => h k hlt rfl)
theorem q_shY (hq : qY u d) {a s : Nat} (h : a < 5) (hs : s ≤ 3) : fX5_shadeOf u (nI a) (nI s) = some (nI (qsh d s a)) := by
  obtain ⟨e0, e1, e2, b0, b1, b2⟩ := hq.2.2.2.2.2.2.2 a h
  obtain ⟨c1, c2, c3, c4⟩ := q_c2 (d.2.2.2.2.2 a) (by omega) s (by omega)
  unfold fX5_shadeOf
  rw [q_ga h (by decide), q_ga h (by decide), q_ga h (by decide), e0, e2]
  unfold qsh
  rw [q_k1] at *
  simp only [nI_eq (a := d.2.2.2.1 a) (b := 1) (by omega) (by omega)]
  split
  · split
    · rename_i h1; rw [c1 h1]
    · rename_i h1; rw [c2 h1]
  · rename_i hk1
    by_cases hk0 : d.2.2.2.1 a = 0
    · rw [hk0, if_pos (show nI 0 = 0 from rfl), if_neg (by decide), c4]
    · have hk2 : d.2.2.2.1 a = 2 := by omega
      rw [hk2, if_neg (by decide), if_pos rfl, c3]
theorem q_isH (hq : qY u d) {a s : Nat} (h : a < 5) (hs : s ≤ 3) : fX5_isHidden u (nI a) (nI s) = some (qb (qhid d s a)) := by
  obtain ⟨e0, e1, e2, b0, b1, b2⟩ := hq.2.2.2.2.2.2.2 a h
  have t2 := hq.2.2.2.2.2.1
  have t3 : d.2.2.1 * s ≤ 9 * 3 := Nat.mul_le_mul t2 hs
  unfold fX5_isHidden
  rw [q_ga h (by decide), e1, hq.2.2.1, pk_mul]
  simp only [nI_leI (a := d.2.2.1 * s) (b := d.2.2.2.2.1 a) (by omega) (by omega)]
  by_cases h1 : d.2.2.2.2.1 a < d.2.2.1 * s
  · rw [if_neg (by omega)]; simp [qhid, qb, h1]
  · rw [if_pos (by omega)]; simp [qhid, qb, h1]
theorem q_hidY (hq : qY u d) {s : Nat} (hs : s ≤ 3) : fX5_hiddenOf u (nI s) = some (nI (qhs d s d.1)) := by
  have h5 := hq.2.2.2.1
  have key : ∀ m a, a + m = d.1 → ∀ fuel, m < fuel → zzlp (sX5_hiddenOf_4 (nI s) u) fuel (nI (qhs d s a), nI a) = some (nI (qhs d s d.1)) := by
    intro m
    induction m with
    | zero =>
      intro a ha fuel hf
      obtain rfl : a = d.1 := by omega
      rw [q_fu (by omega)]
      unfold sX5_hiddenOf_4
      dsimp only
      rw [hq.1, if_pos (nI_le (by omega) (by omega))]
    | succ m ih =>
      intro a ha fuel hf
      have ih' := ih (a + 1) (by omega) (fuel - 1) (by omega)
      rw [q_fu (by omega)]
      generalize zzlp (sX5_hiddenOf_4 (nI s) u) (fuel - 1) = rec at ih' ⊢
      unfold sX5_hiddenOf_4
      dsimp only
      rw [hq.1, if_neg (nI_ge (by omega) (by omega)), q_isH hq (by omega) hs, Option.bind_some, nI_1]
      rw [qhs] at ih'
      cases h : qhid d s a with
      | true =>
        rw [if_neg (by decide), q_b2 _ (q_hs32 (by omega)) _ (by omega)]
        rw [h, if_pos rfl] at ih'
        exact ih'
      | false =>
        rw [if_pos (show qb false = 0 from rfl), Int32.or_zero]
        rw [h, if_neg (by decide)] at ih'
        exact ih'
  exact key d.1 0 (by omega) zzFU (by unfold zzFU; omega)
end QY
def qz (u : zzS) (dk : Nat → Int32) : zzS := (u.1, fun k => if k = 19 then dk else u.2 k)
theorem q_za (u : zzS) (dk : Nat → Int32) (i : Nat) (v : Int32) : zza (qz u dk) 19 i v = qz u (upd dk i v) := by
  refine q_ext (fun k => rfl) (fun k => ?_)
  by_cases h : k = 19
  · subst h; simp [zza, qz, va_up]
  · simp [zza, qz, va_up, h]
theorem q_z0 (u : zzS) : u = qz u (u.2 19) := by
  refine q_ext (fun k => rfl) (fun k => ?_)
  by_cases h : k = 19
  · subst h; simp [qz]
  · simp [qz, h]
theorem q_zY {u : zzS} {d : qD} {dk : Nat → Int32} (hq : qY u d) : qY (qz u dk) d := hq
theorem q_dk1 (u : zzS) (p0 : Int32) : ∃ dk', (∀ f, f < 40 → dk' f = 0) ∧ fX5_darken u p0 = zzlp (sX5_darken_23 p0) zzFU ((0 : Int32), qz u dk') := by
  have key : ∀ m i, i + m = 40 → ∀ dk, (∀ f, f < i → dk f = 0) → ∀ fuel, m < fuel → ∃ dk', (∀ f, f < 40 → dk' f = 0) ∧ zzlp (sX5_darken_2 p0) fuel (nI i, qz u dk) = zzlp (sX5_darken_23 p0) zzFU ((0 : Int32), qz u dk') := by
    intro m
    induction m with
    | zero =>
      intro i hi dk hdk fuel hf
      refine ⟨dk, fun f hf => hdk f (by omega), ?_⟩
      rw [q_fu (by omega)]
      unfold sX5_darken_2
      dsimp only
      rw [if_pos (by rw [q_k40]; exact nI_le (by omega) (by omega))]
    | succ m ih =>
      intro i hi dk hdk fuel hf
      obtain ⟨dk', h1, h2⟩ := ih (i + 1) (by omega) (upd dk i 0) (fun f hf => by
        unfold upd
        split
        · rfl
        · exact hdk f (by omega)) (fuel - 1) (by omega)
      refine ⟨dk', h1, ?_⟩
      rw [q_fu (by omega)]
      generalize zzlp (sX5_darken_2 p0) (fuel - 1) = rec at h2 ⊢
      unfold sX5_darken_2
      dsimp only
      rw [if_neg (by rw [q_k40]; exact nI_ge (by omega) (by omega)), q_pa (by omega) (by decide), q_cl (by omega), q_nar0, q_za, nI_1]
      exact h2
  have h := key 40 0 rfl (u.2 19) (fun f hf => absurd hf (by omega)) zzFU (by decide)
  rw [← q_z0] at h
  exact h
theorem q_dk2 {u : zzS} {d : qD} (hq : qY u d) {s a : Nat} (hs : s ≤ 3) (ha : a < 5) (o : Nat → Bool) (hon : qon d s o a = true) (rec6 : Int32 × zzS → Option zzS) (w : zzS) : ∀ m f, f + m = d.2.2.2.2.1 a + qsh d s a + 1 → d.2.2.2.2.1 a ≤ f → ∀ dk, (∀ g, g < 40 → dk g = qb (qdk d s o a g || (decide (d.2.2.2.2.1 a ≤ g) && decide (g < f)))) → ∀ fuel, m < fuel → ∃ dk', (∀ g, g < 40 → dk' g = qb (qdk d s o (a + 1) g)) ∧ zzlp (sX5_darken_65 (nI s) rec6 (nI a, (1 : Int32), w)) fuel (nI f, qz u dk) = rec6 (nI (a + 1), qz u dk') := by
  have hF := (hq.2.2.2.2.2.2.2 a ha).2.2.2.2.1
  have hsh : qsh d s a ≤ 27 := q_sh_le hs (hq.2.2.2.2.2.2.2 a ha).2.2.2.2.2
  intro m
  induction m with
  | zero =>
    intro f hf hff dk hdk fuel hfu
    refine ⟨dk, fun g hg => ?_, ?_⟩
    · rw [hdk g hg, qdk, hon]
      have e : (g < f) ↔ (g ≤ d.2.2.2.2.1 a + qsh d s a) := by omega
      simp [e]
    · rw [q_fu (by omega)]
      unfold sX5_darken_65
      dsimp only
      rw [if_neg (by decide), q_ga ha (by decide), q_shY (q_zY hq) ha hs, Option.bind_some]
      have e1 : (qz u dk).2 9 a = nI (d.2.2.2.2.1 a) := (hq.2.2.2.2.2.2.2 a ha).2.1
      rw [e1, nI_add, if_pos (nI_lt (by omega) (by omega)), nI_1]
  | succ m ih =>
    intro f hf hff dk hdk fuel hfu
    obtain ⟨dk', h1, h2⟩ := ih (f + 1) (by omega) (by omega) (upd dk f 1) (fun g hg => by
      unfold upd
      split
      · rename_i h; subst h
        have h4 : d.2.2.2.2.1 a ≤ g := by omega
        simp [qb, h4]
      · rename_i h
        rw [hdk g hg]
        have e : (g < f + 1) ↔ (g < f) := by omega
        simp [e]) (fuel - 1) (by omega)
    refine ⟨dk', h1, ?_⟩
    rw [q_fu (by omega)]
    generalize zzlp (sX5_darken_65 (nI s) rec6 (nI a, (1 : Int32), w)) (fuel - 1) = rec at h2 ⊢
    unfold sX5_darken_65
    dsimp only
    rw [if_neg (by decide), q_ga ha (by decide), q_shY (q_zY hq) ha hs, Option.bind_some]
    have e1 : (qz u dk).2 9 a = nI (d.2.2.2.2.1 a) := (hq.2.2.2.2.2.2.2 a ha).2.1
    rw [e1, nI_add, if_neg (nI_nlt (by omega) (by omega)), q_pa (by omega) (by decide), q_cl (by omega), q_nar1, q_za, nI_1]
    exact h2
theorem q_dk3 {u : zzS} {d : qD} (hq : qY u d) {s i : Nat} (hs : s ≤ 3) (hi : i < 32) (hin : u.1 11 = nI i) : ∃ dk', (∀ f, f < 40 → dk' f = qb (qdk d s (fun a => !i.testBit a) d.1 f)) ∧ fX5_darken u (nI s) = some (qz u dk') := by
  have h5 := hq.2.2.2.1
  obtain ⟨dk0, h0, e0⟩ := q_dk1 u (nI s)
  rw [e0]
  have key : ∀ m a, a + m = d.1 → ∀ dk, (∀ f, f < 40 → dk f = qb (qdk d s (fun a => !i.testBit a) a f)) → ∀ fuel, m < fuel → ∃ dk', (∀ f, f < 40 → dk' f = qb (qdk d s (fun a => !i.testBit a) d.1 f)) ∧ zzlp (sX5_darken_23 (nI s)) fuel (nI a, qz u dk) = some (qz u dk') := by
    intro m
    induction m with
    | zero =>
      intro a ha dk hdk fuel hf
      obtain rfl : a = d.1 := by omega
      refine ⟨dk, hdk, ?_⟩
      rw [q_fu (by omega)]
      unfold sX5_darken_23
      dsimp only
      rw [show (qz u dk).1 5 = nI d.1 from hq.1, if_pos (nI_le (by omega) (by omega))]
    | succ m ih =>
      intro a ha dk hdk fuel hf
      have hfoot : (qz u dk).2 9 a = nI (d.2.2.2.2.1 a) := (hq.2.2.2.2.2.2.2 a (by omega)).2.1
      have hF := (hq.2.2.2.2.2.2.2 a (by omega)).2.2.2.2.1
      have hsh : qsh d s a ≤ 27 := q_sh_le hs (hq.2.2.2.2.2.2.2 a (by omega)).2.2.2.2.2
      have off : qon d s (fun a => !i.testBit a) a = false → ∀ rec : Int32 × zzS → Option zzS, (∀ dk1, (∀ f, f < 40 → dk1 f = qb (qdk d s (fun a => !i.testBit a) (a + 1) f)) → ∃ dk', (∀ f, f < 40 → dk' f = qb (qdk d s (fun a => !i.testBit a) d.1 f)) ∧ rec (nI (a + 1), qz u dk1) = some (qz u dk')) → ∃ dk', (∀ f, f < 40 → dk' f = qb (qdk d s (fun a => !i.testBit a) d.1 f)) ∧ sX5_darken_56 (nI s) rec (nI a, (0 : Int32), qz u dk) = some (qz u dk') := by
        intro ho rec hrec
        obtain ⟨dk', h1, h2⟩ := hrec dk (fun f hf => by rw [hdk f hf, qdk, ho]; simp)
        refine ⟨dk', h1, ?_⟩
        unfold sX5_darken_56
        dsimp only
        rw [q_ga (by omega) (by decide), q_fu (by decide)]
        unfold sX5_darken_65
        dsimp only
        rw [if_pos rfl, nI_1]
        exact h2
      have hrec : ∀ dk1, (∀ f, f < 40 → dk1 f = qb (qdk d s (fun a => !i.testBit a) (a + 1) f)) → ∃ dk', (∀ f, f < 40 → dk' f = qb (qdk d s (fun a => !i.testBit a) d.1 f)) ∧ zzlp (sX5_darken_23 (nI s)) (fuel - 1) (nI (a + 1), qz u dk1) = some (qz u dk') := fun dk1 h1 => ih (a + 1) (by omega) dk1 h1 (fuel - 1) (by omega)
      rw [q_fu (by omega)]
      generalize zzlp (sX5_darken_23 (nI s)) (fuel - 1) = rec at hrec ⊢
      unfold sX5_darken_23
      dsimp only
      rw [show (qz u dk).1 5 = nI d.1 from hq.1, if_neg (nI_ge (by omega) (by omega)), show (qz u dk).1 11 = nI i from hin, q_c1 i hi a (by omega)]
      cases hb : i.testBit a with
      | true =>
        rw [if_neg (by decide)]
        exact off (by simp [qon, hb]) rec hrec
      | false =>
        rw [if_pos (show qb false = 0 from rfl), q_isH (q_zY hq) (by omega) hs, Option.bind_some]
        cases hh : qhid d s a with
        | true =>
          rw [if_neg (by decide)]
          exact off (by simp [qon, hh]) rec hrec
        | false =>
          rw [if_pos (show qb false = 0 from rfl)]
          have hon : qon d s (fun a => !i.testBit a) a = true := by simp [qon, hb, hh]
          unfold sX5_darken_56
          dsimp only
          rw [q_ga (by omega) (by decide), hfoot]
          obtain ⟨dk1, g1, g2⟩ := q_dk2 hq hs (by omega) (fun a => !i.testBit a) hon rec (qz u dk) (qsh d s a + 1) (d.2.2.2.2.1 a) (by omega) (Nat.le_refl _) dk (fun g hg => by
            rw [hdk g hg]
            have e : (decide (d.2.2.2.2.1 a ≤ g) && decide (g < d.2.2.2.2.1 a)) = false := by
              by_cases hx : d.2.2.2.2.1 a ≤ g
              · have hy : ¬ g < d.2.2.2.2.1 a := by omega
                simp [hy]
              · simp [hx]
            rw [e, Bool.or_false]) zzFU (by unfold zzFU; omega)
          obtain ⟨dk', h1, h2⟩ := hrec dk1 g1
          exact ⟨dk', h1, by rw [g2]; exact h2⟩
  exact key d.1 0 (by omega) dk0 (fun f hf => by rw [h0 f hf]; rfl) zzFU (by unfold zzFU; omega)
def qv (u : zzS) (c : Nat × Nat × Nat) (n : Nat) (dk : Nat → Int32) : zzS := (fun k => if k = 20 then nI c.1 else if k = 21 then nI c.2.1 else if k = 22 then nI c.2.2 else if k = 23 then nI n else u.1 k, fun k => if k = 19 then dk else u.2 k)
theorem q_endR (u : zzS) (c : Nat × Nat × Nat) (n : Nat) (dk : Nat → Int32) {len sp : Nat} (hspan : u.1 6 = nI sp) (hl : len < 41) (hsp : sp < 10) (h0 : 0 < sp) (hb : c.2.2 < 100) : fX5_endRun (qv u c n dk) (nI len) = some (qv u (qcl sp len c) n dk) := by
  have hs6 : (qv u c n dk).1 6 = nI sp := hspan
  have hz : ¬ nI sp = 0 := nI_ne0 h0 (by omega)
  have e20 : (qv u c n dk).1 20 = nI c.1 := rfl
  have e21 : (qv u c n dk).1 21 = nI c.2.1 := rfl
  have e22 : (qv u c n dk).1 22 = nI c.2.2 := rfl
  unfold fX5_endRun qcl zznz
  rw [q_k0]
  simp only [nI_eq (a := len) (b := 0) (by omega) (by omega)]
  by_cases h : len = 0
  · rw [if_pos h, if_pos h]
  · rw [if_neg h, if_neg h, hs6, ← q_k0, if_neg hz, if_neg hz]
    obtain ⟨c1, c2⟩ := q_c3 len hl sp hsp h0
    have fin : ∀ v : Int32, v = nI ((len + sp - 1) / sp) → (if nI len ≤ ((zzi (zzi (qv u c n dk) 20 ((qv u c n dk).1 20 + v)) 21 ((zzi (qv u c n dk) 20 ((qv u c n dk).1 20 + v)).1 21 + (1 : Int32))).1 22) then some (zzi (zzi (zzi (qv u c n dk) 20 ((qv u c n dk).1 20 + v)) 21 ((zzi (qv u c n dk) 20 ((qv u c n dk).1 20 + v)).1 21 + (1 : Int32))) 22 ((zzi (zzi (qv u c n dk) 20 ((qv u c n dk).1 20 + v)) 21 ((zzi (qv u c n dk) 20 ((qv u c n dk).1 20 + v)).1 21 + (1 : Int32))).1 22)) else some (zzi (zzi (zzi (qv u c n dk) 20 ((qv u c n dk).1 20 + v)) 21 ((zzi (qv u c n dk) 20 ((qv u c n dk).1 20 + v)).1 21 + (1 : Int32))) 22 (nI len))) = some (qv u (c.1 + (len + sp - 1) / sp, c.2.1 + 1, max c.2.2 len) n dk) := by
      intro v hv
      subst hv
      have e22' : (zzi (zzi (qv u c n dk) 20 ((qv u c n dk).1 20 + nI ((len + sp - 1) / sp))) 21 ((zzi (qv u c n dk) 20 ((qv u c n dk).1 20 + nI ((len + sp - 1) / sp))).1 21 + (1 : Int32))).1 22 = nI c.2.2 := rfl
      rw [e22']
      have hst : ∀ x : Nat, max c.2.2 len = x → zzi (zzi (zzi (qv u c n dk) 20 ((qv u c n dk).1 20 + nI ((len + sp - 1) / sp))) 21 ((zzi (qv u c n dk) 20 ((qv u c n dk).1 20 + nI ((len + sp - 1) / sp))).1 21 + (1 : Int32))) 22 (nI x) = qv u (c.1 + (len + sp - 1) / sp, c.2.1 + 1, max c.2.2 len) n dk := by
        intro x hx
        refine q_ext (fun k => ?_) (fun k => rfl)
        by_cases k20 : k = 20
        · subst k20
          show nI c.1 + nI ((len + sp - 1) / sp) = nI (c.1 + (len + sp - 1) / sp)
          rw [nI_add]
        · by_cases k21 : k = 21
          · subst k21
            show nI c.2.1 + 1 = nI (c.2.1 + 1)
            rw [nI_1]
          · by_cases k22 : k = 22
            · subst k22
              show nI x = nI (max c.2.2 len)
              rw [hx]
            · simp [zzi, va_up, qv, k20, k21, k22]
      simp only [nI_leI (a := len) (b := c.2.2) (by omega) (by omega)]
      by_cases hm : len ≤ c.2.2
      · rw [if_pos hm, hst _ (Nat.max_eq_left hm)]
      · rw [if_neg hm, hst _ (Nat.max_eq_right (by omega))]
    split
    · rename_i hc; exact fin _ (c1 hc)
    · rename_i hc; exact fin _ (c2 hc)
theorem q_cntY {u : zzS} {d : qD} (hq : qY u d) (hn : 0 < d.1) {s i : Nat} (hs : s ≤ 3) (hi : i < 32) (hin : u.1 11 = nI i) : ∃ dk, fX5_count u (nI s) = some (qv u (qCn d s (fun a => !i.testBit a)) (qNd d s (fun a => !i.testBit a)) dk) := by
  obtain ⟨dk, hdk, e⟩ := q_dk3 hq hs hi hin
  have hsp := hq.2.2.2.2.1
  have h0 := hq.2.2.2.2.2.2.1 hn
  refine ⟨dk, ?_⟩
  unfold fX5_count
  rw [e, Option.bind_some]
  unfold qCn qNd
  generalize qdk d s (fun a => !i.testBit a) d.1 = D at hdk
  have key : ∀ m f, f + m = 40 → ∀ fuel, m < fuel → zzlp (sX5_count_29 (nI s)) fuel (nI (qst D d.2.1 f).1, nI f, qv u (qst D d.2.1 f).2.1 (qst D d.2.1 f).2.2 dk) = some (qv u (qfin D d.2.1 40) (qst D d.2.1 40).2.2 dk) := by
    intro m
    induction m with
    | zero =>
      intro f hf fuel hfu
      obtain rfl : f = 40 := by omega
      have hb := q_st_bnd D h0 40
      rw [q_fu (by omega)]
      unfold sX5_count_29
      dsimp only
      rw [if_pos (by rw [q_k40]; exact nI_le (by omega) (by omega)), q_endR _ _ _ _ hq.2.1 (by omega) (by omega) h0 (by omega), Option.bind_some]
      rfl
    | succ m ih =>
      intro f hf fuel hfu
      have hb := q_st_bnd D h0 f
      have ih' := ih (f + 1) (by omega) (fuel - 1) (by omega)
      rw [q_fu (by omega)]
      generalize zzlp (sX5_count_29 (nI s)) (fuel - 1) = rec at ih' ⊢
      unfold sX5_count_29
      dsimp only
      rw [if_neg (by rw [q_k40]; exact nI_ge (by omega) (by omega)), q_ga (by omega) (by decide), nI_1, nI_1]
      rw [show (qv u (qst D d.2.1 f).2.1 (qst D d.2.1 f).2.2 dk).2 19 f = dk f from rfl, hdk f (by omega)]
      rw [qst] at ih'
      cases hD : D f with
      | true =>
        rw [if_neg (by decide)]
        rw [hD, if_pos rfl] at ih'
        have e23 : zzi (qv u (qst D d.2.1 f).2.1 (qst D d.2.1 f).2.2 dk) 23 (nI (f + 1)) = qv u (qst D d.2.1 f).2.1 (f + 1) dk := by
          refine q_ext (fun k => ?_) (fun k => rfl)
          by_cases k23 : k = 23
          · subst k23; rfl
          · simp [zzi, va_up, qv, k23]
        rw [e23]
        exact ih'
      | false =>
        rw [if_pos (show qb false = 0 from rfl), q_endR _ _ _ _ hq.2.1 (by omega) (by omega) h0 (by omega), Option.bind_some]
        rw [hD, if_neg (by decide)] at ih'
        exact ih'
  have h := key 40 0 rfl zzFU (by decide)
  have e0 : zzi (zzi (zzi (zzi (qz u dk) 20 (0 : Int32)) 21 (0 : Int32)) 22 (0 : Int32)) 23 (0 : Int32) = qv u (0, 0, 0) 0 dk := by
    refine q_ext (fun k => ?_) (fun k => rfl)
    by_cases k20 : k = 20
    · subst k20; rfl
    · by_cases k21 : k = 21
      · subst k21; rfl
      · by_cases k22 : k = 22
        · subst k22; rfl
        · by_cases k23 : k = 23
          · subst k23; rfl
          · simp [zzi, va_up, qv, qz, k20, k21, k22, k23]
  rw [e0]
  exact h
theorem q_cenY {u : zzS} {d : qD} (hq : qY u d) (hn : 0 < d.1) {s i : Nat} (hs : s ≤ 3) (hi : i < 32) (hin : u.1 11 = nI i) : ∃ dk, fX5_censusOf u (nI s) = some (nI (qCn d s (fun a => !i.testBit a)).1, qv u (qCn d s (fun a => !i.testBit a)) (qNd d s (fun a => !i.testBit a)) dk) := by
  obtain ⟨dk, e⟩ := q_cntY hq hn hs hi hin
  refine ⟨dk, ?_⟩
  unfold fX5_censusOf
  rw [e]
  rfl
