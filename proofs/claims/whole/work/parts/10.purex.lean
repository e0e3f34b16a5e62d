/-! ===== pure part 1: the system's snow ===== -/
theorem wb_tb (n : Nat) : (lN n).toBitVec = BitVec.ofNat 64 n := rfl
theorem wb_inj {a b : Int64} (h : a.toBitVec = b.toBitVec) : a = b := Int64.toBitVec_inj.mp h
theorem wb_lt2 {a b : Nat} (h : a < b) : 2 ^ a < 2 ^ b := Nat.pow_lt_pow_right (by decide) h
theorem wb_and {a b : Nat} (ha : a < 2 ^ 64) (hb : b < 2 ^ 64) : lN a &&& lN b = lN (a &&& b) := by
  apply wb_inj
  rw [Int64.toBitVec_and, wb_tb, wb_tb, wb_tb]
  apply BitVec.eq_of_toNat_eq
  rw [BitVec.toNat_and, BitVec.toNat_ofNat, BitVec.toNat_ofNat, BitVec.toNat_ofNat, Nat.mod_eq_of_lt ha, Nat.mod_eq_of_lt hb, Nat.mod_eq_of_lt (Nat.and_lt_two_pow _ hb)]
theorem wb_or {a b : Nat} (ha : a < 2 ^ 64) (hb : b < 2 ^ 64) : lN a ||| lN b = lN (a ||| b) := by
  apply wb_inj
  rw [Int64.toBitVec_or, wb_tb, wb_tb, wb_tb]
  apply BitVec.eq_of_toNat_eq
  rw [BitVec.toNat_or, BitVec.toNat_ofNat, BitVec.toNat_ofNat, BitVec.toNat_ofNat, Nat.mod_eq_of_lt ha, Nat.mod_eq_of_lt hb, Nat.mod_eq_of_lt (Nat.or_lt_two_pow ha hb)]
theorem wb_mask {n k : Nat} (hn : n < 2 ^ 64) (hk : k < 64) : lN n &&& lN (2 ^ k - 1) = lN (n % 2 ^ k) := by
  rw [wb_and hn (by have := wb_lt2 hk; omega), Nat.and_two_pow_sub_one_eq_mod]
theorem wb_a1 {n : Nat} (hn : n < 2 ^ 64) : lN n &&& 1 = lN (n % 2) := wb_mask (k := 1) hn (by decide)
theorem pf_lI {a : Nat} (h : a < 2 ^ 63) : (lN a).toInt = (a : Int) := lg_ofNat_toInt h
theorem pf_shr {a d : Nat} {D : Int64} (hD : (D.toBitVec.smod 64).toNat = d) (h : a < 2 ^ 62) : lN a >>> D = lN (a / 2 ^ d) := by
  have hd : a / 2 ^ d ≤ a := Nat.div_le_self _ _
  apply Int64.toInt_inj.mp
  have e : (lN a >>> D).toInt = (lN a).toInt >>> d := by
    rw [← hD]
    exact BitVec.toInt_sshiftRight ..
  rw [e, Int.shiftRight_eq_div_pow, pf_lI (by omega), pf_lI (by omega)]
  rfl
-- small numbers, by going through them
theorem q_b1 : ∀ o, o < 32 → ∀ h, h < 32 → ∀ a, a < 5 → ((nI o &&& (nI h ^^^ (-1 : Int32))) >>> (nI a &&& 31)) &&& (1 : Int32) = (if (o.testBit a && !h.testBit a) then (1 : Int32) else 0) := by decide +kernel
theorem q_b2 : ∀ h, h < 32 → ∀ a, a < 5 → (nI h ||| ((1 : Int32) <<< (nI a &&& 31))) = nI (h ||| 2 ^ a) := by decide +kernel
theorem q_b3 : ∀ n, n < 6 → ((1 : Int32) <<< (nI n &&& 31)) - (1 : Int32) = nI (2 ^ n - 1) := by decide +kernel
theorem q_b4 : ∀ r, r < 28 → ∀ f, f < 10 → ((((1 : Int64) <<< ((nI r + (1 : Int32)).toInt64 &&& 63)) - (1 : Int64)) <<< ((nI f).toInt64 &&& 63)) = lN ((2 ^ (r + 1) - 1) * 2 ^ f) := by decide +kernel
theorem q_b5 : ∀ f, f < 40 → (((nI f).toInt64 &&& 63).toBitVec.smod 64).toNat = f := by decide +kernel
theorem q_b6 : ∀ h, h < 10 → ∀ s, s < 4 → (if ((nI h * nI s) - (1 : Int32)) < (0 : Int32) then (0 : Int32) else ((nI h * nI s) - (1 : Int32))) = nI (h * s - 1) ∧ (nI h * nI s) / (2 : Int32) = nI (h * s / 2) ∧ nI h * nI s = nI (h * s) := by decide +kernel
theorem q_b7 : ∀ len, len < 41 → ∀ sp, sp < 10 → 0 < sp → ((nI len + nI sp) - (1 : Int32)) / nI sp = nI ((len + sp - 1) / sp) := by decide +kernel
theorem q_cmp0 {m : Nat} (h : m < 2 ^ 63) : lg_cmp (lN m) (0 : Int64) = 0 ↔ m = 0 := by
  have e : (lN m = 0) ↔ m = 0 := by
    rw [show (0 : Int64) = lN 0 from rfl, pk_lEQ h (by decide)]
  unfold lg_cmp
  simp only [gt_iff_lt, show (0 : Int64) = lN 0 from rfl, pk_lLT (a := 0) (b := m) (by decide) h, pk_lEQ (a := m) (b := 0) h (by decide)]
  by_cases hm : m = 0
  · subst hm; simp
  · have : 0 < m := Nat.pos_of_ne_zero hm
    simp [hm, this]
theorem q_fu {V α : Type} {step : V → (V → Option α) → Option α} {fuel : Nat} {v : V} (h : 0 < fuel) : zzlp step fuel v = step v (zzlp step (fuel - 1)) := by
  obtain ⟨k, rfl⟩ : ∃ k, fuel = k + 1 := ⟨fuel - 1, by omega⟩
  rfl
def qhs (d : qD) (s : Nat) : Nat → Nat
  | 0 => 0
  | a + 1 => if qhid d s a then qhs d s a ||| 2 ^ a else qhs d s a
theorem q_hs_lt (d : qD) (s : Nat) : ∀ n, qhs d s n < 2 ^ n
  | 0 => by simp [qhs]
  | n + 1 => by
    have ih := q_hs_lt d s n
    have h2 : 2 ^ n < 2 ^ (n + 1) := Nat.pow_lt_pow_right (by decide) (by omega)
    rw [qhs]
    split
    · exact Nat.or_lt_two_pow (by omega) h2
    · omega
theorem q_hs_bit (d : qD) (s a : Nat) : ∀ n, (qhs d s n).testBit a = (decide (a < n) && qhid d s a)
  | 0 => by simp [qhs]
  | n + 1 => by
    have ih := q_hs_bit d s a n
    rw [qhs]
    split
    · rename_i h
      rw [Nat.testBit_or, ih, Nat.testBit_two_pow]
      by_cases h1 : a = n
      · subst h1; simp [h]
      · have e : (a < n + 1) ↔ (a < n) := by omega
        have e2 : ¬ n = a := fun h => h1 h.symm
        simp [e, e2]
    · rename_i h
      rw [ih]
      by_cases h1 : a = n
      · subst h1; simp [h]
      · have e : (a < n + 1) ↔ (a < n) := by omega
        simp [e]
theorem q_hs32 {d : qD} {s n : Nat} (h : n ≤ 5) : qhs d s n < 32 := Nat.lt_of_lt_of_le (q_hs_lt d s n) (Nat.pow_le_pow_right (by decide) h)
section QX
variable {t : Nat} {u : zzS} {d : qD}
theorem q_has1 (hq : qX t u d) {a : Nat} (h : a < d.1) : fX3_has t u (nI a) = some 1 := by
  have h5 := hq.2.2.2.1
  unfold fX3_has
  rw [hq.1, if_neg (nI_pos (by omega)), if_neg (nI_ge h (by omega)), if_neg (by rw [q_k5]; exact nI_ge (by omega) (by omega))]
theorem q_has0 (hq : qX t u d) {p0 : Int32} (h : ∀ a, a < d.1 → p0 ≠ nI a) : fX3_has t u p0 = some 0 := by
  unfold fX3_has
  rw [hq.1]
  split
  · rfl
  · rename_i h0
    obtain ⟨k, hk, rfl⟩ := nI_of h0
    have h5 := hq.2.2.2.1
    rw [if_pos]
    refine nI_le ?_ hk
    exact Nat.le_of_not_lt (fun hlt => h k hlt rfl)
theorem q_has5 (hq : qX t u d) {a : Nat} (h : a < 5) : fX3_has t u (nI a) = some (if a < d.1 then 1 else 0) := by
  have h5 := hq.2.2.2.1
  by_cases h1 : a < d.1
  · rw [if_pos h1]; exact q_has1 hq h1
  · rw [if_neg h1]; exact q_has0 hq (fun b hb e => h1 (by have := (nI_eq (by omega) (by omega)).mp e; omega))
theorem q_laid (hq : qX t u d) : fX3_isLaid t u = some (if d.1 = 0 then 0 else 1) := by
  have h5 := hq.2.2.2.1
  unfold fX3_isLaid
  rw [hq.1, q_k0]
  by_cases h : d.1 = 0
  · rw [if_pos h, h]; rfl
  · rw [if_neg h, if_neg]
    rw [nI_leI (by omega) (by omega)]; omega
theorem q_every (hq : qX t u d) : fX3_everyone t u = some (nI (2 ^ d.1 - 1)) := by
  have h5 := hq.2.2.2.1
  unfold fX3_everyone
  rw [hq.1, q_b3 _ (by omega)]
theorem q_shX (hq : qX t u d) {a s : Nat} (h : a < d.1) (hs : s ≤ 3) : fX3_shadeOf t u (nI a) (nI s) = some (nI (qsh d s a)) := by
  have h5 := hq.2.2.2.1
  obtain ⟨e0, e1, e2, b0, b1, b2⟩ := hq.2.2.2.2.2.2.2 a (by omega)
  obtain ⟨c1, c2, c3⟩ := q_b6 (d.2.2.2.2.2 a) (by omega) s (by omega)
  unfold fX3_shadeOf
  rw [q_has1 hq h, Option.bind_some, if_neg (by decide), q_ga (by omega) (by decide), q_ga (by omega) (by decide), e0, e2]
  unfold qsh
  rw [c1, c2, c3, q_k1, q_k2]
  simp only [nI_eq (a := d.2.2.2.1 a) (b := 1) (by omega) (by omega), nI_eq (a := d.2.2.2.1 a) (b := 2) (by omega) (by omega)]
  split
  · rfl
  · split <;> rfl
theorem q_litX (hq : qX t u d) (s : Nat) : fX3_firstLitFoot t u (nI s) = some (nI (d.2.2.1 * s)) := by
  unfold fX3_firstLitFoot
  rw [hq.2.2.1, pk_mul]
theorem q_hidX (hq : qX t u d) {s : Nat} (hs : s ≤ 3) : fX3_hiddenSet t u (nI s) = some (nI (qhs d s d.1)) := by
  have h5 := hq.2.2.2.1
  have key : ∀ m a, a + m = 5 → ∀ fuel, m < fuel → zzlp (sX3_hiddenSet_4 (nI s) t u) fuel (nI (qhs d s (min a d.1)), nI a) = some (nI (qhs d s d.1)) := by
    intro m
    induction m with
    | zero =>
      intro a ha fuel hf
      rw [q_fu (by omega)]
      unfold sX3_hiddenSet_4
      dsimp only
      rw [if_pos (by rw [q_k5]; exact nI_le (by omega) (by omega)), Nat.min_eq_right (by omega)]
    | succ m ih =>
      intro a ha fuel hf
      have ih' := ih (a + 1) (by omega) (fuel - 1) (by omega)
      rw [q_fu (by omega)]
      generalize zzlp (sX3_hiddenSet_4 (nI s) t u) (fuel - 1) = rec at ih' ⊢
      unfold sX3_hiddenSet_4
      dsimp only
      rw [if_neg (by rw [q_k5]; exact nI_ge (by omega) (by omega)), q_has5 hq (by omega), Option.bind_some, nI_1]
      by_cases h1 : a < d.1
      · rw [if_pos h1, if_neg (by decide), q_ga (by omega) (by decide), q_litX hq, Option.bind_some, (hq.2.2.2.2.2.2.2 a (by omega)).2.1]
        have b1 := (hq.2.2.2.2.2.2.2 a (by omega)).2.2.2.2.1
        have b2 := hq.2.2.2.2.2.1
        have b3 : d.2.2.1 * s ≤ 9 * 3 := Nat.mul_le_mul b2 hs
        have e : min (a + 1) d.1 = a + 1 := by omega
        have e2 : min a d.1 = a := by omega
        rw [e, qhs] at ih'
        rw [e2]
        simp only [nI_leI (a := d.2.2.1 * s) (b := d.2.2.2.2.1 a) (by omega) (by omega)]
        by_cases h2 : d.2.2.2.2.1 a < d.2.2.1 * s
        · rw [if_neg (by omega), q_b2 _ (q_hs32 (by omega)) _ (by omega)]
          rw [if_pos (by simp [qhid, h2])] at ih'
          exact ih'
        · rw [if_pos (by omega)]
          rw [if_neg (by simp [qhid, h2])] at ih'
          exact ih'
      · rw [if_neg h1, if_pos rfl]
        have e : min (a + 1) d.1 = d.1 := by omega
        have e2 : min a d.1 = d.1 := by omega
        rw [e] at ih'
        rw [e2]
        exact ih'
  have h := key 5 0 rfl zzFU (by decide)
  rw [Nat.zero_min] at h
  exact h
theorem q_drkX (hq : qX t u d) {s o : Nat} (hs : s ≤ 3) (ho : o < 32) : fX3_darkFeet t u (nI s) (nI o) = some (lN (qmk d s (fun a => o.testBit a) d.1)) := by
  have h5 := hq.2.2.2.1
  have hd : ∀ a, a < 5 → d.2.2.2.2.1 a ≤ 9 ∧ d.2.2.2.2.2 a ≤ 9 := fun a ha => (hq.2.2.2.2.2.2.2 a ha).2.2.2.2
  unfold fX3_darkFeet
  rw [q_hidX hq hs, Option.bind_some]
  have key : ∀ m a, a + m = 5 → ∀ fuel, m < fuel → zzlp (sX3_darkFeet_16 (nI s) (nI o) t u (nI (qhs d s d.1))) fuel (lN (qmk d s (fun a => o.testBit a) (min a d.1)), nI a) = some (lN (qmk d s (fun a => o.testBit a) d.1)) := by
    intro m
    induction m with
    | zero =>
      intro a ha fuel hf
      rw [q_fu (by omega)]
      unfold sX3_darkFeet_16
      dsimp only
      rw [if_pos (by rw [q_k5]; exact nI_le (by omega) (by omega)), Nat.min_eq_right (by omega)]
    | succ m ih =>
      intro a ha fuel hf
      have ih' := ih (a + 1) (by omega) (fuel - 1) (by omega)
      rw [q_fu (by omega)]
      generalize zzlp (sX3_darkFeet_16 (nI s) (nI o) t u (nI (qhs d s d.1))) (fuel - 1) = rec at ih' ⊢
      unfold sX3_darkFeet_16
      dsimp only
      rw [if_neg (by rw [q_k5]; exact nI_ge (by omega) (by omega)), q_has5 hq (by omega), Option.bind_some, nI_1]
      by_cases h1 : a < d.1
      · rw [if_pos h1, if_neg (by decide), q_b1 o ho _ (q_hs32 h5) a (by omega), q_hs_bit]
        have e : min (a + 1) d.1 = a + 1 := by omega
        have e2 : min a d.1 = a := by omega
        have hlt := q_mk_lt d (fun a => o.testBit a) hs hd a (by omega)
        rw [e, qmk] at ih'
        rw [e2]
        have hon : qon d s (fun a => o.testBit a) a = (o.testBit a && !(decide (a < d.1) && qhid d s a)) := by simp [qon, h1]
        rw [← hon]
        cases h2 : qon d s (fun a => o.testBit a) a with
        | false =>
          rw [h2] at ih'
          simp only [Bool.false_eq_true, if_false, Nat.or_zero] at ih' ⊢
          exact ih'
        | true =>
          rw [h2] at ih'
          simp only [if_true] at ih' ⊢
          rw [if_neg (by decide), q_shX hq h1 hs, Option.bind_some, q_ga (by omega) (by decide), (hq.2.2.2.2.2.2.2 a (by omega)).2.1]
          have hsh : qsh d s a ≤ 27 := q_sh_le hs (hd a (by omega)).2
          have hF := (hd a (by omega)).1
          rw [q_b4 _ (by omega) _ (by omega), wb_or (by omega)]
          · exact ih'
          · have h3 : 2 ^ (qsh d s a + 1) * 2 ^ d.2.2.2.2.1 a ≤ 2 ^ 37 := by
              rw [← Nat.pow_add]
              exact Nat.pow_le_pow_right (by decide) (by omega)
            have h4 : (2 ^ (qsh d s a + 1) - 1) * 2 ^ d.2.2.2.2.1 a ≤ 2 ^ (qsh d s a + 1) * 2 ^ d.2.2.2.2.1 a := Nat.mul_le_mul_right _ (Nat.sub_le _ _)
            omega
      · rw [if_neg h1, if_pos rfl]
        have e : min (a + 1) d.1 = d.1 := by omega
        have e2 : min a d.1 = d.1 := by omega
        rw [e] at ih'
        rw [e2]
        exact ih'
  have h := key 5 0 rfl zzFU (by decide)
  rw [Nat.zero_min] at h
  exact h
end QX
/-- the system's state with other measures -/
def qw (u : zzS) (c : Nat × Nat × Nat) : zzS := (fun k => if k = 6 then nI c.2.1 else if k = 7 then nI c.2.2 else if k = 8 then nI c.1 else u.1 k, u.2)
def qwn (u : zzS) (c : Nat × Nat × Nat) (n : Nat) : zzS := zzi (qw u c) 9 (nI n)
theorem q_ext {u v : zzS} (h1 : ∀ k, u.1 k = v.1 k) (h2 : ∀ k, u.2 k = v.2 k) : u = v := Prod.ext (funext h1) (funext h2)
theorem q_close (u : zzS) (c : Nat × Nat × Nat) {len sp : Nat} (hl : len < 41) (hsp : sp < 10) (h0 : 0 < sp) (hb : c.2.2 < 100) : fX1_closeRun (qw u c) (nI len) (nI sp) = some (qw u (qcl sp len c)) := by
  unfold fX1_closeRun qcl
  rw [q_k1]
  simp only [nI_ltI (a := len) (b := 1) (by omega) (by omega), nI_leI (a := 1) (b := sp) (by omega) (by omega)]
  by_cases h : len = 0
  · subst h
    rw [if_pos (by omega), if_pos rfl]
  · rw [if_neg (by omega), if_pos (by omega), if_neg h]
    have hz : ¬ nI sp = 0 := nI_ne0 h0 (by omega)
    unfold zznz
    rw [if_neg hz]
    congr 1
    refine q_ext (fun k => ?_) (fun k => rfl)
    have e := q_b7 len hl sp hsp h0
    rw [q_k1, nI_add] at e
    by_cases k6 : k = 6
    · subst k6; simp [zzi, va_up, qw, nI_add]
    · by_cases k7 : k = 7
      · subst k7
        simp only [zzi, va_up, qw]
        simp (disch := omega) [nI_ltI]
        by_cases hm : c.2.2 < len
        · rw [if_pos hm, Nat.max_eq_right (by omega)]
        · rw [if_neg hm, Nat.max_eq_left (by omega)]
      · by_cases k8 : k = 8
        · subst k8
          simp only [zzi, va_up, qw]
          simp [e, nI_add]
        · simp [zzi, va_up, qw, k6, k7, k8]
theorem q_meas (u : zzS) {m sp : Nat} (hm : m < 2 ^ 37) (hsp : sp < 10) (h0 : 0 < sp) : fX1_measure u (lN m) (nI sp) = some (qwn u (qfin (fun f => m.testBit f) sp 40) (qst (fun f => m.testBit f) sp 40).2.2) := by
  let D : Nat → Bool := fun f => m.testBit f
  have hst : ∀ f, f ≤ 37 → m / 2 ^ f = 0 → qfin D sp 40 = qfin D sp f ∧ (qst D sp 40).2.2 = (qst D sp f).2.2 := by
    intro f hf hz
    have hlt : m < 2 ^ f := by
      rcases Nat.lt_or_ge m (2 ^ f) with h | h
      · exact h
      · have := Nat.div_pos h (Nat.two_pow_pos f); omega
    have hD : ∀ g, f ≤ g → D g = false := fun g hg => Nat.testBit_lt_two_pow (Nat.lt_of_lt_of_le hlt (Nat.pow_le_pow_right (by decide) hg))
    have hs := q_fin_stay (sp := sp) hD (40 - f)
    rw [show f + (40 - f) = 40 by omega] at hs
    exact ⟨hs.1, hs.2.1⟩
  have hlast : ∀ f, f ≤ 37 → (qst D sp f).2.2 ≤ f := fun f _ => (q_st_bnd D h0 f).2.2.2
  have key : ∀ n f, f + n = 37 → (f = 0 ∨ m / 2 ^ (f - 1) ≠ 0) → ∀ fuel, n < fuel → zzlp (sX1_measure_21 (lN m) (nI sp)) fuel (nI (qst D sp f).1, nI f, qw u (qst D sp f).2.1) = some (qwn u (qfin D sp 40) (qst D sp 40).2.2) := by
    intro n
    induction n with
    | zero => 
      intro f hf hprev fuel hfu
      obtain rfl : f = 37 := by omega
      have hb := q_st_bnd D h0 37
      rw [q_fu (by omega)]
      unfold sX1_measure_21
      dsimp only
      rw [if_pos (by rw [q_k37]; exact nI_le (by omega) (by omega)), q_close _ _ (by omega) hsp h0 (by omega), Option.bind_some]
      have hz : m / 2 ^ 37 = 0 := Nat.div_eq_of_lt hm
      obtain ⟨e1, e2⟩ := hst 37 (by omega) hz
      have hl : (qst D sp 37).2.2 = 37 := by
        have hb36 : D 36 = true := by
          have h1 : m / 2 ^ 36 ≠ 0 := by
            rcases hprev with h | h
            · omega
            · exact h
          have h2 : m / 2 ^ 36 < 2 := by rw [Nat.div_lt_iff_lt_mul (by decide)]; omega
          show m.testBit 36 = true
          rw [Nat.testBit_eq_decide_div_mod_eq]
          have : m / 2 ^ 36 = 1 := by omega
          simp [this]
        rw [qst, hb36]
        rfl
      rw [e1, e2, hl]
      rfl
    | succ n ih =>
      intro f hf hprev fuel hfu
      have hb := q_st_bnd D h0 f
      have ih' := fun hp => ih (f + 1) (by omega) hp (fuel - 1) (by omega)
      rw [q_fu (by omega)]
      generalize zzlp (sX1_measure_21 (lN m) (nI sp)) (fuel - 1) = rec at ih' ⊢
      unfold sX1_measure_21
      dsimp only
      have hdl : m / 2 ^ f ≤ m := Nat.div_le_self _ _
      rw [if_neg (by rw [q_k37]; exact nI_ge (by omega) (by omega)), pf_shr (q_b5 f (by omega)) (by omega), wb_a1 (by omega), nI_1, nI_1]
      simp only [q_cmp0 (m := m / 2 ^ f) (by omega), q_cmp0 (m := m / 2 ^ f % 2) (by omega)]
      by_cases hz : m / 2 ^ f = 0
      · rw [if_pos hz, q_close _ _ (by omega) hsp h0 (by omega), Option.bind_some]
        obtain ⟨e1, e2⟩ := hst f (by omega) hz
        have hl : (qst D sp f).2.2 = f := by
          rcases hprev with h | h
          · subst h; rfl
          · obtain ⟨g, rfl⟩ : ∃ g, f = g + 1 := ⟨f - 1, by
              rcases f with _ | f
              · exfalso; apply h; simpa using hz
              · omega⟩
            have h2 : m / 2 ^ g < 2 := by
              rw [Nat.div_lt_iff_lt_mul (Nat.two_pow_pos _), Nat.mul_comm, ← Nat.pow_succ]
              rcases Nat.lt_or_ge m (2 ^ (g + 1)) with h3 | h3
              · exact h3
              · have := Nat.div_pos h3 (Nat.two_pow_pos _); omega
            have hbg : D g = true := by
              show m.testBit g = true
              rw [Nat.testBit_eq_decide_div_mod_eq]
              have h4 : m / 2 ^ g ≠ 0 := h
              have : m / 2 ^ g = 1 := Nat.le_antisymm (Nat.lt_succ_iff.mp h2) (Nat.pos_of_ne_zero h4)
              simp [this]
            rw [qst, hbg]
            rfl
        rw [e1, e2, hl]
        rfl
      · rw [if_neg hz]
        have ih' := ih' (Or.inr (by simpa using hz))
        rw [qst] at ih'
        have hDf : D f = decide (m / 2 ^ f % 2 = 1) := Nat.testBit_eq_decide_div_mod_eq
        by_cases h2 : m / 2 ^ f % 2 = 0
        · rw [if_pos h2, q_close _ _ (by omega) hsp h0 (by omega), Option.bind_some]
          rw [if_neg (by rw [hDf]; simp [h2])] at ih'
          exact ih'
        · rw [if_neg h2]
          rw [if_pos (by rw [hDf]; simp; omega)] at ih'
          exact ih'
  have h := key 37 0 rfl (Or.inl rfl) zzFU (by decide)
  have e0 : qw u (qst D sp 0).2.1 = zzi (zzi (zzi u 6 (0 : Int32)) 7 (0 : Int32)) 8 (0 : Int32) := by
    refine q_ext (fun k => ?_) (fun k => rfl)
    show (if k = 6 then nI 0 else if k = 7 then nI 0 else if k = 8 then nI 0 else u.1 k) = _
    by_cases k6 : k = 6
    · subst k6; rfl
    · by_cases k7 : k = 7
      · subst k7; rfl
      · by_cases k8 : k = 8
        · subst k8; rfl
        · simp [zzi, va_up, k6, k7, k8]
  rw [e0] at h
  exact h
def qCn (d : qD) (s : Nat) (o : Nat → Bool) : Nat × Nat × Nat := qfin (qdk d s o d.1) d.2.1 40
def qNd (d : qD) (s : Nat) (o : Nat → Bool) : Nat := (qst (qdk d s o d.1) d.2.1 40).2.2
theorem q_cntX {t : Nat} {u : zzS} {d : qD} (hq : qX t u d) (hn : 0 < d.1) {s o : Nat} (hs : s ≤ 3) (ho : o < 32) : fX4_countedOn t u (nI s) (nI o) = some (nI (qCn d s (fun a => o.testBit a)).1, qwn u (qCn d s (fun a => o.testBit a)) (qNd d s (fun a => o.testBit a))) := by
  have hd : ∀ a, a < 5 → d.2.2.2.2.1 a ≤ 9 ∧ d.2.2.2.2.2 a ≤ 9 := fun a ha => (hq.2.2.2.2.2.2.2 a ha).2.2.2.2
  have hlt := q_mk_lt d (fun a => o.testBit a) hs hd d.1 hq.2.2.2.1
  have hsp := hq.2.2.2.2.1
  have h0 := hq.2.2.2.2.2.2.1 hn
  unfold fX4_countedOn
  rw [q_drkX hq hs ho, Option.bind_some, hq.2.1, q_meas u hlt (by omega) h0, Option.bind_some]
  have e : (fun f => (qmk d s (fun a => o.testBit a) d.1).testBit f) = qdk d s (fun a => o.testBit a) d.1 := funext (fun f => q_mk_bit d s _ f d.1)
  rw [e]
  rfl
