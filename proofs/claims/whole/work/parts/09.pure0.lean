/-! ===== pure part 0: numbers, rows, loops ===== -/
theorem q_k0 : (0 : Int32) = nI 0 := rfl
theorem q_k1 : (1 : Int32) = nI 1 := rfl
theorem q_k2 : (2 : Int32) = nI 2 := rfl
theorem q_k3 : (3 : Int32) = nI 3 := rfl
theorem q_k4 : (4 : Int32) = nI 4 := rfl
theorem q_k5 : (5 : Int32) = nI 5 := rfl
theorem q_k7 : (7 : Int32) = nI 7 := rfl
theorem q_k8 : (8 : Int32) = nI 8 := rfl
theorem q_k9 : (9 : Int32) = nI 9 := rfl
theorem q_k10 : (10 : Int32) = nI 10 := rfl
theorem q_k37 : (37 : Int32) = nI 37 := rfl
theorem q_k40 : (40 : Int32) = nI 40 := rfl
theorem q_k60 : (60 : Int32) = nI 60 := rfl
theorem q_k100 : (100 : Int32) = nI 100 := rfl
theorem q_cl {i : Nat} (h : i < 2 ^ 31) : (nI i).toNatClampNeg = i := nI_clamp h
theorem q_ga {α : Type} {f : Nat → Int32} {n i : Nat} {k : Int32 → Option α} (h : i < n) (hn : n < 1000) : zzga f n (nI i) k = k (f i) := by
  have h2 : (nI i).toNatClampNeg = i := nI_clamp (by omega)
  unfold zzga
  rw [h2, if_neg]
  rintro (h3 | h3)
  · exact nI_pos (by omega) h3
  · omega
theorem q_pa {α : Type} {n i : Nat} {k : Option α} (h : i < n) (hn : n < 1000) : zzpa n (nI i) k = k := by
  have h2 : (nI i).toNatClampNeg = i := nI_clamp (by omega)
  unfold zzpa
  rw [h2, if_neg]
  rintro (h3 | h3)
  · exact nI_pos (by omega) h3
  · omega
theorem q_lp {V α : Type} (step : V → (V → Option α) → Option α) (n : Nat) (v : V) : zzlp step (n + 1) v = step v (zzlp step n) := rfl
/-- what the snow holds: standers, span, tower, kinds, feet, heights -/
abbrev qD : Type := Nat × Nat × Nat × (Nat → Nat) × (Nat → Nat) × (Nat → Nat)
def qS (i0 i1 i2 : Int32) (r0 r1 r2 : Nat → Int32) (d : qD) : Prop :=
  i0 = nI d.1 ∧ i1 = nI d.2.1 ∧ i2 = nI d.2.2.1 ∧ d.1 ≤ 5 ∧ d.2.1 ≤ 9 ∧ d.2.2.1 ≤ 9 ∧ (0 < d.1 → 0 < d.2.1) ∧ ∀ a, a < 5 → r0 a = nI (d.2.2.2.1 a) ∧ r1 a = nI (d.2.2.2.2.1 a) ∧ r2 a = nI (d.2.2.2.2.2 a) ∧ d.2.2.2.1 a ≤ 2 ∧ d.2.2.2.2.1 a ≤ 9 ∧ d.2.2.2.2.2 a ≤ 9
abbrev qX (t : Nat) (u : zzS) (d : qD) : Prop := qS (u.1 (3 * t)) (u.1 (3 * t + 1)) (u.1 (3 * t + 2)) (u.2 (3 * t)) (u.2 (3 * t + 1)) (u.2 (3 * t + 2)) d
abbrev qY (u : zzS) (d : qD) : Prop := qS (u.1 5) (u.1 6) (u.1 7) (u.2 8) (u.2 9) (u.2 10) d
def qsh (d : qD) (s a : Nat) : Nat := if d.2.2.2.1 a = 1 then d.2.2.2.2.2 a * s - 1 else if d.2.2.2.1 a = 2 then d.2.2.2.2.2 a * s / 2 else d.2.2.2.2.2 a * s
def qhid (d : qD) (s a : Nat) : Bool := decide (d.2.2.2.2.1 a < d.2.2.1 * s)
def qon (d : qD) (s : Nat) (o : Nat → Bool) (a : Nat) : Bool := o a && !qhid d s a
def qdk (d : qD) (s : Nat) (o : Nat → Bool) : Nat → Nat → Bool
  | 0, _ => false
  | a + 1, f => qdk d s o a f || (qon d s o a && (decide (d.2.2.2.2.1 a ≤ f) && decide (f ≤ d.2.2.2.2.1 a + qsh d s a)))
def qmk (d : qD) (s : Nat) (o : Nat → Bool) : Nat → Nat
  | 0 => 0
  | a + 1 => qmk d s o a ||| (if qon d s o a then (2 ^ (qsh d s a + 1) - 1) * 2 ^ d.2.2.2.2.1 a else 0)
def qcl (sp len : Nat) (c : Nat × Nat × Nat) : Nat × Nat × Nat := if len = 0 then c else (c.1 + (len + sp - 1) / sp, c.2.1 + 1, max c.2.2 len)
def qst (D : Nat → Bool) (sp : Nat) : Nat → Nat × (Nat × Nat × Nat) × Nat
  | 0 => (0, (0, 0, 0), 0)
  | f + 1 => if D f then ((qst D sp f).1 + 1, (qst D sp f).2.1, f + 1) else (0, qcl sp (qst D sp f).1 (qst D sp f).2.1, (qst D sp f).2.2)
def qfin (D : Nat → Bool) (sp N : Nat) : Nat × Nat × Nat := qcl sp (qst D sp N).1 (qst D sp N).2.1
theorem q_sh_le {d : qD} {s a : Nat} (hs : s ≤ 3) (h : d.2.2.2.2.2 a ≤ 9) : qsh d s a ≤ 27 := by
  have h2 : d.2.2.2.2.2 a * s ≤ 9 * 3 := Nat.mul_le_mul h hs
  unfold qsh
  split
  · omega
  · split <;> omega
theorem q_st_congr {D E : Nat → Bool} {sp : Nat} : ∀ {N : Nat}, (∀ f, f < N → D f = E f) → qst D sp N = qst E sp N
  | 0, _ => rfl
  | N + 1, h => by
    rw [qst, qst, q_st_congr (N := N) (fun f hf => h f (by omega)), h N (by omega)]
theorem q_st_bnd (D : Nat → Bool) {sp : Nat} (hsp : 0 < sp) : ∀ N : Nat, (qst D sp N).1 + (qst D sp N).2.1.1 ≤ N ∧ (qst D sp N).2.1.2.1 ≤ N ∧ (qst D sp N).2.1.2.2 ≤ N ∧ (qst D sp N).2.2 ≤ N
  | 0 => by simp [qst]
  | N + 1 => by
    have ih := q_st_bnd D hsp N
    rw [qst]
    split
    · dsimp only; omega
    · unfold qcl
      split
      · dsimp only; omega
      · dsimp only
        have hd : ((qst D sp N).1 + sp - 1) / sp ≤ (qst D sp N).1 := by
          rw [Nat.div_le_iff_le_mul_add_pred hsp]
          have : (qst D sp N).1 ≤ sp * (qst D sp N).1 := Nat.le_mul_of_pos_left _ hsp
          omega
        omega
theorem q_fin_stay {D : Nat → Bool} {sp M : Nat} (h : ∀ f, M ≤ f → D f = false) : ∀ k : Nat, qfin D sp (M + k) = qfin D sp M ∧ (qst D sp (M + k)).2.2 = (qst D sp M).2.2 ∧ (0 < k → (qst D sp (M + k)).1 = 0 ∧ (qst D sp (M + k)).2.1 = qfin D sp M)
  | 0 => ⟨rfl, rfl, fun h => absurd h (by omega)⟩
  | k + 1 => by
    obtain ⟨h1, h2, h3⟩ := q_fin_stay h k
    have hD : D (M + k) = false := h _ (by omega)
    have e : qst D sp (M + (k + 1)) = (0, qcl sp (qst D sp (M + k)).1 (qst D sp (M + k)).2.1, (qst D sp (M + k)).2.2) := by
      rw [← Nat.add_assoc, qst, hD]; rfl
    have e2 : qcl sp (qst D sp (M + k)).1 (qst D sp (M + k)).2.1 = qfin D sp M := h1
    refine ⟨?_, ?_, fun _ => ⟨by rw [e], by rw [e]; exact e2⟩⟩
    · unfold qfin
      rw [e]
      show qcl sp 0 _ = _
      rw [qcl, if_pos rfl]
      exact e2
    · rw [e]; exact h2
theorem q_mk_lt (d : qD) {s : Nat} (o : Nat → Bool) (hs : s ≤ 3) (hd : ∀ a, a < 5 → d.2.2.2.2.1 a ≤ 9 ∧ d.2.2.2.2.2 a ≤ 9) : ∀ n : Nat, n ≤ 5 → qmk d s o n < 2 ^ 37
  | 0, _ => by simp [qmk]
  | n + 1, h => by
    rw [qmk]
    refine Nat.or_lt_two_pow (q_mk_lt d o hs hd n (by omega)) ?_
    split
    · have h1 := hd n (by omega)
      have h2 : qsh d s n ≤ 27 := q_sh_le hs h1.2
      have h3 : 2 ^ (qsh d s n + 1) * 2 ^ d.2.2.2.2.1 n ≤ 2 ^ 37 := by
        rw [← Nat.pow_add]
        exact Nat.pow_le_pow_right (by decide) (by omega)
      have h4 : 0 < 2 ^ (qsh d s n + 1) := Nat.two_pow_pos _
      have h5 : 0 < 2 ^ d.2.2.2.2.1 n := Nat.two_pow_pos _
      exact Nat.lt_of_lt_of_le (Nat.mul_lt_mul_of_pos_right (by omega) h5) h3
    · decide
theorem q_mk_bit (d : qD) (s : Nat) (o : Nat → Bool) (f : Nat) : ∀ n : Nat, (qmk d s o n).testBit f = qdk d s o n f
  | 0 => by simp [qmk, qdk]
  | n + 1 => by
    rw [qmk, qdk, Nat.testBit_or, q_mk_bit d s o f n]
    congr 1
    cases h : qon d s o n with
    | false => simp
    | true =>
      rw [if_pos rfl, Nat.testBit_mul_two_pow]
      simp only [Nat.testBit_two_pow_sub_one, Bool.true_and]
      by_cases h1 : d.2.2.2.2.1 n ≤ f
      · have e : (f - d.2.2.2.2.1 n < qsh d s n + 1) ↔ (f ≤ d.2.2.2.2.1 n + qsh d s n) := by omega
        simp [h1, e]
      · simp [h1]
