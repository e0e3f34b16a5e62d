/-! ===== pure part 13: field, the text ===== -/
def qdc (c : Int32) : Bool := decide ((48 : Int32) ≤ c) && decide (c ≤ (57 : Int32))
def qlt (c : Int32) : Bool := decide (c = (115 : Int32)) || (decide (c = (114 : Int32)) || decide (c = (112 : Int32)))
def qoc (k : Nat) (c : Int32) : Bool := if k = 0 then decide (c = (102 : Int32)) else if k = 1 then (decide ((49 : Int32) ≤ c) && decide (c ≤ (57 : Int32))) else if k = 2 then qdc c else if 23 ≤ k then false else if (k - 3) % 4 = 0 then decide (c = (59 : Int32)) else if (k - 3) % 4 = 1 then qlt c else qdc c
def qdg (c : Int32) : Nat := (c - (48 : Int32)).toNatClampNeg
def qkl (c : Int32) : Nat := if c = (115 : Int32) then 0 else if c = (114 : Int32) then 1 else 2
theorem q_le57 (c : Int32) : (¬ (57 : Int32) < c) ↔ c ≤ (57 : Int32) := by
  rw [Int32.lt_iff_toInt_lt, Int32.le_iff_toInt_le]; omega
theorem q_ge {c x : Int32} : (¬ c < x) ↔ x ≤ c := by
  rw [Int32.lt_iff_toInt_lt, Int32.le_iff_toInt_le]; omega
theorem q_dgC (c : Int32) : fX4_isDigitCode c = some (qb (qdc c)) := by
  unfold fX4_isDigitCode qdc
  by_cases h1 : c < (48 : Int32)
  · rw [if_pos h1]
    have : ¬ (48 : Int32) ≤ c := fun h => (q_ge.mpr h) h1
    simp [qb, this]
  · have h1' := q_ge.mp h1
    rw [if_neg h1]
    by_cases h2 : (57 : Int32) < c
    · rw [if_pos h2]
      have : ¬ c ≤ (57 : Int32) := fun h => ((q_le57 c).mpr h) h2
      simp [qb, this]
    · have h2' := (q_le57 c).mp h2
      rw [if_neg h2]
      simp [qb, h1', h2']
theorem q_ltC (c : Int32) : ∃ r : Int32, fX4_kindOfLetter c = some r ∧ (qlt c = true → r = nI (qkl c) ∧ ¬ r = (-9 : Int32)) ∧ (qlt c = false → r = (-9 : Int32)) := by
  unfold fX4_kindOfLetter qlt qkl
  by_cases h1 : c = (112 : Int32)
  · subst h1; exact ⟨_, rfl, fun _ => ⟨rfl, by decide⟩, fun h => absurd h (by decide)⟩
  · rw [if_neg h1]
    by_cases h2 : c = (113 : Int32)
    · subst h2; exact ⟨_, rfl, fun h => absurd h (by decide), fun _ => rfl⟩
    · rw [if_neg h2]
      by_cases h3 : c = (114 : Int32)
      · subst h3; exact ⟨_, rfl, fun _ => ⟨rfl, by decide⟩, fun h => absurd h (by decide)⟩
      · rw [if_neg h3]
        by_cases h4 : c = (115 : Int32)
        · subst h4; exact ⟨_, rfl, fun _ => ⟨rfl, by decide⟩, fun h => absurd h (by decide)⟩
        · rw [if_neg h4]
          exact ⟨_, rfl, fun h => absurd h (by simp [h1, h3, h4]), fun _ => rfl⟩
theorem q_dg {c : Int32} (h : qdc c = true) : c - (48 : Int32) = nI (qdg c) ∧ qdg c ≤ 9 := by
  unfold qdc at h
  rw [Bool.and_eq_true, decide_eq_true_eq, decide_eq_true_eq] at h
  rcases q_rng c 48 57 (by decide) (by decide) with ⟨v, h1, h2, rfl⟩ | hb
  · have e : nI v - (48 : Int32) = nI (v - 48) := pk_sub (b := 48) h1
    unfold qdg
    rw [e, q_cl (by omega)]
    exact ⟨rfl, by omega⟩
  · exfalso
    rcases hb with hb | hb
    · exact (q_ge.mpr h.1) hb
    · exact ((q_le57 c).mpr h.2) hb
theorem q_dg1 {c : Int32} (h : (decide ((49 : Int32) ≤ c) && decide (c ≤ (57 : Int32))) = true) : c - (48 : Int32) = nI (qdg c) ∧ qdg c ≤ 9 ∧ 1 ≤ qdg c := by
  rw [Bool.and_eq_true, decide_eq_true_eq, decide_eq_true_eq] at h
  rcases q_rng c 49 57 (by decide) (by decide) with ⟨v, h1, h2, rfl⟩ | hb
  · have e : nI v - (48 : Int32) = nI (v - 48) := pk_sub (b := 48) (by omega)
    unfold qdg
    rw [e, q_cl (by omega)]
    exact ⟨rfl, by omega, by omega⟩
  · exfalso
    rcases hb with hb | hb
    · exact (q_ge.mpr h.1) hb
    · exact ((q_le57 c).mpr h.2) hb
theorem q_klle (c : Int32) : qkl c ≤ 2 := by
  unfold qkl
  split
  · omega
  · split <;> omega
theorem q_goes {k : Nat} (hk : k < 100) (c : Int32) : fX4_goesOnWith (nI k) c = some (qb (qoc k c)) := by
  unfold fX4_goesOnWith qoc
  simp only [show (nI k = (0 : Int32)) ↔ k = 0 from nI_eq (b := 0) (by omega) (by decide), show (nI k = (1 : Int32)) ↔ k = 1 from nI_eq (b := 1) (by omega) (by decide), show (nI k = (2 : Int32)) ↔ k = 2 from nI_eq (b := 2) (by omega) (by decide), show (nI k < (23 : Int32)) ↔ k < 23 from nI_ltI (b := 23) (by omega) (by decide)]
  by_cases k0 : k = 0
  · rw [if_pos k0, if_pos k0]
    by_cases h : c = (102 : Int32)
    · rw [if_pos h]; simp [qb, h]
    · rw [if_neg h]; simp [qb, h]
  rw [if_neg k0, if_neg k0]
  by_cases k1 : k = 1
  · rw [if_pos k1, if_pos k1]
    by_cases h1 : c < (49 : Int32)
    · rw [if_pos h1]
      have : ¬ (49 : Int32) ≤ c := fun h => (q_ge.mpr h) h1
      simp [qb, this]
    · have h1' := q_ge.mp h1
      rw [if_neg h1]
      by_cases h2 : (57 : Int32) < c
      · rw [if_pos h2]
        have : ¬ c ≤ (57 : Int32) := fun h => ((q_le57 c).mpr h) h2
        simp [qb, this]
      · have h2' := (q_le57 c).mp h2
        rw [if_neg h2]
        simp [qb, h1', h2']
  rw [if_neg k1, if_neg k1]
  by_cases k2 : k = 2
  · rw [if_pos k2, if_pos k2, q_dgC]
    rfl
  rw [if_neg k2, if_neg k2]
  by_cases k23 : k < 23
  · rw [if_pos k23, if_neg (show ¬ 23 ≤ k by omega)]
    have e3 : nI k - (3 : Int32) = nI (k - 3) := pk_sub (b := 3) (by omega)
    have e4 : nI (k - 3) - nI (k - 3) / (4 : Int32) * (4 : Int32) = nI ((k - 3) % 4) := pk_rem (d := 4) (by omega) (by decide) (by decide)
    rw [e3, e4]
    simp only [show (nI ((k - 3) % 4) = (0 : Int32)) ↔ (k - 3) % 4 = 0 from nI_eq (b := 0) (by omega) (by decide), show (nI ((k - 3) % 4) = (1 : Int32)) ↔ (k - 3) % 4 = 1 from nI_eq (b := 1) (by omega) (by decide)]
    by_cases m0 : (k - 3) % 4 = 0
    · rw [if_pos m0, if_pos m0]
      by_cases h : c = (59 : Int32)
      · rw [if_pos h]; simp [qb, h]
      · rw [if_neg h]; simp [qb, h]
    rw [if_neg m0, if_neg m0]
    by_cases m1 : (k - 3) % 4 = 1
    · rw [if_pos m1, if_pos m1]
      obtain ⟨r, e, h1, h2⟩ := q_ltC c
      rw [e, Option.bind_some]
      cases hl : qlt c with
      | true => rw [if_neg (h1 hl).2]; rfl
      | false => rw [if_pos (h2 hl)]; rfl
    · rw [if_neg m1, if_neg m1, q_dgC]
      rfl
  · rw [if_neg k23, if_pos (show 23 ≤ k by omega)]
    rfl
/-- the first fault, by the system -/
theorem q_ffX {u : zzS} {j sz a m : Nat} (hs : u.1 (15 + 3 * j) = nI sz) (h60 : sz ≤ 60) (ham : a + m ≤ sz) : (∀ p, p < m → (∀ k, k < p → qoc k (u.2 (8 + j) (a + k)) = true) → qoc p (u.2 (8 + j) (a + p)) = false → fX4_firstFault j u (nI a) (nI m) = some (nI p)) ∧ ((∀ k, k < m → qoc k (u.2 (8 + j) (a + k)) = true) → fX4_firstFault j u (nI a) (nI m) = some (if 7 ≤ m ∧ (m - 3) % 4 = 0 then (-9 : Int32) else nI m)) := by
  unfold fX4_firstFault
  have step : ∀ k fuel, k < m → 0 < fuel → qoc k (u.2 (8 + j) (a + k)) = true → zzlp (sX4_firstFault_2 (nI a) (nI m) j u) fuel (nI k) = zzlp (sX4_firstFault_2 (nI a) (nI m) j u) (fuel - 1) (nI (k + 1)) := by
    intro k fuel hk hf ho
    rw [q_fu hf]
    generalize zzlp (sX4_firstFault_2 (nI a) (nI m) j u) (fuel - 1) = rec
    unfold sX4_firstFault_2
    rw [if_neg (nI_ge (by omega) (by omega)), nI_add, q_at hs h60 (by omega), Option.bind_some, q_goes (by omega), ho, Option.bind_some, if_neg (by decide), nI_1]
  have run : ∀ p, p ≤ m → (∀ k, k < p → qoc k (u.2 (8 + j) (a + k)) = true) → zzlp (sX4_firstFault_2 (nI a) (nI m) j u) zzFU (0 : Int32) = zzlp (sX4_firstFault_2 (nI a) (nI m) j u) (zzFU - p) (nI p) := by
    intro p
    induction p with
    | zero => intro _ _; rfl
    | succ p ih =>
      intro hp ho
      rw [ih (by omega) (fun k hk => ho k (by omega)), step p (zzFU - p) (by omega) (by unfold zzFU; omega) (ho p (by omega)), Nat.sub_sub]
  constructor
  · intro p hp ho hbad
    rw [run p (by omega) ho, q_fu (by unfold zzFU; omega)]
    unfold sX4_firstFault_2
    rw [if_neg (nI_ge (by omega) (by omega)), nI_add, q_at hs h60 (by omega), Option.bind_some, q_goes (by omega), hbad, Option.bind_some, if_pos (show qb false = 0 from rfl)]
  · intro ho
    rw [run m (by omega) ho, q_fu (by unfold zzFU; omega)]
    unfold sX4_firstFault_2
    rw [if_pos (nI_le (by omega) (by omega))]
    simp only [show (nI m < (7 : Int32)) ↔ m < 7 from nI_ltI (b := 7) (by omega) (by decide)]
    by_cases h7 : m < 7
    · rw [if_pos h7, if_pos trivial, if_neg (by omega)]
    · have e3 : nI m - (3 : Int32) = nI (m - 3) := pk_sub (b := 3) (by omega)
      have e4 : nI (m - 3) - nI (m - 3) / (4 : Int32) * (4 : Int32) = nI ((m - 3) % 4) := pk_rem (d := 4) (by omega) (by decide) (by decide)
      rw [if_neg h7, e3, e4]
      simp only [show (nI ((m - 3) % 4) = (0 : Int32)) ↔ (m - 3) % 4 = 0 from nI_eq (b := 0) (by omega) (by decide)]
      by_cases hm : (m - 3) % 4 = 0
      · rw [if_pos hm, if_neg q_10, if_pos ⟨by omega, hm⟩]
      · rw [if_neg hm, if_pos trivial, if_neg (fun h => hm h.2)]
-- the reference's signs
theorem q_sg {w : zzS} {F m p : Nat} {c : Nat → Int32} (hc : ∀ k, k < m → w.2 4 (F + k) = c k) (hF : F + m ≤ 240) (hp : p ≤ m) (hat : w.1 12 = nI (F + p)) (code : Int32) : fX5_isSign w (nI (F + m)) code = if p < m ∧ c p = code then some ((1 : Int32), zzi w 12 (nI (F + (p + 1)))) else some ((0 : Int32), w) := by
  unfold fX5_isSign
  rw [hat]
  simp only [nI_leI (a := F + m) (b := F + p) (by omega) (by omega)]
  by_cases hpm : p < m
  · rw [if_neg (by omega), q_ga (by omega) (by decide), hc p hpm, nI_1]
    by_cases h : c p = code
    · rw [if_pos h, if_pos ⟨hpm, h⟩]; rfl
    · rw [if_neg h, if_neg (fun hh => h hh.2)]
  · rw [if_pos (by omega), if_neg (fun hh => hpm hh.1)]
theorem q_dt {w : zzS} {F m p : Nat} {c : Nat → Int32} (hc : ∀ k, k < m → w.2 4 (F + k) = c k) (hF : F + m ≤ 240) (hp : p ≤ m) (hat : w.1 12 = nI (F + p)) (least : Int32) : fX5_digit w (nI (F + m)) least = if p < m ∧ (decide ((48 : Int32) + least ≤ c p) && decide (c p ≤ (57 : Int32))) = true then some (c p - (48 : Int32), zzi w 12 (nI (F + (p + 1)))) else some ((-9 : Int32), w) := by
  unfold fX5_digit
  rw [hat]
  simp only [nI_leI (a := F + m) (b := F + p) (by omega) (by omega)]
  by_cases hpm : p < m
  · rw [if_neg (by omega), q_ga (by omega) (by decide), hc p hpm, q_win, Option.bind_some, nI_1]
    by_cases h : c p < (48 : Int32) + least ∨ (57 : Int32) < c p
    · rw [if_pos h, if_pos rfl, if_neg]
      rintro ⟨-, hh⟩
      rw [Bool.and_eq_true, decide_eq_true_eq, decide_eq_true_eq] at hh
      rcases h with h | h
      · exact (q_ge.mpr hh.1) h
      · exact ((q_le57 _).mpr hh.2) h
    · rw [if_neg h, if_neg q_10]
      have e1 : (zzi w 12 (nI (F + p + 1))).1 12 - (1 : Int32) = nI (F + p) := nI_pred (F + p)
      rw [e1, q_ga (by omega) (by decide), show (zzi w 12 (nI (F + p + 1))).2 4 (F + p) = c p from hc p hpm, if_pos]
      · rfl
      · refine ⟨hpm, ?_⟩
        rw [Bool.and_eq_true, decide_eq_true_eq, decide_eq_true_eq]
        exact ⟨q_ge.mp (fun hh => h (Or.inl hh)), (q_le57 _).mp (fun hh => h (Or.inr hh))⟩
  · rw [if_pos (by omega), if_neg (fun hh => hpm hh.1)]
