/-! ===== pure part 9: pair ===== -/
/-- the best so far: how much, the feet -/
abbrev qB : Type := Option (Nat × Nat × Nat)
def qbs (C : Nat → Nat → Nat) (b : qB) (i j : Nat) : qB := match b with
  | none => some (C i j, i, j)
  | some x => if x.1 ≤ C i j then some x else some (C i j, i, j)
def qf2 (C : Nat → Nat → Nat) (L i : Nat) (b : qB) : Nat → qB
  | 0 => b
  | j + 1 => if L ≤ j then qbs C (qf2 C L i b j) i j else qf2 C L i b j
def qf1 (C : Nat → Nat → Nat) (L : Nat) : Nat → qB
  | 0 => none
  | i + 1 => if L ≤ i then qf2 C L i (qf1 C L i) 10 else qf1 C L i
theorem q_f2L (C : Nat → Nat → Nat) (L i : Nat) (b : qB) : ∀ j, j ≤ L → qf2 C L i b j = b
  | 0, _ => rfl
  | j + 1, h => by rw [qf2, if_neg (by omega), q_f2L C L i b j (by omega)]
theorem q_f1L (C : Nat → Nat → Nat) (L : Nat) : ∀ i, i ≤ L → qf1 C L i = none
  | 0, _ => rfl
  | i + 1, h => by rw [qf1, if_neg (by omega), q_f1L C L i (by omega)]
def qT (C : Nat → Nat → Nat) (L k : Nat) : qB := if L ≤ k / 10 then qf2 C L (k / 10) (qf1 C L (k / 10)) (k % 10) else qf1 C L (k / 10)
theorem q_T1 (C : Nat → Nat → Nat) (L k : Nat) : qT C L (k + 1) = if L ≤ k / 10 ∧ L ≤ k % 10 then qbs C (qT C L k) (k / 10) (k % 10) else qT C L k := by
  unfold qT
  by_cases h9 : k % 10 = 9
  · have e1 : (k + 1) / 10 = k / 10 + 1 := by omega
    have e2 : (k + 1) % 10 = 0 := by omega
    rw [e1, e2, h9]
    have e3 : qf2 C L (k / 10 + 1) (qf1 C L (k / 10 + 1)) 0 = qf1 C L (k / 10 + 1) := rfl
    rw [e3]
    have e4 : (if L ≤ k / 10 + 1 then qf1 C L (k / 10 + 1) else qf1 C L (k / 10 + 1)) = qf1 C L (k / 10 + 1) := by split <;> rfl
    rw [e4, qf1]
    by_cases hL : L ≤ k / 10
    · rw [if_pos hL, if_pos hL, qf2]
      by_cases hL2 : L ≤ 9
      · rw [if_pos hL2, if_pos ⟨hL, hL2⟩]
      · rw [if_neg hL2, if_neg (fun h => hL2 h.2)]
    · rw [if_neg hL, if_neg (fun h => hL h.1), if_neg hL]
  · have e1 : (k + 1) / 10 = k / 10 := by omega
    have e2 : (k + 1) % 10 = k % 10 + 1 := by omega
    rw [e1, e2]
    by_cases hL : L ≤ k / 10
    · rw [if_pos hL, if_pos hL, qf2]
      by_cases hL2 : L ≤ k % 10
      · rw [if_pos hL2, if_pos ⟨hL, hL2⟩]
      · rw [if_neg hL2, if_neg (fun h => hL2 h.2)]
    · rw [if_neg hL, if_neg (fun h => hL h.1), if_neg hL]
def qok (b : qB) : Prop := ∀ x, b = some x → x.1 ≤ 40 ∧ x.2.1 ≤ 9 ∧ x.2.2 ≤ 9
theorem q_okbs {C : Nat → Nat → Nat} {b : qB} {i j : Nat} (hC : C i j ≤ 40) (hi : i ≤ 9) (hj : j ≤ 9) (h : qok b) : qok (qbs C b i j) := by
  intro x hx
  unfold qbs at hx
  cases b with
  | none => cases hx; exact ⟨hC, hi, hj⟩
  | some y =>
    dsimp only at hx
    split at hx
    · cases hx; exact h _ rfl
    · cases hx; exact ⟨hC, hi, hj⟩
def qr1 (b : qB) : Int32 := match b with
  | none => -9
  | some x => nI x.1
def qr2 (b : qB) : Int32 := match b with
  | none => -9
  | some x => nI x.2.1
def qr3 (b : qB) : Int32 := match b with
  | none => -9
  | some x => nI x.2.2
def qr4 (b : qB) : Int32 := match b with
  | none => -9
  | some x => nI (10 * x.2.1 + x.2.2)
theorem q_r1n : qr1 none = (-9 : Int32) := rfl
theorem q_r2n : qr2 none = (-9 : Int32) := rfl
theorem q_r3n : qr3 none = (-9 : Int32) := rfl
theorem q_r4n : qr4 none = (-9 : Int32) := rfl
theorem q_r1s (x : Nat × Nat × Nat) : qr1 (some x) = nI x.1 := rfl
theorem q_r2s (x : Nat × Nat × Nat) : qr2 (some x) = nI x.2.1 := rfl
theorem q_r3s (x : Nat × Nat × Nat) : qr3 (some x) = nI x.2.2 := rfl
theorem q_r4s (x : Nat × Nat × Nat) : qr4 (some x) = nI (10 * x.2.1 + x.2.2) := rfl
theorem q_zab (w : zzS) (r a b : Nat) (hab : a ≠ b) (A B x y : Int32) : zza (zza (zza (zza w r a A) r b B) r a x) r b y = zza (zza w r a x) r b y := by
  refine q_ext (fun k => rfl) (fun k => ?_)
  by_cases hk : k = r
  · subst hk
    simp only [zza, va_up, if_true]
    funext c
    unfold upd
    by_cases hc : c = b
    · simp only [if_pos hc]
    · simp only [if_neg hc]
      by_cases hd : c = a
      · simp only [if_pos hd]
      · simp only [if_neg hd]
  · simp only [zza, va_up, hk, if_false]
theorem q_Jz2 {w w1 : zzS} {r a b : Nat} {x y : Int32} (hab : a ≠ b) (A B : Int32) (h : qJs (zza (zza w r a x) r b y) w1) : qJs (zza (zza w r a A) r b B) (zza (zza w1 r a A) r b B) := by
  refine ⟨fun k hk => h.1 k hk, fun k => ?_⟩
  have e := h.2 k
  by_cases hkr : k = r
  · subst hkr
    simp only [zza, va_up, if_true] at e ⊢
    rw [e]
    funext c
    unfold upd
    by_cases hc : c = b
    · simp only [if_pos hc]
    · simp only [if_neg hc]
      by_cases hd : c = a
      · simp only [if_pos hd]
      · simp only [if_neg hd]
  · simp only [zza, va_up, hkr, if_false] at e ⊢
    exact e
theorem q_Kz2 {w w1 : zzS} {a b : Nat} {x y : Int32} (hab : a ≠ b) (A B : Int32) (h : qK (zza (zza w 9 a x) 9 b y) w1) : qK (zza (zza w 9 a A) 9 b B) (zza (zza w1 9 a A) 9 b B) := by
  refine ⟨fun k hk => h.1 k hk, fun k hk => ?_⟩
  have e := h.2 k hk
  by_cases hkr : k = 9
  · subst hkr
    simp only [zza, va_up, if_true] at e ⊢
    rw [e]
    funext c
    unfold upd
    by_cases hc : c = b
    · simp only [if_pos hc]
    · simp only [if_neg hc]
      by_cases hd : c = a
      · simp only [if_pos hd]
      · simp only [if_neg hd]
  · simp only [zza, va_up, hkr, if_false] at e ⊢
    exact e
theorem q_lt9 {i : Nat} (h : i < 10) : ¬ (9 : Int32) < nI i := by rw [q_k9]; exact nI_nlt (by omega) (by omega)
section QP
variable {ux uy : zzS}
theorem e_pair (h : qR ux uy) (p0 p1 p2 p3 : Int32) : qE (fX4_pair ux p0 p1 p2 p3) (fX5_pair uy p0 p1 p2 p3) := by
  obtain ⟨⟨d, hx, hy⟩, hrest⟩ := id h
  have h5 := hx.2.2.2.1
  unfold fX4_pair fX5_pair
  rcases q_who d p0 with ⟨a, ha, rfl⟩ | hw
  · rcases q_who d p1 with ⟨b, hb, rfl⟩ | hw
    · rw [q_has1 hx ha, q_has1 hx hb, q_isS1 hy ha, q_isS1 hy hb, Option.bind_some, Option.bind_some, Option.bind_some, Option.bind_some, if_neg q_10, if_neg q_10, if_neg q_10, if_neg q_10]
      by_cases hab : nI a = nI b
      · rw [if_pos hab, if_pos hab]
        exact ⟨_, _, _, rfl, rfl, h⟩
      rw [if_neg hab, if_neg hab]
      have hab' : a ≠ b := fun e => hab (by rw [e])
      rcases q_sun p2 with ⟨⟨s, s1, s2, rfl⟩, e1, e2⟩ | ⟨e1, e2⟩
      · rw [e1, e2, Option.bind_some, Option.bind_some, if_neg q_10, if_neg q_10, q_win]
        rcases q_rng p3 0 2 (by decide) (by decide) with ⟨v, v0, v1, rfl⟩ | hbad
        · have w1 : ¬ (nI v < (0 : Int32) ∨ (2 : Int32) < nI v) := by
            rintro (hz | hz)
            · exact nI_pos (by omega) hz
            · exact nI_nlt (show v ≤ 2 from v1) (by omega) hz
          rw [if_neg (fun hz => w1 (Or.inl hz)), if_pos (show nI v ≤ (2 : Int32) from nI_le (b := 2) v1 (by decide)), if_neg w1, Option.bind_some, if_neg q_10]
          obtain ⟨w0, e0, hJ0, hX0⟩ := q_become hx
          have hn : 0 < d.1 := by omega
          have hsp := hx.2.2.2.2.2.2.1 hn
          have t2 := hx.2.2.2.2.2.1
          have t3 : d.2.2.1 * s ≤ 9 * 3 := Nat.mul_le_mul t2 s2
          rw [e0, Option.bind_some, q_ga (by omega) (by decide), q_ga (by omega) (by decide)]
          have hlit : ∀ w, qJ ux w → fX3_firstLitFoot 0 w (nI s) = some (nI (d.2.2.1 * s)) := fun w hJ => q_litX (q_XJ hJ hx) s
          rw [hlit w0 hJ0, Option.bind_some]
          generalize hLe : d.2.2.1 * s = L at t3 hlit ⊢
          let C : Nat → Nat → Nat := fun i j => (qCn (qdF (qdF d a i) b j) s (fun a => !(0 : Nat).testBit a)).1
          have hC : ∀ i j, C i j ≤ 40 := fun i j => q_Cle (d := qdF (qdF d a i) b j) s _ hsp
          -- the system's count of a pair of feet
          have cX : ∀ i j, i ≤ 9 → j ≤ 9 → ∀ wx, qJ ux wx → qX 1 (zza (zza wx 4 a (nI (d.2.2.2.2.1 a))) 4 b (nI (d.2.2.2.2.1 b))) d → ∃ wx', fX3_everyone 1 (zza (zza wx 4 a (nI i)) 4 b (nI j)) = some (nI (2 ^ d.1 - 1)) ∧ fX4_countedOn 1 (zza (zza wx 4 a (nI i)) 4 b (nI j)) (nI s) (nI (2 ^ d.1 - 1)) = some (nI (C i j), wx') ∧ qJ ux wx' ∧ qX 1 (zza (zza wx' 4 a (nI (d.2.2.2.2.1 a))) 4 b (nI (d.2.2.2.2.1 b))) d := by
            intro i j hi hj wx hJ hX
            have hXv : qX 1 (zza (zza wx 4 a (nI i)) 4 b (nI j)) (qdF (qdF d a i) b j) := by
              have := q_SF (q_SF hX a (v := i) hi) b (v := j) hj
              rw [← q_zab wx 4 a b hab' (nI (d.2.2.2.2.1 a)) (nI (d.2.2.2.2.1 b)) (nI i) (nI j)]
              exact this
            have ex := q_cntX hXv hn s2 (q_ev d.1 h5)
            have hev : qCn (qdF (qdF d a i) b j) s (fun c => Nat.testBit (2 ^ d.1 - 1) c) = qCn (qdF (qdF d a i) b j) s (fun c => !Nat.testBit 0 c) := (q_evC (qdF (qdF d a i) b j) s).1
            rw [hev] at ex
            have hev0 := q_every hXv
            refine ⟨_, hev0, ex, q_Jt (q_Jz3 (r := 4) (q_Jz3 (r := 4) hJ (by omega)) (by omega)) (q_Jw _ _ _), ?_⟩
            exact q_X1s (q_Jz2 hab' _ _ (q_Jsw _ _ _)) hX
          -- the reference's
          have cY : ∀ i j, i ≤ 9 → j ≤ 9 → ∀ wy, qK uy (zza (zza wy 9 a (uy.2 9 a)) 9 b (uy.2 9 b)) → qY (zza (zza wy 9 a (nI i)) 9 b (nI j)) (qdF (qdF d a i) b j) := by
            intro i j hi hj wy hK
            have := q_SF (q_SF (q_YK hK hy) a (v := i) hi) b (v := j) hj
            rw [← q_zab wy 9 a b hab' (uy.2 9 a) (uy.2 9 b) (nI i) (nI j)]
            exact this
          have hid : ∀ i j, qhid (qdF (qdF d a i) b j) s a = decide (i < L) ∧ qhid (qdF (qdF d a i) b j) s b = decide (j < L) := by
            intro i j
            unfold qhid
            constructor
            · show decide (va_up (va_up d.2.2.2.2.1 a i) b j a < d.2.2.1 * s) = _
              rw [hLe]
              unfold va_up
              rw [if_neg hab', if_pos rfl]
            · show decide (va_up (va_up d.2.2.2.2.1 a i) b j b < d.2.2.1 * s) = _
              rw [hLe]
              unfold va_up
              rw [if_pos rfl]
          have okT : ∀ k, k ≤ 100 → qok (qT C L k) := by
            intro k
            induction k with
            | zero => intro _ x hx; rw [show qT C L 0 = none by unfold qT; split <;> rfl] at hx; cases hx
            | succ k ih =>
              intro hk
              rw [q_T1]
              split
              · exact q_okbs (hC _ _) (by omega) (by omega) (ih (by omega))
              · exact ih (by omega)
          -- the reference's loop
          have keyY : ∀ m k, k + m = 100 → ∀ (ly : Int32) (wy : zzS), (∀ x, qT C L k = some x → ly = nI x.1) → qK uy (zza (zza wy 9 a (uy.2 9 a)) 9 b (uy.2 9 b)) → ∀ fy, m < fy → ∃ wy', zzlp (sX5_pair_69 (nI a) (nI b) (nI s) (nI v) (uy.2 9 a) (uy.2 9 b)) fy (qr4 (qT C L k), ly, nI k, wy) = some ((if nI v = (0 : Int32) then qr1 (qT C L 100) else if nI v = (1 : Int32) then qr2 (qT C L 100) else qr3 (qT C L 100)), wy') ∧ qK uy wy' := by
            intro m
            induction m with
            | zero =>
              intro k hk ly wy hly hK fy h1
              obtain rfl : k = 100 := by omega
              refine ⟨_, ?_, hK⟩
              rw [q_fu (by omega)]
              unfold sX5_pair_69
              dsimp only
              rw [if_pos (by rw [q_k100]; exact nI_le (by omega) (by omega)), q_pa (by omega) (by decide), q_pa (by omega) (by decide), q_cl (by omega), q_cl (by omega)]
              cases hT : qT C L 100 with
              | none =>
                rw [q_r4n, q_r1n, q_r2n, q_r3n, if_pos rfl]
                congr 2
                split
                · rfl
                · split <;> rfl
              | some x =>
                obtain ⟨o1, o2, o3⟩ := okT 100 (by omega) x hT
                rw [q_r4s, q_r1s, q_r2s, q_r3s, if_neg (q_e5 _ (by omega)), hly x hT, q_k10, pk_rem (by omega) (by omega) (by omega), pk_div (by omega) (by omega) (by omega), show (10 * x.2.1 + x.2.2) / 10 = x.2.1 by omega, show (10 * x.2.1 + x.2.2) % 10 = x.2.2 by omega]
                split
                · rfl
                · split <;> rfl
            | succ m ih =>
              intro k hk ly wy hly hK fy h1
              have hY := cY (k / 10) (k % 10) (by omega) (by omega) wy hK
              have hin : (zza (zza wy 9 a (nI (k / 10))) 9 b (nI (k % 10))).1 11 = nI 0 := (hK.1 11 (by omega)).trans hrest.2.2.2.2
              obtain ⟨dk, ey⟩ := q_cenY hY hn s2 (by decide) hin
              generalize hY1 : qv (zza (zza wy 9 a (nI (k / 10))) 9 b (nI (k % 10))) _ _ dk = wy1 at ey
              have hK01 : qK (zza (zza wy 9 a (nI (k / 10))) 9 b (nI (k % 10))) wy1 := by rw [← hY1]; exact q_Kv _ _ _ _
              have hY1' := q_YK hK01 hY
              obtain ⟨dk2, ey2⟩ := q_cenY hY1' hn s2 (by decide) ((hK01.1 11 (by omega)).trans hin)
              generalize hY2 : qv wy1 _ _ dk2 = wy2 at ey2
              have hK12 : qK wy1 wy2 := by rw [← hY2]; exact q_Kv _ _ _ _
              have K0 : qK uy (zza (zza (zza (zza wy 9 a (nI (k / 10))) 9 b (nI (k % 10))) 9 a (uy.2 9 a)) 9 b (uy.2 9 b)) := by rw [q_zab _ _ _ _ hab']; exact hK
              have K1 : qK uy (zza (zza wy1 9 a (uy.2 9 a)) 9 b (uy.2 9 b)) := q_Kt hK (q_Kz2 hab' _ _ hK01)
              have K2 : qK uy (zza (zza wy2 9 a (uy.2 9 a)) 9 b (uy.2 9 b)) := q_Kt hK (q_Kz2 hab' _ _ (q_Kt hK01 hK12))
              have ih' := fun ly' wy' c1 c2 => ih (k + 1) (by omega) ly' wy' c1 c2 (fy - 1) (by omega)
              rw [q_T1] at ih'
              have hHa := q_isH hY (show a < 5 by omega) s2
              have hHb := q_isH hY (show b < 5 by omega) s2
              rw [(hid _ _).1] at hHa
              rw [(hid _ _).2] at hHb
              rw [q_fu (by omega)]
              generalize zzlp (sX5_pair_69 (nI a) (nI b) (nI s) (nI v) (uy.2 9 a) (uy.2 9 b)) (fy - 1) = rec at ih' ⊢
              unfold sX5_pair_69
              dsimp only
              rw [if_neg (by rw [q_k100]; exact nI_ge (by omega) (by omega)), q_pa (by omega) (by decide), q_pa (by omega) (by decide), q_cl (by omega), q_cl (by omega), q_k10, pk_rem (by omega) (by omega) (by omega), pk_div (by omega) (by omega) (by omega), hHa, hHb]
              have off : (¬ (L ≤ k / 10 ∧ L ≤ k % 10)) → ∃ wy', sX5_pair_121 (nI a) (nI b) (nI s) (nI v) (uy.2 9 a) (uy.2 9 b) rec (qr4 (qT C L k), ly, nI k, (0 : Int32), zza (zza wy 9 a (nI (k / 10))) 9 b (nI (k % 10))) = some ((if nI v = (0 : Int32) then qr1 (qT C L 100) else if nI v = (1 : Int32) then qr2 (qT C L 100) else qr3 (qT C L 100)), wy') ∧ qK uy wy' := by
                intro hoff
                unfold sX5_pair_121
                dsimp only
                rw [if_pos rfl, nI_1]
                rw [if_neg hoff] at ih'
                exact ih' ly _ hly K0
              rw [Option.bind_some]
              by_cases hL1 : k / 10 < L
              · rw [show qb (decide (k / 10 < L)) = (1 : Int32) by simp [qb, hL1], if_neg q_10]
                exact off (by omega)
              rw [show qb (decide (k / 10 < L)) = (0 : Int32) by simp [qb, hL1], if_pos rfl, Option.bind_some]
              by_cases hL2 : k % 10 < L
              · rw [show qb (decide (k % 10 < L)) = (1 : Int32) by simp [qb, hL2], if_neg q_10]
                exact off (by omega)
              rw [show qb (decide (k % 10 < L)) = (0 : Int32) by simp [qb, hL2], if_pos rfl]
              rw [if_pos (show L ≤ k / 10 ∧ L ≤ k % 10 by omega)] at ih'
              unfold sX5_pair_121
              dsimp only
              rw [if_neg q_10, ey, Option.bind_some, Option.bind_some, nI_1]
              dsimp only
              rw [ey2, Option.bind_some]
              dsimp only
              have hk10 : 10 * (k / 10) + k % 10 = k := by omega
              cases hT : qT C L k with
              | none =>
                rw [q_r4n, if_pos rfl]
                have h9 := ih' (nI (C (k / 10) (k % 10))) wy1 (fun x hx => by rw [hT] at hx; cases hx; rfl) K1
                rw [hT, show qbs C none (k / 10) (k % 10) = some (C (k / 10) (k % 10), k / 10, k % 10) from rfl, q_r4s, hk10] at h9
                exact h9
              | some x =>
                obtain ⟨o1, o2, o3⟩ := okT k (by omega) x hT
                rw [q_r4s, if_neg (q_e5 _ (by omega)), hly x hT]
                have hCk := hC (k / 10) (k % 10)
                rw [hT] at ih'
                show ∃ wy', (if nI x.1 ≤ nI (C (k / 10) (k % 10)) then _ else _) = _ ∧ _
                simp only [nI_leI (a := x.1) (b := C (k / 10) (k % 10)) (by omega) (by omega)]
                by_cases hc : x.1 ≤ C (k / 10) (k % 10)
                · rw [if_pos hc]
                  have e : qbs C (some x) (k / 10) (k % 10) = some x := by show (if _ then _ else _) = _; rw [if_pos hc]
                  rw [e] at ih'
                  have h9 := ih' (nI x.1) wy1 (fun y hy => by cases hy; rfl) K1
                  rw [q_r4s] at h9
                  exact h9
                · rw [if_neg hc]
                  have e : qbs C (some x) (k / 10) (k % 10) = some (C (k / 10) (k % 10), k / 10, k % 10) := by show (if _ then _ else _) = _; rw [if_neg hc]
                  rw [e] at ih'
                  have h9 := ih' (nI (C (k / 10) (k % 10))) wy2 (fun y hy => by cases hy; rfl) K2
                  rw [q_r4s, hk10] at h9
                  exact h9
          -- the system's inner loop
          have keyI : ∀ i, i ≤ 9 → ∀ (v12 : Int32 × Int32 × Int32 × Int32 × zzS), v12.2.2.2.1 = nI i → ∀ (rec : Int32 × Int32 × Int32 × Int32 × zzS → Option (Int32 × zzS)) (b0 : qB), ∀ m j, j + m = 10 → qok (qf2 C L i b0 j) → L ≤ j → ∀ wx, qJ ux wx → qX 1 (zza (zza wx 4 a (nI (d.2.2.2.2.1 a))) 4 b (nI (d.2.2.2.2.1 b))) d → ∀ fx, m < fx → ∃ wx', zzlp (sX4_pair_100 (nI a) (nI b) (nI s) (nI v) v12 rec) fx (qr1 (qf2 C L i b0 j), qr2 (qf2 C L i b0 j), qr3 (qf2 C L i b0 j), nI j, wx) = rec (qr1 (qf2 C L i b0 10), qr2 (qf2 C L i b0 10), qr3 (qf2 C L i b0 10), nI (i + 1), wx') ∧ qok (qf2 C L i b0 10) ∧ qJ ux wx' ∧ qX 1 (zza (zza wx' 4 a (nI (d.2.2.2.2.1 a))) 4 b (nI (d.2.2.2.2.1 b))) d := by
            intro i hi v12 hv12 rec b0 m
            induction m with
            | zero =>
              intro j hj hok hL wx hJ hX fx h1
              obtain rfl : j = 10 := by omega
              refine ⟨wx, ?_, hok, hJ, hX⟩
              rw [q_fu (by omega)]
              unfold sX4_pair_100
              dsimp only
              rw [if_pos (by rw [q_k9]; exact nI_lt (by omega) (by omega)), hv12, nI_1]
            | succ m ih =>
              intro j hj hok hL wx hJ hX fx h1
              obtain ⟨wx1, x1, x2, hJ1, hX1⟩ := cX i j hi (by omega) wx hJ hX
              have e : qf2 C L i b0 (j + 1) = qbs C (qf2 C L i b0 j) i j := by rw [qf2, if_pos hL]
              have ih' := ih (j + 1) (by omega) (by rw [e]; exact q_okbs (hC _ _) hi (by omega) hok) (by omega) wx1 hJ1 hX1 (fx - 1) (by omega)
              rw [e] at ih'
              rw [q_fu (by omega)]
              generalize zzlp (sX4_pair_100 (nI a) (nI b) (nI s) (nI v) v12 rec) (fx - 1) = rec2 at ih' ⊢
              unfold sX4_pair_100
              dsimp only
              rw [if_neg (q_lt9 (by omega)), q_pa (by omega) (by decide), q_pa (by omega) (by decide), q_cl (by omega), q_cl (by omega), hv12, x1, Option.bind_some, x2, Option.bind_some, nI_1]
              dsimp only
              cases hT : qf2 C L i b0 j with
              | none =>
                rw [hT, show qbs C none i j = some (C i j, i, j) from rfl, q_r1s, q_r2s, q_r3s] at ih'
                rw [q_r1n, if_pos rfl]
                exact ih'
              | some x =>
                obtain ⟨o1, o2, o3⟩ := hok x hT
                have hCk := hC i j
                rw [q_r1s, if_neg (q_e5 _ (by omega))]
                simp only [nI_leI (a := x.1) (b := C i j) (by omega) (by omega)]
                rw [hT] at ih'
                by_cases hc : x.1 ≤ C i j
                · rw [if_pos hc]
                  have e2 : qbs C (some x) i j = some x := by show (if _ then _ else _) = _; rw [if_pos hc]
                  rw [e2, q_r1s] at ih'
                  exact ih'
                · rw [if_neg hc]
                  have e2 : qbs C (some x) i j = some (C i j, i, j) := by show (if _ then _ else _) = _; rw [if_neg hc]
                  rw [e2, q_r1s, q_r2s, q_r3s] at ih'
                  exact ih'
          -- the system's outer loop
          have keyO : ∀ m i, i + m = 10 → L ≤ i → qok (qf1 C L i) → ∀ wx, qJ ux wx → qX 1 (zza (zza wx 4 a (nI (d.2.2.2.2.1 a))) 4 b (nI (d.2.2.2.2.1 b))) d → ∀ fx, m < fx → ∃ wx', zzlp (sX4_pair_83 (nI a) (nI b) (nI s) (nI v)) fx (qr1 (qf1 C L i), qr2 (qf1 C L i), qr3 (qf1 C L i), nI i, wx) = some ((if nI v = (0 : Int32) then qr1 (qf1 C L 10) else if nI v = (1 : Int32) then qr2 (qf1 C L 10) else qr3 (qf1 C L 10)), wx') ∧ qJ ux wx' := by
            intro m
            induction m with
            | zero =>
              intro i hi hL hok wx hJ hX fx h1
              obtain rfl : i = 10 := by omega
              refine ⟨wx, ?_, hJ⟩
              rw [q_fu (by omega)]
              unfold sX4_pair_83
              dsimp only
              rw [if_pos (by rw [q_k9]; exact nI_lt (by omega) (by omega))]
              split
              · rfl
              · split <;> rfl
            | succ m ih =>
              intro i hi hL hok wx hJ hX fx h1
              rw [q_fu (by omega)]
              have e : qf1 C L (i + 1) = qf2 C L i (qf1 C L i) 10 := by rw [qf1, if_pos hL]
              obtain ⟨wx1, y1, y2, y3, y4⟩ := keyI i (by omega) (qr1 (qf1 C L i), qr2 (qf1 C L i), qr3 (qf1 C L i), nI i, wx) rfl (zzlp (sX4_pair_83 (nI a) (nI b) (nI s) (nI v)) (fx - 1)) (qf1 C L i) (10 - L) L (by omega) (by rw [q_f2L C L i _ L (Nat.le_refl _)]; exact hok) (Nat.le_refl _) wx hJ hX zzFU (by unfold zzFU; omega)
              rw [q_f2L C L i _ L (Nat.le_refl _)] at y1
              have ih' := ih (i + 1) (by omega) (by omega) (by rw [e]; exact y2) wx1 y3 y4 (fx - 1) (by omega)
              rw [e, ← y1] at ih'
              generalize zzlp (sX4_pair_83 (nI a) (nI b) (nI s) (nI v)) (fx - 1) = rec at ih' ⊢
              unfold sX4_pair_83
              dsimp only
              rw [if_neg (q_lt9 (by omega)), hlit wx hJ, Option.bind_some]
              exact ih'
          have hfoot : ∀ c, c < 5 → w0.2 4 c = nI (d.2.2.2.2.1 c) := fun c hc => (hX0.2.2.2.2.2.2.2 c hc).2.1
          have hX00 : qX 1 (zza (zza w0 4 a (nI (d.2.2.2.2.1 a))) 4 b (nI (d.2.2.2.2.1 b))) d := by
            rw [← hfoot a (by omega), q_zs, ← hfoot b (by omega), q_zs]
            exact hX0
          have hTT : qT C L 100 = qf1 C L 10 := by
            unfold qT
            split <;> rfl
          obtain ⟨wy', y1, y2⟩ := keyY 100 0 rfl 0 uy (fun x hx => by rw [show qT C L 0 = none by unfold qT; split <;> rfl] at hx; cases hx) (by rw [q_zs, q_zs]; exact q_K0 uy) zzFU (by decide)
          rw [show qT C L 0 = none by unfold qT; split <;> rfl, q_r4n, nI_0, hTT] at y1
          by_cases hL10 : L ≤ 10
          · obtain ⟨wx', x1, x2⟩ := keyO (10 - L) L (by omega) (Nat.le_refl _) (by rw [q_f1L C L L (Nat.le_refl _)]; intro x hx; cases hx) w0 hJ0 hX00 zzFU (by unfold zzFU; omega)
            rw [q_f1L C L L (Nat.le_refl _), q_r1n, q_r2n, q_r3n] at x1
            exact ⟨_, wx', wy', x1, y1, q_RJK h x2 y2⟩
          · rw [q_f1L C L 10 (by omega), q_r1n, q_r2n, q_r3n] at y1
            refine ⟨_, w0, wy', ?_, y1, q_RJK h hJ0 y2⟩
            rw [q_fu (by decide)]
            unfold sX4_pair_83
            dsimp only
            rw [if_pos (by rw [q_k9]; exact nI_lt (by omega) (by omega))]
            split
            · rfl
            · split <;> rfl
        · rw [if_pos (show p3 < (0 : Int32) ∨ (2 : Int32) < p3 from hbad)]
          have ex : ∀ r : Option (Int32 × zzS), (if p3 < 0 then some ((-2 : Int32), ux) else (if p3 ≤ (2 : Int32) then r else some ((-2 : Int32), ux))) = some ((-2 : Int32), ux) := by
            intro r
            by_cases h1 : p3 < 0
            · rw [if_pos h1]
            · rw [if_neg h1, if_neg (show ¬ p3 ≤ (2 : Int32) from q_nle (n := 2) (by decide) (hbad.resolve_left h1))]
          rw [ex]
          exact ⟨_, _, _, rfl, rfl, h⟩
      · rw [e1, e2]
        exact ⟨_, _, _, rfl, rfl, h⟩
    · rw [q_has1 hx ha, q_isS1 hy ha, q_has0 hx hw, q_isS0 hy hw]
      exact ⟨_, _, _, rfl, rfl, h⟩
  · rw [q_has0 hx hw, q_isS0 hy hw]
    exact ⟨_, _, _, rfl, rfl, h⟩
end QP
