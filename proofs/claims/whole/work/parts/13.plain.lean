/-! ===== pure part 4: plain methods, further ===== -/
theorem q_fin_le (D : Nat → Bool) {sp : Nat} (hsp : 0 < sp) (N : Nat) : (qfin D sp N).1 ≤ N ∧ (qfin D sp N).2.1 ≤ N + 1 ∧ (qfin D sp N).2.2 ≤ N := by
  have hb := q_st_bnd D hsp N
  unfold qfin qcl
  split
  · omega
  · dsimp only
    have hd : ((qst D sp N).1 + sp - 1) / sp ≤ (qst D sp N).1 := by
      rw [Nat.div_le_iff_le_mul_add_pred hsp]
      have : (qst D sp N).1 ≤ sp * (qst D sp N).1 := Nat.le_mul_of_pos_left _ hsp
      omega
    omega
theorem q_Cle {d : qD} (s : Nat) (o : Nat → Bool) (h : 0 < d.2.1) : (qCn d s o).1 ≤ 40 := (q_fin_le _ h 40).1
def qad (c n : Nat) : Nat := (c - n) + (n - c)
theorem q_d1 : ∀ c, c < 41 → ∀ n, n < 6 → (if 0 ≤ (nI c - nI n) then (nI c - nI n) else 0 - (nI c - nI n)) = nI (qad c n) ∧ fX5_apart (nI c) (nI n) = some (nI (qad c n)) := by decide +kernel
abbrev qO (d : qD) (s : Nat) : Nat := qad (qCn d s (fun a => !(0 : Nat).testBit a)).1 d.1
section QP
variable {ux uy : zzS}
theorem q_cX {d : qD} {w : zzS} (hx : qX 0 w d) (hn : 0 < d.1) {s : Nat} (hs : s ≤ 3) : ∃ w', fX4_countedOn 0 w (nI s) (nI (2 ^ d.1 - 1)) = some (nI (qCn d s (fun a => !(0 : Nat).testBit a)).1, w') ∧ qJ w w' := by
  have e := q_cntX hx hn hs (q_ev _ hx.2.2.2.1)
  rw [(q_evC d s).1] at e
  exact ⟨_, e, q_Jw w _ _⟩
theorem q_cY {d : qD} {w : zzS} (hy : qY w d) (hn : 0 < d.1) (hin : w.1 11 = nI 0) {s : Nat} (hs : s ≤ 3) : ∃ w', fX5_censusOf w (nI s) = some (nI (qCn d s (fun a => !(0 : Nat).testBit a)).1, w') ∧ qK w w' := by
  obtain ⟨dk, e⟩ := q_cenY hy hn hs (by decide) hin
  exact ⟨_, e, q_Kv w _ _ _⟩
theorem e_runs (h : qR ux uy) (p0 p1 : Int32) : qE (fX4_runs ux p0 p1) (fX5_runs uy p0 p1) := by
  obtain ⟨⟨d, hx, hy⟩, hr⟩ := id h
  unfold fX4_runs fX5_runs
  rcases q_rng p1 0 2 (by decide) (by decide) with ⟨v, v0, v1, rfl⟩ | hb
  · have w1 : ¬ (nI v < (0 : Int32) ∨ (2 : Int32) < nI v) := by
      rintro (hz | hz)
      · exact nI_pos (by omega) hz
      · exact nI_nlt (show v ≤ 2 from v1) (by omega) hz
    rw [if_neg (fun hz => w1 (Or.inl hz)), if_pos (show nI v ≤ (2 : Int32) from nI_le (b := 2) v1 (by decide)), q_win, if_neg w1]
    rcases q_sun p0 with ⟨⟨s, s1, s2, rfl⟩, e1, e2⟩ | ⟨e1, e2⟩
    · rw [q_refA hx e1, e2, Option.bind_some, Option.bind_some, if_neg q_10, Option.bind_some, if_neg q_10]
      simp only [q_st0 hy]
      by_cases h0 : d.1 = 0
      · rw [if_pos h0, if_pos h0, if_neg (by decide)]
        exact ⟨_, _, _, rfl, rfl, h⟩
      · rw [if_neg h0, if_neg h0, if_pos rfl, q_every hx, Option.bind_some]
        have hn : 0 < d.1 := by omega
        have hd : ∀ a, a < 5 → d.2.2.2.2.1 a ≤ 9 ∧ d.2.2.2.2.2 a ≤ 9 := fun a ha => (hx.2.2.2.2.2.2.2 a ha).2.2.2.2
        have hlt := q_mk_lt d (fun a => (2 ^ d.1 - 1).testBit a) s2 hd d.1 hx.2.2.2.1
        have hsp := hx.2.2.2.2.1
        rw [q_drkX hx s2 (q_ev _ hx.2.2.2.1), Option.bind_some, show ux.1 1 = nI d.2.1 from hx.2.1, q_meas ux hlt (by omega) (hx.2.2.2.2.2.2.1 hn), Option.bind_some]
        have e : (fun f => (qmk d s (fun a => (2 ^ d.1 - 1).testBit a) d.1).testBit f) = qdk d s (fun a => !(0 : Nat).testBit a) d.1 := by
          rw [← q_evo]
          exact funext (fun f => q_mk_bit d s _ f d.1)
        rw [e]
        obtain ⟨dk, e3⟩ := q_cntY hy hn s2 (by decide) hr.2.2.2.2
        rw [e3, Option.bind_some]
        split
        · exact ⟨_, _, _, rfl, rfl, q_RJK h (q_Jw _ _ _) (q_Kv _ _ _ _)⟩
        · split
          · exact ⟨_, _, _, rfl, rfl, q_RJK h (q_Jw _ _ _) (q_Kv _ _ _ _)⟩
          · exact ⟨_, _, _, rfl, rfl, q_RJK h (q_Jw _ _ _) (q_Kv _ _ _ _)⟩
    · rw [q_refB e1, e2]
      exact ⟨_, _, _, rfl, rfl, h⟩
  · rw [q_win, if_pos (show p1 < (0 : Int32) ∨ (2 : Int32) < p1 from hb)]
    have ex : (if p1 < 0 then some ((-2 : Int32), ux) else if p1 ≤ (2 : Int32) then ((fX4_refusalAt ux p0).bind (fun r3 => if r3 = 0 then ((fX3_everyone 0 ux).bind (fun r5 => ((fX3_darkFeet 0 ux p0 r5).bind (fun r6 => ((fX1_measure ux r6 (ux.1 1)).bind (fun r7 => (if p1 = (0 : Int32) then (some ((r7.1 6), r7)) else (if p1 = (1 : Int32) then (some ((r7.1 7), r7)) else (some ((r7.1 9), r7)))))))))) else (some (r3, ux)))) else (some ((-2 : Int32), ux))) = some ((-2 : Int32), ux) := by
      by_cases h1 : p1 < 0
      · rw [if_pos h1]
      · rw [if_neg h1, if_neg]
        have h2 := hb.resolve_left h1
        rw [Int32.le_iff_toInt_le]
        rw [Int32.lt_iff_toInt_lt] at h2
        have e3 : (nI 2).toInt = 2 := by decide
        have e4 : (2 : Int32).toInt = 2 := by decide
        omega
    rw [ex]
    rcases q_sun p0 with ⟨⟨s, s1, s2, rfl⟩, e1, e2⟩ | ⟨e1, e2⟩
    · rw [e2, Option.bind_some, if_neg q_10]
      exact ⟨_, _, _, rfl, rfl, h⟩
    · rw [e2]
      exact ⟨_, _, _, rfl, rfl, h⟩
theorem e_fair (h : qR ux uy) : qE (fX4_fair ux) (fX5_fair uy) := by
  obtain ⟨⟨d, hx, hy⟩, hr⟩ := id h
  have h5 := hx.2.2.2.1
  unfold fX4_fair fX5_fair
  rw [q_laid hx, Option.bind_some]
  simp only [q_st0 hy]
  by_cases h0 : d.1 = 0
  · rw [if_pos h0, if_pos h0, if_pos rfl]
    exact ⟨_, _, _, rfl, rfl, h⟩
  · rw [if_neg h0, if_neg h0, if_neg q_10]
    have hn : 0 < d.1 := by omega
    have h1 := hx.2.2.2.2.2.2.1 hn
    have hoff : ∀ w, qJ ux w → ∀ s, s ≤ 3 → ∃ w', fX4_offAt w (nI s) = some (nI (qO d s), w') ∧ qJ ux w' := by
      intro w hJ s hs
      obtain ⟨w', e, hJ'⟩ := q_cX (q_XJ hJ hx) hn hs
      refine ⟨w', ?_, q_Jt hJ hJ'⟩
      unfold fX4_offAt
      rw [q_every (q_XJ hJ hx), Option.bind_some, e, Option.bind_some]
      have e0 : w'.1 0 = nI d.1 := (q_XJ (q_Jt hJ hJ') hx).1
      dsimp only
      rw [e0, (q_d1 _ (Nat.lt_succ_of_le (q_Cle s _ h1)) d.1 (by omega)).1]
    have hcen : ∀ w, qK uy w → ∀ s, s ≤ 3 → ∃ w', fX5_censusOf w (nI s) = some (nI (qCn d s (fun a => !(0 : Nat).testBit a)).1, w') ∧ qK uy w' := by
      intro w hK s hs
      obtain ⟨w', e, hK'⟩ := q_cY (q_YK hK hy) hn ((hK.1 11 (by omega)).trans hr.2.2.2.2) hs
      exact ⟨w', e, q_Kt hK hK'⟩
    have key : ∀ m s, s + m = 4 → ∀ b, b ≤ 3 → ∀ wx wy, qJ ux wx → qK uy wy → ∀ fx fy, m < fx → m < fy → ∃ (r : Int32) (wx' wy' : zzS), zzlp sX4_fair_23 fx (nI b, nI (qO d b), nI s, wx) = some (r, wx') ∧ zzlp sX5_fair_14 fy (nI b, nI s, wy) = some (r, wy') ∧ qJ ux wx' ∧ qK uy wy' := by
      intro m
      induction m with
      | zero =>
        intro s hs b hb wx wy hJ hK fx fy h1 h2
        refine ⟨nI b, wx, wy, ?_, ?_, hJ, hK⟩
        · rw [q_fu (by omega)]
          unfold sX4_fair_23
          dsimp only
          rw [if_pos (by rw [q_k3]; exact nI_lt (by omega) (by omega))]
        · rw [q_fu (by omega)]
          unfold sX5_fair_14
          dsimp only
          rw [if_pos (by rw [q_k3]; exact nI_lt (by omega) (by omega))]
      | succ m ih =>
        intro s hs b hb wx wy hJ hK fx fy h1' h2'
        obtain ⟨wx1, ex1, hJ1⟩ := hoff wx hJ s (by omega)
        obtain ⟨wy1, ey1, hK1⟩ := hcen wy hK s (by omega)
        obtain ⟨wy2, ey2, hK2⟩ := hcen wy1 hK1 b hb
        have o1 : qO d s ≤ 45 := by unfold qO qad; have := q_Cle (d := d) s (fun a => !(0 : Nat).testBit a) h1; omega
        have o2 : qO d b ≤ 45 := by unfold qO qad; have := q_Cle (d := d) b (fun a => !(0 : Nat).testBit a) h1; omega
        have a1 := (q_d1 _ (Nat.lt_succ_of_le (q_Cle (d := d) s (fun a => !(0 : Nat).testBit a) h1)) d.1 (by omega)).2
        have a2 := (q_d1 _ (Nat.lt_succ_of_le (q_Cle (d := d) b (fun a => !(0 : Nat).testBit a) h1)) d.1 (by omega)).2
        have n1 : wy1.1 5 = nI d.1 := (q_YK hK1 hy).1
        have n2 : wy2.1 5 = nI d.1 := (q_YK hK2 hy).1
        rw [q_fu (show 0 < fx by omega), q_fu (show 0 < fy by omega)]
        have ihA := ih (s + 1) (by omega) b hb wx1 wy2 hJ1 hK2 (fx - 1) (fy - 1) (by omega) (by omega)
        have ihB := ih (s + 1) (by omega) s (by omega) wx1 wy2 hJ1 hK2 (fx - 1) (fy - 1) (by omega) (by omega)
        generalize zzlp sX4_fair_23 (fx - 1) = recx at ihA ihB ⊢
        generalize zzlp sX5_fair_14 (fy - 1) = recy at ihA ihB ⊢
        unfold sX4_fair_23 sX5_fair_14
        dsimp only
        rw [if_neg (by rw [q_k3]; exact nI_nlt (by omega) (by omega)), if_neg (by rw [q_k3]; exact nI_nlt (by omega) (by omega)), ex1, ey1]
        simp only [Option.bind_some]
        rw [n1, a1, Option.bind_some, ey2, Option.bind_some]
        dsimp only
        rw [n2, a2, Option.bind_some, nI_1]
        simp only [nI_leI (a := qO d b) (b := qO d s) (by omega) (by omega)]
        by_cases hc : qO d b ≤ qO d s
        · rw [if_pos hc, if_pos hc]
          exact ihA
        · rw [if_neg hc, if_neg hc]
          exact ihB
    obtain ⟨w1, e1, hJ1⟩ := hoff ux (q_J0 ux) 1 (by decide)
    rw [show fX4_offAt ux (1 : Int32) = some (nI (qO d 1), w1) from e1, Option.bind_some]
    obtain ⟨r, wx', wy', ex, ey, hJ', hK'⟩ := key 2 2 rfl 1 (by decide) w1 uy hJ1 (q_K0 uy) zzFU zzFU (by decide) (by decide)
    exact ⟨r, wx', wy', ex, ey, q_RJK h hJ' hK'⟩
theorem q_nle {p : Int32} {n : Nat} (hn : n < 2 ^ 31) (h : nI n < p) : ¬ p ≤ nI n := by
  rw [Int32.le_iff_toInt_le]
  rw [Int32.lt_iff_toInt_lt] at h
  omega
theorem e_back (h : qR ux uy) (p0 : Int32) : qE (fX4_back ux p0) (fX5_back uy p0) := by
  obtain ⟨hA, ⟨⟨rn, hr, r1, r2⟩, hrow⟩, hrest⟩ := id h
  unfold fX4_back fX5_back
  rw [q_win, r1, r2]
  rcases q_rng p0 0 rn (by omega) (by decide) with ⟨v, v0, v1, rfl⟩ | hb
  · have w1 : ¬ (nI v < (0 : Int32) ∨ nI rn < nI v) := by
      rintro (hz | hz)
      · exact nI_pos (by omega) hz
      · exact nI_nlt v1 (by omega) hz
    rw [if_neg (fun hz => w1 (Or.inl hz)), if_pos (nI_le v1 (by omega)), if_neg w1, Option.bind_some, if_neg q_10, pk_sub v1]
    exact ⟨_, _, _, rfl, rfl, hA, ⟨⟨rn - v, by omega, rfl, rfl⟩, hrow⟩, hrest⟩
  · rw [if_pos (show p0 < (0 : Int32) ∨ nI rn < p0 from hb)]
    have ex : (if p0 < 0 then some ((-2 : Int32), ux) else if p0 ≤ nI rn then some ((zzi ux 10 (nI rn - p0)).1 10, zzi ux 10 (nI rn - p0)) else some ((-2 : Int32), ux)) = some ((-2 : Int32), ux) := by
      by_cases h1 : p0 < 0
      · rw [if_pos h1]
      · rw [if_neg h1, if_neg (q_nle (by omega) (hb.resolve_left h1))]
    rw [ex]
    exact ⟨_, _, _, rfl, rfl, h⟩
theorem q_refC {u : zzS} {d : qD} (hx : qX 0 u d) (p0 p1 : Int32) : ((∃ s v : Nat, 1 ≤ s ∧ s ≤ 3 ∧ v ≤ 99 ∧ p0 = nI s ∧ p1 = nI v) ∧ fX4_refusalOfCount u p0 p1 = some (if d.1 = 0 then -3 else 0) ∧ fX5_isSun p0 = some 1 ∧ fX5_within p1 (0 : Int32) (99 : Int32) = some 1) ∨ (fX4_refusalOfCount u p0 p1 = some (-2) ∧ (fX5_isSun p0 = some 0 ∨ fX5_isSun p0 = some 1 ∧ fX5_within p1 (0 : Int32) (99 : Int32) = some 0)) := by
  unfold fX4_refusalOfCount
  rw [q_win]
  rcases q_rng p1 0 99 (by decide) (by decide) with ⟨v, v0, v1, rfl⟩ | hb
  · have w1 : ¬ (nI v < (0 : Int32) ∨ (99 : Int32) < nI v) := by
      rintro (hz | hz)
      · exact nI_pos (by omega) hz
      · exact nI_nlt (show v ≤ 99 from v1) (by omega) hz
    rw [if_neg (fun hz => w1 (Or.inl hz)), if_pos (show nI v ≤ (99 : Int32) from nI_le (b := 99) v1 (by decide)), if_neg w1]
    rcases q_sun p0 with ⟨⟨s, s1, s2, rfl⟩, e1, e2⟩ | ⟨e1, e2⟩
    · rw [q_refA hx e1]
      exact Or.inl ⟨⟨s, v, s1, s2, v1, rfl, rfl⟩, rfl, e2, rfl⟩
    · rw [q_refB e1]
      exact Or.inr ⟨rfl, Or.inl e2⟩
  · rw [if_pos (show p1 < (0 : Int32) ∨ (99 : Int32) < p1 from hb)]
    right
    constructor
    · by_cases h1 : p1 < 0
      · rw [if_pos h1]
      · rw [if_neg h1, if_neg (show ¬ p1 ≤ (99 : Int32) from q_nle (n := 99) (by decide) (hb.resolve_left h1))]
    · rcases q_sun p0 with ⟨⟨s, s1, s2, rfl⟩, e1, e2⟩ | ⟨e1, e2⟩
      · exact Or.inr ⟨e2, rfl⟩
      · exact Or.inl e2
theorem e_reading (h : qR ux uy) (p0 p1 : Int32) : qE (fX4_reading ux p0 p1) (fX5_reading uy p0 p1) := by
  obtain ⟨⟨d, hx, hy⟩, ⟨⟨rn, hr, r1, r2⟩, hrow⟩, hrest⟩ := id h
  unfold fX4_reading fX5_reading
  rcases q_refC hx p0 p1 with ⟨⟨s, v, s1, s2, v1, rfl, rfl⟩, e1, e2, e3⟩ | ⟨e1, e2 | ⟨e2, e3⟩⟩
  · rw [e1, e2, e3]
    simp only [Option.bind_some, if_neg q_10, q_st0 hy]
    by_cases h0 : d.1 = 0
    · rw [if_pos h0, if_pos h0, if_neg (by decide)]
      exact ⟨_, _, _, rfl, rfl, h⟩
    · rw [if_neg h0, if_neg h0, if_pos rfl, r2]
      unfold fX0_note
      rw [r1, if_neg (nI_pos (by omega)), q_k8]
      simp only [nI_ltI (a := rn) (b := 8) (by omega) (by omega), nI_eq (a := rn) (b := 8) (by omega) (by omega)]
      by_cases h8 : rn = 8
      · subst h8
        rw [if_neg (by omega), if_pos rfl]
        exact ⟨_, _, _, rfl, rfl, h⟩
      · rw [if_pos (by omega), if_neg h8, q_pa (by omega) (by decide), q_pa (by omega) (by decide), q_cl (by omega)]
        have x1 : (zza ux 6 rn (nI s)).1 10 = nI rn := r1
        have x2 : (zza uy 27 rn (nI s)).1 26 = nI rn := r2
        rw [x1, x2, q_pa (by omega) (by decide), q_pa (by omega) (by decide), q_cl (by omega)]
        have x3 : (zza (zza ux 6 rn (nI s)) 7 rn (nI v)).1 10 = nI rn := r1
        have x4 : (zza (zza uy 27 rn (nI s)) 28 rn (nI v)).1 26 = nI rn := r2
        rw [x3, x4, nI_1]
        have x5 : (zzi (zza (zza uy 27 rn (nI s)) 28 rn (nI v)) 26 (nI (rn + 1))).1 26 - (1 : Int32) = nI rn := nI_pred rn
        rw [x5]
        refine ⟨_, _, _, rfl, rfl, ⟨d, hx, hy⟩, ⟨⟨rn + 1, by omega, rfl, rfl⟩, fun k hk => ?_⟩, hrest⟩
        obtain ⟨g1, g2, g3, g4, g5⟩ := hrow k hk
        show upd (ux.2 6) rn (nI s) k = upd (uy.2 27) rn (nI s) k ∧ upd (ux.2 7) rn (nI v) k = upd (uy.2 28) rn (nI v) k ∧ ∃ s' : Nat, s' ≤ 3 ∧ upd (ux.2 6) rn (nI s) k = nI s'
        unfold upd
        by_cases hk2 : k = rn
        · simp only [if_pos hk2]
          exact ⟨trivial, trivial, s, s2, rfl⟩
        · simp only [if_neg hk2]
          exact ⟨g1, g2, g3, g4, g5⟩
  · rw [e1, e2]
    exact ⟨_, _, _, rfl, rfl, h⟩
  · rw [e1, e2]
    simp only [Option.bind_some, if_neg q_10, e3]
    exact ⟨_, _, _, rfl, rfl, h⟩
theorem e_tell (h : qR ux uy) (p0 : Int32) : qE (fX4_tell ux p0) (fX5_tell uy p0) := by
  obtain ⟨⟨d, hx, hy⟩, hr1, hr2, ht, hf, hi⟩ := id h
  have h5 := hx.2.2.2.1
  unfold fX4_tell fX5_tell
  rcases q_who d p0 with ⟨a, ha, rfl⟩ | hw
  · obtain ⟨x0, x1, x2, k2, -⟩ := hx.2.2.2.2.2.2.2 a (by omega)
    obtain ⟨y0, y1, y2, -⟩ := hy.2.2.2.2.2.2.2 a (by omega)
    have x0 : ux.2 0 a = nI (d.2.2.2.1 a) := x0
    have x2 : ux.2 2 a = nI (d.2.2.2.2.2 a) := x2
    rw [q_has1 hx ha, q_isS1 hy ha, Option.bind_some, Option.bind_some, if_neg q_10, if_neg q_10, q_ga (by omega) (by decide), q_ga (by omega) (by decide), q_ga (by omega) (by decide), x0, y0, y2]
    have st : ∀ w : zzS, qX 0 w d → w.2 2 a = nI (d.2.2.2.2.2 a) → fX4_tellAsStander w (nI a) = some (nI (d.2.2.2.2.2 a), zzi w 11 ((31 : Int32) * w.1 11 + 1)) := by
      intro w hw hw2
      unfold fX4_tellAsStander fX4_leaveInTrace
      rw [Option.bind_some, q_has1 (show qX 0 (zzi w 11 ((31 : Int32) * w.1 11 + 1)) d from hw) ha, Option.bind_some, if_neg q_10, q_ga (by omega) (by decide)]
      rw [show (zzi w 11 ((31 : Int32) * w.1 11 + 1)).2 2 a = nI (d.2.2.2.2.2 a) from hw2]
    have rd : ∀ w : zzS, qX 0 w d → w.2 2 a = nI (d.2.2.2.2.2 a) → fX4_tellAsRider w (nI a) = some (nI (d.2.2.2.2.2 a) + (100 : Int32), zzi (zzi w 11 ((31 : Int32) * w.1 11 + 2)) 11 ((31 : Int32) * ((31 : Int32) * w.1 11 + 2) + 1)) := by
      intro w hw hw2
      unfold fX4_tellAsRider fX4_leaveInTrace
      rw [Option.bind_some, st _ (show qX 0 (zzi w 11 ((31 : Int32) * w.1 11 + 2)) d from hw) hw2]
      rfl
    rcases (show d.2.2.2.1 a = 0 ∨ d.2.2.2.1 a = 1 ∨ d.2.2.2.1 a = 2 by omega) with hk | hk | hk
    · rw [hk, if_neg (by decide), if_neg (by decide), if_neg (by decide), if_neg (by decide), st ux hx x2]
      refine ⟨_, _, _, rfl, rfl, ⟨d, hx, hy⟩, hr1, hr2, ?_, hf, hi⟩
      exact congrArg (fun T : Int32 => (31 : Int32) * T + 1) ht
    · rw [hk, if_pos (by decide), if_pos (by decide), rd ux hx x2]
      refine ⟨_, _, _, rfl, rfl, ⟨d, hx, hy⟩, hr1, hr2, ?_, hf, hi⟩
      exact congrArg (fun T : Int32 => (31 : Int32) * ((31 : Int32) * T + 2) + 1) ht
    · rw [hk, if_neg (by decide), if_pos (by decide), if_neg (by decide), if_pos (by decide)]
      unfold fX4_tellAsPole fX4_leaveInTrace
      rw [Option.bind_some, rd _ (show qX 0 (zzi ux 11 ((31 : Int32) * ux.1 11 + 3)) d from hx) x2, Option.bind_some]
      dsimp only
      rw [st _ (by exact hx) (by exact x2)]
      have hv : nI (d.2.2.2.2.2 a) + (100 : Int32) + nI (d.2.2.2.2.2 a) = (2 : Int32) * nI (d.2.2.2.2.2 a) + (100 : Int32) := by
        rw [q_k100, q_k2, pk_mul, nI_add, nI_add, nI_add]
        congr 1
        omega
      rw [← hv]
      refine ⟨_, _, _, rfl, rfl, ⟨d, hx, hy⟩, hr1, hr2, ?_, hf, hi⟩
      · exact congrArg (fun T : Int32 => (31 : Int32) * ((31 : Int32) * ((31 : Int32) * ((31 : Int32) * T + 3) + 2) + 1) + 1) ht
  · rw [q_has0 hx hw, q_isS0 hy hw]
    exact ⟨_, _, _, rfl, rfl, h⟩
theorem e_tax (h : qR ux uy) (p0 : Int32) : qE (fX4_tax ux p0) (fX5_tax uy p0) := by
  obtain ⟨⟨d, hx, hy⟩, hr1, hr2, ht, hf, hi⟩ := id h
  have h5 := hx.2.2.2.1
  unfold fX4_tax fX5_tax fX4_leaveInTrace fX5_begins
  rcases q_who d p0 with ⟨a, ha, rfl⟩ | hw
  · obtain ⟨x0, x1, x2, k2, -⟩ := hx.2.2.2.2.2.2.2 a (by omega)
    obtain ⟨y0, y1, y2, -⟩ := hy.2.2.2.2.2.2.2 a (by omega)
    have x0 : ux.2 0 a = nI (d.2.2.2.1 a) := x0
    rw [q_has1 hx ha, q_isS1 hy ha]
    simp only [Option.bind_some, if_neg q_10, q_ga (show a < 5 by omega) (show 5 < 1000 by decide)]
    rw [x0, y0, show (zzi uy 1 ((31 : Int32) * uy.1 1 + 5)).2 8 a = nI (d.2.2.2.1 a) from y0, show (zzi uy 1 ((31 : Int32) * uy.1 1 + 4)).2 8 a = nI (d.2.2.2.1 a) from y0, q_k2]
    simp only [nI_eq (a := d.2.2.2.1 a) (b := 2) (by omega) (by omega)]
    by_cases hk : d.2.2.2.1 a = 2
    · simp only [if_pos hk]
      refine ⟨_, _, _, rfl, rfl, ⟨d, hx, hy⟩, hr1, hr2, ?_, hf, hi⟩
      exact congrArg (fun T : Int32 => (31 : Int32) * T + 5) ht
    · simp only [if_neg hk]
      refine ⟨_, _, _, rfl, rfl, ⟨d, hx, hy⟩, hr1, hr2, ?_, hf, hi⟩
      exact congrArg (fun T : Int32 => (31 : Int32) * T + 4) ht
  · rw [q_has0 hx hw, q_isS0 hy hw]
    exact ⟨_, _, _, rfl, rfl, h⟩
theorem q_R0 (h : qR ux uy) (v : Int32) : qR (zzi ux 12 v) (zzi uy 0 v) := ⟨h.1, h.2.1, h.2.2.1, h.2.2.2.1, rfl, h.2.2.2.2.2⟩
theorem e_as (h : qR ux uy) (p0 p1 : Int32) : qE (fX4_as ux p0 p1) (fX5_as uy p0 p1) := by
  have h0 := q_R0 h 0
  obtain ⟨⟨d, hx, hy⟩, -⟩ := id h
  have h5 := hx.2.2.2.1
  unfold fX4_as fX5_as fX4_failed fX5_fails
  rcases q_who d p0 with ⟨a, ha, rfl⟩ | hw
  · obtain ⟨x0, x1, x2, k2, -⟩ := hx.2.2.2.2.2.2.2 a (by omega)
    obtain ⟨y0, y1, y2, -⟩ := hy.2.2.2.2.2.2.2 a (by omega)
    rw [q_has1 (show qX 0 (zzi ux 12 0) d from hx) ha, q_isS1 (show qY (zzi uy 0 0) d from hy) ha, q_win]
    simp only [Option.bind_some, if_neg q_10, q_ga (show a < 5 by omega) (show 5 < 1000 by decide)]
    rw [show (zzi ux 12 0).2 0 a = nI (d.2.2.2.1 a) from x0, show (zzi uy 0 0).2 8 a = nI (d.2.2.2.1 a) from y0]
    rcases q_rng p1 0 2 (by decide) (by decide) with ⟨v, v0, v1, rfl⟩ | hb
    · have w1 : ¬ (nI v < (0 : Int32) ∨ (2 : Int32) < nI v) := by
        rintro (hz | hz)
        · exact nI_pos (by omega) hz
        · exact nI_nlt (show v ≤ 2 from v1) (by omega) hz
      rw [if_neg (fun hz => w1 (Or.inl hz)), if_pos (show nI v ≤ (2 : Int32) from nI_le (b := 2) v1 (by decide)), if_neg w1, if_neg q_10]
      split
      · exact ⟨_, _, _, rfl, rfl, q_R0 h0 2⟩
      · exact ⟨_, _, _, rfl, rfl, h0⟩
    · rw [if_pos (show p1 < (0 : Int32) ∨ (2 : Int32) < p1 from hb), if_pos rfl]
      refine ⟨-2, _, _, ?_, rfl, h0⟩
      by_cases h1 : p1 < 0
      · rw [if_pos h1]
      · rw [if_neg h1, if_neg (show ¬ p1 ≤ (2 : Int32) from q_nle (n := 2) (by decide) (hb.resolve_left h1))]
  · rw [q_has0 (show qX 0 (zzi ux 12 0) d from hx) hw, q_isS0 (show qY (zzi uy 0 0) d from hy) hw]
    exact ⟨_, _, _, rfl, rfl, h0⟩
end QP
