/-! ===== pure part 8: send, odds ===== -/
def qpc (i : Nat) : Nat := i % 2 + i / 2 % 2 + i / 4 % 2 + i / 8 % 2 + i / 16 % 2
theorem q_e1 : ∀ i, i < 32 → fJ6_bitCount_0f7a4 (nI i) = some (nI (qpc i)) ∧ fX5_size (nI i) = some (nI (qpc i)) := by decide +kernel
theorem q_e2 : ∀ n, n < 6 → ∀ i, i < 32 → i < 2 ^ n → nI (2 ^ n - 1) &&& (nI i ^^^ (-1 : Int32)) = nI (2 ^ n - 1 - i) := by decide +kernel
theorem q_e3 : ∀ n, n < 6 → ∀ i, i < 32 → i < 2 ^ n → ∀ a, a < 5 → a < n → (2 ^ n - 1 - i).testBit a = !i.testBit a := by decide +kernel
theorem q_e4 : ∀ n, n < 6 → ((1 : Int32) <<< (nI n &&& 31)) = nI (2 ^ n) := by decide +kernel
theorem q_e5 : ∀ i, i < 100 → ¬ nI i = (-9 : Int32) := by decide +kernel
theorem q_p32 {n : Nat} (h : n ≤ 5) : 2 ^ n ≤ 32 := Nat.pow_le_pow_right (n := 2) (by decide) h
theorem q_co {d : qD} {s i : Nat} (h5 : d.1 ≤ 5) (hi : i < 2 ^ d.1) : qCn d s (fun a => (2 ^ d.1 - 1 - i).testBit a) = qCn d s (fun a => !i.testBit a) := by
  have h32 := q_p32 h5
  unfold qCn
  rw [q_all (o := fun a => (2 ^ d.1 - 1 - i).testBit a) (o' := fun a => !i.testBit a) (fun a ha => q_e3 d.1 (by omega) i (by omega) hi a (by omega) ha)]
def qrp (b : Option Nat) : Int32 := match b with
  | none => -9
  | some x => nI x
theorem q_rp0 : qrp none = (-9 : Int32) := rfl
theorem q_rp1 (x : Nat) : qrp (some x) = nI x := rfl
theorem q_K11 {w w1 : zzS} {v : Int32} (h : qK w w1) : qK (zzi w 11 v) (zzi w1 11 v) := by
  refine ⟨fun k hk => ?_, h.2⟩
  have e := h.1 k hk
  by_cases hk4 : k = 11
  · subst hk4; rfl
  · simp only [zzi, va_up, hk4, if_false]
    exact e
theorem q_sx29n (p0 p1 r3 i : Int32) (w : zzS) (rec : Int32 × Int32 × zzS → Option (Int32 × zzS)) {c : Int32} {w1 : zzS} (h : ¬ r3 < i) (e : fX4_countedOn 0 w p0 (r3 &&& (i ^^^ (-1 : Int32))) = some (c, w1)) : sX4_send_29 p0 p1 r3 ((-9 : Int32), i, w) rec = if c = p1 then rec (i, i + 1, w1) else rec ((-9 : Int32), i + 1, w1) := by
  unfold sX4_send_29
  dsimp only
  rw [if_neg h, if_pos rfl, if_neg q_10, e, Option.bind_some]
theorem q_sx29s (p0 p1 r3 i b : Int32) (w : zzS) (rec : Int32 × Int32 × zzS → Option (Int32 × zzS)) {c bi bb : Int32} {w1 : zzS} (h : ¬ r3 < i) (hb : ¬ b = (-9 : Int32)) (e1 : fJ6_bitCount_0f7a4 i = some bi) (e2 : fJ6_bitCount_0f7a4 b = some bb) (e : fX4_countedOn 0 w p0 (r3 &&& (i ^^^ (-1 : Int32))) = some (c, w1)) : sX4_send_29 p0 p1 r3 (b, i, w) rec = if bb ≤ bi then rec (b, i + 1, w) else if c = p1 then rec (i, i + 1, w1) else rec (b, i + 1, w1) := by
  unfold sX4_send_29
  dsimp only
  rw [if_neg h, if_neg hb, e1, Option.bind_some, e2, Option.bind_some, e]
  by_cases hc : bb ≤ bi
  · rw [if_pos hc, if_pos hc, if_pos rfl]
  · rw [if_neg hc, if_neg hc, if_neg q_10, Option.bind_some]
theorem q_sy38n (p0 p1 : Int32) (w : zzS) (rec : Int32 × zzS → Option (Int32 × zzS)) {c : Int32} {w1 : zzS} (h : ¬ ((1 : Int32) <<< (w.1 5 &&& 31)) ≤ w.1 11) (e : fX5_censusOf w p0 = some (c, w1)) : sX5_send_38 p0 p1 ((-9 : Int32), w) rec = if c = p1 then rec (w1.1 11, zzi w1 11 (w1.1 11 + 1)) else rec ((-9 : Int32), zzi w1 11 (w1.1 11 + 1)) := by
  unfold sX5_send_38
  dsimp only
  rw [if_neg h, if_pos rfl, e, Option.bind_some]
theorem q_sy38s (p0 p1 b : Int32) (w : zzS) (rec : Int32 × zzS → Option (Int32 × zzS)) {c bi bb : Int32} {w1 : zzS} (h : ¬ ((1 : Int32) <<< (w.1 5 &&& 31)) ≤ w.1 11) (hb : ¬ b = (-9 : Int32)) (e1 : fX5_size (w.1 11) = some bi) (e2 : fX5_size b = some bb) (e : fX5_censusOf w p0 = some (c, w1)) : sX5_send_38 p0 p1 (b, w) rec = if bb ≤ bi then rec (b, zzi w 11 (w.1 11 + 1)) else if c = p1 then rec (w1.1 11, zzi w1 11 (w1.1 11 + 1)) else rec (b, zzi w1 11 (w1.1 11 + 1)) := by
  unfold sX5_send_38
  dsimp only
  rw [if_neg h, if_neg hb, e1, Option.bind_some, e2, Option.bind_some, e, Option.bind_some]
section QP
variable {ux uy : zzS}
theorem e_send (h : qR ux uy) (p0 p1 : Int32) : qE (fX4_send ux p0 p1) (fX5_send uy p0 p1) := by
  obtain ⟨⟨d, hx, hy⟩, hrest⟩ := id h
  have h5 := hx.2.2.2.1
  have h32 := q_p32 h5
  have hp : 0 < 2 ^ d.1 := Nat.two_pow_pos _
  unfold fX4_send fX5_send
  rcases q_refC hx p0 p1 with ⟨⟨s, v, s1, s2, v1, rfl, rfl⟩, e1, e2, e3⟩ | ⟨e1, e2 | ⟨e2, e3⟩⟩
  · rw [e1, e2, e3]
    simp only [Option.bind_some, if_neg q_10, q_st0 hy]
    by_cases h0 : d.1 = 0
    · rw [if_pos h0, if_pos h0, if_neg (by decide)]
      exact ⟨_, _, _, rfl, rfl, h⟩
    · rw [if_neg h0, if_neg h0, if_pos rfl, q_every hx, Option.bind_some]
      have hn : 0 < d.1 := by omega
      have key : ∀ m i, i + m = 2 ^ d.1 → ∀ (b : Option Nat), (∀ x, b = some x → x < 32) → ∀ (wx wy : zzS), qJ ux wx → qK uy (zzi wy 11 (nI 0)) → wy.1 11 = nI i → ∀ fx fy, m < fx → m < fy → ∃ (r : Int32) (wx' wy' : zzS), zzlp (sX4_send_29 (nI s) (nI v) (nI (2 ^ d.1 - 1))) fx (qrp b, nI i, wx) = some (r, wx') ∧ zzlp (sX5_send_38 (nI s) (nI v)) fy (qrp b, wy) = some (r, wy') ∧ qJ ux wx' ∧ qK uy wy' := by
        intro m
        induction m with
        | zero =>
          intro i hi b hb wx wy hJ hK hin fx fy h1 h2
          refine ⟨qrp b, wx, _, ?_, ?_, hJ, hK⟩
          · rw [q_fu (by omega)]
            unfold sX4_send_29
            dsimp only
            rw [if_pos (nI_lt (by omega) (by omega))]
          · rw [q_fu (by omega)]
            unfold sX5_send_38
            dsimp only
            have hn5 : wy.1 5 = nI d.1 := (q_YK hK hy).1
            rw [hn5, hin, q_e4 _ (by omega), if_pos (nI_le (by omega) (by omega))]
            rfl
        | succ m ih =>
          intro i hi b hb wx wy hJ hK hin fx fy h1 h2
          have hwx := q_XJ hJ hx
          have hwy : qY wy d := (q_YK hK hy : qY (zzi wy 11 (nI 0)) d)
          have hn5 : wy.1 5 = nI d.1 := hwy.1
          have ex := q_cntX hwx hn s2 (show 2 ^ d.1 - 1 - i < 32 by omega)
          rw [q_co h5 (show i < 2 ^ d.1 by omega)] at ex
          obtain ⟨dk, ey⟩ := q_cenY hwy hn s2 (show i < 32 by omega) hin
          generalize hX1 : qwn wx (qCn d s fun a => !i.testBit a) (qNd d s fun a => (2 ^ d.1 - 1 - i).testBit a) = wx1 at ex
          generalize hY1 : qv wy (qCn d s fun a => !i.testBit a) (qNd d s fun a => !i.testBit a) dk = wy1 at ey
          have hJ1 : qJ ux wx1 := by rw [← hX1]; exact q_Jt hJ (q_Jw _ _ _)
          have hK01 : qK wy wy1 := by rw [← hY1]; exact q_Kv _ _ _ _
          have hK1 : qK uy (zzi wy1 11 (nI 0)) := q_Kt hK (q_K11 hK01)
          have hin1 : wy1.1 11 = nI i := (hK01.1 11 (by omega)).trans hin
          have ihS : ∀ b' : Option Nat, (∀ x, b' = some x → x < 32) → _ := fun b' hb' => ih (i + 1) (by omega) b' hb' wx (zzi wy 11 (nI (i + 1))) hJ (by rw [q_zzi]; exact hK) (by simp [zzi, va_up]) (fx - 1) (fy - 1) (by omega) (by omega)
          have ihC : ∀ b' : Option Nat, (∀ x, b' = some x → x < 32) → _ := fun b' hb' => ih (i + 1) (by omega) b' hb' wx1 (zzi wy1 11 (nI (i + 1))) hJ1 (by rw [q_zzi]; exact hK1) (by simp [zzi, va_up]) (fx - 1) (fy - 1) (by omega) (by omega)
          rw [q_fu (show 0 < fx by omega), q_fu (show 0 < fy by omega)]
          generalize zzlp (sX4_send_29 (nI s) (nI v) (nI (2 ^ d.1 - 1))) (fx - 1) = recx at ihS ihC ⊢
          generalize zzlp (sX5_send_38 (nI s) (nI v)) (fy - 1) = recy at ihS ihC ⊢
          rw [← q_e2 d.1 (by omega) i (by omega) (by omega)] at ex
          have hnx : ¬ nI (2 ^ d.1 - 1) < nI i := nI_nlt (by omega) (by omega)
          have hny : ¬ ((1 : Int32) <<< (wy.1 5 &&& 31)) ≤ wy.1 11 := by
            rw [hn5, hin, q_e4 _ (by omega)]
            exact nI_ge (by omega) (by omega)
          have try_ : ∃ (r : Int32) (wx' wy' : zzS), (if nI (qCn d s fun a => !i.testBit a).1 = nI v then recx (nI i, nI i + 1, wx1) else recx (qrp b, nI i + 1, wx1)) = some (r, wx') ∧ (if nI (qCn d s fun a => !i.testBit a).1 = nI v then recy (wy1.1 11, zzi wy1 11 (wy1.1 11 + 1)) else recy (qrp b, zzi wy1 11 (wy1.1 11 + 1))) = some (r, wy') ∧ qJ ux wx' ∧ qK uy wy' := by
            rw [hin1, nI_1]
            split
            · have h9 := ihC (some i) (fun x hx => by cases hx; omega)
              rw [q_rp1] at h9
              exact h9
            · exact ihC b hb
          cases b with
          | none =>
            rw [q_rp0] at try_ ⊢
            rw [q_sx29n _ _ _ _ _ _ hnx ex, q_sy38n _ _ _ _ hny ey]
            exact try_
          | some x =>
            have hx32 := hb x rfl
            have hne : ¬ nI x = (-9 : Int32) := q_e5 x (by omega)
            rw [q_rp1] at try_ ⊢
            rw [q_sx29s _ _ _ _ _ _ _ hnx hne (q_e1 i (by omega)).1 (q_e1 x hx32).1 ex, q_sy38s _ _ _ _ _ hny hne (by rw [hin]; exact (q_e1 i (by omega)).2) (q_e1 x hx32).2 ey]
            by_cases hc : nI (qpc x) ≤ nI (qpc i)
            · rw [if_pos hc, if_pos hc, hin, nI_1]
              have h9 := ihS (some x) hb
              rw [q_rp1] at h9
              exact h9
            · rw [if_neg hc, if_neg hc]
              exact try_
      obtain ⟨r, wx', wy', ex, ey, hJ', hK'⟩ := key (2 ^ d.1) 0 (by omega) none (fun x hx => by cases hx) ux (zzi uy 11 0) (q_J0 ux) (by rw [q_zzi]; have e11 : nI 0 = uy.1 11 := hrest.2.2.2.2.symm; rw [e11, q_zsi]; exact q_K0 uy) (by simp [zzi, va_up]; rfl) zzFU zzFU (by unfold zzFU; omega) (by unfold zzFU; omega)
      rw [q_rp0] at ex ey
      rw [nI_0] at ex
      exact ⟨r, wx', wy', ex, ey, q_RJK h hJ' hK'⟩
  · rw [e1, e2]
    exact ⟨_, _, _, rfl, rfl, h⟩
  · rw [e1, e2]
    simp only [Option.bind_some, if_neg q_10, e3]
    exact ⟨_, _, _, rfl, rfl, h⟩
end QP
def qcn (f : Nat → Bool) : Nat → Nat
  | 0 => 0
  | n + 1 => qcn f n + (if f n then 1 else 0)
theorem q_cn_le (f : Nat → Bool) : ∀ n, qcn f n ≤ n
  | 0 => by simp [qcn]
  | n + 1 => by
    have := q_cn_le f n
    rw [qcn]
    split <;> omega
theorem q_cn_rev (f : Nat → Bool) (N : Nat) : ∀ k, k ≤ N → qcn (fun i => f (N - 1 - i)) k + qcn f (N - k) = qcn f N
  | 0, _ => by simp [qcn]
  | k + 1, h => by
    have ih := q_cn_rev f N k (by omega)
    obtain ⟨j, hj⟩ : ∃ j, N - k = j + 1 := ⟨N - k - 1, by omega⟩
    rw [hj, qcn] at ih
    have e1 : N - (k + 1) = j := by omega
    have e2 : N - 1 - k = j := by omega
    rw [e1, qcn, e2]
    omega
def qo2 (p2 : Int32) : (Int32 × Int32 × Int32) → ((Int32 × Int32 × Int32) → Option Int64) → Option Int64 := fun v10 rec11 => (if (5 : Int32) ≤ v10.2.2 then (if p2 = (0 : Int32) then (some (v10.1.toInt64)) else (some (v10.2.1.toInt64))) else (if (v10.2.1 - v10.2.1 / (2 : Int32) * (2 : Int32)) = 0 then (if (v10.1 - v10.1 / (2 : Int32) * (2 : Int32)) = 0 then (rec11 ((v10.1 / (2 : Int32)), (v10.2.1 / (2 : Int32)), (v10.2.2 + (1 : Int32)))) else (if p2 = (0 : Int32) then (some (v10.1.toInt64)) else (some (v10.2.1.toInt64)))) else (if p2 = (0 : Int32) then (some (v10.1.toInt64)) else (some (v10.2.1.toInt64)))))
theorem q_o2 (p0 p1 p2 : Int32) (v6 : Int32 × Int32 × zzS) : ∀ (n : Nat) (v : Int32 × Int32 × Int32), zzlp (sX4_odds_77 p0 p1 p2 v6) n v = (zzlp (qo2 p2) n v).map (fun x => (x, v6.2.2)) := by
  intro n
  induction n with
  | zero => intro v; rfl
  | succ n ih =>
    intro v
    rw [q_lp, q_lp]
    have ih' : ∀ v, zzlp (sX4_odds_77 p0 p1 p2 v6) n v = (zzlp (qo2 p2) n v).map (fun x => (x, v6.2.2)) := ih
    generalize zzlp (sX4_odds_77 p0 p1 p2 v6) n = rx at ih' ⊢
    generalize zzlp (qo2 p2) n = ry at ih' ⊢
    unfold sX4_odds_77 qo2
    split
    · split <;> rfl
    · split
      · split
        · exact ih' _
        · split <;> rfl
      · split <;> rfl
theorem q_o4 : ∀ n, n < 6 → ∀ c, c < 33 → ∀ w, w < 2 → ((0 < n ∧ c ≤ 2 ^ n) → (zzlp (qo2 (nI w)) 1000 (nI c, nI (2 ^ n - 1) + (1 : Int32), (0 : Int32))).isSome = true) := by decide +kernel
theorem q_o5 : ∀ n, n < 6 → ∀ c, c < 33 → ∀ w, w < 2 → ((0 < n ∧ c ≤ 2 ^ n) → (fX5_inLeastTerms (nI c).toInt64 (nI (2 ^ n)).toInt64 (nI w)).map Int64.toInt = (zzlp (qo2 (nI w)) 1000 (nI c, nI (2 ^ n - 1) + (1 : Int32), (0 : Int32))).map Int64.toInt) := by decide +kernel
theorem q_o3 (n : Nat) (h1 : n < 6) (h2 : 0 < n) (c : Nat) (h3 : c < 33) (h4 : c ≤ 2 ^ n) (w : Nat) (h5 : w < 2) : ∃ x, zzlp (qo2 (nI w)) 1000 (nI c, nI (2 ^ n - 1) + (1 : Int32), (0 : Int32)) = some x ∧ fX5_inLeastTerms (nI c).toInt64 (nI (2 ^ n)).toInt64 (nI w) = some x := by
  have a1 := q_o4 n h1 c h3 w h5 ⟨h2, h4⟩
  have a2 := q_o5 n h1 c h3 w h5 ⟨h2, h4⟩
  obtain ⟨x, hx⟩ := Option.isSome_iff_exists.mp a1
  refine ⟨x, hx, ?_⟩
  rw [hx] at a2
  cases hy : fX5_inLeastTerms (nI c).toInt64 (nI (2 ^ n)).toInt64 (nI w) with
  | none => rw [hy] at a2; cases a2
  | some y =>
    rw [hy] at a2
    have : y.toInt = x.toInt := Option.some.inj a2
    rw [Int64.toInt_inj.mp this]
section QP
variable {ux uy : zzS}
theorem e_odds (h : qR ux uy) (p0 p1 p2 : Int32) : qE (fX4_odds ux p0 p1 p2) (fX5_odds uy p0 p1 p2) := by
  obtain ⟨⟨d, hx, hy⟩, hrest⟩ := id h
  have h5 := hx.2.2.2.1
  have h32 := q_p32 h5
  have hp : 0 < 2 ^ d.1 := Nat.two_pow_pos _
  unfold fX4_odds fX5_odds
  rcases q_refC hx p0 p1 with ⟨⟨s, v, s1, s2, v1, rfl, rfl⟩, e1, e2, e3⟩ | ⟨e1, e2 | ⟨e2, e3⟩⟩
  · rw [e1, e2, e3]
    simp only [Option.bind_some, if_neg q_10, q_st0 hy]
    rw [q_win]
    rcases q_rng p2 0 1 (by decide) (by decide) with ⟨wh, w0, w1, rfl⟩ | hb
    · have hw : ¬ (nI wh < (0 : Int32) ∨ (1 : Int32) < nI wh) := by
        rintro (hz | hz)
        · exact nI_pos (by omega) hz
        · exact nI_nlt (show wh ≤ 1 from w1) (by omega) hz
      rw [if_neg hw]
      simp only [Option.bind_some, if_neg q_10]
      by_cases h0 : d.1 = 0
      · rw [if_pos h0, if_pos h0, if_neg (by decide)]
        exact ⟨_, _, _, rfl, rfl, h⟩
      · rw [if_neg h0, if_neg h0, if_pos rfl, if_neg (fun hz => hw (Or.inl hz)), if_pos (show nI wh ≤ (1 : Int32) from nI_le (b := 1) w1 (by decide)), q_every hx, Option.bind_some]
        have hn : 0 < d.1 := by omega
        let G : Nat → Bool := fun o => decide ((qCn d s (fun a => o.testBit a)).1 = v)
        have hC40 : ∀ o, (qCn d s o).1 ≤ 40 := fun o => q_Cle s o (hx.2.2.2.2.2.2.1 hn)
        have keyX : ∀ m o, o + m = 2 ^ d.1 → ∀ wx, qJ ux wx → ∀ fx, m < fx → ∃ wx', zzlp (sX4_odds_37 (nI s) (nI v) (nI wh) (nI (2 ^ d.1 - 1))) fx (nI (qcn G o), nI o, wx) = (zzlp (qo2 (nI wh)) zzFU (nI (qcn G (2 ^ d.1)), nI (2 ^ d.1 - 1) + (1 : Int32), (0 : Int32))).map (fun x => (x, wx')) ∧ qJ ux wx' := by
          intro m
          induction m with
          | zero =>
            intro o ho wx hJ fx h1
            obtain rfl : o = 2 ^ d.1 := by omega
            refine ⟨wx, ?_, hJ⟩
            rw [q_fu (by omega)]
            unfold sX4_odds_37
            dsimp only
            rw [if_pos (nI_lt (by omega) (by omega)), q_o2]
          | succ m ih =>
            intro o ho wx hJ fx h1
            have ex := q_cntX (q_XJ hJ hx) hn s2 (show o < 32 by omega)
            have hJ1 : qJ ux (qwn wx (qCn d s fun a => o.testBit a) (qNd d s fun a => o.testBit a)) := q_Jt hJ (q_Jw _ _ _)
            obtain ⟨wx', i1, i2⟩ := ih (o + 1) (by omega) _ hJ1 (fx - 1) (by omega)
            refine ⟨wx', ?_, i2⟩
            rw [q_fu (by omega)]
            generalize zzlp (sX4_odds_37 (nI s) (nI v) (nI wh) (nI (2 ^ d.1 - 1))) (fx - 1) = rec at i1 ⊢
            unfold sX4_odds_37
            dsimp only
            rw [if_neg (nI_nlt (by omega) (by omega)), ex, Option.bind_some, nI_1, nI_1]
            have hc := hC40 (fun a => o.testBit a)
            have hcn := q_cn_le G o
            dsimp only
            simp only [nI_eq (a := (qCn d s fun a => o.testBit a).1) (b := v) (by omega) (by omega)]
            rw [qcn] at i1
            by_cases hv : (qCn d s fun a => o.testBit a).1 = v
            · rw [if_pos hv]
              rw [if_pos (show G o = true from decide_eq_true hv)] at i1
              exact i1
            · rw [if_neg hv]
              rw [if_neg (show ¬ G o = true by simp [G, hv])] at i1
              exact i1
        have keyY : ∀ m i, i + m = 2 ^ d.1 → ∀ wy, qK uy (zzi wy 11 (nI 0)) → wy.1 11 = nI i → ∀ fy, m < fy → ∃ wy', zzlp (sX5_odds_53 (nI s) (nI v) (nI wh) uy) fy (nI (qcn (fun i => G (2 ^ d.1 - 1 - i)) i), wy) = (fX5_inLeastTerms (nI (qcn (fun i => G (2 ^ d.1 - 1 - i)) (2 ^ d.1))).toInt64 (nI (2 ^ d.1)).toInt64 (nI wh)).bind (fun r => some (r, wy')) ∧ qK uy wy' := by
          intro m
          induction m with
          | zero =>
            intro i hi wy hK hin fy h1
            obtain rfl : i = 2 ^ d.1 := by omega
            refine ⟨zzi wy 11 (nI 0), ?_, hK⟩
            rw [q_fu (by omega)]
            unfold sX5_odds_53
            dsimp only
            rw [hy.1, hin, q_e4 _ (by omega), if_pos (nI_le (by omega) (by omega))]
            rfl
          | succ m ih =>
            intro i hi wy hK hin fy h1
            have hwy : qY wy d := (q_YK hK hy : qY (zzi wy 11 (nI 0)) d)
            obtain ⟨dk, ey⟩ := q_cenY hwy hn s2 (show i < 32 by omega) hin
            generalize hY1 : qv wy (qCn d s fun a => !i.testBit a) (qNd d s fun a => !i.testBit a) dk = wy1 at ey
            have hK01 : qK wy wy1 := by rw [← hY1]; exact q_Kv _ _ _ _
            have hK1 : qK uy (zzi wy1 11 (nI 0)) := q_Kt hK (q_K11 hK01)
            have hin1 : wy1.1 11 = nI i := (hK01.1 11 (by omega)).trans hin
            obtain ⟨wy', i1, i2⟩ := ih (i + 1) (by omega) (zzi wy1 11 (nI (i + 1))) (by rw [q_zzi]; exact hK1) (by simp [zzi, va_up]) (fy - 1) (by omega)
            refine ⟨wy', ?_, i2⟩
            rw [q_fu (by omega)]
            generalize zzlp (sX5_odds_53 (nI s) (nI v) (nI wh) uy) (fy - 1) = rec at i1 ⊢
            unfold sX5_odds_53
            dsimp only
            rw [hy.1, hin, q_e4 _ (by omega), if_neg (nI_ge (by omega) (by omega)), ey]
            simp only [Option.bind_some, hin1, nI_1, Int32.add_zero]
            have hc := hC40 (fun a => !i.testBit a)
            simp only [nI_eq (a := (qCn d s fun a => !i.testBit a).1) (b := v) (by omega) (by omega)]
            have hG : G (2 ^ d.1 - 1 - i) = decide ((qCn d s fun a => !i.testBit a).1 = v) := by
              show decide ((qCn d s (fun a => (2 ^ d.1 - 1 - i).testBit a)).1 = v) = _
              rw [q_co h5 (by omega)]
            rw [qcn] at i1
            by_cases hv : (qCn d s fun a => !i.testBit a).1 = v
            · rw [if_pos hv]
              rw [if_pos (show G (2 ^ d.1 - 1 - i) = true by rw [hG]; exact decide_eq_true hv)] at i1
              exact i1
            · rw [if_neg hv]
              rw [if_neg (show ¬ G (2 ^ d.1 - 1 - i) = true by rw [hG]; simp [hv])] at i1
              exact i1
        obtain ⟨wx', x1, x2⟩ := keyX (2 ^ d.1) 0 (by omega) ux (q_J0 ux) zzFU (by unfold zzFU; omega)
        obtain ⟨wy', y1, y2⟩ := keyY (2 ^ d.1) 0 (by omega) (zzi uy 11 0) (by rw [q_zzi]; have e11 : nI 0 = uy.1 11 := hrest.2.2.2.2.symm; rw [e11, q_zsi]; exact q_K0 uy) (by simp [zzi, va_up]; rfl) zzFU (by unfold zzFU; omega)
        have hrev := q_cn_rev G (2 ^ d.1) (2 ^ d.1) (Nat.le_refl _)
        rw [Nat.sub_self, qcn, Nat.add_zero] at hrev
        rw [hrev] at y1
        have hle := q_cn_le G (2 ^ d.1)
        obtain ⟨x, o1, o2⟩ := q_o3 d.1 (by omega) hn (qcn G (2 ^ d.1)) (by omega) hle wh (by omega)
        rw [show zzFU = 1000 from rfl] at x1
        rw [o1] at x1
        rw [o2] at y1
        exact ⟨x, wx', wy', x1, y1, q_RJK h x2 y2⟩
    · rw [if_pos (show p2 < (0 : Int32) ∨ (1 : Int32) < p2 from hb)]
      have ex : ∀ r : Option (Int64 × zzS), (if p2 < 0 then some (((-9223372036854775808) : Int64), ux) else (if p2 ≤ (1 : Int32) then r else some (((-9223372036854775808) : Int64), ux))) = some (((-9223372036854775808) : Int64), ux) := by
        intro r
        by_cases h1 : p2 < 0
        · rw [if_pos h1]
        · rw [if_neg h1, if_neg (show ¬ p2 ≤ (1 : Int32) from q_nle (n := 1) (by decide) (hb.resolve_left h1))]
      rw [ex]
      refine ⟨_, _, _, ?_, rfl, h⟩
      split <;> rfl
  · rw [e1, e2]
    exact ⟨_, _, _, rfl, rfl, h⟩
  · rw [e1, e2]
    simp only [Option.bind_some, if_neg q_10, e3]
    exact ⟨_, _, _, rfl, rfl, h⟩
end QP
