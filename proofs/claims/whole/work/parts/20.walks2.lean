/-! ===== pure part 11: walks, the whole ===== -/
section QP
variable {ux uy : zzS}
/-- a pair of the row is one to be walked -/
def qvp (c : Nat → Int32) (n a k : Nat) : Prop := ∃ A B : Nat, A < n ∧ B ≤ 9 ∧ c (a + 2 * k) = nI A ∧ c (a + 2 * k + 1) = nI B
theorem q_pairs (h : qR ux uy) {d : qD} (hx : qX 0 ux d) (hy : qY uy d) {j sz a n : Nat} (hj : j < 4) (hsz : sz ≤ 60) (hs : ux.1 (15 + 3 * j) = nI sz) (ham : a + 2 * n ≤ sz) (p0 p2 p5 : Int32) : (∃ c : Int32, ¬ c = 0 ∧ fX4_refusalOfPairs j ux (nI a) (nI n) = some c ∧ zzlp (sX5_walks_112 p0 (nI j) p2 (nI a) (nI n) p5 uy) zzFU (0 : Int32) = some (c, uy)) ∨ ((∀ k, k < n → qvp (ux.2 (8 + j)) d.1 a k) ∧ fX4_refusalOfPairs j ux (nI a) (nI n) = some 0 ∧ zzlp (sX5_walks_112 p0 (nI j) p2 (nI a) (nI n) p5 uy) zzFU (0 : Int32) = zzlp (sX5_walks_172 p0 (nI j) p2 (nI a) (nI n) p5) zzFU ((0 : Int32), uy)) := by
  have h5 := hx.2.2.2.1
  have hc := (q_Hj h hj).1
  unfold fX4_refusalOfPairs
  have key : ∀ m k, k + m = n → ∀ fx fy, m < fx → m < fy → (∃ c : Int32, ¬ c = 0 ∧ zzlp (sX4_refusalOfPairs_3 (nI a) (nI n) j ux) fx (nI k) = some c ∧ zzlp (sX5_walks_112 p0 (nI j) p2 (nI a) (nI n) p5 uy) fy (nI k) = some (c, uy)) ∨ ((∀ k', k ≤ k' → k' < n → qvp (ux.2 (8 + j)) d.1 a k') ∧ zzlp (sX4_refusalOfPairs_3 (nI a) (nI n) j ux) fx (nI k) = some 0 ∧ zzlp (sX5_walks_112 p0 (nI j) p2 (nI a) (nI n) p5 uy) fy (nI k) = zzlp (sX5_walks_172 p0 (nI j) p2 (nI a) (nI n) p5) zzFU ((0 : Int32), uy)) := by
    intro m
    induction m with
    | zero =>
      intro k hk fx fy h1 h2
      right
      refine ⟨fun k' h3 h4 => by omega, ?_, ?_⟩
      · rw [q_fu (by omega)]
        unfold sX4_refusalOfPairs_3
        rw [if_pos (nI_le (by omega) (by omega))]
      · rw [q_fu (by omega)]
        unfold sX5_walks_112
        rw [if_pos (nI_le (by omega) (by omega))]
    | succ m ih =>
      intro k hk fx fy h1 h2
      have ih' := ih (k + 1) (by omega) (fx - 1) (fy - 1) (by omega) (by omega)
      rw [q_fu (show 0 < fx by omega), q_fu (show 0 < fy by omega)]
      generalize zzlp (sX4_refusalOfPairs_3 (nI a) (nI n) j ux) (fx - 1) = recx at ih' ⊢
      generalize zzlp (sX5_walks_112 p0 (nI j) p2 (nI a) (nI n) p5 uy) (fy - 1) = recy at ih' ⊢
      unfold sX4_refusalOfPairs_3 sX5_walks_112
      rw [if_neg (nI_ge (by omega) (by omega)), if_neg (nI_ge (by omega) (by omega)), q_w3, nI_1, q_at hs hsz (by omega), q_at hs hsz (by omega), q_ix, q_w3, nI_1, nI_1, q_ga (by omega) (by decide), q_ga (by omega) (by decide), Option.bind_some, Option.bind_some]
      rw [show uy.2 4 (60 * j + a + 2 * k) = ux.2 (8 + j) (a + 2 * k) by rw [hc _ (by omega)]; exact congrArg _ (by omega), show uy.2 4 (60 * j + a + 2 * k + 1) = ux.2 (8 + j) (a + 2 * k + 1) by rw [hc _ (by omega)]; exact congrArg _ (by omega)]
      rcases q_who d (ux.2 (8 + j) (a + 2 * k)) with ⟨A, hA, eA⟩ | hw
      · rw [eA, q_has1 hx hA, q_isS1 hy hA, Option.bind_some, Option.bind_some, if_neg q_10, if_neg q_10]
        rcases q_dig (ux.2 (8 + j) (a + 2 * k + 1)) with ⟨⟨B, hB, eB⟩, e1, e2⟩ | ⟨e1, e2⟩
        · rw [e1, e2, Option.bind_some, Option.bind_some, if_neg q_10, if_neg q_10]
          rcases ih' with i1 | ⟨i1, i2⟩
          · exact Or.inl i1
          · refine Or.inr ⟨fun k' h3 h4 => ?_, i2⟩
            by_cases hkk : k' = k
            · subst hkk; exact ⟨A, B, hA, hB, eA, eB⟩
            · exact i1 k' (by omega) h4
        · rw [e1, e2]
          exact Or.inl ⟨-2, by decide, rfl, rfl⟩
      · rw [q_has0 hx hw, q_isS0 hy hw]
        exact Or.inl ⟨-1, by decide, rfl, rfl⟩
  rcases key n 0 (by omega) zzFU zzFU (by unfold zzFU; omega) (by unfold zzFU; omega) with i1 | ⟨i1, i2⟩
  · exact Or.inl i1
  · exact Or.inr ⟨fun k hk => i1 k (by omega) hk, i2⟩
/-- what both know while they walk -/
def qWk (d0 : qD) (ux uy : zzS) (wx wy : zzS) (d : qD) : Prop := d.1 = d0.1 ∧ qX 1 wx d ∧ qY wy d ∧ qJ ux wx ∧ qP9 d0.1 uy wy
theorem q_goW (h : qR ux uy) {d0 : qD} (hx0 : qX 0 ux d0) {j sz a n : Nat} (hj : j < 4) (hsz : sz ≤ 60) (hs : ux.1 (15 + 3 * j) = nI sz) (ham : a + 2 * n ≤ sz) (hn : n ≤ 20) (hv : ∀ k, k < n → qvp (ux.2 (8 + j)) d0.1 a k) : ∀ m k, k + m = n → ∀ (S : Nat) (d : qD) (wx wy : zzS), S ≤ 9 * k → qWk d0 ux uy wx wy d → wy.1 25 = nI S → ∀ fx fy, m < fx → m < fy → (∃ (q : Nat) (d' : qD) (wx' wy' : zzS), q < 20 ∧ zzlp (sX4_walkOnTrial_17 (nI a) (nI n) j) fx (nI S, nI k, wx) = some ((-100 : Int32) - nI q, wx') ∧ zzlp (sX5_goWalks_7 ((60 : Int32) * nI j + nI a) (nI n)) fy (nI k, wy) = some (nI q, wy') ∧ qWk d0 ux uy wx' wy' d') ∨ (∃ (S' : Nat) (d' : qD) (wx' wy' : zzS), S' ≤ 9 * n ∧ zzlp (sX4_walkOnTrial_17 (nI a) (nI n) j) fx (nI S, nI k, wx) = some (nI S', wx') ∧ zzlp (sX5_goWalks_7 ((60 : Int32) * nI j + nI a) (nI n)) fy (nI k, wy) = some ((-9 : Int32), wy') ∧ wy'.1 25 = nI S' ∧ qWk d0 ux uy wx' wy' d') := by
  have h5 := hx0.2.2.2.1
  have hc := (q_Hj h hj).1
  intro m
  induction m with
  | zero =>
    intro k hk S d wx wy hS hW h25 fx fy h1 h2
    right
    refine ⟨S, d, wx, wy, by omega, ?_, ?_, h25, hW⟩
    · rw [q_fu (by omega)]
      unfold sX4_walkOnTrial_17
      dsimp only
      rw [if_pos (nI_le (by omega) (by omega))]
    · rw [q_fu (by omega)]
      unfold sX5_goWalks_7
      dsimp only
      rw [if_pos (nI_le (by omega) (by omega))]
  | succ m ih =>
    intro k hk S d wx wy hS hW h25 fx fy h1 h2
    obtain ⟨hd, hX, hY, hJ, hP⟩ := id hW
    obtain ⟨A, B, hA, hB, eA, eB⟩ := hv k (by omega)
    have hA' : A < d.1 := by omega
    have hs' : wx.1 (15 + 3 * j) = nI sz := (hJ.1 _ (by omega)).trans hs
    have hr8 : wx.2 (8 + j) = ux.2 (8 + j) := hJ.2 _ (by omega)
    have hr4 : wy.2 4 = uy.2 4 := by
      have := hP.1.2 4 (by omega)
      simpa [va_up] using this
    have hF := (hX.2.2.2.2.2.2.2 A (by omega))
    have hFy := (hY.2.2.2.2.2.2.2 A (by omega))
    obtain ⟨ab1, ab2⟩ := q_w1 B (by omega) (d.2.2.2.2.1 A) (by have := hF.2.2.2.2.1; omega)
    have hq9 : qad B (d.2.2.2.2.1 A) ≤ 9 := by
      have := hF.2.2.2.2.1
      unfold qad
      omega
    have hW' : qWk d0 ux uy (zza wx 4 A (nI B)) (zza (zzi wy 25 (nI S + nI (qad B (d.2.2.2.2.1 A)))) 9 A (nI B)) (qdF d A B) := by
      refine ⟨hd, q_SF hX A hB, q_SF hY A hB, q_Jz3 (r := 4) hJ (by omega), ⟨fun t ht => ?_, fun t ht => ?_⟩, fun b hb => ?_, fun c hc => hP.2.2 c hc⟩
      · have e := hP.1.1 t ht
        have h25 : ¬ t = 25 := by omega
        simp only [zza, zzi, va_up, h25, if_false]
        exact e
      · have e := hP.1.2 t ht
        by_cases h9 : t = 9
        · subst h9; simp [va_up]
        · simp only [zza, zzi, va_up, h9, if_false] at e ⊢
          exact e
      · show upd (wy.2 9) A (nI B) b = uy.2 9 b
        unfold upd
        rw [if_neg (by omega)]
        exact hP.2.1 b hb
    have ih' := ih (k + 1) (by omega) (S + qad B (d.2.2.2.2.1 A)) (qdF d A B) (zza wx 4 A (nI B)) (zza (zzi wy 25 (nI S + nI (qad B (d.2.2.2.2.1 A)))) 9 A (nI B)) (by omega) hW' (by show nI S + nI (qad B (d.2.2.2.2.1 A)) = _; rw [nI_add]) (fx - 1) (fy - 1) (by omega) (by omega)
    rw [q_fu (show 0 < fx by omega), q_fu (show 0 < fy by omega)]
    generalize zzlp (sX4_walkOnTrial_17 (nI a) (nI n) j) (fx - 1) = recx at ih' ⊢
    generalize zzlp (sX5_goWalks_7 ((60 : Int32) * nI j + nI a) (nI n)) (fy - 1) = recy at ih' ⊢
    unfold sX4_walkOnTrial_17 sX5_goWalks_7
    dsimp only
    rw [if_neg (nI_ge (by omega) (by omega)), if_neg (nI_ge (by omega) (by omega)), q_w3, nI_1, q_at hs' hsz (by omega), q_at hs' hsz (by omega), hr8, eA, eB, Option.bind_some, Option.bind_some, q_has1 hX hA', Option.bind_some, if_neg q_10, q_anX hX hB (by omega), Option.bind_some]
    rw [q_ix, q_w3, nI_1, nI_1, q_ga (n := 240) (i := 60 * j + a + 2 * k) (by omega) (by decide), q_ga (n := 240) (i := 60 * j + a + 2 * k + 1) (by omega) (by decide), hr4, show uy.2 4 (60 * j + a + 2 * k) = nI A by rw [← eA, hc _ (by omega)]; exact congrArg _ (by omega), show uy.2 4 (60 * j + a + 2 * k + 1) = nI B by rw [← eB, hc _ (by omega)]; exact congrArg _ (by omega), q_anY hY hB (by omega), Option.bind_some]
    cases hT : qtr d B A d.1 0 with
    | true =>
      left
      exact ⟨k, d, wx, wy, by omega, rfl, rfl, hW⟩
    | false =>
      rw [if_pos (show qb false = 0 from rfl), if_pos (show qb false = 0 from rfl), q_ga (by omega) (by decide), q_ga (by omega) (by decide), q_pa (by omega) (by decide), q_cl (by omega), show wx.2 4 A = nI (d.2.2.2.2.1 A) from hF.2.1, hFy.2.1, ab1, ab2, Option.bind_some, q_pa (by omega) (by decide), h25]
      rw [nI_add] at ih' ⊢
      exact ih'
theorem q_kept {n : Nat} (hn : n ≤ 5) (hst : uy.1 5 = nI n) (p0 p1 p2 p3 p4 p5 : Int32) : ∃ w, zzlp (sX5_walks_172 p0 p1 p2 p3 p4 p5) zzFU ((0 : Int32), uy) = (fX5_goWalks w ((60 : Int32) * p1 + p3) p4).bind (fun r23 => (fX5_tellWalks r23.2 p0 p5).bind (fun r24 => zzlp (sX5_walks_223 p0 p1 p2 p3 p4 p5 r23 r24) zzFU ((0 : Int32), r24.2))) ∧ qK uy w ∧ (∀ a, a < n → w.2 24 a = uy.2 9 a) := by
  have key : ∀ m a, a + m = n → ∀ w, qK uy w → (∀ b, b < a → w.2 24 b = uy.2 9 b) → ∀ fuel, m < fuel → ∃ w2, zzlp (sX5_walks_172 p0 p1 p2 p3 p4 p5) fuel (nI a, w) = (fX5_goWalks w2 ((60 : Int32) * p1 + p3) p4).bind (fun r23 => (fX5_tellWalks r23.2 p0 p5).bind (fun r24 => zzlp (sX5_walks_223 p0 p1 p2 p3 p4 p5 r23 r24) zzFU ((0 : Int32), r24.2))) ∧ qK uy w2 ∧ (∀ a, a < n → w2.2 24 a = uy.2 9 a) := by
    intro m
    induction m with
    | zero =>
      intro a ha w hK hk fuel hf
      refine ⟨w, ?_, hK, fun b hb => hk b (by omega)⟩
      rw [q_fu (by omega)]
      unfold sX5_walks_172
      dsimp only
      rw [hK.1 5 (by omega), hst, if_pos (nI_le (by omega) (by omega))]
    | succ m ih =>
      intro a ha w hK hk fuel hf
      obtain ⟨w', h1, h2⟩ := ih (a + 1) (by omega) (zza w 24 a (uy.2 9 a)) ⟨hK.1, fun k hk' => by
        have h24 : ¬ k = 24 := by omega
        simp only [zza, va_up, h24, if_false]
        exact hK.2 k hk'⟩ (fun b hb => by
        show upd (w.2 24) a (uy.2 9 a) b = uy.2 9 b
        unfold upd
        by_cases hba : b = a
        · rw [if_pos hba, hba]
        · rw [if_neg hba]; exact hk b (by omega)) (fuel - 1) (by omega)
      refine ⟨w', ?_, h2⟩
      rw [q_fu (by omega)]
      generalize zzlp (sX5_walks_172 p0 p1 p2 p3 p4 p5) (fuel - 1) = rec at h1 ⊢
      unfold sX5_walks_172
      dsimp only
      rw [hK.1 5 (by omega), hst, if_neg (nI_ge (by omega) (by omega)), q_ga (by omega) (by decide), q_pa (by omega) (by decide), q_cl (by omega), hK.2 9 (by omega), nI_1]
      exact h1
  exact key n 0 (by omega) uy (q_K0 uy) (fun b hb => absurd hb (by omega)) zzFU (by unfold zzFU; omega)
theorem q_rest {n : Nat} (hn : n ≤ 5) (hst : uy.1 5 = nI n) (p0 p1 p2 p3 p4 p5 : Int32) (r23 r24 : Int32 × zzS) {w0 : zzS} (hP : qP9 n uy w0) : ∃ w', zzlp (sX5_walks_223 p0 p1 p2 p3 p4 p5 r23 r24) zzFU ((0 : Int32), w0) = some ((if p5 = (1 : Int32) then r23.1 else if r23.1 = (-9 : Int32) then r24.1 else (-100 : Int32) - r23.1), w') ∧ qK uy w' := by
  have key : ∀ m a, a + m = n → ∀ w, qP9 n uy w → (∀ b, b < a → w.2 9 b = uy.2 9 b) → ∀ fuel, m < fuel → ∃ w', zzlp (sX5_walks_223 p0 p1 p2 p3 p4 p5 r23 r24) fuel (nI a, w) = some ((if p5 = (1 : Int32) then r23.1 else if r23.1 = (-9 : Int32) then r24.1 else (-100 : Int32) - r23.1), w') ∧ qK uy w' := by
    intro m
    induction m with
    | zero =>
      intro a ha w hw hk fuel hf
      have h9 : w.2 9 = uy.2 9 := funext (fun b => by
        by_cases hb : b < a
        · exact hk b hb
        · exact hw.2.1 b (by omega))
      have hKw : qK uy w := by
        refine ⟨hw.1.1, fun k hk' => ?_⟩
        have e := hw.1.2 k hk'
        by_cases hk9 : k = 9
        · subst hk9; exact h9
        · simp only [va_up, hk9, if_false] at e
          exact e
      refine ⟨w, ?_, hKw⟩
      rw [q_fu (by omega)]
      unfold sX5_walks_223
      dsimp only
      rw [hKw.1 5 (by omega), hst, if_pos (nI_le (by omega) (by omega))]
      split
      · rfl
      · split <;> rfl
    | succ m ih =>
      intro a ha w hw hk fuel hf
      have h5 : w.1 5 = nI n := (hw.1.1 5 (by omega)).trans hst
      obtain ⟨w', h1, h2⟩ := ih (a + 1) (by omega) (zza w 9 a (uy.2 9 a)) ⟨⟨hw.1.1, fun k hk' => by
        have e := hw.1.2 k hk'
        by_cases hk9 : k = 9
        · subst hk9; simp [va_up]
        · simp only [zza, va_up, hk9, if_false] at e ⊢
          exact e⟩, fun b hb => by
        show upd (w.2 9) a (uy.2 9 a) b = uy.2 9 b
        unfold upd
        rw [if_neg (by omega)]
        exact hw.2.1 b hb, hw.2.2⟩ (fun b hb => by
        show upd (w.2 9) a (uy.2 9 a) b = uy.2 9 b
        unfold upd
        by_cases hba : b = a
        · rw [if_pos hba, hba]
        · rw [if_neg hba]; exact hk b (by omega)) (fuel - 1) (by omega)
      refine ⟨w', ?_, h2⟩
      rw [q_fu (by omega)]
      generalize zzlp (sX5_walks_223 p0 p1 p2 p3 p4 p5 r23 r24) (fuel - 1) = rec at h1 ⊢
      unfold sX5_walks_223
      dsimp only
      rw [h5, if_neg (nI_ge (by omega) (by omega)), q_ga (by omega) (by decide), q_pa (by omega) (by decide), q_cl (by omega), hw.2.2 a (by omega), nI_1]
      exact h1
  exact key n 0 (by omega) w0 hP (fun b hb => absurd hb (by omega)) zzFU (by unfold zzFU; omega)
/-- what is told behind the walks -/
theorem q_tell2 {d0 d : qD} {wx wy : zzS} (hn0 : 0 < d0.1) (hi : uy.1 11 = nI 0) (hW : qWk d0 ux uy wx wy d) {s v S : Nat} (hs : s ≤ 3) (hv : v ≤ 3 ∨ 10 ≤ v ∧ v ≤ 14) : ∃ (t : Int32) (wy' : zzS), fX5_tellWalks wy (nI s) (nI v) = some (t, wy') ∧ qP9 d0.1 uy wy' ∧ (wy.1 25 = nI S → S ≤ 200 → ¬ v = 1 → ∃ wx', fX4_behindWalks wx (nI s) (nI S) (nI v) = some (t, wx') ∧ qJ ux wx') := by
  obtain ⟨hd, hX, hY, hJ, hP⟩ := hW
  have h5 := hX.2.2.2.1
  have hn : 0 < d.1 := by omega
  have hin : wy.1 11 = nI 0 := (hP.1.1 11 (by omega)).trans hi
  obtain ⟨dk, ey⟩ := q_cenY hY hn hs (by decide) hin
  have ex := q_cntX hX hn hs (q_ev _ hX.2.2.2.1)
  rw [(q_evC d s).1] at ex
  have hP0 : qP9 d0.1 uy (qv wy (qCn d s fun a => !Nat.testBit 0 a) (qNd d s fun a => !Nat.testBit 0 a) dk) := q_P9K hP (q_Kv _ _ _ _) (by simp [qv])
  unfold fX5_tellWalks fX4_behindWalks
  by_cases hv10 : 10 ≤ v
  · rw [if_neg (by rw [q_k10]; exact nI_nlt (by omega) (by omega)), q_w4 v (by omega) hv10]
    simp only [nI_eq (a := v) (b := 0) (by omega) (by omega), show (nI v = (1 : Int32)) ↔ v = 1 from nI_eq (b := 1) (by omega) (by decide), show (nI v = (0 : Int32)) ↔ v = 0 from nI_eq (b := 0) (by omega) (by decide), show (nI v = (2 : Int32)) ↔ v = 2 from nI_eq (b := 2) (by omega) (by decide), show (nI v = (3 : Int32)) ↔ v = 3 from nI_eq (b := 3) (by omega) (by decide)]
    rcases q_who d (nI (v - 10)) with ⟨A, hA, eA⟩ | hw
    · rw [eA, q_isS1 hY hA, q_has1 hX hA, Option.bind_some, Option.bind_some, if_neg q_10, if_neg q_10, q_ga (by omega) (by decide), q_ga (by omega) (by decide), (hY.2.2.2.2.2.2.2 A (by omega)).2.1, show wx.2 4 A = nI (d.2.2.2.2.1 A) from (hX.2.2.2.2.2.2.2 A (by omega)).2.1]
      refine ⟨_, _, rfl, hP, fun h25 hS h1 => ?_⟩
      rw [if_neg h1, if_pos (show (0 : Int32) ≤ nI S from nI_pos' (by omega)), if_neg (by omega), if_neg h1, if_neg (by omega), if_neg (by omega)]
      exact ⟨wx, rfl, hJ⟩
    · rw [q_isS0 hY hw, q_has0 hX hw]
      refine ⟨_, _, rfl, hP, fun h25 hS h1 => ?_⟩
      rw [if_neg h1, if_pos (show (0 : Int32) ≤ nI S from nI_pos' (by omega)), if_neg (by omega), if_neg h1, if_neg (by omega), if_neg (by omega)]
      exact ⟨wx, rfl, hJ⟩
  · rw [if_pos (by rw [q_k10]; exact nI_lt (by omega) (by omega))]
    rcases (show v = 0 ∨ v = 1 ∨ v = 2 ∨ v = 3 by omega) with rfl | rfl | rfl | rfl
    · rw [if_pos (show nI 0 = (0 : Int32) from rfl), ey]
      refine ⟨_, _, rfl, hP0, fun h25 hS h1 => ?_⟩
      rw [if_neg (show ¬ nI 0 = (1 : Int32) by decide), if_pos (show (0 : Int32) ≤ nI S from nI_pos' (by omega)), if_pos (show nI 0 = (0 : Int32) from rfl), q_every hX, Option.bind_some, ex]
      exact ⟨_, rfl, q_Jt hJ (q_Jw _ _ _)⟩
    · rw [if_neg (show ¬ nI 1 = (0 : Int32) by decide), if_neg (show ¬ nI 1 = (2 : Int32) by decide), q_hidY hY hs]
      exact ⟨_, _, rfl, hP, fun h25 hS h1 => absurd rfl h1⟩
    · rw [if_neg (show ¬ nI 2 = (0 : Int32) by decide), if_pos (show nI 2 = (2 : Int32) from rfl)]
      refine ⟨_, _, rfl, hP, fun h25 hS h1 => ?_⟩
      rw [if_neg (show ¬ nI 2 = (1 : Int32) by decide), if_pos (show (0 : Int32) ≤ nI S from nI_pos' (by omega)), if_neg (show ¬ nI 2 = (0 : Int32) by decide), if_neg (show ¬ nI 2 = (1 : Int32) by decide), if_pos (show nI 2 = (2 : Int32) from rfl), h25]
      exact ⟨wx, rfl, hJ⟩
    · rw [if_neg (show ¬ nI 3 = (0 : Int32) by decide), if_neg (show ¬ nI 3 = (2 : Int32) by decide), q_hidY hY hs]
      refine ⟨_, _, rfl, hP, fun h25 hS h1 => ?_⟩
      rw [if_neg (show ¬ nI 3 = (1 : Int32) by decide), if_pos (show (0 : Int32) ≤ nI S from nI_pos' (by omega)), if_neg (show ¬ nI 3 = (0 : Int32) by decide), if_neg (show ¬ nI 3 = (1 : Int32) by decide), if_neg (show ¬ nI 3 = (2 : Int32) by decide), if_pos (show nI 3 = (3 : Int32) from rfl), q_hidX hX hs]
      exact ⟨wx, rfl, hJ⟩
end QP
