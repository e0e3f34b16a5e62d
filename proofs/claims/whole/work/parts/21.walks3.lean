/-! ===== pure part 12: walks, joined ===== -/
section QP
variable {ux uy : zzS}
theorem q_walkM (h : qR ux uy) {d : qD} (hx : qX 0 ux d) (hy : qY uy d) (hn0 : ¬ d.1 = 0) {j sz a n s v : Nat} (hj : j < 4) (hsz : sz ≤ 60) (hs : ux.1 (15 + 3 * j) = nI sz) (ham : a + 2 * n ≤ sz) (hn : n ≤ 20) (hs3 : s ≤ 3) (hv : v ≤ 3 ∨ 10 ≤ v ∧ v ≤ 14) (p2 : Int32) : qE ((fX4_refusalOfPairs j ux (nI a) (nI n)).bind (fun r25 => if r25 = 0 then (fX4_walkOnTrial j ux (nI a) (nI n)).bind (fun r27 => (fX4_behindWalks r27.2 (nI s) r27.1 (nI v)).bind (fun r28 => some (r28.1, r28.2))) else some (r25, ux))) (zzlp (sX5_walks_112 (nI s) (nI j) p2 (nI a) (nI n) (nI v) uy) zzFU (0 : Int32)) := by
  have h5 := hx.2.2.2.1
  rcases q_pairs h hx hy hj hsz hs ham (nI s) p2 (nI v) with ⟨c, c0, e1, e2⟩ | ⟨hvp, e1, e2⟩
  · rw [e1, e2, Option.bind_some, if_neg c0]
    exact ⟨_, _, _, rfl, rfl, h⟩
  · rw [e1, e2, Option.bind_some, if_pos rfl]
    obtain ⟨wk, k1, hKk, hkept⟩ := q_kept (uy := uy) (n := d.1) h5 hy.1 (nI s) (nI j) p2 (nI a) (nI n) (nI v)
    rw [k1]
    obtain ⟨w0, e0, hJ0, hX0⟩ := q_become hx
    have hYk : qY wk d := q_YK hKk hy
    have hWk : qWk d ux uy w0 (zzi wk 25 0) d := by
      refine ⟨rfl, hX0, hYk, hJ0, ⟨fun t ht => ?_, fun t ht => ?_⟩, fun b hb => ?_, hkept⟩
      · have h25 : ¬ t = 25 := by omega
        simp only [zzi, va_up, h25, if_false]
        exact hKk.1 t ht
      · by_cases h9 : t = 9
        · subst h9; simp [va_up]
        · simp only [zzi, va_up, h9, if_false]
          exact hKk.2 t ht
      · show wk.2 9 b = uy.2 9 b
        rw [hKk.2 9 (by omega)]
    have hgo := q_goW h hx hj hsz hs ham hn hvp n 0 (by omega) 0 d w0 (zzi wk 25 0) (by omega) hWk rfl zzFU zzFU (by unfold zzFU; omega) (by unfold zzFU; omega)
    unfold fX4_walkOnTrial fX5_goWalks
    rw [e0, Option.bind_some]
    have hi := h.2.2.2.2.2
    have hst := hy.1
    rcases hgo with ⟨q, d', wx', wy', hq, x1, y1, hW'⟩ | ⟨S, d', wx', wy', hS, x1, y1, h25, hW'⟩
    · rw [show zzlp (sX4_walkOnTrial_17 (nI a) (nI n) j) zzFU ((0 : Int32), (0 : Int32), w0) = some ((-100 : Int32) - nI q, wx') from x1, show zzlp (sX5_goWalks_7 ((60 : Int32) * nI j + nI a) (nI n)) zzFU ((0 : Int32), zzi wk 25 0) = some (nI q, wy') from y1, Option.bind_some, Option.bind_some]
      obtain ⟨t, wy2, t1, t2, -⟩ := q_tell2 (S := 0) (by omega) hi hW' hs3 hv
      dsimp only
      rw [t1, Option.bind_some]
      obtain ⟨wy3, r1, r2⟩ := q_rest h5 hst (nI s) (nI j) p2 (nI a) (nI n) (nI v) (nI q, wy') (t, wy2) t2
      rw [r1]
      obtain ⟨b1, b2, b3⟩ := q_w2 q hq
      dsimp only
      rw [if_neg b3]
      unfold fX4_behindWalks
      rw [b2, if_neg b1, if_neg b1]
      by_cases hv1 : nI v = (1 : Int32)
      · rw [if_pos hv1, if_pos hv1]
        exact ⟨_, _, _, rfl, rfl, q_RJK h hW'.2.2.2.1 r2⟩
      · rw [if_neg hv1, if_neg hv1]
        exact ⟨_, _, _, rfl, rfl, q_RJK h hW'.2.2.2.1 r2⟩
    · rw [show zzlp (sX4_walkOnTrial_17 (nI a) (nI n) j) zzFU ((0 : Int32), (0 : Int32), w0) = some (nI S, wx') from x1, show zzlp (sX5_goWalks_7 ((60 : Int32) * nI j + nI a) (nI n)) zzFU ((0 : Int32), zzi wk 25 0) = some ((-9 : Int32), wy') from y1, Option.bind_some, Option.bind_some]
      obtain ⟨t, wy2, t1, t2, t3⟩ := q_tell2 (S := S) (by omega) hi hW' hs3 hv
      dsimp only
      rw [t1, Option.bind_some]
      obtain ⟨wy3, r1, r2⟩ := q_rest h5 hst (nI s) (nI j) p2 (nI a) (nI n) (nI v) ((-9 : Int32), wy') (t, wy2) t2
      rw [r1]
      dsimp only
      rw [if_pos rfl]
      by_cases hv1 : v = 1
      · subst hv1
        rw [if_pos (show nI 1 = (1 : Int32) from rfl)]
        unfold fX4_behindWalks
        rw [if_pos (show nI 1 = (1 : Int32) from rfl), if_pos (show (0 : Int32) ≤ nI S from nI_pos' (by omega))]
        exact ⟨_, _, _, rfl, rfl, q_RJK h hW'.2.2.2.1 r2⟩
      · obtain ⟨wx2, u1, u2⟩ := t3 h25 (by omega) hv1
        have hne : ¬ nI v = (1 : Int32) := fun e => hv1 ((nI_eq (b := 1) (by omega) (by decide)).mp e)
        rw [u1, if_neg hne]
        exact ⟨_, _, _, rfl, rfl, q_RJK h u2 r2⟩
theorem e_walks (h : qR ux uy) (p0 p1 p2 p3 p4 p5 : Int32) : qE (fX4_walks ux p0 p1 p2 p3 p4 p5) (fX5_walks uy p0 p1 p2 p3 p4 p5) := by
  have h0 := q_R0 h 0
  obtain ⟨d, hx, hy⟩ := id h0.1
  unfold fX4_walks fX5_walks
  rcases q_shk p1 with ⟨j, hj, rfl, e1, e2⟩ | ⟨e1, e2⟩
  · rw [e1, e2, Option.bind_some, if_neg q_10]
    simp only [zzop]
    rcases q_sun p0 with ⟨⟨s, s1, s2, rfl⟩, e3, e4⟩ | ⟨e3, e4⟩
    · rw [e3, e4, Option.bind_some, Option.bind_some, if_neg q_10, if_neg q_10]
      rcases q_lane p2 with ⟨⟨l2, l3, rfl⟩, e5, e6⟩ | ⟨e5, e6⟩
      · rw [e5, e6, Option.bind_some, Option.bind_some, if_neg q_10, if_neg q_10, q_win p4]
        rcases q_rng p4 0 20 (by decide) (by decide) with ⟨n, n0, n1, rfl⟩ | hbad
        · have w1 : ¬ (nI n < (0 : Int32) ∨ (20 : Int32) < nI n) := by
            rintro (hz | hz)
            · exact nI_pos (by omega) hz
            · exact nI_nlt (show n ≤ 20 from n1) (by omega) hz
          rw [if_neg (fun hz => w1 (Or.inl hz)), if_neg (fun hz => w1 (Or.inr hz)), if_neg w1, Option.bind_some, if_neg q_10]
          rcases q_ask p5 with ⟨v, hv, rfl, a1, a2⟩ | ⟨a1, a2, a3⟩
          · rw [a1, Option.bind_some, if_neg q_10]
            have hY : ∀ (A B : Option (Int32 × zzS)), ((fX5_within (nI v) (0 : Int32) (3 : Int32)).bind (fun r9 => if r9 = 0 then (fX5_within (nI v) (10 : Int32) (14 : Int32)).bind (fun r46 => if r46 = 0 then A else B) else B)) = B := by
              intro A B
              rcases a2 with b1 | ⟨b1, b2⟩
              · rw [b1]; rfl
              · rw [b1, b2]; rfl
            rw [hY]
            unfold sX5_walks_64
            have h2n : (2 : Int32) * nI n = nI (2 * n) := by rw [q_k2, pk_mul]
            rw [h2n]
            rcases q_ag h0 hj l3 p3 (nI (2 * n)) with ⟨f, hf, g1, g2⟩ | ⟨g1, sz, hsz, hs, g2⟩
            · have hf0 : ¬ f = 0 := by rcases hf with rfl | rfl <;> decide
              rw [g1, g2, Option.bind_some, Option.bind_some, if_neg hf0, if_neg hf0, if_neg hf0]
              exact ⟨_, _, _, rfl, rfl, q_R0 h0 f⟩
            · rw [g1, Option.bind_some, if_pos rfl, if_pos rfl]
              rcases g2 with ⟨b1, b2⟩ | ⟨b0, b1, b2⟩ | ⟨a, m, rfl, hm, ham, b1, b2⟩
              · exact absurd b1 (nI_pos (by omega))
              · rw [b1, b2, Option.bind_some, Option.bind_some, if_pos rfl, if_neg (by decide), if_neg (by decide)]
                exact ⟨_, _, _, rfl, rfl, q_R0 h0 3⟩
              · have hm2 : 2 * n = m ∨ ¬ m < 2 ^ 31 := by
                  by_cases hlt : m < 2 ^ 31
                  · left; exact (nI_eq (by omega) hlt).mp hm
                  · right; exact hlt
                have ham' : a + 2 * n ≤ sz := by rcases hm2 with e | e <;> omega
                rw [b1, b2, Option.bind_some, Option.bind_some, if_neg q_10, if_pos rfl, q_laid hx, Option.bind_some]
                simp only [q_st0 hy]
                by_cases hd0 : d.1 = 0
                · rw [if_pos hd0, if_pos hd0, if_pos rfl]
                  exact ⟨_, _, _, rfl, rfl, h0⟩
                · rw [if_neg hd0, if_neg hd0, if_neg q_10]
                  exact q_walkM h0 hx hy hd0 hj hsz hs ham' n1 s2 hv (nI l2)
          · rw [a1, a2, Option.bind_some, Option.bind_some, if_pos rfl, if_pos rfl, a3]
            exact ⟨_, _, _, rfl, rfl, h0⟩
        · rw [if_pos (show p4 < (0 : Int32) ∨ (20 : Int32) < p4 from hbad)]
          refine ⟨-2, zzi ux 12 0, zzi uy 0 0, ?_, rfl, h0⟩
          by_cases c1 : p4 < 0
          · rw [if_pos c1]
          · rw [if_neg c1, if_pos (show (20 : Int32) < p4 from hbad.resolve_left c1)]
      · rw [e5, e6]
        exact ⟨_, _, _, rfl, rfl, h0⟩
    · rw [e3, e4]
      exact ⟨_, _, _, rfl, rfl, h0⟩
  · rw [e1, e2]
    exact ⟨_, _, _, rfl, rfl, h0⟩
end QP
