/-! ===== the law: calls with another world kept ===== -/
theorem zz_aps {a b : va_W} (h : zzAp a b) : zzAp b a := fun i j x y hx hy e => h j i y x hy hx e.symm
section LcCall
variable {p : Program} {l : Launch} {e : Env} {R : Room} {s : State} {m : MethodId} {args : Array Value} {below : List Frame} {meth : Method} {c : Code} {H : Heap} {locs : List Loc} {cells slots : Nat} {Q : State → Prop} {g : zzG} {cc : ByteArray} {mL : Nat} {own : String} {ws : List Cond} {A : Nat → Prop} {w w' wr : va_W} {y : MethodName} {wy : List Cond} {rm : Room} {bytes : ByteArray} {maxL n index : Nat} {ret : Option FieldType} {Cn : String} {As rest st0 : List Value} {b ci pc : Nat} {fs : List Value} {qc : vw_C} {ls : Array Slot}
theorem lc_cVi {r : Int32} (C : zzC g p s m args c cc mL own ws A) (hP : va_P g.1 vwCl w H) (hD : va_D A w) (hPr : va_P g.1 vwCl wr H) (hap : zzAp wr w) (hS : va_S A s.heap H locs) (ct : zzI l g y wy rm (.ref b :: As) w w' H.size r) (hG : GoodIn ws (wsV own index Cn y wy)) (hM : zzM y wy bytes maxL ret Cn n) (hR : rm.frames + 1 ≤ R.frames ∧ 8 + (maxL + 11) + rm.locals ≤ R.locals ∧ rm.cells = 0 ∧ rm.slots = 0) (hcs : cells ≤ R.cells ∧ slots ≤ R.slots) (q0 : Nat) (he : w[q0]? = some (b, .inr (ci, fs))) (hc : vwCl[ci]? = some qc) (hcn : qc.1 = Cn) (hn : As.length = n) (hst : st0 = As.reverse ++ .ref b :: rest) (hl : ls.size = mL) (hroom : (rest.map fun v => v.category).sum ≤ 8) (hdg : decode cc pc = .ok (.invokevirtual index, 3))
    (kk : ∀ (H : Heap) (locs : List Loc), va_P g.1 vwCl w' H → va_D A w' → va_P g.1 vwCl wr H → zzAp wr w' → va_S A s.heap H locs → W p l e R s m args below meth c H locs cells slots Q (F0 m (pc + 3) ls (.int r :: rest))) : W p l e R s m args below meth c H locs cells slots Q (F0 m pc ls st0) := by
  obtain ⟨⟨ws', hw⟩, hM⟩ := hM
  subst hcn
  refine va_calli (va_runV (As := As) (rest := rest) C.1 ct (cwV n C.1.2.2.2.2 hG hw hR.2.2.1 hR.2.2.2 hM ⟨hR.1, hR.2.1⟩) ⟨zz_blind, va_recv C.2.1 hP hc he, zz_pre C hP hD⟩ rfl hn hl hst (lv_room hroom) hdg hcs) hS (fun q _ h => zz_fr C hD hS q h) (zz_fr C hD hS) (fun r2 u t H1 locs ht hvm hw2 hB hz1 hk1 hS1 => ?_)
  obtain ⟨hP1, hK1, hD1⟩ := hB
  subst hw2
  rw [ht] at hP1
  obtain ⟨k1, k2⟩ := zz_keep hPr hap hk1 hD1
  exact kk H1 locs hP1 (zz_wk C hD hS hD1) k1 k2 hS1
theorem lc_cVl {r : Int64} (C : zzC g p s m args c cc mL own ws A) (hP : va_P g.1 vwCl w H) (hD : va_D A w) (hPr : va_P g.1 vwCl wr H) (hap : zzAp wr w) (hS : va_S A s.heap H locs) (ct : zzL l g y wy rm (.ref b :: As) w w' H.size r) (hG : GoodIn ws (wsV own index Cn y wy)) (hM : zzM y wy bytes maxL ret Cn n) (hR : rm.frames + 1 ≤ R.frames ∧ 8 + (maxL + 11) + rm.locals ≤ R.locals ∧ rm.cells = 0 ∧ rm.slots = 0) (hcs : cells ≤ R.cells ∧ slots ≤ R.slots) (q0 : Nat) (he : w[q0]? = some (b, .inr (ci, fs))) (hc : vwCl[ci]? = some qc) (hcn : qc.1 = Cn) (hn : As.length = n) (hst : st0 = As.reverse ++ .ref b :: rest) (hl : ls.size = mL) (hroom : (rest.map fun v => v.category).sum ≤ 8) (hdg : decode cc pc = .ok (.invokevirtual index, 3))
    (kk : ∀ (H : Heap) (locs : List Loc), va_P g.1 vwCl w' H → va_D A w' → va_P g.1 vwCl wr H → zzAp wr w' → va_S A s.heap H locs → W p l e R s m args below meth c H locs cells slots Q (F0 m (pc + 3) ls (.long r :: rest))) : W p l e R s m args below meth c H locs cells slots Q (F0 m pc ls st0) := by
  obtain ⟨⟨ws', hw⟩, hM⟩ := hM
  subst hcn
  refine va_calll (va_runV (As := As) (rest := rest) C.1 ct (cwV n C.1.2.2.2.2 hG hw hR.2.2.1 hR.2.2.2 hM ⟨hR.1, hR.2.1⟩) ⟨zz_blind, va_recv C.2.1 hP hc he, zz_pre C hP hD⟩ rfl hn hl hst (lv_room hroom) hdg hcs) hS (fun q _ h => zz_fr C hD hS q h) (zz_fr C hD hS) (fun r2 u t H1 locs ht hvm hw2 hB hz1 hk1 hS1 => ?_)
  obtain ⟨hP1, hK1, hD1⟩ := hB
  subst hw2
  rw [ht] at hP1
  obtain ⟨k1, k2⟩ := zz_keep hPr hap hk1 hD1
  exact kk H1 locs hP1 (zz_wk C hD hS hD1) k1 k2 hS1
end LcCall
