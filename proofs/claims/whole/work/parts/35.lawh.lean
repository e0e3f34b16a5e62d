/-! ===== the law: its cases ===== -/
def lcC (g : zzG) (p : Program) (s : State) (m : MethodId) (c : Code) (b L : Nat) (xs : Nat → Int32) : Prop := zzC g p s m #[Value.ref b] c cL_law 4 RL wsL_law (fun q => s.heap.size ≤ q) ∧ va_X b L xs s s.heap ∧ b < s.heap.size
def lcV (g : zzG) (s : State) (q q' : Nat → Nat) (ux uy : zzS) (H : Heap) (locs : List Loc) : Prop := va_P g.1 vwCl (zzX g q ux) H ∧ va_D (fun q => s.heap.size ≤ q) (zzX g q ux) ∧ va_P g.1 vwCl (zzY g q' uy) H ∧ va_D (fun q => s.heap.size ≤ q) (zzY g q' uy) ∧ zzAp (zzY g q' uy) (zzX g q ux) ∧ va_S (fun q => s.heap.size ≤ q) s.heap H locs
section LcCase
variable {p : Program} {l : Launch} {e : Env} {s : State} {m : MethodId} {below : List Frame} {meth : Method} {c : Code} {H : Heap} {locs : List Loc} {cells slots : Nat} {Q : State → Prop} {g : zzG} {b L i k pc : Nat} {xs : Nat → Int32} {q q' : Nat → Nat} {ux uy : zzS} {ls : Array Slot} {rest : List Value} {n : Int} {kc : Int32}
theorem lc_in {j L : Nat} (h : j < L) (hL : L ≤ 448) : vp_in (nI j) L := by
  rintro (h1 | h1)
  · exact nI_pos (by omega) h1
  · rw [nI_clamp (by omega)] at h1; omega
theorem lc_arg (C : lcC g p s m c b L xs) (hS : va_S (fun q => s.heap.size ≤ q) s.heap H locs) (hn : Int32.ofInt n = kc) (hk : kc = nI k) (hik : i + k < L) (hL : L ≤ 448) (l0 : ls[0]? = some (.val (.ref b))) (l3 : ls[3]? = some (.val (.int (nI i)))) (d0 : decode cL_law pc = .ok (.aload_n 0, 1)) (d1 : decode cL_law (pc + 1) = .ok (.iload_n 3, 1)) (d2 : decode cL_law (pc + 1 + 1) = .ok (.iconst n, 1)) (d3 : decode cL_law (pc + 1 + 1 + 1) = .ok (.iadd, 1)) (d4 : decode cL_law (pc + 1 + 1 + 1 + 1) = .ok (.iaload, 1))
    (kk : W p l e room_1 s m #[Value.ref b] below meth c H locs cells slots Q (F0 m (pc + 1 + 1 + 1 + 1 + 1) ls (.int (xs (i + k)) :: rest))) : W p l e room_1 s m #[Value.ref b] below meth c H locs cells slots Q (F0 m pc ls rest) := by
  have hx := C.1.1.1
  have hb := C.1.1.2.1
  refine lv_aload_n hx hb d0 rfl l0 ?_
  refine lv_iload_n hx hb d1 rfl l3 ?_
  refine lv_iconst hx hb d2 hn ?_
  refine lv_iadd hx hb d3 ?_
  rw [hk, nI_add]
  refine va_sld hx hb C.2.1 C.2.2 (Nat.not_le.mpr C.2.2) hS (lc_in hik hL) d4 ?_
  rw [nI_clamp (by omega)]
  exact kk
theorem lc_argb (C : lcC g p s m c b L xs) (hS : va_S (fun q => s.heap.size ≤ q) s.heap H locs) (hn : (Int8.ofInt n).toInt32 = kc) (hk : kc = nI k) (hik : i + k < L) (hL : L ≤ 448) (l0 : ls[0]? = some (.val (.ref b))) (l3 : ls[3]? = some (.val (.int (nI i)))) (d0 : decode cL_law pc = .ok (.aload_n 0, 1)) (d1 : decode cL_law (pc + 1) = .ok (.iload_n 3, 1)) (d2 : decode cL_law (pc + 1 + 1) = .ok (.bipush n, 2)) (d3 : decode cL_law (pc + 1 + 1 + 2) = .ok (.iadd, 1)) (d4 : decode cL_law (pc + 1 + 1 + 2 + 1) = .ok (.iaload, 1))
    (kk : W p l e room_1 s m #[Value.ref b] below meth c H locs cells slots Q (F0 m (pc + 1 + 1 + 2 + 1 + 1) ls (.int (xs (i + k)) :: rest))) : W p l e room_1 s m #[Value.ref b] below meth c H locs cells slots Q (F0 m pc ls rest) := by
  have hx := C.1.1.1
  have hb := C.1.1.2.1
  refine lv_aload_n hx hb d0 rfl l0 ?_
  refine lv_iload_n hx hb d1 rfl l3 ?_
  refine lv_bipush hx hb d2 hn ?_
  refine lv_iadd hx hb d3 ?_
  rw [hk, nI_add]
  refine va_sld hx hb C.2.1 C.2.2 (Nat.not_le.mpr C.2.2) hS (lc_in hik hL) d4 ?_
  rw [nI_clamp (by omega)]
  exact kk
end LcCase
