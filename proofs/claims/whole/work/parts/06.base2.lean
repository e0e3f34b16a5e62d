/-! ===== base, second part: array rows with a name, a copied row, sheetAt ===== -/
theorem zz_gx {α : Type} {f : Nat → Int32} {n : Nat} {i : Int32} {k : Int32 → Option α} {r : α} (h : zzga f n i k = some r) : ∃ x, vp_in i n ∧ f i.toNatClampNeg = x ∧ k x = some r := by
  obtain ⟨h1, h2⟩ := zz_ga h
  exact ⟨_, h1, rfl, h2⟩
section ZzArr
variable {p : Program} {l : Launch} {e : Env} {R : Room} {s : State} {m : MethodId} {args : Array Value} {below : List Frame} {meth : Method} {c : Code} {H : Heap} {locs : List Loc} {cells slots : Nat} {Q : State → Prop} {cc : ByteArray} {D : va_G} {cl : List vw_C} {tys : List (ClassId × FieldType)} {ws : va_W} {a pc : Nat} {ls : Array Slot} {rest : List Value}
theorem zz_iald (hexec : p.tables.exec = Jvm.exec) (hb : c.code = cc) (hK : va_K D cl tys s) (hP : va_P D cl ws H) (q0 t0 : Nat) {cA : ClassId} {n : Nat} {f : Nat → Int32} (ha : ws[q0]? = some (a, .inl (cA, n, .inl f))) (ht : tys[t0]? = some (cA, .int)) {i x : Int32} (hin : vp_in i n) (hxx : f i.toNatClampNeg = x) (hdg : decode cc pc = .ok (.iaload, 1))
    (kk : W p l e R s m args below meth c H locs cells slots Q (F0 m (pc + 1) ls (.int x :: rest))) : W p l e R s m args below meth c H locs cells slots Q (F0 m pc ls (.int i :: .ref a :: rest)) := by
  subst hxx
  exact va_iald hexec hb hK hP q0 t0 ha ht hin hdg kk
theorem zz_zald (hexec : p.tables.exec = Jvm.exec) (hb : c.code = cc) (hK : va_K D cl tys s) (hP : va_P D cl ws H) (q0 t0 : Nat) {cA : ClassId} {n : Nat} {f : Nat → Int32} (ha : ws[q0]? = some (a, .inl (cA, n, .inl f))) (ht : tys[t0]? = some (cA, .boolean)) {i x : Int32} (hin : vp_in i n) (hxx : f i.toNatClampNeg = x) (hdg : decode cc pc = .ok (.baload, 1))
    (kk : W p l e R s m args below meth c H locs cells slots Q (F0 m (pc + 1) ls (.int x :: rest))) : W p l e R s m args below meth c H locs cells slots Q (F0 m pc ls (.int i :: .ref a :: rest)) := by
  subst hxx
  exact va_zald hexec hb hK hP q0 t0 ha ht hin hdg kk
end ZzArr
def zzac {α : Type} (sp dp n : Int32) (k : Option α) : Option α := if (¬ sp < 0 ∧ ¬ dp < 0 ∧ ¬ n < 0 ∧ sp.toNatClampNeg + n.toNatClampNeg ≤ 60 ∧ dp.toNatClampNeg + n.toNatClampNeg ≤ 60) then k else none
theorem zz_ac {α : Type} {sp dp n : Int32} {k : Option α} {r : α} (h : zzac sp dp n k = some r) : (¬ sp < 0 ∧ ¬ dp < 0 ∧ ¬ n < 0 ∧ sp.toNatClampNeg + n.toNatClampNeg ≤ 60 ∧ dp.toNatClampNeg + n.toNatClampNeg ≤ 60) ∧ k = some r := by
  unfold zzac at h
  split at h
  · rename_i h1
    exact ⟨h1, h⟩
  · cases h
def zzop {α : Type} (o : Option Nat) (a : Option α) (k : Nat → Option α) : Option α := match o with
  | none => a
  | some j => k j
theorem zz_on {α : Type} {o : Option Nat} {a : Option α} {k : Nat → Option α} {r : α} (ho : o = none) (h : zzop o a k = some r) : a = some r := by subst ho; exact h
theorem zz_os {α : Type} {o : Option Nat} {a : Option α} {k : Nat → Option α} {r : α} {j : Nat} (ho : o = some j) (h : zzop o a k = some r) : k j = some r := by subst ho; exact h
def fX4_sheetAt (p0 : Int32) : Option Nat := if p0 < 0 then none else if 4 ≤ p0 then none else some p0.toNatClampNeg
theorem zz_sAlt {p0 : Int32} {j : Nat} (h : fX4_sheetAt p0 = some j) : j < 4 := by
  unfold fX4_sheetAt at h
  split at h
  · cases h
  · split at h
    · cases h
    · rename_i h1 h2
      cases h
      obtain ⟨k, hk, rfl⟩ := nI_of h1
      rw [nI_clamp hk]
      exact Nat.lt_of_not_le (fun h => h2 (nI_le h hk))
abbrev rX4_sheetAt : Room := ({ frames := 0, cells := 0, slots := 0, locals := 0 })
theorem mX4_sheetAt : zzM yX4_sheetAt wsX4_sheetAt cX4_sheetAt 2 (some (.object "SnowCensus$Sheet")) RX4 1 := ⟨⟨_, rfl⟩, by decide +kernel⟩
set_option maxHeartbeats 4000000 in
set_option maxRecDepth 100000 in
theorem kX4_sheetAt (l : Launch) (g : zzG) (q : Nat → Nat) (sz : Nat) (u : zzS) (p0 : Int32) : zzQ l g yX4_sheetAt wsX4_sheetAt rX4_sheetAt [.ref (q 0), .int p0] (zzX g q u) (zzX g q u) sz ((fX4_sheetAt p0).map (fun j => q (14 + 2 * j))) := by
  refine Met.ofW (cc := cX4_sheetAt) (maxL := 2) (ret := some (.object "SnowCensus$Sheet")) (by decide) rfl ?_
  intro p e s m args below meth c s₁ B hml hv
  obtain ⟨rfl, hsz, hP, hK, hD0⟩ := hv
  subst hsz
  have hD := hD0.self (sz := s.heap.size)
  have hx := B.exec
  have hb := B.bytes
  have hr := B.returns
  have hts := atoms_spec (ws := wsX4_sheetAt) B.pre
  have hown : s.vm.findClass RX4 = some m.cls := findClass_of_methodNamed B.named
  have hlocks := B.notSynchronized
  have hS : va_S (va_A (zzX g q u) s.heap.size) s.heap s.heap [] := va_S.rf
  have iX4 : ∀ w ∈ wsX40, w ∈ wsX4_sheetAt := fun _ h => List.mem_cons_of_mem _ (List.mem_append_right _ h)
  have hl := lv_entry ([.ref (q 0), .int p0]) (n := 2) (Nat.le_of_ble_eq_true rfl)
  rw [lg_entry_eq]
  generalize (lg_sl ([.ref (q 0), .int p0]) ++ List.replicate (2 - (lg_sl ([.ref (q 0), .int p0])).length) Slot.unset).toArray = ls at hl ⊢
  have hl : lv_has ls 2 [(0, .ref (q 0)), (1, .int p0)] := hl
  have fin : ∀ (v : Option Nat), v = (fX4_sheetAt p0).map (fun j => q (14 + 2 * j)) → W p l e (headSpec wsX4_sheetAt rX4_sheetAt).room s m [.ref (q 0), .int p0].toArray below meth c s.heap [] 0 0 (MQ below (va_Qq (fun r2 (_ : Unit) => r2 = (fX4_sheetAt p0).map (fun j => q (14 + 2 * j))) (fun _ t => zzB g (zzX g q u) (zzX g q u) s.heap.size t) (va_A (zzX g q u) s.heap.size)) [.ref (q 0), .int p0].toArray s 0 0 (va_A (zzX g q u) s.heap.size)) (F0 m 23 ls [va_rf v]) := by
    intro v hv
    exact W.aret (v := va_rf v) hx hb hr (Or.inl ⟨_, rfl⟩) (va_rf_or v) (fun t ht hW => ⟨⟨v, (), rfl, hv, by rw [ht]; exact hP, va_K.moved hW.alike hK, hD⟩, hS.F ht⟩) hS.2.2 dX4_sheetAt_23
  refine lv_iload_n hx hb dX4_sheetAt_0 rfl (lv_at hl 1 rfl) ?_
  refine lv_if_lt (tgt := 22) hx hb dX4_sheetAt_1 (by decide) (fun c1 => ?_) (fun c1 => ?_)
  · refine lv_null hx hb dX4_sheetAt_22 ?_
    exact fin none (by rw [fX4_sheetAt, if_pos c1]; rfl)
  refine lv_iload_n hx hb dX4_sheetAt_4 rfl (lv_at hl 1 rfl) ?_
  refine lv_aload_n hx hb dX4_sheetAt_5 rfl (lv_at hl 0 rfl) ?_
  refine va_get (D := g.1) (ci := 4) (v := .ref (q 13)) (C := RX4) (T := TX4) (N := 7) hx hb hts iX4 hown hK hP 0 rfl rfl 4 (by decide) (zz_mem hts 1 rfl) (fun _ h9 => h9) rfl dX4_sheetAt_6 ?_
  refine va_alen (v := (4 : Int32)) hx hb hK hP 13 2 rfl rfl rfl dX4_sheetAt_9 ?_
  refine lv_icmp_ge (tgt := 22) hx hb dX4_sheetAt_10 (by decide) (fun c2 => ?_) (fun c2 => ?_)
  · refine lv_null hx hb dX4_sheetAt_22 ?_
    exact fin none (by rw [fX4_sheetAt, if_neg c1, if_pos c2]; rfl)
  have hf : fX4_sheetAt p0 = some p0.toNatClampNeg := by rw [fX4_sheetAt, if_neg c1, if_neg c2]
  have hin : vp_in p0 4 := by
    rintro (h | h)
    · exact c1 h
    · exact absurd (zz_sAlt hf) (Nat.not_lt.mpr h)
  refine lv_aload_n hx hb dX4_sheetAt_13 rfl (lv_at hl 0 rfl) ?_
  refine va_get (D := g.1) (ci := 4) (v := .ref (q 13)) (C := RX4) (T := TX4) (N := 7) hx hb hts iX4 hown hK hP 0 rfl rfl 4 (by decide) (zz_mem hts 1 rfl) (fun _ h9 => h9) rfl dX4_sheetAt_14 ?_
  refine lv_iload_n hx hb dX4_sheetAt_17 rfl (lv_at hl 1 rfl) ?_
  refine va_aldq hx hb hK hP 13 2 rfl rfl hin dX4_sheetAt_18 ?_
  refine lv_goto (tgt := 23) hx hb dX4_sheetAt_19 (by decide) ?_
  exact fin _ (by rw [hf]; rfl)
section ZzSa
variable {p : Program} {l : Launch} {e : Env} {R : Room} {s : State} {m : MethodId} {args : Array Value} {below : List Frame} {meth : Method} {c : Code} {H : Heap} {locs : List Loc} {cells slots : Nat} {Q : State → Prop} {g : zzG} {cc : ByteArray} {mL : Nat} {own : String} {ws : List Cond} {A : Nat → Prop} {w w' : va_W} {y : MethodName} {wy : List Cond} {rm : Room} {bytes : ByteArray} {maxL n index : Nat} {ret : Option FieldType} {Cn : String} {As rest st0 : List Value} {b ci pc : Nat} {fs : List Value} {qc : vw_C} {ls : Array Slot}
theorem zz_sa {p0 : Int32} {q : Nat → Nat} (C : zzC g p s m args c cc mL own ws A) (hP : va_P g.1 vwCl w H) (hD : va_D A w) (hS : va_S A s.heap H locs) (ct : zzQ l g y wy rm (.ref b :: As) w w' H.size ((fX4_sheetAt p0).map (fun j => q (14 + 2 * j)))) (hG : GoodIn ws (wsV own index Cn y wy)) (hM : zzM y wy bytes maxL ret Cn n) (hR : rm.frames + 1 ≤ R.frames ∧ 8 + (maxL + 11) + rm.locals ≤ R.locals ∧ rm.cells = 0 ∧ rm.slots = 0) (hcs : cells ≤ R.cells ∧ slots ≤ R.slots) (q0 : Nat) (he : w[q0]? = some (b, .inr (ci, fs))) (hc : vwCl[ci]? = some qc) (hcn : qc.1 = Cn) (hn : As.length = n) (hst : st0 = As.reverse ++ .ref b :: rest) (hl : ls.size = mL) (hroom : (rest.map fun v => v.category).sum ≤ 8) (hdg : decode cc pc = .ok (.invokevirtual index, 3))
    (k0 : fX4_sheetAt p0 = none → ∀ (H : Heap) (locs : List Loc), va_P g.1 vwCl w' H → va_D A w' → va_S A s.heap H locs → W p l e R s m args below meth c H locs cells slots Q (F0 m (pc + 3) ls (.null :: rest)))
    (k1 : ∀ j, fX4_sheetAt p0 = some j → j < 4 → ∀ (H : Heap) (locs : List Loc), va_P g.1 vwCl w' H → va_D A w' → va_S A s.heap H locs → W p l e R s m args below meth c H locs cells slots Q (F0 m (pc + 3) ls (.ref (q (14 + 2 * j)) :: rest))) : W p l e R s m args below meth c H locs cells slots Q (F0 m pc ls st0) := by
  refine zz_cVq C hP hD hS ct hG hM hR hcs q0 he hc hcn hn hst hl hroom hdg (fun H1 locs1 hP1 hD1 hS1 => ?_)
  cases ho : fX4_sheetAt p0 with
  | none => exact k0 ho H1 locs1 hP1 hD1 hS1
  | some j => exact k1 j ho (zz_sAlt ho) H1 locs1 hP1 hD1 hS1
end ZzSa
theorem zz_n0 : narrow .boolean (.int (0 : Int32)) = .int 0 := rfl
theorem zz_n1 : narrow .boolean (.int (1 : Int32)) = .int 1 := rfl
theorem zz_lk2 {a b oa ob d z : Int} (ha : z ≠ a) (hb : z ≠ b) : Op.lookupswitch.offset [(a, oa), (b, ob)] d z = d := by simp [Op.lookupswitch.offset, ha.symm, hb.symm]
-- what a walk may end with, for loops that stand on their own
abbrev zzRI (l : Launch) (g : zzG) (rm : Room) (cc : ByteArray) (av : List Value) {X : Type} (val : X → Int32) (wf : X → va_W) (x : X) (p : Program) (e : Env) (s : State) (m : MethodId) (below : List Frame) (meth : Method) (c : Code) (A : Nat → Prop) (Q : State → Prop) : Prop := ∀ (pc : Nat) (ls : Array Slot) (H : Heap) (locs : List Loc) (x' : X), some x' = some x → decode cc pc = .ok (.ireturn, 1) → va_P g.1 vwCl (wf x') H → va_D A (wf x') → va_S A s.heap H locs → W p l e rm s m av.toArray below meth c H locs 0 0 Q (F0 m pc ls [.int (val x')])
abbrev zzRZ (l : Launch) (g : zzG) (rm : Room) (cc : ByteArray) (av : List Value) {X : Type} (val : X → Int32) (wf : X → va_W) (x : X) (p : Program) (e : Env) (s : State) (m : MethodId) (below : List Frame) (meth : Method) (c : Code) (A : Nat → Prop) (Q : State → Prop) : Prop := ∀ (pc : Nat) (ls : Array Slot) (H : Heap) (locs : List Loc) (x' : X), some x' = some x → decode cc pc = .ok (.ireturn, 1) → narrow .boolean (.int (val x')) = .int (val x') → va_P g.1 vwCl (wf x') H → va_D A (wf x') → va_S A s.heap H locs → W p l e rm s m av.toArray below meth c H locs 0 0 Q (F0 m pc ls [.int (val x')])
abbrev zzRL (l : Launch) (g : zzG) (rm : Room) (cc : ByteArray) (av : List Value) {X : Type} (val : X → Int64) (wf : X → va_W) (x : X) (p : Program) (e : Env) (s : State) (m : MethodId) (below : List Frame) (meth : Method) (c : Code) (A : Nat → Prop) (Q : State → Prop) : Prop := ∀ (pc : Nat) (ls : Array Slot) (H : Heap) (locs : List Loc) (x' : X), some x' = some x → decode cc pc = .ok (.lreturn, 1) → va_P g.1 vwCl (wf x') H → va_D A (wf x') → va_S A s.heap H locs → W p l e rm s m av.toArray below meth c H locs 0 0 Q (F0 m pc ls [.long (val x')])
abbrev zzRV (l : Launch) (g : zzG) (rm : Room) (cc : ByteArray) (av : List Value) {X : Type} (wf : X → va_W) (x : X) (p : Program) (e : Env) (s : State) (m : MethodId) (below : List Frame) (meth : Method) (c : Code) (A : Nat → Prop) (Q : State → Prop) : Prop := ∀ (pc : Nat) (ls : Array Slot) (H : Heap) (locs : List Loc) (x' : X), some x' = some x → decode cc pc = .ok (.return_, 1) → va_P g.1 vwCl (wf x') H → va_D A (wf x') → va_S A s.heap H locs → W p l e rm s m av.toArray below meth c H locs 0 0 Q (F0 m pc ls [])
