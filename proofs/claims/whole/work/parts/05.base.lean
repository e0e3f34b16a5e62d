/-! ===== base: states as numbered ints and numbered rows, worlds, contracts out of decompiled functions, rows for walks ===== -/
abbrev zzS : Type := (Nat → Int32) × (Nat → Nat → Int32)
abbrev zzG : Type := va_G × ClassId × ClassId × ClassId
abbrev zzT (g : zzG) : List (ClassId × FieldType) := [(g.2.1, .int), (g.2.2.1, .boolean), (g.2.2.2, .object "SnowCensus$Sheet")]
def zzi (u : zzS) (k : Nat) (v : Int32) : zzS := (va_up u.1 k v, u.2)
def zza (u : zzS) (k i : Nat) (v : Int32) : zzS := (u.1, va_up u.2 k (upd (u.2 k) i v))
/-- the system's cells -/
def zzX (g : zzG) (q : Nat → Nat) (u : zzS) : va_W := [
  (q 0, .inr (4, [.ref (q 1), .ref (q 5), .ref (q 9), .ref (q 10), .ref (q 13), .int (u.1 11), .int (u.1 12)])),
  (q 1, .inr (3, [.ref (q 2), .ref (q 3), .ref (q 4), .int (u.1 0), .int (u.1 1), .int (u.1 2)])),
  (q 2, .inl (g.2.1, 5, .inl (u.2 0))), (q 3, .inl (g.2.1, 5, .inl (u.2 1))), (q 4, .inl (g.2.1, 5, .inl (u.2 2))),
  (q 5, .inr (3, [.ref (q 6), .ref (q 7), .ref (q 8), .int (u.1 3), .int (u.1 4), .int (u.1 5)])),
  (q 6, .inl (g.2.1, 5, .inl (u.2 3))), (q 7, .inl (g.2.1, 5, .inl (u.2 4))), (q 8, .inl (g.2.1, 5, .inl (u.2 5))),
  (q 9, .inr (1, [.int (u.1 6), .int (u.1 7), .int (u.1 8), .int (u.1 9)])),
  (q 10, .inr (0, [.ref (q 11), .ref (q 12), .int (u.1 10)])),
  (q 11, .inl (g.2.1, 8, .inl (u.2 6))), (q 12, .inl (g.2.1, 8, .inl (u.2 7))),
  (q 13, .inl (g.2.2.2, 4, .inr (.inr (.inr (.inr (fun j => some (q (14 + 2 * j)))))))),
  (q 14, .inr (2, [.ref (q 15), .int (u.1 13), .int (u.1 14), .int (u.1 15)])), (q 15, .inl (g.2.1, 60, .inl (u.2 8))),
  (q 16, .inr (2, [.ref (q 17), .int (u.1 16), .int (u.1 17), .int (u.1 18)])), (q 17, .inl (g.2.1, 60, .inl (u.2 9))),
  (q 18, .inr (2, [.ref (q 19), .int (u.1 19), .int (u.1 20), .int (u.1 21)])), (q 19, .inl (g.2.1, 60, .inl (u.2 10))),
  (q 20, .inr (2, [.ref (q 21), .int (u.1 22), .int (u.1 23), .int (u.1 24)])), (q 21, .inl (g.2.1, 60, .inl (u.2 11)))]
/-- the reference's cells: its rows by their fields' numbers -/
def zzY (g : zzG) (q : Nat → Nat) (u : zzS) : va_W := [
  (q 0, .inr (5, [.int (u.1 0), .int (u.1 1), .ref (q 2), .ref (q 3), .ref (q 4), .int (u.1 5), .int (u.1 6), .int (u.1 7), .ref (q 8), .ref (q 9), .ref (q 10), .int (u.1 11), .int (u.1 12), .int (u.1 13), .int (u.1 14), .int (u.1 15), .ref (q 16), .ref (q 17), .ref (q 18), .ref (q 19), .int (u.1 20), .int (u.1 21), .int (u.1 22), .int (u.1 23), .ref (q 24), .int (u.1 25), .int (u.1 26), .ref (q 27), .ref (q 28)])),
  (q 2, .inl (g.2.1, 4, .inl (u.2 2))), (q 3, .inl (g.2.1, 4, .inl (u.2 3))), (q 4, .inl (g.2.1, 240, .inl (u.2 4))),
  (q 8, .inl (g.2.1, 5, .inl (u.2 8))), (q 9, .inl (g.2.1, 5, .inl (u.2 9))), (q 10, .inl (g.2.1, 5, .inl (u.2 10))),
  (q 16, .inl (g.2.1, 5, .inl (u.2 16))), (q 17, .inl (g.2.1, 5, .inl (u.2 17))), (q 18, .inl (g.2.1, 5, .inl (u.2 18))),
  (q 19, .inl (g.2.2.1, 40, .inl (u.2 19))), (q 24, .inl (g.2.1, 5, .inl (u.2 24))),
  (q 27, .inl (g.2.1, 8, .inl (u.2 27))), (q 28, .inl (g.2.1, 8, .inl (u.2 28)))]
-- places by number: a snow's, a sheet's
theorem zx_sn (g : zzG) (q : Nat → Nat) (u : zzS) {t : Nat} (ht : t < 2) : (zzX g q u)[1 + 4 * t]? = some (q (1 + 4 * t), .inr (3, [.ref (q (2 + 4 * t)), .ref (q (3 + 4 * t)), .ref (q (4 + 4 * t)), .int (u.1 (3 * t)), .int (u.1 (3 * t + 1)), .int (u.1 (3 * t + 2))])) := by
  match t, ht with
  | 0, _ => rfl
  | 1, _ => rfl
theorem zx_sn0 (g : zzG) (q : Nat → Nat) (u : zzS) {t : Nat} (ht : t < 2) : (zzX g q u)[2 + 4 * t]? = some (q (2 + 4 * t), .inl (g.2.1, 5, .inl (u.2 (3 * t)))) := by
  match t, ht with
  | 0, _ => rfl
  | 1, _ => rfl
theorem zx_sn1 (g : zzG) (q : Nat → Nat) (u : zzS) {t : Nat} (ht : t < 2) : (zzX g q u)[3 + 4 * t]? = some (q (3 + 4 * t), .inl (g.2.1, 5, .inl (u.2 (3 * t + 1)))) := by
  match t, ht with
  | 0, _ => rfl
  | 1, _ => rfl
theorem zx_sn2 (g : zzG) (q : Nat → Nat) (u : zzS) {t : Nat} (ht : t < 2) : (zzX g q u)[4 + 4 * t]? = some (q (4 + 4 * t), .inl (g.2.1, 5, .inl (u.2 (3 * t + 2)))) := by
  match t, ht with
  | 0, _ => rfl
  | 1, _ => rfl
theorem zx_sh (g : zzG) (q : Nat → Nat) (u : zzS) {j : Nat} (hj : j < 4) : (zzX g q u)[14 + 2 * j]? = some (q (14 + 2 * j), .inr (2, [.ref (q (15 + 2 * j)), .int (u.1 (13 + 3 * j)), .int (u.1 (14 + 3 * j)), .int (u.1 (15 + 3 * j))])) := by
  match j, hj with
  | 0, _ => rfl
  | 1, _ => rfl
  | 2, _ => rfl
  | 3, _ => rfl
theorem zx_sha (g : zzG) (q : Nat → Nat) (u : zzS) {j : Nat} (hj : j < 4) : (zzX g q u)[15 + 2 * j]? = some (q (15 + 2 * j), .inl (g.2.1, 60, .inl (u.2 (8 + j)))) := by
  match j, hj with
  | 0, _ => rfl
  | 1, _ => rfl
  | 2, _ => rfl
  | 3, _ => rfl
theorem zx_sh1 (g : zzG) (q : Nat → Nat) (u : zzS) {j : Nat} (hj : j < 4) (v : Int32) : (zzX g q u).set (14 + 2 * j) (q (14 + 2 * j), .inr (2, [.ref (q (15 + 2 * j)), .int v, .int (u.1 (14 + 3 * j)), .int (u.1 (15 + 3 * j))])) = zzX g q (zzi u (13 + 3 * j) v) := by
  match j, hj with
  | 0, _ => rfl
  | 1, _ => rfl
  | 2, _ => rfl
  | 3, _ => rfl
theorem zx_sh2 (g : zzG) (q : Nat → Nat) (u : zzS) {j : Nat} (hj : j < 4) (v : Int32) : (zzX g q u).set (14 + 2 * j) (q (14 + 2 * j), .inr (2, [.ref (q (15 + 2 * j)), .int (u.1 (13 + 3 * j)), .int v, .int (u.1 (15 + 3 * j))])) = zzX g q (zzi u (14 + 3 * j) v) := by
  match j, hj with
  | 0, _ => rfl
  | 1, _ => rfl
  | 2, _ => rfl
  | 3, _ => rfl
theorem zx_sh3 (g : zzG) (q : Nat → Nat) (u : zzS) {j : Nat} (hj : j < 4) (v : Int32) : (zzX g q u).set (14 + 2 * j) (q (14 + 2 * j), .inr (2, [.ref (q (15 + 2 * j)), .int (u.1 (13 + 3 * j)), .int (u.1 (14 + 3 * j)), .int v])) = zzX g q (zzi u (15 + 3 * j) v) := by
  match j, hj with
  | 0, _ => rfl
  | 1, _ => rfl
  | 2, _ => rfl
  | 3, _ => rfl
theorem zx_shA (g : zzG) (q : Nat → Nat) (u : zzS) {j : Nat} (hj : j < 4) (f : Nat → Int32) : (zzX g q u).set (15 + 2 * j) (q (15 + 2 * j), .inl (g.2.1, 60, .inl f)) = zzX g q (u.1, va_up u.2 (8 + j) f) := by
  match j, hj with
  | 0, _ => rfl
  | 1, _ => rfl
  | 2, _ => rfl
  | 3, _ => rfl
-- decompiled functions: what is not there is 'none'
def zzga {α : Type} (f : Nat → Int32) (n : Nat) (i : Int32) (k : Int32 → Option α) : Option α := if i < 0 ∨ n ≤ i.toNatClampNeg then none else k (f i.toNatClampNeg)
def zzpa {α : Type} (n : Nat) (i : Int32) (k : Option α) : Option α := if i < 0 ∨ n ≤ i.toNatClampNeg then none else k
def zznz {α : Type} (y : Int32) (k : Option α) : Option α := if y = 0 then none else k
def zznl {α : Type} (y : Int64) (k : Option α) : Option α := if y = 0 then none else k
def zzlp {V α : Type} (step : V → (V → Option α) → Option α) : Nat → V → Option α
  | 0, _ => none
  | n + 1, v => step v (zzlp step n)
def zzFU : Nat := 1000
theorem zz_ga {α : Type} {f : Nat → Int32} {n : Nat} {i : Int32} {k : Int32 → Option α} {r : α} (h : zzga f n i k = some r) : vp_in i n ∧ k (f i.toNatClampNeg) = some r := by
  unfold zzga at h
  split at h
  · cases h
  · rename_i h1
    exact ⟨h1, h⟩
theorem zz_pa {α : Type} {n : Nat} {i : Int32} {k : Option α} {r : α} (h : zzpa n i k = some r) : vp_in i n ∧ k = some r := by
  unfold zzpa at h
  split at h
  · cases h
  · rename_i h1
    exact ⟨h1, h⟩
theorem zz_nz {α : Type} {y : Int32} {k : Option α} {r : α} (h : zznz y k = some r) : ¬ y = 0 ∧ k = some r := by
  unfold zznz at h
  split at h
  · cases h
  · rename_i h1
    exact ⟨h1, h⟩
theorem zz_nl {α : Type} {y : Int64} {k : Option α} {r : α} (h : zznl y k = some r) : ¬ y = 0 ∧ k = some r := by
  unfold zznl at h
  split at h
  · cases h
  · rename_i h1
    exact ⟨h1, h⟩
theorem zz_bs {α β : Type} {x : Option α} {k : α → Option β} {r : β} (h : x.bind k = some r) : ∃ a, x = some a ∧ k a = some r := by
  cases x with
  | none => cases h
  | some a => exact ⟨a, rfl, h⟩
theorem zz_t {α : Type} {c : Prop} [Decidable c] {a b : Option α} {r : α} (h : c) (hf : (if c then a else b) = some r) : a = some r := by rw [if_pos h] at hf; exact hf
theorem zz_f {α : Type} {c : Prop} [Decidable c] {a b : Option α} {r : α} (h : ¬ c) (hf : (if c then a else b) = some r) : b = some r := by rw [if_neg h] at hf; exact hf
theorem zz_lp {V α : Type} {step : V → (V → Option α) → Option α} {r : α} {P : V → Prop} (h : ∀ (v : V) (rec : V → Option α), (∀ v', rec v' = some r → P v') → step v rec = some r → P v) : ∀ (n : Nat) (v : V), zzlp step n v = some r → P v := by
  intro n
  induction n with
  | zero => intro v hv; cases hv
  | succ n ih => intro v hv; exact h v (zzlp step n) ih hv
theorem zz_ne {x c : Int32} (h : ¬ x = c) : x.toInt ≠ c.toInt := fun e => h (Int32.toInt_inj.mp e)
theorem zz_mem {ws : List Cond} {args : Array Value} {s : State} (h : ∀ w ∈ ws, w.before args s = true) (i : Nat) {w : Cond} (hw : ws[i]? = some w) : w.before args s = true := h w (List.mem_of_getElem? hw)
-- contracts
def zzPc (g : zzG) (av : List Value) (w : va_W) (sz : Nat) : Array Value → State → Prop := va_Pc av (fun U => U.heap.size = sz ∧ va_P g.1 vwCl w U.heap ∧ va_K g.1 vwCl (zzT g) U ∧ va_D (fun _ => True) w)
def zzB (g : zzG) (w w' : va_W) (sz : Nat) (t : State) : Prop := va_P g.1 vwCl w' t.heap ∧ va_K g.1 vwCl (zzT g) t ∧ va_D (va_A w sz) w'
def zzI (l : Launch) (g : zzG) (y : MethodName) (wy : List Cond) (rm : Room) (av : List Value) (w w' : va_W) (sz : Nat) (r : Int32) : Prop := Met l y wy rm (zzPc g av w sz) (va_Qi (fun r2 (_ : Unit) => r2 = r) (fun _ t => zzB g w w' sz t) (va_A w sz)) 0 0 (va_A w sz)
def zzZ (l : Launch) (g : zzG) (y : MethodName) (wy : List Cond) (rm : Room) (av : List Value) (w w' : va_W) (sz : Nat) (r : Int32) : Prop := Met l y wy rm (zzPc g av w sz) (va_Qi (fun r2 (_ : Unit) => r2 = r ∧ narrow .boolean (.int r2) = .int r2) (fun _ t => zzB g w w' sz t) (va_A w sz)) 0 0 (va_A w sz)
def zzL (l : Launch) (g : zzG) (y : MethodName) (wy : List Cond) (rm : Room) (av : List Value) (w w' : va_W) (sz : Nat) (r : Int64) : Prop := Met l y wy rm (zzPc g av w sz) (va_Ql (fun r2 (_ : Unit) => r2 = r) (fun _ t => zzB g w w' sz t) (va_A w sz)) 0 0 (va_A w sz)
def zzV (l : Launch) (g : zzG) (y : MethodName) (wy : List Cond) (rm : Room) (av : List Value) (w w' : va_W) (sz : Nat) : Prop := Met l y wy rm (zzPc g av w sz) (va_Qv (fun (_ : Unit) => True) (fun _ t => zzB g w w' sz t) (va_A w sz)) 0 0 (va_A w sz)
def zzQ (l : Launch) (g : zzG) (y : MethodName) (wy : List Cond) (rm : Room) (av : List Value) (w w' : va_W) (sz : Nat) (r : Option Nat) : Prop := Met l y wy rm (zzPc g av w sz) (va_Qq (fun r2 (_ : Unit) => r2 = r) (fun _ t => zzB g w w' sz t) (va_A w sz)) 0 0 (va_A w sz)
def zzC (g : zzG) (p : Program) (s : State) (m : MethodId) (args : Array Value) (c : Code) (cc : ByteArray) (mL : Nat) (own : String) (ws : List Cond) (A : Nat → Prop) : Prop := CallFix p m c cc mL s args ws own ∧ va_K g.1 vwCl (zzT g) s ∧ (∀ q : Nat, s.heap.size ≤ q → A q)
def zzM (y : MethodName) (wy : List Cond) (bytes : ByteArray) (maxL : Nat) (ret : Option FieldType) (Cn : String) (n : Nat) : Prop := (∃ ws', wy = Cond.code y bytes maxL ret :: ws') ∧ y.cls = Cn ∧ y.cls ≠ "java/lang/invoke/MethodHandle" ∧ y.cls ≠ "java/lang/invoke/VarHandle" ∧ (parseMethodDescriptor y.desc).map (fun d => d.parameters.length) = some n
-- a method's walk from its entry
section ZzEntry
variable {l : Launch} {g : zzG} {y : MethodName} {wy ws' : List Cond} {rm : Room} {cc : ByteArray} {mL : Nat} {own : String} {av : List Value} {w : va_W} {sz : Nat}
theorem zz_mi {X : Type} (val : X → Int32) (wf : X → va_W) (x : X) (hy : plainName y.cls = true) (hw : wy = Cond.code y cc mL (some .int) :: ws') (hown : y.cls = own) (hlen : (lg_sl av).length ≤ mL)
    (body : ∀ (p : Program) (e : Env) (s : State) (m : MethodId) (below : List Frame) (meth : Method) (c : Code) (A : Nat → Prop) (Q : State → Prop) (ls : Array Slot), zzC g p s m av.toArray c cc mL own wy A →
      (∀ (pc : Nat) (ls : Array Slot) (H : Heap) (locs : List Loc) (x' : X), some x' = some x → decode cc pc = .ok (.ireturn, 1) → va_P g.1 vwCl (wf x') H → va_D A (wf x') → va_S A s.heap H locs → W p l e rm s m av.toArray below meth c H locs 0 0 Q (F0 m pc ls [.int (val x')])) →
      va_P g.1 vwCl w s.heap → va_D A w → va_S A s.heap s.heap [] → lv_has ls mL (lv_args 0 av) → W p l e rm s m av.toArray below meth c s.heap [] 0 0 Q (F0 m 0 ls [])) : zzI l g y wy rm av w (wf x) sz (val x) := by
  refine Met.ofW (cc := cc) (maxL := mL) (ret := some .int) hy hw ?_
  intro p e s m args below meth c s₁ B hml hv
  obtain ⟨rfl, hsz, hP, hK, hD0⟩ := hv
  subst hsz
  have hD := hD0.self (sz := s.heap.size)
  rw [lg_entry_eq]
  refine body p e s m below meth c (va_A w s.heap.size) _ _ ⟨⟨B.exec, B.bytes, hml, by rw [← hown]; exact findClass_of_methodNamed B.named, atoms_spec B.pre⟩, hK, fun q h => Or.inr h⟩ ?_ hP hD va_S.rf (lv_entry av hlen)
  intro pc ls H locs x' hf hd hP hD hS
  have hlocks := B.notSynchronized
  obtain rfl : x' = x := Option.some.inj hf
  exact W.iret (v := val x') B.exec B.bytes B.returns (fun t ht hW => ⟨⟨val x', (), rfl, rfl, by rw [ht]; exact hP, va_K.moved hW.alike hK, hD⟩, hS.F ht⟩) hS.2.2 hd
theorem zz_mz {X : Type} (val : X → Int32) (wf : X → va_W) (x : X) (hy : plainName y.cls = true) (hw : wy = Cond.code y cc mL (some .boolean) :: ws') (hown : y.cls = own) (hlen : (lg_sl av).length ≤ mL)
    (body : ∀ (p : Program) (e : Env) (s : State) (m : MethodId) (below : List Frame) (meth : Method) (c : Code) (A : Nat → Prop) (Q : State → Prop) (ls : Array Slot), zzC g p s m av.toArray c cc mL own wy A →
      (∀ (pc : Nat) (ls : Array Slot) (H : Heap) (locs : List Loc) (x' : X), some x' = some x → decode cc pc = .ok (.ireturn, 1) → narrow .boolean (.int (val x')) = .int (val x') → va_P g.1 vwCl (wf x') H → va_D A (wf x') → va_S A s.heap H locs → W p l e rm s m av.toArray below meth c H locs 0 0 Q (F0 m pc ls [.int (val x')])) →
      va_P g.1 vwCl w s.heap → va_D A w → va_S A s.heap s.heap [] → lv_has ls mL (lv_args 0 av) → W p l e rm s m av.toArray below meth c s.heap [] 0 0 Q (F0 m 0 ls [])) : zzZ l g y wy rm av w (wf x) sz (val x) := by
  refine Met.ofW (cc := cc) (maxL := mL) (ret := some .boolean) hy hw ?_
  intro p e s m args below meth c s₁ B hml hv
  obtain ⟨rfl, hsz, hP, hK, hD0⟩ := hv
  subst hsz
  have hD := hD0.self (sz := s.heap.size)
  rw [lg_entry_eq]
  refine body p e s m below meth c (va_A w s.heap.size) _ _ ⟨⟨B.exec, B.bytes, hml, by rw [← hown]; exact findClass_of_methodNamed B.named, atoms_spec B.pre⟩, hK, fun q h => Or.inr h⟩ ?_ hP hD va_S.rf (lv_entry av hlen)
  intro pc ls H locs x' hf hd hn hP hD hS
  have hlocks := B.notSynchronized
  obtain rfl : x' = x := Option.some.inj hf
  exact W.zret (v := val x') B.exec B.bytes B.returns hn (fun t ht hW => ⟨⟨val x', (), rfl, ⟨rfl, hn⟩, by rw [ht]; exact hP, va_K.moved hW.alike hK, hD⟩, hS.F ht⟩) hS.2.2 hd
theorem zz_ml {X : Type} (val : X → Int64) (wf : X → va_W) (x : X) (hy : plainName y.cls = true) (hw : wy = Cond.code y cc mL (some .long) :: ws') (hown : y.cls = own) (hlen : (lg_sl av).length ≤ mL)
    (body : ∀ (p : Program) (e : Env) (s : State) (m : MethodId) (below : List Frame) (meth : Method) (c : Code) (A : Nat → Prop) (Q : State → Prop) (ls : Array Slot), zzC g p s m av.toArray c cc mL own wy A →
      (∀ (pc : Nat) (ls : Array Slot) (H : Heap) (locs : List Loc) (x' : X), some x' = some x → decode cc pc = .ok (.lreturn, 1) → va_P g.1 vwCl (wf x') H → va_D A (wf x') → va_S A s.heap H locs → W p l e rm s m av.toArray below meth c H locs 0 0 Q (F0 m pc ls [.long (val x')])) →
      va_P g.1 vwCl w s.heap → va_D A w → va_S A s.heap s.heap [] → lv_has ls mL (lv_args 0 av) → W p l e rm s m av.toArray below meth c s.heap [] 0 0 Q (F0 m 0 ls [])) : zzL l g y wy rm av w (wf x) sz (val x) := by
  refine Met.ofW (cc := cc) (maxL := mL) (ret := some .long) hy hw ?_
  intro p e s m args below meth c s₁ B hml hv
  obtain ⟨rfl, hsz, hP, hK, hD0⟩ := hv
  subst hsz
  have hD := hD0.self (sz := s.heap.size)
  rw [lg_entry_eq]
  refine body p e s m below meth c (va_A w s.heap.size) _ _ ⟨⟨B.exec, B.bytes, hml, by rw [← hown]; exact findClass_of_methodNamed B.named, atoms_spec B.pre⟩, hK, fun q h => Or.inr h⟩ ?_ hP hD va_S.rf (lv_entry av hlen)
  intro pc ls H locs x' hf hd hP hD hS
  have hlocks := B.notSynchronized
  obtain rfl : x' = x := Option.some.inj hf
  exact W.lret (v := val x') B.exec B.bytes B.returns (fun t ht hW => ⟨⟨val x', (), rfl, rfl, by rw [ht]; exact hP, va_K.moved hW.alike hK, hD⟩, hS.F ht⟩) hS.2.2 hd
theorem zz_mv {X : Type} (wf : X → va_W) (x : X) (hy : plainName y.cls = true) (hw : wy = Cond.code y cc mL none :: ws') (hown : y.cls = own) (hlen : (lg_sl av).length ≤ mL)
    (body : ∀ (p : Program) (e : Env) (s : State) (m : MethodId) (below : List Frame) (meth : Method) (c : Code) (A : Nat → Prop) (Q : State → Prop) (ls : Array Slot), zzC g p s m av.toArray c cc mL own wy A →
      (∀ (pc : Nat) (ls : Array Slot) (H : Heap) (locs : List Loc) (x' : X), some x' = some x → decode cc pc = .ok (.return_, 1) → va_P g.1 vwCl (wf x') H → va_D A (wf x') → va_S A s.heap H locs → W p l e rm s m av.toArray below meth c H locs 0 0 Q (F0 m pc ls [])) →
      va_P g.1 vwCl w s.heap → va_D A w → va_S A s.heap s.heap [] → lv_has ls mL (lv_args 0 av) → W p l e rm s m av.toArray below meth c s.heap [] 0 0 Q (F0 m 0 ls [])) : zzV l g y wy rm av w (wf x) sz := by
  refine Met.ofW (cc := cc) (maxL := mL) (ret := none) hy hw ?_
  intro p e s m args below meth c s₁ B hml hv
  obtain ⟨rfl, hsz, hP, hK, hD0⟩ := hv
  subst hsz
  have hD := hD0.self (sz := s.heap.size)
  rw [lg_entry_eq]
  refine body p e s m below meth c (va_A w s.heap.size) _ _ ⟨⟨B.exec, B.bytes, hml, by rw [← hown]; exact findClass_of_methodNamed B.named, atoms_spec B.pre⟩, hK, fun q h => Or.inr h⟩ ?_ hP hD va_S.rf (lv_entry av hlen)
  intro pc ls H locs x' hf hd hP hD hS
  have hlocks := B.notSynchronized
  obtain rfl : x' = x := Option.some.inj hf
  exact W.vret B.exec B.bytes B.returns (fun t ht hW => ⟨⟨(), rfl, trivial, by rw [ht]; exact hP, va_K.moved hW.alike hK, hD⟩, hS.F ht⟩) hS.2.2 hd
end ZzEntry
-- calls
section ZzCall
variable {p : Program} {l : Launch} {e : Env} {R : Room} {s : State} {m : MethodId} {args : Array Value} {below : List Frame} {meth : Method} {c : Code} {H : Heap} {locs : List Loc} {cells slots : Nat} {Q : State → Prop} {g : zzG} {cc : ByteArray} {mL : Nat} {own : String} {ws : List Cond} {A : Nat → Prop} {w w' : va_W} {y : MethodName} {wy : List Cond} {rm : Room} {bytes : ByteArray} {maxL n index : Nat} {ret : Option FieldType} {Cn : String} {As rest st0 : List Value} {b ci pc : Nat} {fs : List Value} {qc : vw_C} {ls : Array Slot}
theorem zz_blind {av : List Value} {sz : Nat} : FrameBlind (zzPc g av w sz) := fun a U gg mk q => by
  obtain ⟨q0, q1, qP, qK, qD⟩ := q
  exact ⟨q0, q1, qP, va_K.moved (u := U) (U := U.calling gg mk a) (Vm.Alike.refl U.vm) qK, qD⟩
theorem zz_pre (C : zzC g p s m args c cc mL own ws A) (hP : va_P g.1 vwCl w H) (hD : va_D A w) {av : List Value} : ∀ U : State, U.heap = H → s.WarmedH U.vm → zzPc g av w H.size av.toArray U := fun U hU hW => ⟨rfl, by rw [hU], by rw [hU]; exact hP, va_K.moved hW.alike C.2.1, hD.weaken (fun _ _ _ _ => trivial)⟩
theorem zz_fr (C : zzC g p s m args c cc mL own ws A) (hD : va_D A w) (hS : va_S A s.heap H locs) : ∀ q, va_A w H.size q → A q := fun q h => by
  rcases h with ⟨k, e, hk⟩ | h
  · exact hD.2 k _ hk
  · exact C.2.2 q (Nat.le_trans hS.1 h)
theorem zz_wk (C : zzC g p s m args c cc mL own ws A) (hD : va_D A w) (hS : va_S A s.heap H locs) (h : va_D (va_A w H.size) w') : va_D A w' := h.weaken (fun _ _ _ h => zz_fr C hD hS _ h)
theorem zz_cVi {r : Int32} (C : zzC g p s m args c cc mL own ws A) (hP : va_P g.1 vwCl w H) (hD : va_D A w) (hS : va_S A s.heap H locs) (ct : zzI l g y wy rm (.ref b :: As) w w' H.size r) (hG : GoodIn ws (wsV own index Cn y wy)) (hM : zzM y wy bytes maxL ret Cn n) (hR : rm.frames + 1 ≤ R.frames ∧ 8 + (maxL + 11) + rm.locals ≤ R.locals ∧ rm.cells = 0 ∧ rm.slots = 0) (hcs : cells ≤ R.cells ∧ slots ≤ R.slots) (q0 : Nat) (he : w[q0]? = some (b, .inr (ci, fs))) (hc : vwCl[ci]? = some qc) (hcn : qc.1 = Cn) (hn : As.length = n) (hst : st0 = As.reverse ++ .ref b :: rest) (hl : ls.size = mL) (hroom : (rest.map fun v => v.category).sum ≤ 8) (hdg : decode cc pc = .ok (.invokevirtual index, 3))
    (kk : ∀ (H : Heap) (locs : List Loc), va_P g.1 vwCl w' H → va_D A w' → va_S A s.heap H locs → W p l e R s m args below meth c H locs cells slots Q (F0 m (pc + 3) ls (.int r :: rest))) : W p l e R s m args below meth c H locs cells slots Q (F0 m pc ls st0) := by
  obtain ⟨⟨ws', hw⟩, hM⟩ := hM
  subst hcn
  refine va_calli (va_runV (As := As) (rest := rest) C.1 ct (cwV n C.1.2.2.2.2 hG hw hR.2.2.1 hR.2.2.2 hM ⟨hR.1, hR.2.1⟩) ⟨zz_blind, va_recv C.2.1 hP hc he, zz_pre C hP hD⟩ rfl hn hl hst (lv_room hroom) hdg hcs) hS (fun q _ h => zz_fr C hD hS q h) (zz_fr C hD hS) (fun r2 u t H1 locs ht hvm hw2 hB hz1 hk1 hS1 => ?_)
  obtain ⟨hP1, hK1, hD1⟩ := hB
  subst hw2
  rw [ht] at hP1
  exact kk H1 locs hP1 (zz_wk C hD hS hD1) hS1
theorem zz_cVz {r : Int32} (C : zzC g p s m args c cc mL own ws A) (hP : va_P g.1 vwCl w H) (hD : va_D A w) (hS : va_S A s.heap H locs) (ct : zzZ l g y wy rm (.ref b :: As) w w' H.size r) (hG : GoodIn ws (wsV own index Cn y wy)) (hM : zzM y wy bytes maxL ret Cn n) (hR : rm.frames + 1 ≤ R.frames ∧ 8 + (maxL + 11) + rm.locals ≤ R.locals ∧ rm.cells = 0 ∧ rm.slots = 0) (hcs : cells ≤ R.cells ∧ slots ≤ R.slots) (q0 : Nat) (he : w[q0]? = some (b, .inr (ci, fs))) (hc : vwCl[ci]? = some qc) (hcn : qc.1 = Cn) (hn : As.length = n) (hst : st0 = As.reverse ++ .ref b :: rest) (hl : ls.size = mL) (hroom : (rest.map fun v => v.category).sum ≤ 8) (hdg : decode cc pc = .ok (.invokevirtual index, 3))
    (kk : narrow .boolean (.int r) = .int r → ∀ (H : Heap) (locs : List Loc), va_P g.1 vwCl w' H → va_D A w' → va_S A s.heap H locs → W p l e R s m args below meth c H locs cells slots Q (F0 m (pc + 3) ls (.int r :: rest))) : W p l e R s m args below meth c H locs cells slots Q (F0 m pc ls st0) := by
  obtain ⟨⟨ws', hw⟩, hM⟩ := hM
  subst hcn
  refine va_calli (va_runV (As := As) (rest := rest) C.1 ct (cwV n C.1.2.2.2.2 hG hw hR.2.2.1 hR.2.2.2 hM ⟨hR.1, hR.2.1⟩) ⟨zz_blind, va_recv C.2.1 hP hc he, zz_pre C hP hD⟩ rfl hn hl hst (lv_room hroom) hdg hcs) hS (fun q _ h => zz_fr C hD hS q h) (zz_fr C hD hS) (fun r2 u t H1 locs ht hvm hw2 hB hz1 hk1 hS1 => ?_)
  obtain ⟨hP1, hK1, hD1⟩ := hB
  obtain ⟨hw2, hn2⟩ := hw2
  subst hw2
  rw [ht] at hP1
  exact kk hn2 H1 locs hP1 (zz_wk C hD hS hD1) hS1
theorem zz_cVl {r : Int64} (C : zzC g p s m args c cc mL own ws A) (hP : va_P g.1 vwCl w H) (hD : va_D A w) (hS : va_S A s.heap H locs) (ct : zzL l g y wy rm (.ref b :: As) w w' H.size r) (hG : GoodIn ws (wsV own index Cn y wy)) (hM : zzM y wy bytes maxL ret Cn n) (hR : rm.frames + 1 ≤ R.frames ∧ 8 + (maxL + 11) + rm.locals ≤ R.locals ∧ rm.cells = 0 ∧ rm.slots = 0) (hcs : cells ≤ R.cells ∧ slots ≤ R.slots) (q0 : Nat) (he : w[q0]? = some (b, .inr (ci, fs))) (hc : vwCl[ci]? = some qc) (hcn : qc.1 = Cn) (hn : As.length = n) (hst : st0 = As.reverse ++ .ref b :: rest) (hl : ls.size = mL) (hroom : (rest.map fun v => v.category).sum ≤ 8) (hdg : decode cc pc = .ok (.invokevirtual index, 3))
    (kk : ∀ (H : Heap) (locs : List Loc), va_P g.1 vwCl w' H → va_D A w' → va_S A s.heap H locs → W p l e R s m args below meth c H locs cells slots Q (F0 m (pc + 3) ls (.long r :: rest))) : W p l e R s m args below meth c H locs cells slots Q (F0 m pc ls st0) := by
  obtain ⟨⟨ws', hw⟩, hM⟩ := hM
  subst hcn
  refine va_calll (va_runV (As := As) (rest := rest) C.1 ct (cwV n C.1.2.2.2.2 hG hw hR.2.2.1 hR.2.2.2 hM ⟨hR.1, hR.2.1⟩) ⟨zz_blind, va_recv C.2.1 hP hc he, zz_pre C hP hD⟩ rfl hn hl hst (lv_room hroom) hdg hcs) hS (fun q _ h => zz_fr C hD hS q h) (zz_fr C hD hS) (fun r2 u t H1 locs ht hvm hw2 hB hz1 hk1 hS1 => ?_)
  obtain ⟨hP1, hK1, hD1⟩ := hB
  subst hw2
  rw [ht] at hP1
  exact kk H1 locs hP1 (zz_wk C hD hS hD1) hS1
theorem zz_cVv (C : zzC g p s m args c cc mL own ws A) (hP : va_P g.1 vwCl w H) (hD : va_D A w) (hS : va_S A s.heap H locs) (ct : zzV l g y wy rm (.ref b :: As) w w' H.size) (hG : GoodIn ws (wsV own index Cn y wy)) (hM : zzM y wy bytes maxL ret Cn n) (hR : rm.frames + 1 ≤ R.frames ∧ 8 + (maxL + 11) + rm.locals ≤ R.locals ∧ rm.cells = 0 ∧ rm.slots = 0) (hcs : cells ≤ R.cells ∧ slots ≤ R.slots) (q0 : Nat) (he : w[q0]? = some (b, .inr (ci, fs))) (hc : vwCl[ci]? = some qc) (hcn : qc.1 = Cn) (hn : As.length = n) (hst : st0 = As.reverse ++ .ref b :: rest) (hl : ls.size = mL) (hroom : (rest.map fun v => v.category).sum ≤ 8) (hdg : decode cc pc = .ok (.invokevirtual index, 3))
    (kk : ∀ (H : Heap) (locs : List Loc), va_P g.1 vwCl w' H → va_D A w' → va_S A s.heap H locs → W p l e R s m args below meth c H locs cells slots Q (F0 m (pc + 3) ls rest)) : W p l e R s m args below meth c H locs cells slots Q (F0 m pc ls st0) := by
  obtain ⟨⟨ws', hw⟩, hM⟩ := hM
  subst hcn
  refine va_callv (va_runV (As := As) (rest := rest) C.1 ct (cwV n C.1.2.2.2.2 hG hw hR.2.2.1 hR.2.2.2 hM ⟨hR.1, hR.2.1⟩) ⟨zz_blind, va_recv C.2.1 hP hc he, zz_pre C hP hD⟩ rfl hn hl hst (lv_room hroom) hdg hcs) hS (fun q _ h => zz_fr C hD hS q h) (zz_fr C hD hS) (fun u t H1 locs ht hvm hw2 hB hz1 hk1 hS1 => ?_)
  obtain ⟨hP1, hK1, hD1⟩ := hB
  rw [ht] at hP1
  exact kk H1 locs hP1 (zz_wk C hD hS hD1) hS1
theorem zz_cVq {r : Option Nat} (C : zzC g p s m args c cc mL own ws A) (hP : va_P g.1 vwCl w H) (hD : va_D A w) (hS : va_S A s.heap H locs) (ct : zzQ l g y wy rm (.ref b :: As) w w' H.size r) (hG : GoodIn ws (wsV own index Cn y wy)) (hM : zzM y wy bytes maxL ret Cn n) (hR : rm.frames + 1 ≤ R.frames ∧ 8 + (maxL + 11) + rm.locals ≤ R.locals ∧ rm.cells = 0 ∧ rm.slots = 0) (hcs : cells ≤ R.cells ∧ slots ≤ R.slots) (q0 : Nat) (he : w[q0]? = some (b, .inr (ci, fs))) (hc : vwCl[ci]? = some qc) (hcn : qc.1 = Cn) (hn : As.length = n) (hst : st0 = As.reverse ++ .ref b :: rest) (hl : ls.size = mL) (hroom : (rest.map fun v => v.category).sum ≤ 8) (hdg : decode cc pc = .ok (.invokevirtual index, 3))
    (kk : ∀ (H : Heap) (locs : List Loc), va_P g.1 vwCl w' H → va_D A w' → va_S A s.heap H locs → W p l e R s m args below meth c H locs cells slots Q (F0 m (pc + 3) ls (va_rf r :: rest))) : W p l e R s m args below meth c H locs cells slots Q (F0 m pc ls st0) := by
  obtain ⟨⟨ws', hw⟩, hM⟩ := hM
  subst hcn
  refine va_callq (va_runV (As := As) (rest := rest) C.1 ct (cwV n C.1.2.2.2.2 hG hw hR.2.2.1 hR.2.2.2 hM ⟨hR.1, hR.2.1⟩) ⟨zz_blind, va_recv C.2.1 hP hc he, zz_pre C hP hD⟩ rfl hn hl hst (lv_room hroom) hdg hcs) hS (fun q _ h => zz_fr C hD hS q h) (zz_fr C hD hS) (fun r2 u t H1 locs ht hvm hw2 hB hz1 hk1 hS1 => ?_)
  obtain ⟨hP1, hK1, hD1⟩ := hB
  subst hw2
  rw [ht] at hP1
  exact kk H1 locs hP1 (zz_wk C hD hS hD1) hS1
theorem zz_cSi {r : Int32} (C : zzC g p s m args c cc mL own ws A) (hP : va_P g.1 vwCl w H) (hD : va_D A w) (hS : va_S A s.heap H locs) (ct : zzI l g y wy rm As w w' H.size r) (hG : GoodIn ws (va_wsS own index y wy)) (hM : zzM y wy bytes maxL ret Cn n) (hR : rm.frames + 1 ≤ R.frames ∧ 8 + (maxL + 11) + rm.locals ≤ R.locals ∧ rm.cells = 0 ∧ rm.slots = 0) (hcs : cells ≤ R.cells ∧ slots ≤ R.slots) (hn : As.length = n) (hst : st0 = As.reverse ++ rest) (hl : ls.size = mL) (hroom : (rest.map fun v => v.category).sum ≤ 8) (hdg : decode cc pc = .ok (.invokestatic index, 3))
    (kk : ∀ (H : Heap) (locs : List Loc), va_P g.1 vwCl w' H → va_D A w' → va_S A s.heap H locs → W p l e R s m args below meth c H locs cells slots Q (F0 m (pc + 3) ls (.int r :: rest))) : W p l e R s m args below meth c H locs cells slots Q (F0 m pc ls st0) := by
  obtain ⟨⟨ws', hw⟩, hM⟩ := hM
  refine va_calli (va_runS (As := As) (rest := rest) C.1 ct (va_cwS n C.1.2.2.2.2 hG hw hR.2.2.1 hR.2.2.2 hM.2 ⟨hR.1, hR.2.1⟩) ⟨zz_blind, zz_pre C hP hD⟩ rfl hn hl hst (lv_room hroom) hdg hcs) hS (fun q _ h => zz_fr C hD hS q h) (zz_fr C hD hS) (fun r2 u t H1 locs ht hvm hw2 hB hz1 hk1 hS1 => ?_)
  obtain ⟨hP1, hK1, hD1⟩ := hB
  subst hw2
  rw [ht] at hP1
  exact kk H1 locs hP1 (zz_wk C hD hS hD1) hS1
theorem zz_cSz {r : Int32} (C : zzC g p s m args c cc mL own ws A) (hP : va_P g.1 vwCl w H) (hD : va_D A w) (hS : va_S A s.heap H locs) (ct : zzZ l g y wy rm As w w' H.size r) (hG : GoodIn ws (va_wsS own index y wy)) (hM : zzM y wy bytes maxL ret Cn n) (hR : rm.frames + 1 ≤ R.frames ∧ 8 + (maxL + 11) + rm.locals ≤ R.locals ∧ rm.cells = 0 ∧ rm.slots = 0) (hcs : cells ≤ R.cells ∧ slots ≤ R.slots) (hn : As.length = n) (hst : st0 = As.reverse ++ rest) (hl : ls.size = mL) (hroom : (rest.map fun v => v.category).sum ≤ 8) (hdg : decode cc pc = .ok (.invokestatic index, 3))
    (kk : narrow .boolean (.int r) = .int r → ∀ (H : Heap) (locs : List Loc), va_P g.1 vwCl w' H → va_D A w' → va_S A s.heap H locs → W p l e R s m args below meth c H locs cells slots Q (F0 m (pc + 3) ls (.int r :: rest))) : W p l e R s m args below meth c H locs cells slots Q (F0 m pc ls st0) := by
  obtain ⟨⟨ws', hw⟩, hM⟩ := hM
  refine va_calli (va_runS (As := As) (rest := rest) C.1 ct (va_cwS n C.1.2.2.2.2 hG hw hR.2.2.1 hR.2.2.2 hM.2 ⟨hR.1, hR.2.1⟩) ⟨zz_blind, zz_pre C hP hD⟩ rfl hn hl hst (lv_room hroom) hdg hcs) hS (fun q _ h => zz_fr C hD hS q h) (zz_fr C hD hS) (fun r2 u t H1 locs ht hvm hw2 hB hz1 hk1 hS1 => ?_)
  obtain ⟨hP1, hK1, hD1⟩ := hB
  obtain ⟨hw2, hn2⟩ := hw2
  subst hw2
  rw [ht] at hP1
  exact kk hn2 H1 locs hP1 (zz_wk C hD hS hD1) hS1
theorem zz_cSl {r : Int64} (C : zzC g p s m args c cc mL own ws A) (hP : va_P g.1 vwCl w H) (hD : va_D A w) (hS : va_S A s.heap H locs) (ct : zzL l g y wy rm As w w' H.size r) (hG : GoodIn ws (va_wsS own index y wy)) (hM : zzM y wy bytes maxL ret Cn n) (hR : rm.frames + 1 ≤ R.frames ∧ 8 + (maxL + 11) + rm.locals ≤ R.locals ∧ rm.cells = 0 ∧ rm.slots = 0) (hcs : cells ≤ R.cells ∧ slots ≤ R.slots) (hn : As.length = n) (hst : st0 = As.reverse ++ rest) (hl : ls.size = mL) (hroom : (rest.map fun v => v.category).sum ≤ 8) (hdg : decode cc pc = .ok (.invokestatic index, 3))
    (kk : ∀ (H : Heap) (locs : List Loc), va_P g.1 vwCl w' H → va_D A w' → va_S A s.heap H locs → W p l e R s m args below meth c H locs cells slots Q (F0 m (pc + 3) ls (.long r :: rest))) : W p l e R s m args below meth c H locs cells slots Q (F0 m pc ls st0) := by
  obtain ⟨⟨ws', hw⟩, hM⟩ := hM
  refine va_calll (va_runS (As := As) (rest := rest) C.1 ct (va_cwS n C.1.2.2.2.2 hG hw hR.2.2.1 hR.2.2.2 hM.2 ⟨hR.1, hR.2.1⟩) ⟨zz_blind, zz_pre C hP hD⟩ rfl hn hl hst (lv_room hroom) hdg hcs) hS (fun q _ h => zz_fr C hD hS q h) (zz_fr C hD hS) (fun r2 u t H1 locs ht hvm hw2 hB hz1 hk1 hS1 => ?_)
  obtain ⟨hP1, hK1, hD1⟩ := hB
  subst hw2
  rw [ht] at hP1
  exact kk H1 locs hP1 (zz_wk C hD hS hD1) hS1
end ZzCall
