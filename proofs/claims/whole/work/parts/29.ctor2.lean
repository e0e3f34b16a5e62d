/-! ===== constructor of the system ===== -/
theorem zz_al {α : Type} {a b : List α} {k : Nat} {x : α} (h : a[k]? = some x) : (a ++ b)[k]? = some x := by
  rw [List.getElem?_append_left (List.getElem?_eq_some_iff.mp h).1]; exact h
theorem zz_ar {α : Type} {a b : List α} {k : Nat} {x : α} (h : b[k]? = some x) : (a ++ b)[a.length + k]? = some x := by
  rw [List.getElem?_append_right (Nat.le_add_right _ _), Nat.add_sub_cancel_left]; exact h
def zzAp (a b : va_W) : Prop := ∀ (i j : Nat) (x y : Nat × va_E), a[i]? = some x → b[j]? = some y → x.1 = y.1 → False
theorem zz_pl {D : va_G} {cl : List vw_C} {a b : va_W} {H : Heap} (h : va_P D cl (a ++ b) H) : va_P D cl a H := fun k q hk => h k q (zz_al hk)
theorem zz_pr {D : va_G} {cl : List vw_C} {a b : va_W} {H : Heap} (h : va_P D cl (a ++ b) H) : va_P D cl b H := fun k q hk => h (a.length + k) q (zz_ar hk)
theorem zz_dl {A : Nat → Prop} {a b : va_W} (h : va_D A (a ++ b)) : va_D A a := ⟨fun i j x y hx hy e => h.1 i j x y (zz_al hx) (zz_al hy) e, fun k q hk => h.2 k q (zz_al hk)⟩
theorem zz_dr {A : Nat → Prop} {a b : va_W} (h : va_D A (a ++ b)) : va_D A b := ⟨fun i j x y hx hy e => by have := h.1 _ _ x y (zz_ar hx) (zz_ar hy) e; omega, fun k q hk => h.2 _ q (zz_ar hk)⟩
theorem zz_dap {A : Nat → Prop} {a b : va_W} (h : va_D A (a ++ b)) : zzAp a b := fun i j x y hx hy e => by
  have h1 := h.1 i _ x y (zz_al hx) (zz_ar hy) e
  have h2 := (List.getElem?_eq_some_iff.mp hx).1
  omega
theorem zz_keep {D : va_G} {cl : List vw_C} {wr wc w1 : va_W} {H H1 : Heap} (hPr : va_P D cl wr H) (hap : zzAp wr wc) (hk : ∀ q : Nat, q < H.size → ¬ va_A wc H.size q → H1[q]? = H[q]?) (hD1 : va_D (va_A wc H.size) w1) : va_P D cl wr H1 ∧ zzAp wr w1 := by
  have ap : ∀ (k : Nat) (q : Nat × va_E), wr[k]? = some q → q.1 < H.size ∧ ¬ va_A wc H.size q.1 := by
    intro k q hq
    have hl := (hPr k q hq).lt
    refine ⟨hl, fun h => ?_⟩
    rcases h with ⟨k2, e, h⟩ | h
    · exact hap k k2 q (q.1, e) hq h rfl
    · omega
  refine ⟨fun k q hq => (hPr k q hq).kept (hk q.1 (ap k q hq).1 (ap k q hq).2), fun i j x y hx hy e => (ap i x hx).2 ?_⟩
  rw [e]
  exact hD1.2 j y hy
theorem zz_rf {D : va_G} {cl : List vw_C} {ws : va_W} {H : Heap} {k a n : Nat} {cA : ClassId} {f f' : Nat → Option Nat} (hP : va_P D cl ws H) (hk : ws[k]? = some (a, .inl (cA, n, .inr (.inr (.inr (.inr f)))))) (hf : ∀ j, j < n → f j = f' j) : va_P D cl (ws.set k (a, .inl (cA, n, .inr (.inr (.inr (.inr f')))))) H := by
  intro i q hq
  rw [List.getElem?_set] at hq
  by_cases h : k = i
  · subst h
    rw [if_pos rfl, if_pos (List.getElem?_eq_some_iff.mp hk).1] at hq
    cases hq
    have h0 : H[a]? = some (vp_cell cA (n, .inr (.inr (.inr (.inr f))))) := hP k _ hk
    show H[a]? = some (vp_cell cA (n, .inr (.inr (.inr (.inr f')))))
    rw [h0, vp_cell_q, vp_cell_q]
    unfold arrV
    have : (Array.ofFn (n := n) fun j => va_rf (f j.val)) = (Array.ofFn (n := n) fun j => va_rf (f' j.val)) := congrArg (fun z : Fin n → Value => Array.ofFn z) (funext fun j => by rw [hf j.val j.isLt])
    rw [this]
  · rw [if_neg h] at hq
    exact hP i q hq
theorem zz_rd {A : Nat → Prop} {ws : va_W} {k a n : Nat} {cA : ClassId} {f f' : Nat → Option Nat} (hD : va_D A ws) (hk : ws[k]? = some (a, .inl (cA, n, .inr (.inr (.inr (.inr f)))))) : va_D A (ws.set k (a, .inl (cA, n, .inr (.inr (.inr (.inr f')))))) := hD.set hk
section ZzCtor
variable {p : Program} {l : Launch} {e : Env} {R : Room} {s : State} {m : MethodId} {args : Array Value} {below : List Frame} {meth : Method} {c : Code} {H : Heap} {locs : List Loc} {cells slots : Nat} {Q : State → Prop} {g : zzG} {cc : ByteArray} {mL : Nat} {own : String} {ws : List Cond} {A : Nat → Prop} {wr wc : va_W} {y : MethodName} {wy : List Cond} {rm : Room} {bytes : ByteArray} {maxL mc ms index : Nat} {rest st0 : List Value} {b pc : Nat} {ls : Array Slot} {host : String} {w' : (Nat → Nat) → va_W}
theorem zz_cN (C : zzC g p s m args c cc mL own ws A) (hP : va_P g.1 vwCl (wr ++ wc) H) (hD : va_D A (wr ++ wc)) (hS : va_S A s.heap H locs) (ct : zzN l g y wy rm (fun _ => True) b wc w' H.size mc ms) (cw : va_CN R s args own index y host bytes maxL none wy rm mc ms 0 ∧ y.name = "<init>" ∧ (Cond.instanceMethod y).before args s = true) (hst : st0 = .ref b :: rest) (hl : ls.size = mL) (hroom : (rest.map fun v => v.category).sum ≤ 8) (hdg : decode cc pc = .ok (.invokespecial index, 3)) (hf : cells + mc ≤ R.cells ∧ slots + ms ≤ R.slots)
    (kk : ∀ (q : Nat → Nat) (H : Heap) (locs : List Loc), va_P g.1 vwCl (wr ++ w' q) H → va_D A (wr ++ w' q) → va_S A s.heap H locs → W p l e R s m args below meth c H locs (cells + mc) (slots + ms) Q (F0 m (pc + 3) ls rest)) : W p l e R s m args below meth c H locs cells slots Q (F0 m pc ls st0) := by
  have hF : ∀ q, va_A wc H.size q → A q := fun q h => by
    rcases h with ⟨k, e, hk⟩ | h
    · exact (zz_dr hD).2 k _ hk
    · exact C.2.2 q (Nat.le_trans hS.1 h)
  refine va_callv (va_runIN (As := []) (rest := rest) C.1 ct cw ⟨fun a U gg mk q => by
      obtain ⟨q0, q1, qP, qK, qD, qZ⟩ := q
      exact ⟨q0, q1, qP, va_K.moved (u := U) (U := U.calling gg mk a) (Vm.Alike.refl U.vm) qK, qD, qZ⟩, fun U hU hW => ⟨rfl, by rw [hU], by rw [hU]; exact zz_pr hP, va_K.moved hW.alike C.2.1, (zz_dr hD).weaken (fun _ _ _ _ => trivial), trivial⟩⟩ rfl rfl hl hst (lv_room hroom) hdg hf) hS (fun q _ h => hF q h) hF (fun q t H1 locs ht hvm hw2 hB hz1 hk1 hS1 => ?_)
  obtain ⟨hP1, hK1, hD1⟩ := hB
  rw [ht] at hP1
  obtain ⟨k1, k2⟩ := zz_keep (zz_pl hP) (zz_dap hD) hk1 hD1
  exact kk q H1 locs (k1.app hP1) ((zz_dl hD).app (hD1.weaken (fun _ q _ h => hF q.1 h)) (fun i j x y hx hy e => k2 i j x y hx hy e)) hS1
end ZzCtor
def zzZ4 (U : State) : Prop := va_Nw (.methodLinkNest RX4 13 yX3_init "SnowCensus") U ∧ va_Nw (.methodLinkNest RX4 23 yX1_init "SnowCensus") U ∧ va_Nw (.methodLinkNest RX4 30 yX0_init "SnowCensus") U ∧ va_Nw (.methodLinkNest RX4 41 yX2_init "SnowCensus") U ∧ va_AO "SnowCensus$Sheet" U
def zzU0 : zzS := (fun _ => 0, fun _ _ => 0)
abbrev rX4_init : Room := ({ frames := 2, cells := 21, slots := 325, locals := 32 })
