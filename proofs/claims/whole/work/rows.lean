section
-- ===== PART A: goes FIRST, ahead of the names: the tables' words, and 'selects' of the private methods out of them =====
/-- a private method of a class that the tables say can be made, by its rows of tables_1 -/
def lw_okq (q : MethodName × Nat) : Prop := (q.1.cls ≠ "java/lang/invoke/MethodHandle" ∧ q.1.cls ≠ "java/lang/invoke/VarHandle") ∧ Cond.instantiable q.1.cls q.2 ∈ tables_1 ∧ Cond.privateMethod q.1 ∈ tables_1 ∧ Cond.instanceMethod q.1 ∈ tables_1
theorem lw_p0 : lw_okq (⟨"SnowCensus", "sheetAt", "(I)LSnowCensus$Sheet;"⟩, 7) := ⟨⟨by decide +kernel, by decide +kernel⟩, List.mem_of_getElem? (i := 11) (by decide +kernel), List.mem_of_getElem? (i := 142) (by decide +kernel), List.mem_of_getElem? (i := 143) (by decide +kernel)⟩
theorem lw_p1 : lw_okq (⟨"SnowCensus", "failed", "(I)I"⟩, 7) := ⟨⟨by decide +kernel, by decide +kernel⟩, List.mem_of_getElem? (i := 11) (by decide +kernel), List.mem_of_getElem? (i := 157) (by decide +kernel), List.mem_of_getElem? (i := 158) (by decide +kernel)⟩
theorem lw_p2 : lw_okq (⟨"SnowCensus", "layField", "(LSnowCensus$Sheet;II)V"⟩, 7) := ⟨⟨by decide +kernel, by decide +kernel⟩, List.mem_of_getElem? (i := 11) (by decide +kernel), List.mem_of_getElem? (i := 181) (by decide +kernel), List.mem_of_getElem? (i := 182) (by decide +kernel)⟩
theorem lw_p3 : lw_okq (⟨"SnowCensus", "refusalAt", "(I)I"⟩, 7) := ⟨⟨by decide +kernel, by decide +kernel⟩, List.mem_of_getElem? (i := 11) (by decide +kernel), List.mem_of_getElem? (i := 231) (by decide +kernel), List.mem_of_getElem? (i := 232) (by decide +kernel)⟩
theorem lw_p4 : lw_okq (⟨"SnowCensus", "countedOn", "(LSnowCensus$Snow;II)I"⟩, 7) := ⟨⟨by decide +kernel, by decide +kernel⟩, List.mem_of_getElem? (i := 11) (by decide +kernel), List.mem_of_getElem? (i := 251) (by decide +kernel), List.mem_of_getElem? (i := 252) (by decide +kernel)⟩
theorem lw_p5 : lw_okq (⟨"SnowCensus$Shadows", "closeRun", "(II)V"⟩, 4) := ⟨⟨by decide +kernel, by decide +kernel⟩, List.mem_of_getElem? (i := 51) (by decide +kernel), List.mem_of_getElem? (i := 265) (by decide +kernel), List.mem_of_getElem? (i := 266) (by decide +kernel)⟩
theorem lw_p6 : lw_okq (⟨"SnowCensus", "offAt", "(I)I"⟩, 7) := ⟨⟨by decide +kernel, by decide +kernel⟩, List.mem_of_getElem? (i := 11) (by decide +kernel), List.mem_of_getElem? (i := 278) (by decide +kernel), List.mem_of_getElem? (i := 279) (by decide +kernel)⟩
theorem lw_p7 : lw_okq (⟨"SnowCensus", "refusalOfPairs", "(LSnowCensus$Sheet;II)I"⟩, 7) := ⟨⟨by decide +kernel, by decide +kernel⟩, List.mem_of_getElem? (i := 11) (by decide +kernel), List.mem_of_getElem? (i := 292) (by decide +kernel), List.mem_of_getElem? (i := 293) (by decide +kernel)⟩
theorem lw_p8 : lw_okq (⟨"SnowCensus", "walkOnTrial", "(LSnowCensus$Sheet;II)I"⟩, 7) := ⟨⟨by decide +kernel, by decide +kernel⟩, List.mem_of_getElem? (i := 11) (by decide +kernel), List.mem_of_getElem? (i := 296) (by decide +kernel), List.mem_of_getElem? (i := 297) (by decide +kernel)⟩
theorem lw_p9 : lw_okq (⟨"SnowCensus", "behindWalks", "(III)I"⟩, 7) := ⟨⟨by decide +kernel, by decide +kernel⟩, List.mem_of_getElem? (i := 11) (by decide +kernel), List.mem_of_getElem? (i := 308) (by decide +kernel), List.mem_of_getElem? (i := 309) (by decide +kernel)⟩
theorem lw_p10 : lw_okq (⟨"SnowCensus", "refusalOfCount", "(II)I"⟩, 7) := ⟨⟨by decide +kernel, by decide +kernel⟩, List.mem_of_getElem? (i := 11) (by decide +kernel), List.mem_of_getElem? (i := 321) (by decide +kernel), List.mem_of_getElem? (i := 322) (by decide +kernel)⟩
theorem lw_p11 : lw_okq (⟨"SnowCensus", "areReadingsSoOnTrial", "()Z"⟩, 7) := ⟨⟨by decide +kernel, by decide +kernel⟩, List.mem_of_getElem? (i := 11) (by decide +kernel), List.mem_of_getElem? (i := 347) (by decide +kernel), List.mem_of_getElem? (i := 348) (by decide +kernel)⟩
theorem lw_p12 : lw_okq (⟨"SnowCensus", "tellAsRider", "(I)I"⟩, 7) := ⟨⟨by decide +kernel, by decide +kernel⟩, List.mem_of_getElem? (i := 11) (by decide +kernel), List.mem_of_getElem? (i := 404) (by decide +kernel), List.mem_of_getElem? (i := 405) (by decide +kernel)⟩
theorem lw_p13 : lw_okq (⟨"SnowCensus", "leaveInTrace", "(I)V"⟩, 7) := ⟨⟨by decide +kernel, by decide +kernel⟩, List.mem_of_getElem? (i := 11) (by decide +kernel), List.mem_of_getElem? (i := 408) (by decide +kernel), List.mem_of_getElem? (i := 409) (by decide +kernel)⟩
theorem lw_p14 : lw_okq (⟨"SnowCensus", "tellAsStander", "(I)I"⟩, 7) := ⟨⟨by decide +kernel, by decide +kernel⟩, List.mem_of_getElem? (i := 11) (by decide +kernel), List.mem_of_getElem? (i := 412) (by decide +kernel), List.mem_of_getElem? (i := 413) (by decide +kernel)⟩
theorem lw_p15 : lw_okq (⟨"SnowCensus", "tellAsPole", "(I)I"⟩, 7) := ⟨⟨by decide +kernel, by decide +kernel⟩, List.mem_of_getElem? (i := 11) (by decide +kernel), List.mem_of_getElem? (i := 416) (by decide +kernel), List.mem_of_getElem? (i := 417) (by decide +kernel)⟩
def lw_privs_1 : List (MethodName × Nat) := [(⟨"SnowCensus", "sheetAt", "(I)LSnowCensus$Sheet;"⟩, 7), (⟨"SnowCensus", "failed", "(I)I"⟩, 7), (⟨"SnowCensus", "layField", "(LSnowCensus$Sheet;II)V"⟩, 7), (⟨"SnowCensus", "refusalAt", "(I)I"⟩, 7), (⟨"SnowCensus", "countedOn", "(LSnowCensus$Snow;II)I"⟩, 7), (⟨"SnowCensus$Shadows", "closeRun", "(II)V"⟩, 4), (⟨"SnowCensus", "offAt", "(I)I"⟩, 7), (⟨"SnowCensus", "refusalOfPairs", "(LSnowCensus$Sheet;II)I"⟩, 7), (⟨"SnowCensus", "walkOnTrial", "(LSnowCensus$Sheet;II)I"⟩, 7), (⟨"SnowCensus", "behindWalks", "(III)I"⟩, 7), (⟨"SnowCensus", "refusalOfCount", "(II)I"⟩, 7), (⟨"SnowCensus", "areReadingsSoOnTrial", "()Z"⟩, 7), (⟨"SnowCensus", "tellAsRider", "(I)I"⟩, 7), (⟨"SnowCensus", "leaveInTrace", "(I)V"⟩, 7), (⟨"SnowCensus", "tellAsStander", "(I)I"⟩, 7), (⟨"SnowCensus", "tellAsPole", "(I)I"⟩, 7)]
theorem lw_r1 : ∀ q ∈ lw_privs_1, lw_okq q := List.forall_mem_cons.mpr ⟨lw_p0, List.forall_mem_cons.mpr ⟨lw_p1, List.forall_mem_cons.mpr ⟨lw_p2, List.forall_mem_cons.mpr ⟨lw_p3, List.forall_mem_cons.mpr ⟨lw_p4, List.forall_mem_cons.mpr ⟨lw_p5, List.forall_mem_cons.mpr ⟨lw_p6, List.forall_mem_cons.mpr ⟨lw_p7, List.forall_mem_cons.mpr ⟨lw_p8, List.forall_mem_cons.mpr ⟨lw_p9, List.forall_mem_cons.mpr ⟨lw_p10, List.forall_mem_cons.mpr ⟨lw_p11, List.forall_mem_cons.mpr ⟨lw_p12, List.forall_mem_cons.mpr ⟨lw_p13, List.forall_mem_cons.mpr ⟨lw_p14, List.forall_mem_cons.mpr ⟨lw_p15, fun _ h => absurd h List.not_mem_nil⟩⟩⟩⟩⟩⟩⟩⟩⟩⟩⟩⟩⟩⟩⟩⟩
theorem lw_p16 : lw_okq (⟨"SnowCensusModel", "against", "(IIII)I"⟩, 29) := ⟨⟨by decide +kernel, by decide +kernel⟩, List.mem_of_getElem? (i := 440) (by decide +kernel), List.mem_of_getElem? (i := 548) (by decide +kernel), List.mem_of_getElem? (i := 549) (by decide +kernel)⟩
theorem lw_p17 : lw_okq (⟨"SnowCensusModel", "fails", "(I)I"⟩, 29) := ⟨⟨by decide +kernel, by decide +kernel⟩, List.mem_of_getElem? (i := 440) (by decide +kernel), List.mem_of_getElem? (i := 552) (by decide +kernel), List.mem_of_getElem? (i := 553) (by decide +kernel)⟩
theorem lw_p18 : lw_okq (⟨"SnowCensusModel", "readField", "(I)Z"⟩, 29) := ⟨⟨by decide +kernel, by decide +kernel⟩, List.mem_of_getElem? (i := 440) (by decide +kernel), List.mem_of_getElem? (i := 556) (by decide +kernel), List.mem_of_getElem? (i := 557) (by decide +kernel)⟩
theorem lw_p19 : lw_okq (⟨"SnowCensusModel", "isSign", "(II)Z"⟩, 29) := ⟨⟨by decide +kernel, by decide +kernel⟩, List.mem_of_getElem? (i := 440) (by decide +kernel), List.mem_of_getElem? (i := 560) (by decide +kernel), List.mem_of_getElem? (i := 561) (by decide +kernel)⟩
theorem lw_p20 : lw_okq (⟨"SnowCensusModel", "digit", "(II)I"⟩, 29) := ⟨⟨by decide +kernel, by decide +kernel⟩, List.mem_of_getElem? (i := 440) (by decide +kernel), List.mem_of_getElem? (i := 564) (by decide +kernel), List.mem_of_getElem? (i := 565) (by decide +kernel)⟩
theorem lw_p21 : lw_okq (⟨"SnowCensusModel", "readStander", "(I)Z"⟩, 29) := ⟨⟨by decide +kernel, by decide +kernel⟩, List.mem_of_getElem? (i := 440) (by decide +kernel), List.mem_of_getElem? (i := 568) (by decide +kernel), List.mem_of_getElem? (i := 569) (by decide +kernel)⟩
theorem lw_p22 : lw_okq (⟨"SnowCensusModel", "isStander", "(I)Z"⟩, 29) := ⟨⟨by decide +kernel, by decide +kernel⟩, List.mem_of_getElem? (i := 440) (by decide +kernel), List.mem_of_getElem? (i := 576) (by decide +kernel), List.mem_of_getElem? (i := 577) (by decide +kernel)⟩
theorem lw_p23 : lw_okq (⟨"SnowCensusModel", "shadeOf", "(II)I"⟩, 29) := ⟨⟨by decide +kernel, by decide +kernel⟩, List.mem_of_getElem? (i := 440) (by decide +kernel), List.mem_of_getElem? (i := 602) (by decide +kernel), List.mem_of_getElem? (i := 603) (by decide +kernel)⟩
theorem lw_p24 : lw_okq (⟨"SnowCensusModel", "hiddenOf", "(I)I"⟩, 29) := ⟨⟨by decide +kernel, by decide +kernel⟩, List.mem_of_getElem? (i := 440) (by decide +kernel), List.mem_of_getElem? (i := 610) (by decide +kernel), List.mem_of_getElem? (i := 611) (by decide +kernel)⟩
theorem lw_p25 : lw_okq (⟨"SnowCensusModel", "isHidden", "(II)Z"⟩, 29) := ⟨⟨by decide +kernel, by decide +kernel⟩, List.mem_of_getElem? (i := 440) (by decide +kernel), List.mem_of_getElem? (i := 614) (by decide +kernel), List.mem_of_getElem? (i := 615) (by decide +kernel)⟩
theorem lw_p26 : lw_okq (⟨"SnowCensusModel", "censusOf", "(I)I"⟩, 29) := ⟨⟨by decide +kernel, by decide +kernel⟩, List.mem_of_getElem? (i := 440) (by decide +kernel), List.mem_of_getElem? (i := 622) (by decide +kernel), List.mem_of_getElem? (i := 623) (by decide +kernel)⟩
theorem lw_p27 : lw_okq (⟨"SnowCensusModel", "count", "(I)V"⟩, 29) := ⟨⟨by decide +kernel, by decide +kernel⟩, List.mem_of_getElem? (i := 440) (by decide +kernel), List.mem_of_getElem? (i := 626) (by decide +kernel), List.mem_of_getElem? (i := 627) (by decide +kernel)⟩
theorem lw_p28 : lw_okq (⟨"SnowCensusModel", "darken", "(I)V"⟩, 29) := ⟨⟨by decide +kernel, by decide +kernel⟩, List.mem_of_getElem? (i := 440) (by decide +kernel), List.mem_of_getElem? (i := 630) (by decide +kernel), List.mem_of_getElem? (i := 631) (by decide +kernel)⟩
theorem lw_p29 : lw_okq (⟨"SnowCensusModel", "endRun", "(I)V"⟩, 29) := ⟨⟨by decide +kernel, by decide +kernel⟩, List.mem_of_getElem? (i := 440) (by decide +kernel), List.mem_of_getElem? (i := 634) (by decide +kernel), List.mem_of_getElem? (i := 635) (by decide +kernel)⟩
theorem lw_p30 : lw_okq (⟨"SnowCensusModel", "goWalks", "(II)I"⟩, 29) := ⟨⟨by decide +kernel, by decide +kernel⟩, List.mem_of_getElem? (i := 440) (by decide +kernel), List.mem_of_getElem? (i := 653) (by decide +kernel), List.mem_of_getElem? (i := 654) (by decide +kernel)⟩
theorem lw_p31 : lw_okq (⟨"SnowCensusModel", "isTaken", "(II)Z"⟩, 29) := ⟨⟨by decide +kernel, by decide +kernel⟩, List.mem_of_getElem? (i := 440) (by decide +kernel), List.mem_of_getElem? (i := 657) (by decide +kernel), List.mem_of_getElem? (i := 658) (by decide +kernel)⟩
def lw_privs_2 : List (MethodName × Nat) := [(⟨"SnowCensusModel", "against", "(IIII)I"⟩, 29), (⟨"SnowCensusModel", "fails", "(I)I"⟩, 29), (⟨"SnowCensusModel", "readField", "(I)Z"⟩, 29), (⟨"SnowCensusModel", "isSign", "(II)Z"⟩, 29), (⟨"SnowCensusModel", "digit", "(II)I"⟩, 29), (⟨"SnowCensusModel", "readStander", "(I)Z"⟩, 29), (⟨"SnowCensusModel", "isStander", "(I)Z"⟩, 29), (⟨"SnowCensusModel", "shadeOf", "(II)I"⟩, 29), (⟨"SnowCensusModel", "hiddenOf", "(I)I"⟩, 29), (⟨"SnowCensusModel", "isHidden", "(II)Z"⟩, 29), (⟨"SnowCensusModel", "censusOf", "(I)I"⟩, 29), (⟨"SnowCensusModel", "count", "(I)V"⟩, 29), (⟨"SnowCensusModel", "darken", "(I)V"⟩, 29), (⟨"SnowCensusModel", "endRun", "(I)V"⟩, 29), (⟨"SnowCensusModel", "goWalks", "(II)I"⟩, 29), (⟨"SnowCensusModel", "isTaken", "(II)Z"⟩, 29)]
theorem lw_r2 : ∀ q ∈ lw_privs_2, lw_okq q := List.forall_mem_cons.mpr ⟨lw_p16, List.forall_mem_cons.mpr ⟨lw_p17, List.forall_mem_cons.mpr ⟨lw_p18, List.forall_mem_cons.mpr ⟨lw_p19, List.forall_mem_cons.mpr ⟨lw_p20, List.forall_mem_cons.mpr ⟨lw_p21, List.forall_mem_cons.mpr ⟨lw_p22, List.forall_mem_cons.mpr ⟨lw_p23, List.forall_mem_cons.mpr ⟨lw_p24, List.forall_mem_cons.mpr ⟨lw_p25, List.forall_mem_cons.mpr ⟨lw_p26, List.forall_mem_cons.mpr ⟨lw_p27, List.forall_mem_cons.mpr ⟨lw_p28, List.forall_mem_cons.mpr ⟨lw_p29, List.forall_mem_cons.mpr ⟨lw_p30, List.forall_mem_cons.mpr ⟨lw_p31, fun _ h => absurd h List.not_mem_nil⟩⟩⟩⟩⟩⟩⟩⟩⟩⟩⟩⟩⟩⟩⟩⟩
theorem lw_p32 : lw_okq (⟨"SnowCensusModel", "tellWalks", "(II)I"⟩, 29) := ⟨⟨by decide +kernel, by decide +kernel⟩, List.mem_of_getElem? (i := 440) (by decide +kernel), List.mem_of_getElem? (i := 661) (by decide +kernel), List.mem_of_getElem? (i := 662) (by decide +kernel)⟩
theorem lw_p33 : lw_okq (⟨"SnowCensusModel", "areSo", "()Z"⟩, 29) := ⟨⟨by decide +kernel, by decide +kernel⟩, List.mem_of_getElem? (i := 440) (by decide +kernel), List.mem_of_getElem? (i := 688) (by decide +kernel), List.mem_of_getElem? (i := 689) (by decide +kernel)⟩
theorem lw_p34 : lw_okq (⟨"SnowCensusModel", "lost", "(I)J"⟩, 29) := ⟨⟨by decide +kernel, by decide +kernel⟩, List.mem_of_getElem? (i := 440) (by decide +kernel), List.mem_of_getElem? (i := 724) (by decide +kernel), List.mem_of_getElem? (i := 725) (by decide +kernel)⟩
theorem lw_p35 : lw_okq (⟨"SnowCensusModel", "begins", "(I)V"⟩, 29) := ⟨⟨by decide +kernel, by decide +kernel⟩, List.mem_of_getElem? (i := 440) (by decide +kernel), List.mem_of_getElem? (i := 736) (by decide +kernel), List.mem_of_getElem? (i := 737) (by decide +kernel)⟩
def lw_privs_3 : List (MethodName × Nat) := [(⟨"SnowCensusModel", "tellWalks", "(II)I"⟩, 29), (⟨"SnowCensusModel", "areSo", "()Z"⟩, 29), (⟨"SnowCensusModel", "lost", "(I)J"⟩, 29), (⟨"SnowCensusModel", "begins", "(I)V"⟩, 29)]
theorem lw_r3 : ∀ q ∈ lw_privs_3, lw_okq q := List.forall_mem_cons.mpr ⟨lw_p32, List.forall_mem_cons.mpr ⟨lw_p33, List.forall_mem_cons.mpr ⟨lw_p34, List.forall_mem_cons.mpr ⟨lw_p35, fun _ h => absurd h List.not_mem_nil⟩⟩⟩⟩
def lw_privs : List (MethodName × Nat) := lw_privs_1 ++ (lw_privs_2 ++ (lw_privs_3))
def lw_tbl : List Cond := k2_sels lw_privs ++ tables_1
theorem lw_privs_ok : ∀ q ∈ lw_privs, lw_okq q := by
  show ∀ q ∈ lw_privs_1 ++ (lw_privs_2 ++ (lw_privs_3)), lw_okq q
  exact List.forall_mem_append.mpr ⟨lw_r1, List.forall_mem_append.mpr ⟨lw_r2, lw_r3⟩⟩
-- ===== end of PART A; then your names; then what follows =====
end
section
/-! ===== BEGIN words of one list among another's, by their places ===== -/
theorem goodIn_r {big : List Cond} (ws : List Cond) (ps : List Nat) (hp : ws = ps.filterMap (fun i => big[i]?)) (h : ws.all goodWord = true) : GoodIn big ws := by
  intro w hw
  have h1 := List.all_eq_true.mp h w hw
  rw [hp] at hw
  obtain ⟨i, -, hi⟩ := List.mem_filterMap.mp hw
  have hm : w ∈ big := by first | exact List.mem_of_getElem? hi | exact List.getElem?_mem hi
  exact ⟨hm, good_of_word h1⟩
theorem goodIn_app {big a b : List Cond} (ha : GoodIn big a) (hb : GoodIn big b) : GoodIn big (a ++ b) := fun w h => (List.mem_append.mp h).elim (ha w) (hb w)
theorem goodIn_ca {big a b : List Cond} {c : Cond} (ha : GoodIn big (c :: a)) (hb : GoodIn big b) : GoodIn big (c :: (a ++ b)) := fun w h => (List.mem_cons.mp h).elim (fun e => ha w (List.mem_cons.mpr (Or.inl e))) (fun h => (List.mem_append.mp h).elim (fun h => ha w (List.mem_cons.mpr (Or.inr h))) (hb w))
theorem goodIn_sub {big ws : List Cond} (hm : ∀ w ∈ ws, w ∈ big) (h : ws.all goodWord = true) : GoodIn big ws := fun w hw => ⟨hm w hw, good_of_word (List.all_eq_true.mp h w hw)⟩
/-! ===== END ===== -/

/-! ===== BEGIN printed: names, fields, word lists, decode rows ===== -/
def RX0 : String := "SnowCensus$Readings"
def TX0 : u_T := fun k => match k with
  | 0 => ("SnowCensus$Readings", "sun", "[I", true)
  | 1 => ("SnowCensus$Readings", "counted", "[I", true)
  | _ => ("SnowCensus$Readings", "count", "I", false)
def tyX0 : Nat → FieldType := fun k => match k with
  | 0 => .array .int
  | 1 => .array .int
  | _ => .int
abbrev wsX00 : List Cond := u_ws RX0 TX0 3
theorem nmX0 : ∀ a, a < 3 → ∀ b, b < 3 → a ≠ b → (TX0 a).2.1 ≠ (TX0 b).2.1 := by decide +kernel
theorem tyX0_ok : ∀ k, k < 3 → parseFieldDescriptor (TX0 k).2.2.1 = some (tyX0 k) := by decide +kernel
abbrev cX0_init : ByteArray := prog_2_method_1_code
def yX0_init : MethodName := ⟨RX0, "<init>", "()V"⟩
abbrev cX0_note : ByteArray := prog_2_method_2_code
def yX0_note : MethodName := ⟨RX0, "note", "(II)Z"⟩
def RX1 : String := "SnowCensus$Shadows"
def TX1 : u_T := fun k => match k with
  | 0 => ("SnowCensus$Shadows", "runCount", "I", false)
  | 1 => ("SnowCensus$Shadows", "longest", "I", false)
  | 2 => ("SnowCensus$Shadows", "counted", "I", false)
  | _ => ("SnowCensus$Shadows", "need", "I", false)
def tyX1 : Nat → FieldType := fun k => match k with
  | 0 => .int
  | 1 => .int
  | 2 => .int
  | _ => .int
abbrev wsX10 : List Cond := u_ws RX1 TX1 4
theorem nmX1 : ∀ a, a < 4 → ∀ b, b < 4 → a ≠ b → (TX1 a).2.1 ≠ (TX1 b).2.1 := by decide +kernel
theorem tyX1_ok : ∀ k, k < 4 → parseFieldDescriptor (TX1 k).2.2.1 = some (tyX1 k) := by decide +kernel
abbrev cX1_init : ByteArray := prog_3_method_1_code
def yX1_init : MethodName := ⟨RX1, "<init>", "()V"⟩
abbrev cX1_measure : ByteArray := prog_3_method_2_code
def yX1_measure : MethodName := ⟨RX1, "measure", "(JI)V"⟩
abbrev cX1_closeRun : ByteArray := prog_3_method_3_code
def yX1_closeRun : MethodName := ⟨RX1, "closeRun", "(II)V"⟩
def RX2 : String := "SnowCensus$Sheet"
def TX2 : u_T := fun k => match k with
  | 0 => ("SnowCensus$Sheet", "cells", "[I", true)
  | 1 => ("SnowCensus$Sheet", "hasRow", "Z", false)
  | 2 => ("SnowCensus$Sheet", "lane", "I", false)
  | _ => ("SnowCensus$Sheet", "size", "I", false)
def tyX2 : Nat → FieldType := fun k => match k with
  | 0 => .array .int
  | 1 => .boolean
  | 2 => .int
  | _ => .int
abbrev wsX20 : List Cond := u_ws RX2 TX2 4
theorem nmX2 : ∀ a, a < 4 → ∀ b, b < 4 → a ≠ b → (TX2 a).2.1 ≠ (TX2 b).2.1 := by decide +kernel
theorem tyX2_ok : ∀ k, k < 4 → parseFieldDescriptor (TX2 k).2.2.1 = some (tyX2 k) := by decide +kernel
abbrev cX2_init : ByteArray := prog_4_method_1_code
def yX2_init : MethodName := ⟨RX2, "<init>", "()V"⟩
abbrev cX2_renew : ByteArray := prog_4_method_2_code
def yX2_renew : MethodName := ⟨RX2, "renew", "(II)V"⟩
abbrev cX2_empty : ByteArray := prog_4_method_3_code
def yX2_empty : MethodName := ⟨RX2, "empty", "()V"⟩
abbrev cX2_faultAs : ByteArray := prog_4_method_4_code
def yX2_faultAs : MethodName := ⟨RX2, "faultAs", "(I)I"⟩
abbrev cX2_hasCell : ByteArray := prog_4_method_5_code
def yX2_hasCell : MethodName := ⟨RX2, "hasCell", "(I)Z"⟩
abbrev cX2_holds : ByteArray := prog_4_method_6_code
def yX2_holds : MethodName := ⟨RX2, "holds", "(II)Z"⟩
abbrev cX2_at : ByteArray := prog_4_method_7_code
def yX2_at : MethodName := ⟨RX2, "at", "(I)I"⟩
abbrev cX2_cutToLane : ByteArray := prog_4_method_8_code
def yX2_cutToLane : MethodName := ⟨RX2, "cutToLane", "(I)I"⟩
def RX3 : String := "SnowCensus$Snow"
def TX3 : u_T := fun k => match k with
  | 0 => ("SnowCensus$Snow", "kind", "[I", true)
  | 1 => ("SnowCensus$Snow", "foot", "[I", true)
  | 2 => ("SnowCensus$Snow", "height", "[I", true)
  | 3 => ("SnowCensus$Snow", "standers", "I", false)
  | 4 => ("SnowCensus$Snow", "span", "I", false)
  | _ => ("SnowCensus$Snow", "tower", "I", false)
def tyX3 : Nat → FieldType := fun k => match k with
  | 0 => .array .int
  | 1 => .array .int
  | 2 => .array .int
  | 3 => .int
  | 4 => .int
  | _ => .int
abbrev wsX30 : List Cond := u_ws RX3 TX3 6
theorem nmX3 : ∀ a, a < 6 → ∀ b, b < 6 → a ≠ b → (TX3 a).2.1 ≠ (TX3 b).2.1 := by decide +kernel
theorem tyX3_ok : ∀ k, k < 6 → parseFieldDescriptor (TX3 k).2.2.1 = some (tyX3 k) := by decide +kernel
abbrev cX3_init : ByteArray := prog_5_method_1_code
def yX3_init : MethodName := ⟨RX3, "<init>", "()V"⟩
abbrev cX3_isLaid : ByteArray := prog_5_method_2_code
def yX3_isLaid : MethodName := ⟨RX3, "isLaid", "()Z"⟩
abbrev cX3_has : ByteArray := prog_5_method_3_code
def yX3_has : MethodName := ⟨RX3, "has", "(I)Z"⟩
abbrev cX3_everyone : ByteArray := prog_5_method_4_code
def yX3_everyone : MethodName := ⟨RX3, "everyone", "()I"⟩
abbrev cX3_becomeLike : ByteArray := prog_5_method_5_code
def yX3_becomeLike : MethodName := ⟨RX3, "becomeLike", "(LSnowCensus$Snow;)V"⟩
abbrev cX3_shadeOf : ByteArray := prog_5_method_6_code
def yX3_shadeOf : MethodName := ⟨RX3, "shadeOf", "(II)I"⟩
abbrev cX3_firstLitFoot : ByteArray := prog_5_method_7_code
def yX3_firstLitFoot : MethodName := ⟨RX3, "firstLitFoot", "(I)I"⟩
abbrev cX3_hiddenSet : ByteArray := prog_5_method_8_code
def yX3_hiddenSet : MethodName := ⟨RX3, "hiddenSet", "(I)I"⟩
abbrev cX3_isAnotherOn : ByteArray := prog_5_method_9_code
def yX3_isAnotherOn : MethodName := ⟨RX3, "isAnotherOn", "(II)Z"⟩
abbrev cX3_darkFeet : ByteArray := prog_5_method_10_code
def yX3_darkFeet : MethodName := ⟨RX3, "darkFeet", "(II)J"⟩
def RX4 : String := "SnowCensus"
def TX4 : u_T := fun k => match k with
  | 0 => ("SnowCensus", "snow", "LSnowCensus$Snow;", true)
  | 1 => ("SnowCensus", "trial", "LSnowCensus$Snow;", true)
  | 2 => ("SnowCensus", "shadows", "LSnowCensus$Shadows;", true)
  | 3 => ("SnowCensus", "readings", "LSnowCensus$Readings;", true)
  | 4 => ("SnowCensus", "sheets", "[LSnowCensus$Sheet;", true)
  | 5 => ("SnowCensus", "traced", "I", false)
  | _ => ("SnowCensus", "latestFault", "I", false)
def tyX4 : Nat → FieldType := fun k => match k with
  | 0 => .object "SnowCensus$Snow"
  | 1 => .object "SnowCensus$Snow"
  | 2 => .object "SnowCensus$Shadows"
  | 3 => .object "SnowCensus$Readings"
  | 4 => .array (.object "SnowCensus$Sheet")
  | 5 => .int
  | _ => .int
abbrev wsX40 : List Cond := u_ws RX4 TX4 7
theorem nmX4 : ∀ a, a < 7 → ∀ b, b < 7 → a ≠ b → (TX4 a).2.1 ≠ (TX4 b).2.1 := by decide +kernel
theorem tyX4_ok : ∀ k, k < 7 → parseFieldDescriptor (TX4 k).2.2.1 = some (tyX4 k) := by decide +kernel
abbrev cX4_init : ByteArray := prog_1_method_1_code
def yX4_init : MethodName := ⟨RX4, "<init>", "()V"⟩
abbrev cX4_field : ByteArray := prog_1_method_2_code
def yX4_field : MethodName := ⟨RX4, "field", "(IIII)I"⟩
abbrev cX4_ofStander : ByteArray := prog_1_method_3_code
def yX4_ofStander : MethodName := ⟨RX4, "ofStander", "(II)I"⟩
abbrev cX4_walk : ByteArray := prog_1_method_4_code
def yX4_walk : MethodName := ⟨RX4, "walk", "(II)I"⟩
abbrev cX4_grow : ByteArray := prog_1_method_5_code
def yX4_grow : MethodName := ⟨RX4, "grow", "(II)I"⟩
abbrev cX4_build : ByteArray := prog_1_method_6_code
def yX4_build : MethodName := ⟨RX4, "build", "(I)I"⟩
abbrev cX4_shade : ByteArray := prog_1_method_7_code
def yX4_shade : MethodName := ⟨RX4, "shade", "(II)I"⟩
abbrev cX4_hidden : ByteArray := prog_1_method_8_code
def yX4_hidden : MethodName := ⟨RX4, "hidden", "(I)I"⟩
abbrev cX4_census : ByteArray := prog_1_method_9_code
def yX4_census : MethodName := ⟨RX4, "census", "(I)I"⟩
abbrev cX4_runs : ByteArray := prog_1_method_10_code
def yX4_runs : MethodName := ⟨RX4, "runs", "(II)I"⟩
abbrev cX4_fair : ByteArray := prog_1_method_11_code
def yX4_fair : MethodName := ⟨RX4, "fair", "()I"⟩
abbrev cX4_walks : ByteArray := prog_1_method_12_code
def yX4_walks : MethodName := ⟨RX4, "walks", "(IIIIII)I"⟩
abbrev cX4_pair : ByteArray := prog_1_method_13_code
def yX4_pair : MethodName := ⟨RX4, "pair", "(IIII)I"⟩
abbrev cX4_send : ByteArray := prog_1_method_14_code
def yX4_send : MethodName := ⟨RX4, "send", "(II)I"⟩
abbrev cX4_reading : ByteArray := prog_1_method_15_code
def yX4_reading : MethodName := ⟨RX4, "reading", "(II)I"⟩
abbrev cX4_back : ByteArray := prog_1_method_16_code
def yX4_back : MethodName := ⟨RX4, "back", "(I)I"⟩
abbrev cX4_heights : ByteArray := prog_1_method_17_code
def yX4_heights : MethodName := ⟨RX4, "heights", "(I)I"⟩
abbrev cX4_kinds : ByteArray := prog_1_method_18_code
def yX4_kinds : MethodName := ⟨RX4, "kinds", "(I)I"⟩
abbrev cX4_spans : ByteArray := prog_1_method_19_code
def yX4_spans : MethodName := ⟨RX4, "spans", "()I"⟩
abbrev cX4_odds : ByteArray := prog_1_method_20_code
def yX4_odds : MethodName := ⟨RX4, "odds", "(III)J"⟩
abbrev cX4_sheet : ByteArray := prog_1_method_21_code
def yX4_sheet : MethodName := ⟨RX4, "sheet", "(III)I"⟩
abbrev cX4_lose : ByteArray := prog_1_method_22_code
def yX4_lose : MethodName := ⟨RX4, "lose", "(I)I"⟩
abbrev cX4_put : ByteArray := prog_1_method_23_code
def yX4_put : MethodName := ⟨RX4, "put", "(III)I"⟩
abbrev cX4_cell : ByteArray := prog_1_method_24_code
def yX4_cell : MethodName := ⟨RX4, "cell", "(III)J"⟩
abbrev cX4_copy : ByteArray := prog_1_method_25_code
def yX4_copy : MethodName := ⟨RX4, "copy", "(IIIII)I"⟩
abbrev cX4_tell : ByteArray := prog_1_method_26_code
def yX4_tell : MethodName := ⟨RX4, "tell", "(I)I"⟩
abbrev cX4_tax : ByteArray := prog_1_method_27_code
def yX4_tax : MethodName := ⟨RX4, "tax", "(I)I"⟩
abbrev cX4_as : ByteArray := prog_1_method_28_code
def yX4_as : MethodName := ⟨RX4, "as", "(II)I"⟩
abbrev cX4_trace : ByteArray := prog_1_method_29_code
def yX4_trace : MethodName := ⟨RX4, "trace", "()I"⟩
abbrev cX4_fault : ByteArray := prog_1_method_30_code
def yX4_fault : MethodName := ⟨RX4, "fault", "()I"⟩
abbrev cX4_many : ByteArray := prog_1_method_31_code
def yX4_many : MethodName := ⟨RX4, "many", "(I)I"⟩
abbrev cX4_isDigit : ByteArray := prog_1_method_32_code
def yX4_isDigit : MethodName := ⟨RX4, "isDigit", "(I)Z"⟩
abbrev cX4_isSun : ByteArray := prog_1_method_33_code
def yX4_isSun : MethodName := ⟨RX4, "isSun", "(I)Z"⟩
abbrev cX4_isLane : ByteArray := prog_1_method_34_code
def yX4_isLane : MethodName := ⟨RX4, "isLane", "(I)Z"⟩
abbrev cX4_isAskedOfWalks : ByteArray := prog_1_method_35_code
def yX4_isAskedOfWalks : MethodName := ⟨RX4, "isAskedOfWalks", "(I)Z"⟩
abbrev cX4_refusalAt : ByteArray := prog_1_method_36_code
def yX4_refusalAt : MethodName := ⟨RX4, "refusalAt", "(I)I"⟩
abbrev cX4_refusalOfCount : ByteArray := prog_1_method_37_code
def yX4_refusalOfCount : MethodName := ⟨RX4, "refusalOfCount", "(II)I"⟩
abbrev cX4_failed : ByteArray := prog_1_method_38_code
def yX4_failed : MethodName := ⟨RX4, "failed", "(I)I"⟩
abbrev cX4_sheetAt : ByteArray := prog_1_method_39_code
def yX4_sheetAt : MethodName := ⟨RX4, "sheetAt", "(I)LSnowCensus$Sheet;"⟩
abbrev cX4_firstFault : ByteArray := prog_1_method_40_code
def yX4_firstFault : MethodName := ⟨RX4, "firstFault", "(LSnowCensus$Sheet;II)I"⟩
abbrev cX4_goesOnWith : ByteArray := prog_1_method_41_code
def yX4_goesOnWith : MethodName := ⟨RX4, "goesOnWith", "(II)Z"⟩
abbrev cX4_isDigitCode : ByteArray := prog_1_method_42_code
def yX4_isDigitCode : MethodName := ⟨RX4, "isDigitCode", "(I)Z"⟩
abbrev cX4_kindOfLetter : ByteArray := prog_1_method_43_code
def yX4_kindOfLetter : MethodName := ⟨RX4, "kindOfLetter", "(I)I"⟩
abbrev cX4_layField : ByteArray := prog_1_method_44_code
def yX4_layField : MethodName := ⟨RX4, "layField", "(LSnowCensus$Sheet;II)V"⟩
abbrev cX4_countedOn : ByteArray := prog_1_method_45_code
def yX4_countedOn : MethodName := ⟨RX4, "countedOn", "(LSnowCensus$Snow;II)I"⟩
abbrev cX4_offAt : ByteArray := prog_1_method_46_code
def yX4_offAt : MethodName := ⟨RX4, "offAt", "(I)I"⟩
abbrev cX4_areReadingsSoOnTrial : ByteArray := prog_1_method_47_code
def yX4_areReadingsSoOnTrial : MethodName := ⟨RX4, "areReadingsSoOnTrial", "()Z"⟩
abbrev cX4_refusalOfPairs : ByteArray := prog_1_method_48_code
def yX4_refusalOfPairs : MethodName := ⟨RX4, "refusalOfPairs", "(LSnowCensus$Sheet;II)I"⟩
abbrev cX4_walkOnTrial : ByteArray := prog_1_method_49_code
def yX4_walkOnTrial : MethodName := ⟨RX4, "walkOnTrial", "(LSnowCensus$Sheet;II)I"⟩
abbrev cX4_behindWalks : ByteArray := prog_1_method_50_code
def yX4_behindWalks : MethodName := ⟨RX4, "behindWalks", "(III)I"⟩
abbrev cX4_tellAsStander : ByteArray := prog_1_method_51_code
def yX4_tellAsStander : MethodName := ⟨RX4, "tellAsStander", "(I)I"⟩
abbrev cX4_tellAsRider : ByteArray := prog_1_method_52_code
def yX4_tellAsRider : MethodName := ⟨RX4, "tellAsRider", "(I)I"⟩
abbrev cX4_tellAsPole : ByteArray := prog_1_method_53_code
def yX4_tellAsPole : MethodName := ⟨RX4, "tellAsPole", "(I)I"⟩
abbrev cX4_leaveInTrace : ByteArray := prog_1_method_54_code
def yX4_leaveInTrace : MethodName := ⟨RX4, "leaveInTrace", "(I)V"⟩
def RX5 : String := "SnowCensusModel"
def TX5 : u_T := fun k => match k with
  | 0 => ("SnowCensusModel", "fault", "I", false)
  | 1 => ("SnowCensusModel", "trace", "I", false)
  | 2 => ("SnowCensusModel", "sorts", "[I", true)
  | 3 => ("SnowCensusModel", "sheetLong", "[I", true)
  | 4 => ("SnowCensusModel", "cells", "[I", true)
  | 5 => ("SnowCensusModel", "standers", "I", false)
  | 6 => ("SnowCensusModel", "span", "I", false)
  | 7 => ("SnowCensusModel", "tower", "I", false)
  | 8 => ("SnowCensusModel", "kind", "[I", true)
  | 9 => ("SnowCensusModel", "footOf", "[I", true)
  | 10 => ("SnowCensusModel", "height", "[I", true)
  | 11 => ("SnowCensusModel", "indoors", "I", false)
  | 12 => ("SnowCensusModel", "at", "I", false)
  | 13 => ("SnowCensusModel", "readSpan", "I", false)
  | 14 => ("SnowCensusModel", "readTower", "I", false)
  | 15 => ("SnowCensusModel", "readStanders", "I", false)
  | 16 => ("SnowCensusModel", "readKind", "[I", true)
  | 17 => ("SnowCensusModel", "readFoot", "[I", true)
  | 18 => ("SnowCensusModel", "readHeight", "[I", true)
  | 19 => ("SnowCensusModel", "dark", "[Z", true)
  | 20 => ("SnowCensusModel", "counted", "I", false)
  | 21 => ("SnowCensusModel", "runMany", "I", false)
  | 22 => ("SnowCensusModel", "longest", "I", false)
  | 23 => ("SnowCensusModel", "last", "I", false)
  | 24 => ("SnowCensusModel", "kept", "[I", true)
  | 25 => ("SnowCensusModel", "steps", "I", false)
  | 26 => ("SnowCensusModel", "readings", "I", false)
  | 27 => ("SnowCensusModel", "readSun", "[I", true)
  | _ => ("SnowCensusModel", "readCensus", "[I", true)
def tyX5 : Nat → FieldType := fun k => match k with
  | 0 => .int
  | 1 => .int
  | 2 => .array .int
  | 3 => .array .int
  | 4 => .array .int
  | 5 => .int
  | 6 => .int
  | 7 => .int
  | 8 => .array .int
  | 9 => .array .int
  | 10 => .array .int
  | 11 => .int
  | 12 => .int
  | 13 => .int
  | 14 => .int
  | 15 => .int
  | 16 => .array .int
  | 17 => .array .int
  | 18 => .array .int
  | 19 => .array .boolean
  | 20 => .int
  | 21 => .int
  | 22 => .int
  | 23 => .int
  | 24 => .array .int
  | 25 => .int
  | 26 => .int
  | 27 => .array .int
  | _ => .array .int
abbrev wsX50 : List Cond := u_ws RX5 TX5 29
theorem nmX5 : ∀ a, a < 29 → ∀ b, b < 29 → a ≠ b → (TX5 a).2.1 ≠ (TX5 b).2.1 := by decide +kernel
theorem tyX5_ok : ∀ k, k < 29 → parseFieldDescriptor (TX5 k).2.2.1 = some (tyX5 k) := by decide +kernel
abbrev cX5_init : ByteArray := prog_7_method_1_code
def yX5_init : MethodName := ⟨RX5, "<init>", "()V"⟩
abbrev cX5_fails : ByteArray := prog_7_method_3_code
def yX5_fails : MethodName := ⟨RX5, "fails", "(I)I"⟩
abbrev cX5_lost : ByteArray := prog_7_method_4_code
def yX5_lost : MethodName := ⟨RX5, "lost", "(I)J"⟩
abbrev cX5_within : ByteArray := prog_7_method_5_code
def yX5_within : MethodName := ⟨RX5, "within", "(III)Z"⟩
abbrev cX5_isSheet : ByteArray := prog_7_method_6_code
def yX5_isSheet : MethodName := ⟨RX5, "isSheet", "(I)Z"⟩
abbrev cX5_isSort : ByteArray := prog_7_method_7_code
def yX5_isSort : MethodName := ⟨RX5, "isSort", "(I)Z"⟩
abbrev cX5_against : ByteArray := prog_7_method_8_code
def yX5_against : MethodName := ⟨RX5, "against", "(IIII)I"⟩
abbrev cX5_isStander : ByteArray := prog_7_method_9_code
def yX5_isStander : MethodName := ⟨RX5, "isStander", "(I)Z"⟩
abbrev cX5_isDigit : ByteArray := prog_7_method_10_code
def yX5_isDigit : MethodName := ⟨RX5, "isDigit", "(I)Z"⟩
abbrev cX5_isSun : ByteArray := prog_7_method_11_code
def yX5_isSun : MethodName := ⟨RX5, "isSun", "(I)Z"⟩
abbrev cX5_digit : ByteArray := prog_7_method_12_code
def yX5_digit : MethodName := ⟨RX5, "digit", "(II)I"⟩
abbrev cX5_isSign : ByteArray := prog_7_method_13_code
def yX5_isSign : MethodName := ⟨RX5, "isSign", "(II)Z"⟩
abbrev cX5_field : ByteArray := prog_7_method_14_code
def yX5_field : MethodName := ⟨RX5, "field", "(IIII)I"⟩
abbrev cX5_readField : ByteArray := prog_7_method_15_code
def yX5_readField : MethodName := ⟨RX5, "readField", "(I)Z"⟩
abbrev cX5_readStander : ByteArray := prog_7_method_16_code
def yX5_readStander : MethodName := ⟨RX5, "readStander", "(I)Z"⟩
abbrev cX5_shadeOf : ByteArray := prog_7_method_17_code
def yX5_shadeOf : MethodName := ⟨RX5, "shadeOf", "(II)I"⟩
abbrev cX5_ofStander : ByteArray := prog_7_method_18_code
def yX5_ofStander : MethodName := ⟨RX5, "ofStander", "(II)I"⟩
abbrev cX5_walk : ByteArray := prog_7_method_19_code
def yX5_walk : MethodName := ⟨RX5, "walk", "(II)I"⟩
abbrev cX5_grow : ByteArray := prog_7_method_20_code
def yX5_grow : MethodName := ⟨RX5, "grow", "(II)I"⟩
abbrev cX5_build : ByteArray := prog_7_method_21_code
def yX5_build : MethodName := ⟨RX5, "build", "(I)I"⟩
abbrev cX5_shade : ByteArray := prog_7_method_22_code
def yX5_shade : MethodName := ⟨RX5, "shade", "(II)I"⟩
abbrev cX5_isHidden : ByteArray := prog_7_method_23_code
def yX5_isHidden : MethodName := ⟨RX5, "isHidden", "(II)Z"⟩
abbrev cX5_darken : ByteArray := prog_7_method_24_code
def yX5_darken : MethodName := ⟨RX5, "darken", "(I)V"⟩
abbrev cX5_endRun : ByteArray := prog_7_method_25_code
def yX5_endRun : MethodName := ⟨RX5, "endRun", "(I)V"⟩
abbrev cX5_count : ByteArray := prog_7_method_26_code
def yX5_count : MethodName := ⟨RX5, "count", "(I)V"⟩
abbrev cX5_censusOf : ByteArray := prog_7_method_27_code
def yX5_censusOf : MethodName := ⟨RX5, "censusOf", "(I)I"⟩
abbrev cX5_hiddenOf : ByteArray := prog_7_method_28_code
def yX5_hiddenOf : MethodName := ⟨RX5, "hiddenOf", "(I)I"⟩
abbrev cX5_hidden : ByteArray := prog_7_method_29_code
def yX5_hidden : MethodName := ⟨RX5, "hidden", "(I)I"⟩
abbrev cX5_census : ByteArray := prog_7_method_30_code
def yX5_census : MethodName := ⟨RX5, "census", "(I)I"⟩
abbrev cX5_runs : ByteArray := prog_7_method_31_code
def yX5_runs : MethodName := ⟨RX5, "runs", "(II)I"⟩
abbrev cX5_apart : ByteArray := prog_7_method_32_code
def yX5_apart : MethodName := ⟨RX5, "apart", "(II)I"⟩
abbrev cX5_fair : ByteArray := prog_7_method_33_code
def yX5_fair : MethodName := ⟨RX5, "fair", "()I"⟩
abbrev cX5_isTaken : ByteArray := prog_7_method_34_code
def yX5_isTaken : MethodName := ⟨RX5, "isTaken", "(II)Z"⟩
abbrev cX5_goWalks : ByteArray := prog_7_method_35_code
def yX5_goWalks : MethodName := ⟨RX5, "goWalks", "(II)I"⟩
abbrev cX5_walks : ByteArray := prog_7_method_36_code
def yX5_walks : MethodName := ⟨RX5, "walks", "(IIIIII)I"⟩
abbrev cX5_tellWalks : ByteArray := prog_7_method_37_code
def yX5_tellWalks : MethodName := ⟨RX5, "tellWalks", "(II)I"⟩
abbrev cX5_pair : ByteArray := prog_7_method_38_code
def yX5_pair : MethodName := ⟨RX5, "pair", "(IIII)I"⟩
abbrev cX5_size : ByteArray := prog_7_method_39_code
def yX5_size : MethodName := ⟨RX5, "size", "(I)I"⟩
abbrev cX5_send : ByteArray := prog_7_method_40_code
def yX5_send : MethodName := ⟨RX5, "send", "(II)I"⟩
abbrev cX5_reading : ByteArray := prog_7_method_41_code
def yX5_reading : MethodName := ⟨RX5, "reading", "(II)I"⟩
abbrev cX5_back : ByteArray := prog_7_method_42_code
def yX5_back : MethodName := ⟨RX5, "back", "(I)I"⟩
abbrev cX5_areSo : ByteArray := prog_7_method_43_code
def yX5_areSo : MethodName := ⟨RX5, "areSo", "()Z"⟩
abbrev cX5_heights : ByteArray := prog_7_method_44_code
def yX5_heights : MethodName := ⟨RX5, "heights", "(I)I"⟩
abbrev cX5_kinds : ByteArray := prog_7_method_45_code
def yX5_kinds : MethodName := ⟨RX5, "kinds", "(I)I"⟩
abbrev cX5_spans : ByteArray := prog_7_method_46_code
def yX5_spans : MethodName := ⟨RX5, "spans", "()I"⟩
abbrev cX5_inLeastTerms : ByteArray := prog_7_method_47_code
def yX5_inLeastTerms : MethodName := ⟨RX5, "inLeastTerms", "(JJI)J"⟩
abbrev cX5_odds : ByteArray := prog_7_method_48_code
def yX5_odds : MethodName := ⟨RX5, "odds", "(III)J"⟩
abbrev cX5_sheet : ByteArray := prog_7_method_49_code
def yX5_sheet : MethodName := ⟨RX5, "sheet", "(III)I"⟩
abbrev cX5_lose : ByteArray := prog_7_method_50_code
def yX5_lose : MethodName := ⟨RX5, "lose", "(I)I"⟩
abbrev cX5_put : ByteArray := prog_7_method_51_code
def yX5_put : MethodName := ⟨RX5, "put", "(III)I"⟩
abbrev cX5_cell : ByteArray := prog_7_method_52_code
def yX5_cell : MethodName := ⟨RX5, "cell", "(III)J"⟩
abbrev cX5_copy : ByteArray := prog_7_method_53_code
def yX5_copy : MethodName := ⟨RX5, "copy", "(IIIII)I"⟩
abbrev cX5_begins : ByteArray := prog_7_method_54_code
def yX5_begins : MethodName := ⟨RX5, "begins", "(I)V"⟩
abbrev cX5_tell : ByteArray := prog_7_method_55_code
def yX5_tell : MethodName := ⟨RX5, "tell", "(I)I"⟩
abbrev cX5_tax : ByteArray := prog_7_method_56_code
def yX5_tax : MethodName := ⟨RX5, "tax", "(I)I"⟩
abbrev cX5_as : ByteArray := prog_7_method_57_code
def yX5_as : MethodName := ⟨RX5, "as", "(II)I"⟩
abbrev cX5_trace : ByteArray := prog_7_method_58_code
def yX5_trace : MethodName := ⟨RX5, "trace", "()I"⟩
abbrev cX5_fault : ByteArray := prog_7_method_59_code
def yX5_fault : MethodName := ⟨RX5, "fault", "()I"⟩
abbrev cX5_many : ByteArray := prog_7_method_60_code
def yX5_many : MethodName := ⟨RX5, "many", "(I)I"⟩
def RJ6 : String := "java/lang/Integer"
def TJ6 : u_T := fun k => match k with
  | _ => ("", "", "", false)
def tyJ6 : Nat → FieldType := fun k => match k with
  | _ => .int
abbrev wsJ60 : List Cond := u_ws RJ6 TJ6 0
theorem nmJ6 : ∀ a, a < 0 → ∀ b, b < 0 → a ≠ b → (TJ6 a).2.1 ≠ (TJ6 b).2.1 := by decide +kernel
theorem tyJ6_ok : ∀ k, k < 0 → parseFieldDescriptor (TJ6 k).2.2.1 = some (tyJ6 k) := by decide +kernel
abbrev cJ6_bitCount_0f7a4 : ByteArray := prog_8_method_49_code
def yJ6_bitCount_0f7a4 : MethodName := ⟨RJ6, "bitCount", "(I)I"⟩
def RJ9 : String := "java/lang/Math"
def TJ9 : u_T := fun k => match k with
  | _ => ("", "", "", false)
def tyJ9 : Nat → FieldType := fun k => match k with
  | _ => .int
abbrev wsJ90 : List Cond := u_ws RJ9 TJ9 0
theorem nmJ9 : ∀ a, a < 0 → ∀ b, b < 0 → a ≠ b → (TJ9 a).2.1 ≠ (TJ9 b).2.1 := by decide +kernel
theorem tyJ9_ok : ∀ k, k < 0 → parseFieldDescriptor (TJ9 k).2.2.1 = some (tyJ9 k) := by decide +kernel
abbrev cJ9_abs_0f7a4 : ByteArray := prog_9_method_59_code
def yJ9_abs_0f7a4 : MethodName := ⟨RJ9, "abs", "(I)I"⟩
abbrev cJ9_max_7cf53 : ByteArray := prog_9_method_65_code
def yJ9_max_7cf53 : MethodName := ⟨RJ9, "max", "(II)I"⟩
def RJ10 : String := "java/lang/System"
def TJ10 : u_T := fun k => match k with
  | _ => ("", "", "", false)
def tyJ10 : Nat → FieldType := fun k => match k with
  | _ => .int
abbrev wsJ100 : List Cond := u_ws RJ10 TJ10 0
theorem nmJ10 : ∀ a, a < 0 → ∀ b, b < 0 → a ≠ b → (TJ10 a).2.1 ≠ (TJ10 b).2.1 := by decide +kernel
theorem tyJ10_ok : ∀ k, k < 0 → parseFieldDescriptor (TJ10 k).2.2.1 = some (tyJ10 k) := by decide +kernel
def RL : String := "SnowCensusLaw"
abbrev cL_law : ByteArray := code
def yL_law : MethodName := ⟨RL, "law", "([I)Z"⟩
def wsX0_init : List Cond := .code yX0_init cX0_init 1 none :: ([.methodLink RX0 3 objectInit, .instanceMethod objectInit, .code objectInit ⟨#[0xb1]⟩ 1 none, .arrayClass .int, .fieldLink RX0 9 "SnowCensus$Readings" "sun" "[I", .fieldLink RX0 15 "SnowCensus$Readings" "counted" "[I"] ++ wsX00)
def wsX0_note : List Cond := .code yX0_note cX0_note 3 (some .boolean) :: ([.fieldLink RX0 18 "SnowCensus$Readings" "count" "I", .fieldLink RX0 9 "SnowCensus$Readings" "sun" "[I", .fieldLink RX0 15 "SnowCensus$Readings" "counted" "[I"] ++ wsX00)
def wsX1_init : List Cond := .code yX1_init cX1_init 1 none :: ([.methodLink RX1 3 objectInit, .instanceMethod objectInit, .code objectInit ⟨#[0xb1]⟩ 1 none])
def wsX1_closeRun : List Cond := .code yX1_closeRun cX1_closeRun 3 none :: ([.fieldLink RX1 9 "SnowCensus$Shadows" "runCount" "I", .fieldLink RX1 15 "SnowCensus$Shadows" "longest" "I", .methodLink RX1 28 Lib.Math.max.name, .static Lib.Math.max.name, .initialized "java/lang/Math", .code Lib.Math.max.name Lib.Math.max.code 2 (some .int), .fieldLink RX1 18 "SnowCensus$Shadows" "counted" "I"] ++ wsX10)
def wsX1_measure : List Cond := .code yX1_measure cX1_measure 6 none :: ([.fieldLink RX1 9 "SnowCensus$Shadows" "runCount" "I", .fieldLink RX1 15 "SnowCensus$Shadows" "longest" "I", .fieldLink RX1 18 "SnowCensus$Shadows" "counted" "I", .fieldLink RX1 25 "SnowCensus$Shadows" "need" "I", .methodLink RX1 21 yX1_closeRun, .instanceMethod yX1_closeRun, .selects RX1 yX1_closeRun yX1_closeRun, .initialized RX1, .code yX1_closeRun cX1_closeRun 3 none, .methodLink RX1 28 Lib.Math.max.name, .static Lib.Math.max.name, .initialized "java/lang/Math", .code Lib.Math.max.name Lib.Math.max.code 2 (some .int)] ++ wsX10)
def wsX2_init : List Cond := .code yX2_init cX2_init 1 none :: ([.methodLink RX2 3 objectInit, .instanceMethod objectInit, .code objectInit ⟨#[0xb1]⟩ 1 none, .arrayClass .int, .fieldLink RX2 9 "SnowCensus$Sheet" "cells" "[I"] ++ wsX20)
def wsX2_renew : List Cond := .code yX2_renew cX2_renew 4 none :: ([.fieldLink RX2 15 "SnowCensus$Sheet" "hasRow" "Z", .fieldLink RX2 19 "SnowCensus$Sheet" "lane" "I", .fieldLink RX2 23 "SnowCensus$Sheet" "size" "I", .fieldLink RX2 9 "SnowCensus$Sheet" "cells" "[I"] ++ wsX20)
def wsX2_empty : List Cond := .code yX2_empty cX2_empty 1 none :: ([.fieldLink RX2 15 "SnowCensus$Sheet" "hasRow" "Z", .fieldLink RX2 23 "SnowCensus$Sheet" "size" "I"] ++ wsX20)
def wsX2_faultAs : List Cond := .code yX2_faultAs cX2_faultAs 2 (some .int) :: ([.fieldLink RX2 15 "SnowCensus$Sheet" "hasRow" "Z", .fieldLink RX2 19 "SnowCensus$Sheet" "lane" "I"] ++ wsX20)
def wsX2_hasCell : List Cond := .code yX2_hasCell cX2_hasCell 2 (some .boolean) :: ([.fieldLink RX2 23 "SnowCensus$Sheet" "size" "I"] ++ wsX20)
def wsX2_holds : List Cond := .code yX2_holds cX2_holds 3 (some .boolean) :: ([.fieldLink RX2 23 "SnowCensus$Sheet" "size" "I"] ++ wsX20)
def wsX2_at : List Cond := .code yX2_at cX2_at 2 (some .int) :: ([.fieldLink RX2 9 "SnowCensus$Sheet" "cells" "[I", .methodLink RX2 26 yX2_hasCell, .instanceMethod yX2_hasCell, .selects RX2 yX2_hasCell yX2_hasCell, .initialized RX2, .code yX2_hasCell cX2_hasCell 2 (some .boolean), .fieldLink RX2 23 "SnowCensus$Sheet" "size" "I"] ++ wsX20)
def wsX2_cutToLane : List Cond := .code yX2_cutToLane cX2_cutToLane 2 (some .int) :: ([.fieldLink RX2 19 "SnowCensus$Sheet" "lane" "I"] ++ wsX20)
def wsX3_init : List Cond := .code yX3_init cX3_init 1 none :: ([.methodLink RX3 3 objectInit, .instanceMethod objectInit, .code objectInit ⟨#[0xb1]⟩ 1 none, .arrayClass .int, .fieldLink RX3 9 "SnowCensus$Snow" "kind" "[I", .fieldLink RX3 15 "SnowCensus$Snow" "foot" "[I", .fieldLink RX3 18 "SnowCensus$Snow" "height" "[I"] ++ wsX30)
def wsX3_isLaid : List Cond := .code yX3_isLaid cX3_isLaid 1 (some .boolean) :: ([.fieldLink RX3 21 "SnowCensus$Snow" "standers" "I"] ++ wsX30)
def wsX3_has : List Cond := .code yX3_has cX3_has 2 (some .boolean) :: ([.fieldLink RX3 21 "SnowCensus$Snow" "standers" "I"] ++ wsX30)
def wsX3_everyone : List Cond := .code yX3_everyone cX3_everyone 1 (some .int) :: ([.fieldLink RX3 21 "SnowCensus$Snow" "standers" "I"] ++ wsX30)
def wsX3_becomeLike : List Cond := .code yX3_becomeLike cX3_becomeLike 3 none :: ([.fieldLink RX3 9 "SnowCensus$Snow" "kind" "[I", .fieldLink RX3 15 "SnowCensus$Snow" "foot" "[I", .fieldLink RX3 18 "SnowCensus$Snow" "height" "[I", .fieldLink RX3 21 "SnowCensus$Snow" "standers" "I", .fieldLink RX3 25 "SnowCensus$Snow" "span" "I", .fieldLink RX3 28 "SnowCensus$Snow" "tower" "I"] ++ wsX30)
def wsX3_shadeOf : List Cond := .code yX3_shadeOf cX3_shadeOf 4 (some .int) :: ([.fieldLink RX3 18 "SnowCensus$Snow" "height" "[I", .fieldLink RX3 9 "SnowCensus$Snow" "kind" "[I", .methodLink RX3 35 Lib.Math.max.name, .static Lib.Math.max.name, .initialized "java/lang/Math", .code Lib.Math.max.name Lib.Math.max.code 2 (some .int), .methodLink RX3 31 yX3_has, .instanceMethod yX3_has, .selects RX3 yX3_has yX3_has, .initialized RX3, .code yX3_has cX3_has 2 (some .boolean), .fieldLink RX3 21 "SnowCensus$Snow" "standers" "I"] ++ wsX30)
def wsX3_firstLitFoot : List Cond := .code yX3_firstLitFoot cX3_firstLitFoot 2 (some .int) :: ([.fieldLink RX3 28 "SnowCensus$Snow" "tower" "I"] ++ wsX30)
def wsX3_hiddenSet : List Cond := .code yX3_hiddenSet cX3_hiddenSet 4 (some .int) :: ([.fieldLink RX3 15 "SnowCensus$Snow" "foot" "[I", .methodLink RX3 31 yX3_has, .instanceMethod yX3_has, .selects RX3 yX3_has yX3_has, .initialized RX3, .code yX3_has cX3_has 2 (some .boolean), .fieldLink RX3 21 "SnowCensus$Snow" "standers" "I", .methodLink RX3 41 yX3_firstLitFoot, .instanceMethod yX3_firstLitFoot, .selects RX3 yX3_firstLitFoot yX3_firstLitFoot, .code yX3_firstLitFoot cX3_firstLitFoot 2 (some .int), .fieldLink RX3 28 "SnowCensus$Snow" "tower" "I"] ++ wsX30)
def wsX3_isAnotherOn : List Cond := .code yX3_isAnotherOn cX3_isAnotherOn 4 (some .boolean) :: ([.fieldLink RX3 15 "SnowCensus$Snow" "foot" "[I", .methodLink RX3 31 yX3_has, .instanceMethod yX3_has, .selects RX3 yX3_has yX3_has, .initialized RX3, .code yX3_has cX3_has 2 (some .boolean), .fieldLink RX3 21 "SnowCensus$Snow" "standers" "I"] ++ wsX30)
def wsX3_darkFeet_r1 : List Cond := [Cond.fieldLink RX3 15 "SnowCensus$Snow" "foot" "[I", Cond.methodLink RX3 45 yX3_hiddenSet, Cond.instanceMethod yX3_hiddenSet, Cond.selects RX3 yX3_hiddenSet yX3_hiddenSet, Cond.initialized RX3, Cond.code yX3_hiddenSet cX3_hiddenSet 4 (some .int), Cond.methodLink RX3 31 yX3_has, Cond.instanceMethod yX3_has, Cond.selects RX3 yX3_has yX3_has, Cond.code yX3_has cX3_has 2 (some .boolean), Cond.fieldLink RX3 21 "SnowCensus$Snow" "standers" "I", Cond.methodLink RX3 41 yX3_firstLitFoot, Cond.instanceMethod yX3_firstLitFoot, Cond.selects RX3 yX3_firstLitFoot yX3_firstLitFoot, Cond.code yX3_firstLitFoot cX3_firstLitFoot 2 (some .int), Cond.fieldLink RX3 28 "SnowCensus$Snow" "tower" "I", Cond.methodLink RX3 48 yX3_shadeOf, Cond.instanceMethod yX3_shadeOf, Cond.selects RX3 yX3_shadeOf yX3_shadeOf, Cond.code yX3_shadeOf cX3_shadeOf 4 (some .int), Cond.fieldLink RX3 18 "SnowCensus$Snow" "height" "[I", Cond.fieldLink RX3 9 "SnowCensus$Snow" "kind" "[I", Cond.methodLink RX3 35 Lib.Math.max.name, Cond.static Lib.Math.max.name]
def wsX3_darkFeet_r2 : List Cond := [Cond.initialized "java/lang/Math", Cond.code Lib.Math.max.name Lib.Math.max.code 2 (some .int)]
def wsX3_darkFeet : List Cond := .code yX3_darkFeet cX3_darkFeet 9 (some .long) :: ((wsX3_darkFeet_r1 ++ wsX3_darkFeet_r2) ++ wsX30)
def wsX4_init_r1 : List Cond := [Cond.methodLink RX4 5 objectInit, Cond.instanceMethod objectInit, Cond.code objectInit ⟨#[0xb1]⟩ 1 none, Cond.classLink RX4 11 RX3, Cond.instantiable RX3 6, Cond.initialized RX3, Cond.fieldLink RX4 14 "SnowCensus" "snow" "LSnowCensus$Snow;", Cond.fieldLink RX4 18 "SnowCensus" "trial" "LSnowCensus$Snow;", Cond.classLink RX4 21 RX1, Cond.instantiable RX1 4, Cond.initialized RX1, Cond.fieldLink RX4 24 "SnowCensus" "shadows" "LSnowCensus$Shadows;", Cond.classLink RX4 28 RX0, Cond.instantiable RX0 3, Cond.initialized RX0, Cond.fieldLink RX4 31 "SnowCensus" "readings" "LSnowCensus$Readings;", Cond.classLink RX4 35 RX2, Cond.fieldLink RX4 37 "SnowCensus" "sheets" "[LSnowCensus$Sheet;", Cond.instantiable RX2 4, Cond.initialized RX2, Cond.instanceMethod yX3_init, Cond.code yX3_init cX3_init 1 none, Cond.methodLink RX3 3 objectInit, Cond.arrayClass .int]
def wsX4_init_r2 : List Cond := [Cond.fieldLink RX3 9 "SnowCensus$Snow" "kind" "[I", Cond.fieldLink RX3 15 "SnowCensus$Snow" "foot" "[I", Cond.fieldLink RX3 18 "SnowCensus$Snow" "height" "[I", Cond.instanceMethod yX1_init, Cond.code yX1_init cX1_init 1 none, Cond.methodLink RX1 3 objectInit, Cond.instanceMethod yX0_init, Cond.code yX0_init cX0_init 1 none, Cond.methodLink RX0 3 objectInit, Cond.fieldLink RX0 9 "SnowCensus$Readings" "sun" "[I", Cond.fieldLink RX0 15 "SnowCensus$Readings" "counted" "[I", Cond.instanceMethod yX2_init, Cond.code yX2_init cX2_init 1 none, Cond.methodLink RX2 3 objectInit, Cond.fieldLink RX2 9 "SnowCensus$Sheet" "cells" "[I"]
def wsX4_init : List Cond := .code yX4_init cX4_init 2 none :: ((wsX4_init_r1 ++ wsX4_init_r2) ++ wsX30 ++ wsX40 ++ wsX10 ++ wsX00 ++ wsX20)
def wsX4_sheetAt : List Cond := .code yX4_sheetAt cX4_sheetAt 2 (some (.object "SnowCensus$Sheet")) :: ([.fieldLink RX4 37 "SnowCensus" "sheets" "[LSnowCensus$Sheet;"] ++ wsX40)
def wsX4_isLane : List Cond := .code yX4_isLane cX4_isLane 1 (some .boolean) :: ([])
def wsX4_failed : List Cond := .code yX4_failed cX4_failed 2 (some .int) :: ([.fieldLink RX4 42 "SnowCensus" "latestFault" "I"] ++ wsX40)
def wsX4_isDigitCode : List Cond := .code yX4_isDigitCode cX4_isDigitCode 1 (some .boolean) :: ([])
def wsX4_kindOfLetter : List Cond := .code yX4_kindOfLetter cX4_kindOfLetter 1 (some .int) :: ([])
def wsX4_goesOnWith : List Cond := .code yX4_goesOnWith cX4_goesOnWith 2 (some .boolean) :: ([.methodLink RX4 233 yX4_isDigitCode, .static yX4_isDigitCode, .initialized RX4, .code yX4_isDigitCode cX4_isDigitCode 1 (some .boolean), .methodLink RX4 236 yX4_kindOfLetter, .static yX4_kindOfLetter, .code yX4_kindOfLetter cX4_kindOfLetter 1 (some .int)])
def wsX4_firstFault : List Cond := .code yX4_firstFault cX4_firstFault 4 (some .int) :: ([.methodLink RX4 202 yX2_at, .instanceMethod yX2_at, .selects RX2 yX2_at yX2_at, .initialized RX2, .code yX2_at cX2_at 2 (some .int), .fieldLink RX2 9 "SnowCensus$Sheet" "cells" "[I", .methodLink RX2 26 yX2_hasCell, .instanceMethod yX2_hasCell, .selects RX2 yX2_hasCell yX2_hasCell, .code yX2_hasCell cX2_hasCell 2 (some .boolean), .fieldLink RX2 23 "SnowCensus$Sheet" "size" "I", .methodLink RX4 230 yX4_goesOnWith, .static yX4_goesOnWith, .initialized RX4, .code yX4_goesOnWith cX4_goesOnWith 2 (some .boolean), .methodLink RX4 233 yX4_isDigitCode, .static yX4_isDigitCode, .code yX4_isDigitCode cX4_isDigitCode 1 (some .boolean), .methodLink RX4 236 yX4_kindOfLetter, .static yX4_kindOfLetter, .code yX4_kindOfLetter cX4_kindOfLetter 1 (some .int)] ++ wsX20)
def wsX4_layField : List Cond := .code yX4_layField cX4_layField 6 none :: ([.fieldLink RX4 14 "SnowCensus" "snow" "LSnowCensus$Snow;", .fieldLink RX4 124 "SnowCensus$Snow" "span" "I", .fieldLink RX4 96 "SnowCensus$Snow" "tower" "I", .fieldLink RX4 73 "SnowCensus$Snow" "standers" "I", .fieldLink RX4 79 "SnowCensus$Snow" "kind" "[I", .fieldLink RX4 83 "SnowCensus$Snow" "foot" "[I", .fieldLink RX4 86 "SnowCensus$Snow" "height" "[I", .fieldLink RX4 31 "SnowCensus" "readings" "LSnowCensus$Readings;", .fieldLink RX4 171 "SnowCensus$Readings" "count" "I", .methodLink RX4 202 yX2_at, .instanceMethod yX2_at, .selects RX2 yX2_at yX2_at, .initialized RX2, .code yX2_at cX2_at 2 (some .int), .fieldLink RX2 9 "SnowCensus$Sheet" "cells" "[I", .methodLink RX2 26 yX2_hasCell, .instanceMethod yX2_hasCell, .selects RX2 yX2_hasCell yX2_hasCell, .code yX2_hasCell cX2_hasCell 2 (some .boolean), .fieldLink RX2 23 "SnowCensus$Sheet" "size" "I", .methodLink RX4 236 yX4_kindOfLetter, .static yX4_kindOfLetter, .initialized RX4, .code yX4_kindOfLetter cX4_kindOfLetter 1 (some .int)] ++ wsX40 ++ wsX30 ++ wsX00 ++ wsX20)
def wsX4_field_r1 : List Cond := [Cond.fieldLink RX4 42 "SnowCensus" "latestFault" "I", Cond.fieldLink RX4 14 "SnowCensus" "snow" "LSnowCensus$Snow;", Cond.fieldLink RX4 73 "SnowCensus$Snow" "standers" "I", Cond.methodLink RX4 46 yX4_sheetAt, Cond.instanceMethod yX4_sheetAt, Cond.selects RX4 yX4_sheetAt yX4_sheetAt, Cond.initialized RX4, Cond.code yX4_sheetAt cX4_sheetAt 2 (some (.object "SnowCensus$Sheet")), Cond.fieldLink RX4 37 "SnowCensus" "sheets" "[LSnowCensus$Sheet;", Cond.methodLink RX4 50 yX4_isLane, Cond.static yX4_isLane, Cond.code yX4_isLane cX4_isLane 1 (some .boolean), Cond.methodLink RX4 54 yX2_faultAs, Cond.instanceMethod yX2_faultAs, Cond.selects RX2 yX2_faultAs yX2_faultAs, Cond.initialized RX2, Cond.code yX2_faultAs cX2_faultAs 2 (some .int), Cond.fieldLink RX2 15 "SnowCensus$Sheet" "hasRow" "Z", Cond.fieldLink RX2 19 "SnowCensus$Sheet" "lane" "I", Cond.methodLink RX4 58 yX2_holds, Cond.instanceMethod yX2_holds, Cond.selects RX2 yX2_holds yX2_holds, Cond.code yX2_holds cX2_holds 3 (some .boolean), Cond.fieldLink RX2 23 "SnowCensus$Sheet" "size" "I"]
def wsX4_field_r2 : List Cond := [Cond.methodLink RX4 62 yX4_failed, Cond.instanceMethod yX4_failed, Cond.selects RX4 yX4_failed yX4_failed, Cond.code yX4_failed cX4_failed 2 (some .int), Cond.methodLink RX4 65 yX4_firstFault, Cond.static yX4_firstFault, Cond.code yX4_firstFault cX4_firstFault 4 (some .int), Cond.methodLink RX4 202 yX2_at, Cond.instanceMethod yX2_at, Cond.selects RX2 yX2_at yX2_at, Cond.code yX2_at cX2_at 2 (some .int), Cond.fieldLink RX2 9 "SnowCensus$Sheet" "cells" "[I", Cond.methodLink RX2 26 yX2_hasCell, Cond.instanceMethod yX2_hasCell, Cond.selects RX2 yX2_hasCell yX2_hasCell, Cond.code yX2_hasCell cX2_hasCell 2 (some .boolean), Cond.methodLink RX4 230 yX4_goesOnWith, Cond.static yX4_goesOnWith, Cond.code yX4_goesOnWith cX4_goesOnWith 2 (some .boolean), Cond.methodLink RX4 233 yX4_isDigitCode, Cond.static yX4_isDigitCode, Cond.code yX4_isDigitCode cX4_isDigitCode 1 (some .boolean), Cond.methodLink RX4 236 yX4_kindOfLetter, Cond.static yX4_kindOfLetter]
def wsX4_field_r3 : List Cond := [Cond.code yX4_kindOfLetter cX4_kindOfLetter 1 (some .int), Cond.methodLink RX4 69 yX4_layField, Cond.instanceMethod yX4_layField, Cond.selects RX4 yX4_layField yX4_layField, Cond.code yX4_layField cX4_layField 6 none, Cond.fieldLink RX4 124 "SnowCensus$Snow" "span" "I", Cond.fieldLink RX4 96 "SnowCensus$Snow" "tower" "I", Cond.fieldLink RX4 79 "SnowCensus$Snow" "kind" "[I", Cond.fieldLink RX4 83 "SnowCensus$Snow" "foot" "[I", Cond.fieldLink RX4 86 "SnowCensus$Snow" "height" "[I", Cond.fieldLink RX4 31 "SnowCensus" "readings" "LSnowCensus$Readings;", Cond.fieldLink RX4 171 "SnowCensus$Readings" "count" "I"]
def wsX4_field : List Cond := .code yX4_field cX4_field 8 (some .int) :: ((wsX4_field_r1 ++ (wsX4_field_r2 ++ wsX4_field_r3)) ++ wsX40 ++ wsX30 ++ wsX20 ++ wsX00)
def wsX4_ofStander : List Cond := .code yX4_ofStander cX4_ofStander 3 (some .int) :: ([.fieldLink RX4 14 "SnowCensus" "snow" "LSnowCensus$Snow;", .fieldLink RX4 79 "SnowCensus$Snow" "kind" "[I", .fieldLink RX4 83 "SnowCensus$Snow" "foot" "[I", .fieldLink RX4 86 "SnowCensus$Snow" "height" "[I", .methodLink RX4 76 yX3_has, .instanceMethod yX3_has, .selects RX3 yX3_has yX3_has, .initialized RX3, .code yX3_has cX3_has 2 (some .boolean), .fieldLink RX3 21 "SnowCensus$Snow" "standers" "I"] ++ wsX40 ++ wsX30)
def wsX4_isDigit : List Cond := .code yX4_isDigit cX4_isDigit 1 (some .boolean) :: ([])
def wsX4_walk : List Cond := .code yX4_walk cX4_walk 4 (some .int) :: ([.fieldLink RX4 14 "SnowCensus" "snow" "LSnowCensus$Snow;", .fieldLink RX4 83 "SnowCensus$Snow" "foot" "[I", .methodLink RX4 76 yX3_has, .instanceMethod yX3_has, .selects RX3 yX3_has yX3_has, .initialized RX3, .code yX3_has cX3_has 2 (some .boolean), .fieldLink RX3 21 "SnowCensus$Snow" "standers" "I", .methodLink RX4 89 yX4_isDigit, .static yX4_isDigit, .initialized RX4, .code yX4_isDigit cX4_isDigit 1 (some .boolean)] ++ wsX40 ++ wsX30)
def wsX4_grow : List Cond := .code yX4_grow cX4_grow 4 (some .int) :: ([.fieldLink RX4 14 "SnowCensus" "snow" "LSnowCensus$Snow;", .fieldLink RX4 86 "SnowCensus$Snow" "height" "[I", .methodLink RX4 76 yX3_has, .instanceMethod yX3_has, .selects RX3 yX3_has yX3_has, .initialized RX3, .code yX3_has cX3_has 2 (some .boolean), .fieldLink RX3 21 "SnowCensus$Snow" "standers" "I", .methodLink RX4 89 yX4_isDigit, .static yX4_isDigit, .initialized RX4, .code yX4_isDigit cX4_isDigit 1 (some .boolean)] ++ wsX40 ++ wsX30)
def wsX4_build : List Cond := .code yX4_build cX4_build 3 (some .int) :: ([.fieldLink RX4 14 "SnowCensus" "snow" "LSnowCensus$Snow;", .fieldLink RX4 96 "SnowCensus$Snow" "tower" "I", .methodLink RX4 89 yX4_isDigit, .static yX4_isDigit, .initialized RX4, .code yX4_isDigit cX4_isDigit 1 (some .boolean), .methodLink RX4 92 yX3_isLaid, .instanceMethod yX3_isLaid, .selects RX3 yX3_isLaid yX3_isLaid, .initialized RX3, .code yX3_isLaid cX3_isLaid 1 (some .boolean), .fieldLink RX3 21 "SnowCensus$Snow" "standers" "I"] ++ wsX40 ++ wsX30)
def wsX4_isSun : List Cond := .code yX4_isSun cX4_isSun 1 (some .boolean) :: ([])
def wsX4_shade : List Cond := .code yX4_shade cX4_shade 3 (some .int) :: ([.fieldLink RX4 14 "SnowCensus" "snow" "LSnowCensus$Snow;", .methodLink RX4 76 yX3_has, .instanceMethod yX3_has, .selects RX3 yX3_has yX3_has, .initialized RX3, .code yX3_has cX3_has 2 (some .boolean), .fieldLink RX3 21 "SnowCensus$Snow" "standers" "I", .methodLink RX4 99 yX4_isSun, .static yX4_isSun, .initialized RX4, .code yX4_isSun cX4_isSun 1 (some .boolean), .methodLink RX4 102 yX3_shadeOf, .instanceMethod yX3_shadeOf, .selects RX3 yX3_shadeOf yX3_shadeOf, .code yX3_shadeOf cX3_shadeOf 4 (some .int), .fieldLink RX3 18 "SnowCensus$Snow" "height" "[I", .fieldLink RX3 9 "SnowCensus$Snow" "kind" "[I", .methodLink RX3 35 Lib.Math.max.name, .static Lib.Math.max.name, .initialized "java/lang/Math", .code Lib.Math.max.name Lib.Math.max.code 2 (some .int), .methodLink RX3 31 yX3_has] ++ wsX40 ++ wsX30)
def wsX4_refusalAt : List Cond := .code yX4_refusalAt cX4_refusalAt 2 (some .int) :: ([.fieldLink RX4 14 "SnowCensus" "snow" "LSnowCensus$Snow;", .methodLink RX4 99 yX4_isSun, .static yX4_isSun, .initialized RX4, .code yX4_isSun cX4_isSun 1 (some .boolean), .methodLink RX4 92 yX3_isLaid, .instanceMethod yX3_isLaid, .selects RX3 yX3_isLaid yX3_isLaid, .initialized RX3, .code yX3_isLaid cX3_isLaid 1 (some .boolean), .fieldLink RX3 21 "SnowCensus$Snow" "standers" "I"] ++ wsX40 ++ wsX30)
def wsX4_hidden_r1 : List Cond := [Cond.fieldLink RX4 14 "SnowCensus" "snow" "LSnowCensus$Snow;", Cond.methodLink RX4 106 yX4_refusalAt, Cond.instanceMethod yX4_refusalAt, Cond.selects RX4 yX4_refusalAt yX4_refusalAt, Cond.initialized RX4, Cond.code yX4_refusalAt cX4_refusalAt 2 (some .int), Cond.methodLink RX4 99 yX4_isSun, Cond.static yX4_isSun, Cond.code yX4_isSun cX4_isSun 1 (some .boolean), Cond.methodLink RX4 92 yX3_isLaid, Cond.instanceMethod yX3_isLaid, Cond.selects RX3 yX3_isLaid yX3_isLaid, Cond.initialized RX3, Cond.code yX3_isLaid cX3_isLaid 1 (some .boolean), Cond.fieldLink RX3 21 "SnowCensus$Snow" "standers" "I", Cond.methodLink RX4 109 yX3_hiddenSet, Cond.instanceMethod yX3_hiddenSet, Cond.selects RX3 yX3_hiddenSet yX3_hiddenSet, Cond.code yX3_hiddenSet cX3_hiddenSet 4 (some .int), Cond.fieldLink RX3 15 "SnowCensus$Snow" "foot" "[I", Cond.methodLink RX3 31 yX3_has, Cond.instanceMethod yX3_has, Cond.selects RX3 yX3_has yX3_has, Cond.code yX3_has cX3_has 2 (some .boolean)]
def wsX4_hidden_r2 : List Cond := [Cond.methodLink RX3 41 yX3_firstLitFoot, Cond.instanceMethod yX3_firstLitFoot, Cond.selects RX3 yX3_firstLitFoot yX3_firstLitFoot, Cond.code yX3_firstLitFoot cX3_firstLitFoot 2 (some .int), Cond.fieldLink RX3 28 "SnowCensus$Snow" "tower" "I"]
def wsX4_hidden : List Cond := .code yX4_hidden cX4_hidden 3 (some .int) :: ((wsX4_hidden_r1 ++ wsX4_hidden_r2) ++ wsX40 ++ wsX30)
def wsX4_countedOn_r1 : List Cond := [Cond.fieldLink RX4 24 "SnowCensus" "shadows" "LSnowCensus$Shadows;", Cond.fieldLink RX4 124 "SnowCensus$Snow" "span" "I", Cond.fieldLink RX4 239 "SnowCensus$Shadows" "counted" "I", Cond.methodLink RX4 120 yX3_darkFeet, Cond.instanceMethod yX3_darkFeet, Cond.selects RX3 yX3_darkFeet yX3_darkFeet, Cond.initialized RX3, Cond.code yX3_darkFeet cX3_darkFeet 9 (some .long), Cond.fieldLink RX3 15 "SnowCensus$Snow" "foot" "[I", Cond.methodLink RX3 45 yX3_hiddenSet, Cond.instanceMethod yX3_hiddenSet, Cond.selects RX3 yX3_hiddenSet yX3_hiddenSet, Cond.code yX3_hiddenSet cX3_hiddenSet 4 (some .int), Cond.methodLink RX3 31 yX3_has, Cond.instanceMethod yX3_has, Cond.selects RX3 yX3_has yX3_has, Cond.code yX3_has cX3_has 2 (some .boolean), Cond.fieldLink RX3 21 "SnowCensus$Snow" "standers" "I", Cond.methodLink RX3 41 yX3_firstLitFoot, Cond.instanceMethod yX3_firstLitFoot, Cond.selects RX3 yX3_firstLitFoot yX3_firstLitFoot, Cond.code yX3_firstLitFoot cX3_firstLitFoot 2 (some .int), Cond.fieldLink RX3 28 "SnowCensus$Snow" "tower" "I", Cond.methodLink RX3 48 yX3_shadeOf]
def wsX4_countedOn_r2 : List Cond := [Cond.instanceMethod yX3_shadeOf, Cond.selects RX3 yX3_shadeOf yX3_shadeOf, Cond.code yX3_shadeOf cX3_shadeOf 4 (some .int), Cond.fieldLink RX3 18 "SnowCensus$Snow" "height" "[I", Cond.fieldLink RX3 9 "SnowCensus$Snow" "kind" "[I", Cond.methodLink RX3 35 Lib.Math.max.name, Cond.static Lib.Math.max.name, Cond.initialized "java/lang/Math", Cond.code Lib.Math.max.name Lib.Math.max.code 2 (some .int), Cond.methodLink RX4 127 yX1_measure, Cond.instanceMethod yX1_measure, Cond.selects RX1 yX1_measure yX1_measure, Cond.initialized RX1, Cond.code yX1_measure cX1_measure 6 none, Cond.fieldLink RX1 9 "SnowCensus$Shadows" "runCount" "I", Cond.fieldLink RX1 15 "SnowCensus$Shadows" "longest" "I", Cond.fieldLink RX1 18 "SnowCensus$Shadows" "counted" "I", Cond.fieldLink RX1 25 "SnowCensus$Shadows" "need" "I", Cond.methodLink RX1 21 yX1_closeRun, Cond.instanceMethod yX1_closeRun, Cond.selects RX1 yX1_closeRun yX1_closeRun, Cond.code yX1_closeRun cX1_closeRun 3 none, Cond.methodLink RX1 28 Lib.Math.max.name]
def wsX4_countedOn : List Cond := .code yX4_countedOn cX4_countedOn 4 (some .int) :: ((wsX4_countedOn_r1 ++ wsX4_countedOn_r2) ++ wsX40 ++ wsX30 ++ wsX10)
def wsX4_census_r1 : List Cond := [Cond.fieldLink RX4 14 "SnowCensus" "snow" "LSnowCensus$Snow;", Cond.methodLink RX4 106 yX4_refusalAt, Cond.instanceMethod yX4_refusalAt, Cond.selects RX4 yX4_refusalAt yX4_refusalAt, Cond.initialized RX4, Cond.code yX4_refusalAt cX4_refusalAt 2 (some .int), Cond.methodLink RX4 99 yX4_isSun, Cond.static yX4_isSun, Cond.code yX4_isSun cX4_isSun 1 (some .boolean), Cond.methodLink RX4 92 yX3_isLaid, Cond.instanceMethod yX3_isLaid, Cond.selects RX3 yX3_isLaid yX3_isLaid, Cond.initialized RX3, Cond.code yX3_isLaid cX3_isLaid 1 (some .boolean), Cond.fieldLink RX3 21 "SnowCensus$Snow" "standers" "I", Cond.methodLink RX4 112 yX3_everyone, Cond.instanceMethod yX3_everyone, Cond.selects RX3 yX3_everyone yX3_everyone, Cond.code yX3_everyone cX3_everyone 1 (some .int), Cond.methodLink RX4 116 yX4_countedOn, Cond.instanceMethod yX4_countedOn, Cond.selects RX4 yX4_countedOn yX4_countedOn, Cond.code yX4_countedOn cX4_countedOn 4 (some .int), Cond.fieldLink RX4 24 "SnowCensus" "shadows" "LSnowCensus$Shadows;"]
def wsX4_census_r2 : List Cond := [Cond.fieldLink RX4 124 "SnowCensus$Snow" "span" "I", Cond.fieldLink RX4 239 "SnowCensus$Shadows" "counted" "I", Cond.methodLink RX4 120 yX3_darkFeet, Cond.instanceMethod yX3_darkFeet, Cond.selects RX3 yX3_darkFeet yX3_darkFeet, Cond.code yX3_darkFeet cX3_darkFeet 9 (some .long), Cond.fieldLink RX3 15 "SnowCensus$Snow" "foot" "[I", Cond.methodLink RX3 45 yX3_hiddenSet, Cond.instanceMethod yX3_hiddenSet, Cond.selects RX3 yX3_hiddenSet yX3_hiddenSet, Cond.code yX3_hiddenSet cX3_hiddenSet 4 (some .int), Cond.methodLink RX3 31 yX3_has, Cond.instanceMethod yX3_has, Cond.selects RX3 yX3_has yX3_has, Cond.code yX3_has cX3_has 2 (some .boolean), Cond.methodLink RX3 41 yX3_firstLitFoot, Cond.instanceMethod yX3_firstLitFoot, Cond.selects RX3 yX3_firstLitFoot yX3_firstLitFoot, Cond.code yX3_firstLitFoot cX3_firstLitFoot 2 (some .int), Cond.fieldLink RX3 28 "SnowCensus$Snow" "tower" "I", Cond.methodLink RX3 48 yX3_shadeOf, Cond.instanceMethod yX3_shadeOf, Cond.selects RX3 yX3_shadeOf yX3_shadeOf, Cond.code yX3_shadeOf cX3_shadeOf 4 (some .int)]
def wsX4_census_r3 : List Cond := [Cond.fieldLink RX3 18 "SnowCensus$Snow" "height" "[I", Cond.fieldLink RX3 9 "SnowCensus$Snow" "kind" "[I", Cond.methodLink RX3 35 Lib.Math.max.name, Cond.static Lib.Math.max.name, Cond.initialized "java/lang/Math", Cond.code Lib.Math.max.name Lib.Math.max.code 2 (some .int), Cond.methodLink RX4 127 yX1_measure, Cond.instanceMethod yX1_measure, Cond.selects RX1 yX1_measure yX1_measure, Cond.initialized RX1, Cond.code yX1_measure cX1_measure 6 none, Cond.fieldLink RX1 9 "SnowCensus$Shadows" "runCount" "I", Cond.fieldLink RX1 15 "SnowCensus$Shadows" "longest" "I", Cond.fieldLink RX1 18 "SnowCensus$Shadows" "counted" "I", Cond.fieldLink RX1 25 "SnowCensus$Shadows" "need" "I", Cond.methodLink RX1 21 yX1_closeRun, Cond.instanceMethod yX1_closeRun, Cond.selects RX1 yX1_closeRun yX1_closeRun, Cond.code yX1_closeRun cX1_closeRun 3 none, Cond.methodLink RX1 28 Lib.Math.max.name]
def wsX4_census : List Cond := .code yX4_census cX4_census 3 (some .int) :: ((wsX4_census_r1 ++ (wsX4_census_r2 ++ wsX4_census_r3)) ++ wsX40 ++ wsX30 ++ wsX10)
def wsX4_runs_r1 : List Cond := [Cond.fieldLink RX4 24 "SnowCensus" "shadows" "LSnowCensus$Shadows;", Cond.fieldLink RX4 14 "SnowCensus" "snow" "LSnowCensus$Snow;", Cond.fieldLink RX4 124 "SnowCensus$Snow" "span" "I", Cond.fieldLink RX4 131 "SnowCensus$Shadows" "runCount" "I", Cond.fieldLink RX4 134 "SnowCensus$Shadows" "longest" "I", Cond.fieldLink RX4 137 "SnowCensus$Shadows" "need" "I", Cond.methodLink RX4 106 yX4_refusalAt, Cond.instanceMethod yX4_refusalAt, Cond.selects RX4 yX4_refusalAt yX4_refusalAt, Cond.initialized RX4, Cond.code yX4_refusalAt cX4_refusalAt 2 (some .int), Cond.methodLink RX4 99 yX4_isSun, Cond.static yX4_isSun, Cond.code yX4_isSun cX4_isSun 1 (some .boolean), Cond.methodLink RX4 92 yX3_isLaid, Cond.instanceMethod yX3_isLaid, Cond.selects RX3 yX3_isLaid yX3_isLaid, Cond.initialized RX3, Cond.code yX3_isLaid cX3_isLaid 1 (some .boolean), Cond.fieldLink RX3 21 "SnowCensus$Snow" "standers" "I", Cond.methodLink RX4 112 yX3_everyone, Cond.instanceMethod yX3_everyone, Cond.selects RX3 yX3_everyone yX3_everyone, Cond.code yX3_everyone cX3_everyone 1 (some .int)]
def wsX4_runs_r2 : List Cond := [Cond.methodLink RX4 120 yX3_darkFeet, Cond.instanceMethod yX3_darkFeet, Cond.selects RX3 yX3_darkFeet yX3_darkFeet, Cond.code yX3_darkFeet cX3_darkFeet 9 (some .long), Cond.fieldLink RX3 15 "SnowCensus$Snow" "foot" "[I", Cond.methodLink RX3 45 yX3_hiddenSet, Cond.instanceMethod yX3_hiddenSet, Cond.selects RX3 yX3_hiddenSet yX3_hiddenSet, Cond.code yX3_hiddenSet cX3_hiddenSet 4 (some .int), Cond.methodLink RX3 31 yX3_has, Cond.instanceMethod yX3_has, Cond.selects RX3 yX3_has yX3_has, Cond.code yX3_has cX3_has 2 (some .boolean), Cond.methodLink RX3 41 yX3_firstLitFoot, Cond.instanceMethod yX3_firstLitFoot, Cond.selects RX3 yX3_firstLitFoot yX3_firstLitFoot, Cond.code yX3_firstLitFoot cX3_firstLitFoot 2 (some .int), Cond.fieldLink RX3 28 "SnowCensus$Snow" "tower" "I", Cond.methodLink RX3 48 yX3_shadeOf, Cond.instanceMethod yX3_shadeOf, Cond.selects RX3 yX3_shadeOf yX3_shadeOf, Cond.code yX3_shadeOf cX3_shadeOf 4 (some .int), Cond.fieldLink RX3 18 "SnowCensus$Snow" "height" "[I", Cond.fieldLink RX3 9 "SnowCensus$Snow" "kind" "[I"]
def wsX4_runs_r3 : List Cond := [Cond.methodLink RX3 35 Lib.Math.max.name, Cond.static Lib.Math.max.name, Cond.initialized "java/lang/Math", Cond.code Lib.Math.max.name Lib.Math.max.code 2 (some .int), Cond.methodLink RX4 127 yX1_measure, Cond.instanceMethod yX1_measure, Cond.selects RX1 yX1_measure yX1_measure, Cond.initialized RX1, Cond.code yX1_measure cX1_measure 6 none, Cond.fieldLink RX1 9 "SnowCensus$Shadows" "runCount" "I", Cond.fieldLink RX1 15 "SnowCensus$Shadows" "longest" "I", Cond.fieldLink RX1 18 "SnowCensus$Shadows" "counted" "I", Cond.fieldLink RX1 25 "SnowCensus$Shadows" "need" "I", Cond.methodLink RX1 21 yX1_closeRun, Cond.instanceMethod yX1_closeRun, Cond.selects RX1 yX1_closeRun yX1_closeRun, Cond.code yX1_closeRun cX1_closeRun 3 none, Cond.methodLink RX1 28 Lib.Math.max.name]
def wsX4_runs : List Cond := .code yX4_runs cX4_runs 4 (some .int) :: ((wsX4_runs_r1 ++ (wsX4_runs_r2 ++ wsX4_runs_r3)) ++ wsX40 ++ wsX30 ++ wsX10)
def wsX4_offAt_r1 : List Cond := [Cond.fieldLink RX4 14 "SnowCensus" "snow" "LSnowCensus$Snow;", Cond.fieldLink RX4 73 "SnowCensus$Snow" "standers" "I", Cond.methodLink RX4 242 Lib.Math.abs.name, Cond.static Lib.Math.abs.name, Cond.initialized "java/lang/Math", Cond.code Lib.Math.abs.name Lib.Math.abs.code 1 (some .int), Cond.methodLink RX4 112 yX3_everyone, Cond.instanceMethod yX3_everyone, Cond.selects RX3 yX3_everyone yX3_everyone, Cond.initialized RX3, Cond.code yX3_everyone cX3_everyone 1 (some .int), Cond.fieldLink RX3 21 "SnowCensus$Snow" "standers" "I", Cond.methodLink RX4 116 yX4_countedOn, Cond.instanceMethod yX4_countedOn, Cond.selects RX4 yX4_countedOn yX4_countedOn, Cond.initialized RX4, Cond.code yX4_countedOn cX4_countedOn 4 (some .int), Cond.fieldLink RX4 24 "SnowCensus" "shadows" "LSnowCensus$Shadows;", Cond.fieldLink RX4 124 "SnowCensus$Snow" "span" "I", Cond.fieldLink RX4 239 "SnowCensus$Shadows" "counted" "I", Cond.methodLink RX4 120 yX3_darkFeet, Cond.instanceMethod yX3_darkFeet, Cond.selects RX3 yX3_darkFeet yX3_darkFeet, Cond.code yX3_darkFeet cX3_darkFeet 9 (some .long)]
def wsX4_offAt_r2 : List Cond := [Cond.fieldLink RX3 15 "SnowCensus$Snow" "foot" "[I", Cond.methodLink RX3 45 yX3_hiddenSet, Cond.instanceMethod yX3_hiddenSet, Cond.selects RX3 yX3_hiddenSet yX3_hiddenSet, Cond.code yX3_hiddenSet cX3_hiddenSet 4 (some .int), Cond.methodLink RX3 31 yX3_has, Cond.instanceMethod yX3_has, Cond.selects RX3 yX3_has yX3_has, Cond.code yX3_has cX3_has 2 (some .boolean), Cond.methodLink RX3 41 yX3_firstLitFoot, Cond.instanceMethod yX3_firstLitFoot, Cond.selects RX3 yX3_firstLitFoot yX3_firstLitFoot, Cond.code yX3_firstLitFoot cX3_firstLitFoot 2 (some .int), Cond.fieldLink RX3 28 "SnowCensus$Snow" "tower" "I", Cond.methodLink RX3 48 yX3_shadeOf, Cond.instanceMethod yX3_shadeOf, Cond.selects RX3 yX3_shadeOf yX3_shadeOf, Cond.code yX3_shadeOf cX3_shadeOf 4 (some .int), Cond.fieldLink RX3 18 "SnowCensus$Snow" "height" "[I", Cond.fieldLink RX3 9 "SnowCensus$Snow" "kind" "[I", Cond.methodLink RX3 35 Lib.Math.max.name, Cond.static Lib.Math.max.name, Cond.code Lib.Math.max.name Lib.Math.max.code 2 (some .int), Cond.methodLink RX4 127 yX1_measure]
def wsX4_offAt_r3 : List Cond := [Cond.instanceMethod yX1_measure, Cond.selects RX1 yX1_measure yX1_measure, Cond.initialized RX1, Cond.code yX1_measure cX1_measure 6 none, Cond.fieldLink RX1 9 "SnowCensus$Shadows" "runCount" "I", Cond.fieldLink RX1 15 "SnowCensus$Shadows" "longest" "I", Cond.fieldLink RX1 18 "SnowCensus$Shadows" "counted" "I", Cond.fieldLink RX1 25 "SnowCensus$Shadows" "need" "I", Cond.methodLink RX1 21 yX1_closeRun, Cond.instanceMethod yX1_closeRun, Cond.selects RX1 yX1_closeRun yX1_closeRun, Cond.code yX1_closeRun cX1_closeRun 3 none, Cond.methodLink RX1 28 Lib.Math.max.name]
def wsX4_offAt : List Cond := .code yX4_offAt cX4_offAt 2 (some .int) :: ((wsX4_offAt_r1 ++ (wsX4_offAt_r2 ++ wsX4_offAt_r3)) ++ wsX40 ++ wsX30 ++ wsX10)
def wsX4_fair_r1 : List Cond := [Cond.fieldLink RX4 14 "SnowCensus" "snow" "LSnowCensus$Snow;", Cond.methodLink RX4 92 yX3_isLaid, Cond.instanceMethod yX3_isLaid, Cond.selects RX3 yX3_isLaid yX3_isLaid, Cond.initialized RX3, Cond.code yX3_isLaid cX3_isLaid 1 (some .boolean), Cond.fieldLink RX3 21 "SnowCensus$Snow" "standers" "I", Cond.methodLink RX4 140 yX4_offAt, Cond.instanceMethod yX4_offAt, Cond.selects RX4 yX4_offAt yX4_offAt, Cond.initialized RX4, Cond.code yX4_offAt cX4_offAt 2 (some .int), Cond.fieldLink RX4 73 "SnowCensus$Snow" "standers" "I", Cond.methodLink RX4 242 Lib.Math.abs.name, Cond.static Lib.Math.abs.name, Cond.initialized "java/lang/Math", Cond.code Lib.Math.abs.name Lib.Math.abs.code 1 (some .int), Cond.methodLink RX4 112 yX3_everyone, Cond.instanceMethod yX3_everyone, Cond.selects RX3 yX3_everyone yX3_everyone, Cond.code yX3_everyone cX3_everyone 1 (some .int), Cond.methodLink RX4 116 yX4_countedOn, Cond.instanceMethod yX4_countedOn, Cond.selects RX4 yX4_countedOn yX4_countedOn]
def wsX4_fair_r2 : List Cond := [Cond.code yX4_countedOn cX4_countedOn 4 (some .int), Cond.fieldLink RX4 24 "SnowCensus" "shadows" "LSnowCensus$Shadows;", Cond.fieldLink RX4 124 "SnowCensus$Snow" "span" "I", Cond.fieldLink RX4 239 "SnowCensus$Shadows" "counted" "I", Cond.methodLink RX4 120 yX3_darkFeet, Cond.instanceMethod yX3_darkFeet, Cond.selects RX3 yX3_darkFeet yX3_darkFeet, Cond.code yX3_darkFeet cX3_darkFeet 9 (some .long), Cond.fieldLink RX3 15 "SnowCensus$Snow" "foot" "[I", Cond.methodLink RX3 45 yX3_hiddenSet, Cond.instanceMethod yX3_hiddenSet, Cond.selects RX3 yX3_hiddenSet yX3_hiddenSet, Cond.code yX3_hiddenSet cX3_hiddenSet 4 (some .int), Cond.methodLink RX3 31 yX3_has, Cond.instanceMethod yX3_has, Cond.selects RX3 yX3_has yX3_has, Cond.code yX3_has cX3_has 2 (some .boolean), Cond.methodLink RX3 41 yX3_firstLitFoot, Cond.instanceMethod yX3_firstLitFoot, Cond.selects RX3 yX3_firstLitFoot yX3_firstLitFoot, Cond.code yX3_firstLitFoot cX3_firstLitFoot 2 (some .int), Cond.fieldLink RX3 28 "SnowCensus$Snow" "tower" "I", Cond.methodLink RX3 48 yX3_shadeOf, Cond.instanceMethod yX3_shadeOf]
def wsX4_fair_r3 : List Cond := [Cond.selects RX3 yX3_shadeOf yX3_shadeOf, Cond.code yX3_shadeOf cX3_shadeOf 4 (some .int), Cond.fieldLink RX3 18 "SnowCensus$Snow" "height" "[I", Cond.fieldLink RX3 9 "SnowCensus$Snow" "kind" "[I", Cond.methodLink RX3 35 Lib.Math.max.name, Cond.static Lib.Math.max.name, Cond.code Lib.Math.max.name Lib.Math.max.code 2 (some .int), Cond.methodLink RX4 127 yX1_measure, Cond.instanceMethod yX1_measure, Cond.selects RX1 yX1_measure yX1_measure, Cond.initialized RX1, Cond.code yX1_measure cX1_measure 6 none, Cond.fieldLink RX1 9 "SnowCensus$Shadows" "runCount" "I", Cond.fieldLink RX1 15 "SnowCensus$Shadows" "longest" "I", Cond.fieldLink RX1 18 "SnowCensus$Shadows" "counted" "I", Cond.fieldLink RX1 25 "SnowCensus$Shadows" "need" "I", Cond.methodLink RX1 21 yX1_closeRun, Cond.instanceMethod yX1_closeRun, Cond.selects RX1 yX1_closeRun yX1_closeRun, Cond.code yX1_closeRun cX1_closeRun 3 none, Cond.methodLink RX1 28 Lib.Math.max.name]
def wsX4_fair : List Cond := .code yX4_fair cX4_fair 5 (some .int) :: ((wsX4_fair_r1 ++ (wsX4_fair_r2 ++ wsX4_fair_r3)) ++ wsX40 ++ wsX30 ++ wsX10)
def wsX4_isAskedOfWalks : List Cond := .code yX4_isAskedOfWalks cX4_isAskedOfWalks 1 (some .boolean) :: ([])
def wsX4_refusalOfPairs : List Cond := .code yX4_refusalOfPairs cX4_refusalOfPairs 5 (some .int) :: ([.fieldLink RX4 14 "SnowCensus" "snow" "LSnowCensus$Snow;", .methodLink RX4 202 yX2_at, .instanceMethod yX2_at, .selects RX2 yX2_at yX2_at, .initialized RX2, .code yX2_at cX2_at 2 (some .int), .fieldLink RX2 9 "SnowCensus$Sheet" "cells" "[I", .methodLink RX2 26 yX2_hasCell, .instanceMethod yX2_hasCell, .selects RX2 yX2_hasCell yX2_hasCell, .code yX2_hasCell cX2_hasCell 2 (some .boolean), .fieldLink RX2 23 "SnowCensus$Sheet" "size" "I", .methodLink RX4 76 yX3_has, .instanceMethod yX3_has, .selects RX3 yX3_has yX3_has, .initialized RX3, .code yX3_has cX3_has 2 (some .boolean), .fieldLink RX3 21 "SnowCensus$Snow" "standers" "I", .methodLink RX4 89 yX4_isDigit, .static yX4_isDigit, .initialized RX4, .code yX4_isDigit cX4_isDigit 1 (some .boolean)] ++ wsX40 ++ wsX20 ++ wsX30)
def wsX4_walkOnTrial_r1 : List Cond := [Cond.fieldLink RX4 18 "SnowCensus" "trial" "LSnowCensus$Snow;", Cond.fieldLink RX4 14 "SnowCensus" "snow" "LSnowCensus$Snow;", Cond.fieldLink RX4 83 "SnowCensus$Snow" "foot" "[I", Cond.methodLink RX4 242 Lib.Math.abs.name, Cond.static Lib.Math.abs.name, Cond.initialized "java/lang/Math", Cond.code Lib.Math.abs.name Lib.Math.abs.code 1 (some .int), Cond.methodLink RX4 156 yX3_becomeLike, Cond.instanceMethod yX3_becomeLike, Cond.selects RX3 yX3_becomeLike yX3_becomeLike, Cond.initialized RX3, Cond.code yX3_becomeLike cX3_becomeLike 3 none, Cond.fieldLink RX3 9 "SnowCensus$Snow" "kind" "[I", Cond.fieldLink RX3 15 "SnowCensus$Snow" "foot" "[I", Cond.fieldLink RX3 18 "SnowCensus$Snow" "height" "[I", Cond.fieldLink RX3 21 "SnowCensus$Snow" "standers" "I", Cond.fieldLink RX3 25 "SnowCensus$Snow" "span" "I", Cond.fieldLink RX3 28 "SnowCensus$Snow" "tower" "I", Cond.methodLink RX4 202 yX2_at, Cond.instanceMethod yX2_at, Cond.selects RX2 yX2_at yX2_at, Cond.initialized RX2, Cond.code yX2_at cX2_at 2 (some .int), Cond.fieldLink RX2 9 "SnowCensus$Sheet" "cells" "[I"]
def wsX4_walkOnTrial_r2 : List Cond := [Cond.methodLink RX2 26 yX2_hasCell, Cond.instanceMethod yX2_hasCell, Cond.selects RX2 yX2_hasCell yX2_hasCell, Cond.code yX2_hasCell cX2_hasCell 2 (some .boolean), Cond.fieldLink RX2 23 "SnowCensus$Sheet" "size" "I", Cond.methodLink RX4 76 yX3_has, Cond.instanceMethod yX3_has, Cond.selects RX3 yX3_has yX3_has, Cond.code yX3_has cX3_has 2 (some .boolean), Cond.methodLink RX4 252 yX3_isAnotherOn, Cond.instanceMethod yX3_isAnotherOn, Cond.selects RX3 yX3_isAnotherOn yX3_isAnotherOn, Cond.code yX3_isAnotherOn cX3_isAnotherOn 4 (some .boolean), Cond.methodLink RX3 31 yX3_has]
def wsX4_walkOnTrial : List Cond := .code yX4_walkOnTrial cX4_walkOnTrial 8 (some .int) :: ((wsX4_walkOnTrial_r1 ++ wsX4_walkOnTrial_r2) ++ wsX40 ++ wsX30 ++ wsX20)
def wsX4_behindWalks_r1 : List Cond := [Cond.fieldLink RX4 18 "SnowCensus" "trial" "LSnowCensus$Snow;", Cond.fieldLink RX4 83 "SnowCensus$Snow" "foot" "[I", Cond.methodLink RX4 112 yX3_everyone, Cond.instanceMethod yX3_everyone, Cond.selects RX3 yX3_everyone yX3_everyone, Cond.initialized RX3, Cond.code yX3_everyone cX3_everyone 1 (some .int), Cond.fieldLink RX3 21 "SnowCensus$Snow" "standers" "I", Cond.methodLink RX4 116 yX4_countedOn, Cond.instanceMethod yX4_countedOn, Cond.selects RX4 yX4_countedOn yX4_countedOn, Cond.initialized RX4, Cond.code yX4_countedOn cX4_countedOn 4 (some .int), Cond.fieldLink RX4 24 "SnowCensus" "shadows" "LSnowCensus$Shadows;", Cond.fieldLink RX4 124 "SnowCensus$Snow" "span" "I", Cond.fieldLink RX4 239 "SnowCensus$Shadows" "counted" "I", Cond.methodLink RX4 120 yX3_darkFeet, Cond.instanceMethod yX3_darkFeet, Cond.selects RX3 yX3_darkFeet yX3_darkFeet, Cond.code yX3_darkFeet cX3_darkFeet 9 (some .long), Cond.fieldLink RX3 15 "SnowCensus$Snow" "foot" "[I", Cond.methodLink RX3 45 yX3_hiddenSet, Cond.instanceMethod yX3_hiddenSet, Cond.selects RX3 yX3_hiddenSet yX3_hiddenSet]
def wsX4_behindWalks_r2 : List Cond := [Cond.code yX3_hiddenSet cX3_hiddenSet 4 (some .int), Cond.methodLink RX3 31 yX3_has, Cond.instanceMethod yX3_has, Cond.selects RX3 yX3_has yX3_has, Cond.code yX3_has cX3_has 2 (some .boolean), Cond.methodLink RX3 41 yX3_firstLitFoot, Cond.instanceMethod yX3_firstLitFoot, Cond.selects RX3 yX3_firstLitFoot yX3_firstLitFoot, Cond.code yX3_firstLitFoot cX3_firstLitFoot 2 (some .int), Cond.fieldLink RX3 28 "SnowCensus$Snow" "tower" "I", Cond.methodLink RX3 48 yX3_shadeOf, Cond.instanceMethod yX3_shadeOf, Cond.selects RX3 yX3_shadeOf yX3_shadeOf, Cond.code yX3_shadeOf cX3_shadeOf 4 (some .int), Cond.fieldLink RX3 18 "SnowCensus$Snow" "height" "[I", Cond.fieldLink RX3 9 "SnowCensus$Snow" "kind" "[I", Cond.methodLink RX3 35 Lib.Math.max.name, Cond.static Lib.Math.max.name, Cond.initialized "java/lang/Math", Cond.code Lib.Math.max.name Lib.Math.max.code 2 (some .int), Cond.methodLink RX4 127 yX1_measure, Cond.instanceMethod yX1_measure, Cond.selects RX1 yX1_measure yX1_measure, Cond.initialized RX1]
def wsX4_behindWalks_r3 : List Cond := [Cond.code yX1_measure cX1_measure 6 none, Cond.fieldLink RX1 9 "SnowCensus$Shadows" "runCount" "I", Cond.fieldLink RX1 15 "SnowCensus$Shadows" "longest" "I", Cond.fieldLink RX1 18 "SnowCensus$Shadows" "counted" "I", Cond.fieldLink RX1 25 "SnowCensus$Shadows" "need" "I", Cond.methodLink RX1 21 yX1_closeRun, Cond.instanceMethod yX1_closeRun, Cond.selects RX1 yX1_closeRun yX1_closeRun, Cond.code yX1_closeRun cX1_closeRun 3 none, Cond.methodLink RX1 28 Lib.Math.max.name, Cond.methodLink RX4 109 yX3_hiddenSet, Cond.methodLink RX4 76 yX3_has]
def wsX4_behindWalks : List Cond := .code yX4_behindWalks cX4_behindWalks 4 (some .int) :: ((wsX4_behindWalks_r1 ++ (wsX4_behindWalks_r2 ++ wsX4_behindWalks_r3)) ++ wsX40 ++ wsX30 ++ wsX10)
def wsX4_walks_r1 : List Cond := [Cond.fieldLink RX4 42 "SnowCensus" "latestFault" "I", Cond.fieldLink RX4 14 "SnowCensus" "snow" "LSnowCensus$Snow;", Cond.methodLink RX4 46 yX4_sheetAt, Cond.instanceMethod yX4_sheetAt, Cond.selects RX4 yX4_sheetAt yX4_sheetAt, Cond.initialized RX4, Cond.code yX4_sheetAt cX4_sheetAt 2 (some (.object "SnowCensus$Sheet")), Cond.fieldLink RX4 37 "SnowCensus" "sheets" "[LSnowCensus$Sheet;", Cond.methodLink RX4 99 yX4_isSun, Cond.static yX4_isSun, Cond.code yX4_isSun cX4_isSun 1 (some .boolean), Cond.methodLink RX4 50 yX4_isLane, Cond.static yX4_isLane, Cond.code yX4_isLane cX4_isLane 1 (some .boolean), Cond.methodLink RX4 143 yX4_isAskedOfWalks, Cond.static yX4_isAskedOfWalks, Cond.code yX4_isAskedOfWalks cX4_isAskedOfWalks 1 (some .boolean), Cond.methodLink RX4 54 yX2_faultAs, Cond.instanceMethod yX2_faultAs, Cond.selects RX2 yX2_faultAs yX2_faultAs, Cond.initialized RX2, Cond.code yX2_faultAs cX2_faultAs 2 (some .int), Cond.fieldLink RX2 15 "SnowCensus$Sheet" "hasRow" "Z", Cond.fieldLink RX2 19 "SnowCensus$Sheet" "lane" "I"]
def wsX4_walks_r2 : List Cond := [Cond.methodLink RX4 58 yX2_holds, Cond.instanceMethod yX2_holds, Cond.selects RX2 yX2_holds yX2_holds, Cond.code yX2_holds cX2_holds 3 (some .boolean), Cond.fieldLink RX2 23 "SnowCensus$Sheet" "size" "I", Cond.methodLink RX4 62 yX4_failed, Cond.instanceMethod yX4_failed, Cond.selects RX4 yX4_failed yX4_failed, Cond.code yX4_failed cX4_failed 2 (some .int), Cond.methodLink RX4 92 yX3_isLaid, Cond.instanceMethod yX3_isLaid, Cond.selects RX3 yX3_isLaid yX3_isLaid, Cond.initialized RX3, Cond.code yX3_isLaid cX3_isLaid 1 (some .boolean), Cond.fieldLink RX3 21 "SnowCensus$Snow" "standers" "I", Cond.methodLink RX4 146 yX4_refusalOfPairs, Cond.instanceMethod yX4_refusalOfPairs, Cond.selects RX4 yX4_refusalOfPairs yX4_refusalOfPairs, Cond.code yX4_refusalOfPairs cX4_refusalOfPairs 5 (some .int), Cond.methodLink RX4 202 yX2_at, Cond.instanceMethod yX2_at, Cond.selects RX2 yX2_at yX2_at, Cond.code yX2_at cX2_at 2 (some .int), Cond.fieldLink RX2 9 "SnowCensus$Sheet" "cells" "[I"]
def wsX4_walks_r3 : List Cond := [Cond.methodLink RX2 26 yX2_hasCell, Cond.instanceMethod yX2_hasCell, Cond.selects RX2 yX2_hasCell yX2_hasCell, Cond.code yX2_hasCell cX2_hasCell 2 (some .boolean), Cond.methodLink RX4 76 yX3_has, Cond.instanceMethod yX3_has, Cond.selects RX3 yX3_has yX3_has, Cond.code yX3_has cX3_has 2 (some .boolean), Cond.methodLink RX4 89 yX4_isDigit, Cond.static yX4_isDigit, Cond.code yX4_isDigit cX4_isDigit 1 (some .boolean), Cond.methodLink RX4 149 yX4_walkOnTrial, Cond.instanceMethod yX4_walkOnTrial, Cond.selects RX4 yX4_walkOnTrial yX4_walkOnTrial, Cond.code yX4_walkOnTrial cX4_walkOnTrial 8 (some .int), Cond.fieldLink RX4 18 "SnowCensus" "trial" "LSnowCensus$Snow;", Cond.fieldLink RX4 83 "SnowCensus$Snow" "foot" "[I", Cond.methodLink RX4 242 Lib.Math.abs.name, Cond.static Lib.Math.abs.name, Cond.initialized "java/lang/Math", Cond.code Lib.Math.abs.name Lib.Math.abs.code 1 (some .int), Cond.methodLink RX4 156 yX3_becomeLike, Cond.instanceMethod yX3_becomeLike, Cond.selects RX3 yX3_becomeLike yX3_becomeLike]
def wsX4_walks_r4 : List Cond := [Cond.code yX3_becomeLike cX3_becomeLike 3 none, Cond.fieldLink RX3 9 "SnowCensus$Snow" "kind" "[I", Cond.fieldLink RX3 15 "SnowCensus$Snow" "foot" "[I", Cond.fieldLink RX3 18 "SnowCensus$Snow" "height" "[I", Cond.fieldLink RX3 25 "SnowCensus$Snow" "span" "I", Cond.fieldLink RX3 28 "SnowCensus$Snow" "tower" "I", Cond.methodLink RX4 252 yX3_isAnotherOn, Cond.instanceMethod yX3_isAnotherOn, Cond.selects RX3 yX3_isAnotherOn yX3_isAnotherOn, Cond.code yX3_isAnotherOn cX3_isAnotherOn 4 (some .boolean), Cond.methodLink RX3 31 yX3_has, Cond.methodLink RX4 152 yX4_behindWalks, Cond.instanceMethod yX4_behindWalks, Cond.selects RX4 yX4_behindWalks yX4_behindWalks, Cond.code yX4_behindWalks cX4_behindWalks 4 (some .int), Cond.methodLink RX4 112 yX3_everyone, Cond.instanceMethod yX3_everyone, Cond.selects RX3 yX3_everyone yX3_everyone, Cond.code yX3_everyone cX3_everyone 1 (some .int), Cond.methodLink RX4 116 yX4_countedOn, Cond.instanceMethod yX4_countedOn, Cond.selects RX4 yX4_countedOn yX4_countedOn, Cond.code yX4_countedOn cX4_countedOn 4 (some .int), Cond.fieldLink RX4 24 "SnowCensus" "shadows" "LSnowCensus$Shadows;"]
def wsX4_walks_r5 : List Cond := [Cond.fieldLink RX4 124 "SnowCensus$Snow" "span" "I", Cond.fieldLink RX4 239 "SnowCensus$Shadows" "counted" "I", Cond.methodLink RX4 120 yX3_darkFeet, Cond.instanceMethod yX3_darkFeet, Cond.selects RX3 yX3_darkFeet yX3_darkFeet, Cond.code yX3_darkFeet cX3_darkFeet 9 (some .long), Cond.methodLink RX3 45 yX3_hiddenSet, Cond.instanceMethod yX3_hiddenSet, Cond.selects RX3 yX3_hiddenSet yX3_hiddenSet, Cond.code yX3_hiddenSet cX3_hiddenSet 4 (some .int), Cond.methodLink RX3 41 yX3_firstLitFoot, Cond.instanceMethod yX3_firstLitFoot, Cond.selects RX3 yX3_firstLitFoot yX3_firstLitFoot, Cond.code yX3_firstLitFoot cX3_firstLitFoot 2 (some .int), Cond.methodLink RX3 48 yX3_shadeOf, Cond.instanceMethod yX3_shadeOf, Cond.selects RX3 yX3_shadeOf yX3_shadeOf, Cond.code yX3_shadeOf cX3_shadeOf 4 (some .int), Cond.methodLink RX3 35 Lib.Math.max.name, Cond.static Lib.Math.max.name, Cond.code Lib.Math.max.name Lib.Math.max.code 2 (some .int), Cond.methodLink RX4 127 yX1_measure, Cond.instanceMethod yX1_measure, Cond.selects RX1 yX1_measure yX1_measure]
def wsX4_walks_r6 : List Cond := [Cond.initialized RX1, Cond.code yX1_measure cX1_measure 6 none, Cond.fieldLink RX1 9 "SnowCensus$Shadows" "runCount" "I", Cond.fieldLink RX1 15 "SnowCensus$Shadows" "longest" "I", Cond.fieldLink RX1 18 "SnowCensus$Shadows" "counted" "I", Cond.fieldLink RX1 25 "SnowCensus$Shadows" "need" "I", Cond.methodLink RX1 21 yX1_closeRun, Cond.instanceMethod yX1_closeRun, Cond.selects RX1 yX1_closeRun yX1_closeRun, Cond.code yX1_closeRun cX1_closeRun 3 none, Cond.methodLink RX1 28 Lib.Math.max.name, Cond.methodLink RX4 109 yX3_hiddenSet]
def wsX4_walks : List Cond := .code yX4_walks cX4_walks 10 (some .int) :: ((wsX4_walks_r1 ++ (wsX4_walks_r2 ++ (wsX4_walks_r3 ++ (wsX4_walks_r4 ++ (wsX4_walks_r5 ++ wsX4_walks_r6))))) ++ wsX40 ++ wsX20 ++ wsX30 ++ wsX10)
def wsX4_pair_r1 : List Cond := [Cond.fieldLink RX4 14 "SnowCensus" "snow" "LSnowCensus$Snow;", Cond.fieldLink RX4 18 "SnowCensus" "trial" "LSnowCensus$Snow;", Cond.fieldLink RX4 83 "SnowCensus$Snow" "foot" "[I", Cond.methodLink RX4 76 yX3_has, Cond.instanceMethod yX3_has, Cond.selects RX3 yX3_has yX3_has, Cond.initialized RX3, Cond.code yX3_has cX3_has 2 (some .boolean), Cond.fieldLink RX3 21 "SnowCensus$Snow" "standers" "I", Cond.methodLink RX4 99 yX4_isSun, Cond.static yX4_isSun, Cond.initialized RX4, Cond.code yX4_isSun cX4_isSun 1 (some .boolean), Cond.methodLink RX4 156 yX3_becomeLike, Cond.instanceMethod yX3_becomeLike, Cond.selects RX3 yX3_becomeLike yX3_becomeLike, Cond.code yX3_becomeLike cX3_becomeLike 3 none, Cond.fieldLink RX3 9 "SnowCensus$Snow" "kind" "[I", Cond.fieldLink RX3 15 "SnowCensus$Snow" "foot" "[I", Cond.fieldLink RX3 18 "SnowCensus$Snow" "height" "[I", Cond.fieldLink RX3 25 "SnowCensus$Snow" "span" "I", Cond.fieldLink RX3 28 "SnowCensus$Snow" "tower" "I", Cond.methodLink RX4 160 yX3_firstLitFoot, Cond.instanceMethod yX3_firstLitFoot]
def wsX4_pair_r2 : List Cond := [Cond.selects RX3 yX3_firstLitFoot yX3_firstLitFoot, Cond.code yX3_firstLitFoot cX3_firstLitFoot 2 (some .int), Cond.methodLink RX4 112 yX3_everyone, Cond.instanceMethod yX3_everyone, Cond.selects RX3 yX3_everyone yX3_everyone, Cond.code yX3_everyone cX3_everyone 1 (some .int), Cond.methodLink RX4 116 yX4_countedOn, Cond.instanceMethod yX4_countedOn, Cond.selects RX4 yX4_countedOn yX4_countedOn, Cond.code yX4_countedOn cX4_countedOn 4 (some .int), Cond.fieldLink RX4 24 "SnowCensus" "shadows" "LSnowCensus$Shadows;", Cond.fieldLink RX4 124 "SnowCensus$Snow" "span" "I", Cond.fieldLink RX4 239 "SnowCensus$Shadows" "counted" "I", Cond.methodLink RX4 120 yX3_darkFeet, Cond.instanceMethod yX3_darkFeet, Cond.selects RX3 yX3_darkFeet yX3_darkFeet, Cond.code yX3_darkFeet cX3_darkFeet 9 (some .long), Cond.methodLink RX3 45 yX3_hiddenSet, Cond.instanceMethod yX3_hiddenSet, Cond.selects RX3 yX3_hiddenSet yX3_hiddenSet, Cond.code yX3_hiddenSet cX3_hiddenSet 4 (some .int), Cond.methodLink RX3 31 yX3_has, Cond.methodLink RX3 41 yX3_firstLitFoot, Cond.methodLink RX3 48 yX3_shadeOf]
def wsX4_pair_r3 : List Cond := [Cond.instanceMethod yX3_shadeOf, Cond.selects RX3 yX3_shadeOf yX3_shadeOf, Cond.code yX3_shadeOf cX3_shadeOf 4 (some .int), Cond.methodLink RX3 35 Lib.Math.max.name, Cond.static Lib.Math.max.name, Cond.initialized "java/lang/Math", Cond.code Lib.Math.max.name Lib.Math.max.code 2 (some .int), Cond.methodLink RX4 127 yX1_measure, Cond.instanceMethod yX1_measure, Cond.selects RX1 yX1_measure yX1_measure, Cond.initialized RX1, Cond.code yX1_measure cX1_measure 6 none, Cond.fieldLink RX1 9 "SnowCensus$Shadows" "runCount" "I", Cond.fieldLink RX1 15 "SnowCensus$Shadows" "longest" "I", Cond.fieldLink RX1 18 "SnowCensus$Shadows" "counted" "I", Cond.fieldLink RX1 25 "SnowCensus$Shadows" "need" "I", Cond.methodLink RX1 21 yX1_closeRun, Cond.instanceMethod yX1_closeRun, Cond.selects RX1 yX1_closeRun yX1_closeRun, Cond.code yX1_closeRun cX1_closeRun 3 none, Cond.methodLink RX1 28 Lib.Math.max.name]
def wsX4_pair : List Cond := .code yX4_pair cX4_pair 11 (some .int) :: ((wsX4_pair_r1 ++ (wsX4_pair_r2 ++ wsX4_pair_r3)) ++ wsX40 ++ wsX30 ++ wsX10)
def wsX4_refusalOfCount : List Cond := .code yX4_refusalOfCount cX4_refusalOfCount 3 (some .int) :: ([.methodLink RX4 106 yX4_refusalAt, .instanceMethod yX4_refusalAt, .selects RX4 yX4_refusalAt yX4_refusalAt, .initialized RX4, .code yX4_refusalAt cX4_refusalAt 2 (some .int), .fieldLink RX4 14 "SnowCensus" "snow" "LSnowCensus$Snow;", .methodLink RX4 99 yX4_isSun, .static yX4_isSun, .code yX4_isSun cX4_isSun 1 (some .boolean), .methodLink RX4 92 yX3_isLaid, .instanceMethod yX3_isLaid, .selects RX3 yX3_isLaid yX3_isLaid, .initialized RX3, .code yX3_isLaid cX3_isLaid 1 (some .boolean), .fieldLink RX3 21 "SnowCensus$Snow" "standers" "I"] ++ wsX40 ++ wsX30)
def wsJ6_bitCount_0f7a4 : List Cond := .code yJ6_bitCount_0f7a4 cJ6_bitCount_0f7a4 1 (some .int) :: ([.constant RJ6 265 (1431655765), .constant RJ6 266 (858993459), .constant RJ6 267 (252645135)])
def wsX4_send_r1 : List Cond := [Cond.fieldLink RX4 14 "SnowCensus" "snow" "LSnowCensus$Snow;", Cond.methodLink RX4 163 yX4_refusalOfCount, Cond.instanceMethod yX4_refusalOfCount, Cond.selects RX4 yX4_refusalOfCount yX4_refusalOfCount, Cond.initialized RX4, Cond.code yX4_refusalOfCount cX4_refusalOfCount 3 (some .int), Cond.methodLink RX4 106 yX4_refusalAt, Cond.instanceMethod yX4_refusalAt, Cond.selects RX4 yX4_refusalAt yX4_refusalAt, Cond.code yX4_refusalAt cX4_refusalAt 2 (some .int), Cond.methodLink RX4 99 yX4_isSun, Cond.static yX4_isSun, Cond.code yX4_isSun cX4_isSun 1 (some .boolean), Cond.methodLink RX4 92 yX3_isLaid, Cond.instanceMethod yX3_isLaid, Cond.selects RX3 yX3_isLaid yX3_isLaid, Cond.initialized RX3, Cond.code yX3_isLaid cX3_isLaid 1 (some .boolean), Cond.fieldLink RX3 21 "SnowCensus$Snow" "standers" "I", Cond.methodLink RX4 112 yX3_everyone, Cond.instanceMethod yX3_everyone, Cond.selects RX3 yX3_everyone yX3_everyone, Cond.code yX3_everyone cX3_everyone 1 (some .int), Cond.methodLink RX4 166 yJ6_bitCount_0f7a4]
def wsX4_send_r2 : List Cond := [Cond.static yJ6_bitCount_0f7a4, Cond.initialized RJ6, Cond.code yJ6_bitCount_0f7a4 cJ6_bitCount_0f7a4 1 (some .int), Cond.constant RJ6 265 (1431655765), Cond.constant RJ6 266 (858993459), Cond.constant RJ6 267 (252645135), Cond.methodLink RX4 116 yX4_countedOn, Cond.instanceMethod yX4_countedOn, Cond.selects RX4 yX4_countedOn yX4_countedOn, Cond.code yX4_countedOn cX4_countedOn 4 (some .int), Cond.fieldLink RX4 24 "SnowCensus" "shadows" "LSnowCensus$Shadows;", Cond.fieldLink RX4 124 "SnowCensus$Snow" "span" "I", Cond.fieldLink RX4 239 "SnowCensus$Shadows" "counted" "I", Cond.methodLink RX4 120 yX3_darkFeet, Cond.instanceMethod yX3_darkFeet, Cond.selects RX3 yX3_darkFeet yX3_darkFeet, Cond.code yX3_darkFeet cX3_darkFeet 9 (some .long), Cond.fieldLink RX3 15 "SnowCensus$Snow" "foot" "[I", Cond.methodLink RX3 45 yX3_hiddenSet, Cond.instanceMethod yX3_hiddenSet, Cond.selects RX3 yX3_hiddenSet yX3_hiddenSet, Cond.code yX3_hiddenSet cX3_hiddenSet 4 (some .int), Cond.methodLink RX3 31 yX3_has, Cond.instanceMethod yX3_has]
def wsX4_send_r3 : List Cond := [Cond.selects RX3 yX3_has yX3_has, Cond.code yX3_has cX3_has 2 (some .boolean), Cond.methodLink RX3 41 yX3_firstLitFoot, Cond.instanceMethod yX3_firstLitFoot, Cond.selects RX3 yX3_firstLitFoot yX3_firstLitFoot, Cond.code yX3_firstLitFoot cX3_firstLitFoot 2 (some .int), Cond.fieldLink RX3 28 "SnowCensus$Snow" "tower" "I", Cond.methodLink RX3 48 yX3_shadeOf, Cond.instanceMethod yX3_shadeOf, Cond.selects RX3 yX3_shadeOf yX3_shadeOf, Cond.code yX3_shadeOf cX3_shadeOf 4 (some .int), Cond.fieldLink RX3 18 "SnowCensus$Snow" "height" "[I", Cond.fieldLink RX3 9 "SnowCensus$Snow" "kind" "[I", Cond.methodLink RX3 35 Lib.Math.max.name, Cond.static Lib.Math.max.name, Cond.initialized "java/lang/Math", Cond.code Lib.Math.max.name Lib.Math.max.code 2 (some .int), Cond.methodLink RX4 127 yX1_measure, Cond.instanceMethod yX1_measure, Cond.selects RX1 yX1_measure yX1_measure, Cond.initialized RX1, Cond.code yX1_measure cX1_measure 6 none, Cond.fieldLink RX1 9 "SnowCensus$Shadows" "runCount" "I", Cond.fieldLink RX1 15 "SnowCensus$Shadows" "longest" "I"]
def wsX4_send_r4 : List Cond := [Cond.fieldLink RX1 18 "SnowCensus$Shadows" "counted" "I", Cond.fieldLink RX1 25 "SnowCensus$Shadows" "need" "I", Cond.methodLink RX1 21 yX1_closeRun, Cond.instanceMethod yX1_closeRun, Cond.selects RX1 yX1_closeRun yX1_closeRun, Cond.code yX1_closeRun cX1_closeRun 3 none, Cond.methodLink RX1 28 Lib.Math.max.name]
def wsX4_send : List Cond := .code yX4_send cX4_send 8 (some .int) :: ((wsX4_send_r1 ++ (wsX4_send_r2 ++ (wsX4_send_r3 ++ wsX4_send_r4))) ++ wsX40 ++ wsX30 ++ wsX10)
def wsX4_reading_r1 : List Cond := [Cond.fieldLink RX4 31 "SnowCensus" "readings" "LSnowCensus$Readings;", Cond.fieldLink RX4 171 "SnowCensus$Readings" "count" "I", Cond.methodLink RX4 163 yX4_refusalOfCount, Cond.instanceMethod yX4_refusalOfCount, Cond.selects RX4 yX4_refusalOfCount yX4_refusalOfCount, Cond.initialized RX4, Cond.code yX4_refusalOfCount cX4_refusalOfCount 3 (some .int), Cond.methodLink RX4 106 yX4_refusalAt, Cond.instanceMethod yX4_refusalAt, Cond.selects RX4 yX4_refusalAt yX4_refusalAt, Cond.code yX4_refusalAt cX4_refusalAt 2 (some .int), Cond.fieldLink RX4 14 "SnowCensus" "snow" "LSnowCensus$Snow;", Cond.methodLink RX4 99 yX4_isSun, Cond.static yX4_isSun, Cond.code yX4_isSun cX4_isSun 1 (some .boolean), Cond.methodLink RX4 92 yX3_isLaid, Cond.instanceMethod yX3_isLaid, Cond.selects RX3 yX3_isLaid yX3_isLaid, Cond.initialized RX3, Cond.code yX3_isLaid cX3_isLaid 1 (some .boolean), Cond.fieldLink RX3 21 "SnowCensus$Snow" "standers" "I", Cond.methodLink RX4 174 yX0_note, Cond.instanceMethod yX0_note, Cond.selects RX0 yX0_note yX0_note]
def wsX4_reading_r2 : List Cond := [Cond.initialized RX0, Cond.code yX0_note cX0_note 3 (some .boolean), Cond.fieldLink RX0 18 "SnowCensus$Readings" "count" "I", Cond.fieldLink RX0 9 "SnowCensus$Readings" "sun" "[I", Cond.fieldLink RX0 15 "SnowCensus$Readings" "counted" "[I"]
def wsX4_reading : List Cond := .code yX4_reading cX4_reading 5 (some .int) :: ((wsX4_reading_r1 ++ wsX4_reading_r2) ++ wsX40 ++ wsX00 ++ wsX30)
def wsX4_back : List Cond := .code yX4_back cX4_back 2 (some .int) :: ([.fieldLink RX4 31 "SnowCensus" "readings" "LSnowCensus$Readings;", .fieldLink RX4 171 "SnowCensus$Readings" "count" "I"] ++ wsX40 ++ wsX00)
def wsX4_areReadingsSoOnTrial_r1 : List Cond := [Cond.fieldLink RX4 31 "SnowCensus" "readings" "LSnowCensus$Readings;", Cond.fieldLink RX4 171 "SnowCensus$Readings" "count" "I", Cond.fieldLink RX4 18 "SnowCensus" "trial" "LSnowCensus$Snow;", Cond.fieldLink RX4 247 "SnowCensus$Readings" "sun" "[I", Cond.fieldLink RX4 250 "SnowCensus$Readings" "counted" "[I", Cond.methodLink RX4 112 yX3_everyone, Cond.instanceMethod yX3_everyone, Cond.selects RX3 yX3_everyone yX3_everyone, Cond.initialized RX3, Cond.code yX3_everyone cX3_everyone 1 (some .int), Cond.fieldLink RX3 21 "SnowCensus$Snow" "standers" "I", Cond.methodLink RX4 116 yX4_countedOn, Cond.instanceMethod yX4_countedOn, Cond.selects RX4 yX4_countedOn yX4_countedOn, Cond.initialized RX4, Cond.code yX4_countedOn cX4_countedOn 4 (some .int), Cond.fieldLink RX4 24 "SnowCensus" "shadows" "LSnowCensus$Shadows;", Cond.fieldLink RX4 124 "SnowCensus$Snow" "span" "I", Cond.fieldLink RX4 239 "SnowCensus$Shadows" "counted" "I", Cond.methodLink RX4 120 yX3_darkFeet, Cond.instanceMethod yX3_darkFeet, Cond.selects RX3 yX3_darkFeet yX3_darkFeet, Cond.code yX3_darkFeet cX3_darkFeet 9 (some .long), Cond.fieldLink RX3 15 "SnowCensus$Snow" "foot" "[I"]
def wsX4_areReadingsSoOnTrial_r2 : List Cond := [Cond.methodLink RX3 45 yX3_hiddenSet, Cond.instanceMethod yX3_hiddenSet, Cond.selects RX3 yX3_hiddenSet yX3_hiddenSet, Cond.code yX3_hiddenSet cX3_hiddenSet 4 (some .int), Cond.methodLink RX3 31 yX3_has, Cond.instanceMethod yX3_has, Cond.selects RX3 yX3_has yX3_has, Cond.code yX3_has cX3_has 2 (some .boolean), Cond.methodLink RX3 41 yX3_firstLitFoot, Cond.instanceMethod yX3_firstLitFoot, Cond.selects RX3 yX3_firstLitFoot yX3_firstLitFoot, Cond.code yX3_firstLitFoot cX3_firstLitFoot 2 (some .int), Cond.fieldLink RX3 28 "SnowCensus$Snow" "tower" "I", Cond.methodLink RX3 48 yX3_shadeOf, Cond.instanceMethod yX3_shadeOf, Cond.selects RX3 yX3_shadeOf yX3_shadeOf, Cond.code yX3_shadeOf cX3_shadeOf 4 (some .int), Cond.fieldLink RX3 18 "SnowCensus$Snow" "height" "[I", Cond.fieldLink RX3 9 "SnowCensus$Snow" "kind" "[I", Cond.methodLink RX3 35 Lib.Math.max.name, Cond.static Lib.Math.max.name, Cond.initialized "java/lang/Math", Cond.code Lib.Math.max.name Lib.Math.max.code 2 (some .int), Cond.methodLink RX4 127 yX1_measure]
def wsX4_areReadingsSoOnTrial_r3 : List Cond := [Cond.instanceMethod yX1_measure, Cond.selects RX1 yX1_measure yX1_measure, Cond.initialized RX1, Cond.code yX1_measure cX1_measure 6 none, Cond.fieldLink RX1 9 "SnowCensus$Shadows" "runCount" "I", Cond.fieldLink RX1 15 "SnowCensus$Shadows" "longest" "I", Cond.fieldLink RX1 18 "SnowCensus$Shadows" "counted" "I", Cond.fieldLink RX1 25 "SnowCensus$Shadows" "need" "I", Cond.methodLink RX1 21 yX1_closeRun, Cond.instanceMethod yX1_closeRun, Cond.selects RX1 yX1_closeRun yX1_closeRun, Cond.code yX1_closeRun cX1_closeRun 3 none, Cond.methodLink RX1 28 Lib.Math.max.name]
def wsX4_areReadingsSoOnTrial : List Cond := .code yX4_areReadingsSoOnTrial cX4_areReadingsSoOnTrial 2 (some .boolean) :: ((wsX4_areReadingsSoOnTrial_r1 ++ (wsX4_areReadingsSoOnTrial_r2 ++ wsX4_areReadingsSoOnTrial_r3)) ++ wsX40 ++ wsX00 ++ wsX30 ++ wsX10)
def wsX4_heights_r1 : List Cond := [Cond.fieldLink RX4 14 "SnowCensus" "snow" "LSnowCensus$Snow;", Cond.fieldLink RX4 18 "SnowCensus" "trial" "LSnowCensus$Snow;", Cond.fieldLink RX4 86 "SnowCensus$Snow" "height" "[I", Cond.methodLink RX4 76 yX3_has, Cond.instanceMethod yX3_has, Cond.selects RX3 yX3_has yX3_has, Cond.initialized RX3, Cond.code yX3_has cX3_has 2 (some .boolean), Cond.fieldLink RX3 21 "SnowCensus$Snow" "standers" "I", Cond.methodLink RX4 156 yX3_becomeLike, Cond.instanceMethod yX3_becomeLike, Cond.selects RX3 yX3_becomeLike yX3_becomeLike, Cond.code yX3_becomeLike cX3_becomeLike 3 none, Cond.fieldLink RX3 9 "SnowCensus$Snow" "kind" "[I", Cond.fieldLink RX3 15 "SnowCensus$Snow" "foot" "[I", Cond.fieldLink RX3 18 "SnowCensus$Snow" "height" "[I", Cond.fieldLink RX3 25 "SnowCensus$Snow" "span" "I", Cond.fieldLink RX3 28 "SnowCensus$Snow" "tower" "I", Cond.methodLink RX4 177 yX4_areReadingsSoOnTrial, Cond.instanceMethod yX4_areReadingsSoOnTrial, Cond.selects RX4 yX4_areReadingsSoOnTrial yX4_areReadingsSoOnTrial, Cond.initialized RX4, Cond.code yX4_areReadingsSoOnTrial cX4_areReadingsSoOnTrial 2 (some .boolean), Cond.fieldLink RX4 31 "SnowCensus" "readings" "LSnowCensus$Readings;"]
def wsX4_heights_r2 : List Cond := [Cond.fieldLink RX4 171 "SnowCensus$Readings" "count" "I", Cond.fieldLink RX4 247 "SnowCensus$Readings" "sun" "[I", Cond.fieldLink RX4 250 "SnowCensus$Readings" "counted" "[I", Cond.methodLink RX4 112 yX3_everyone, Cond.instanceMethod yX3_everyone, Cond.selects RX3 yX3_everyone yX3_everyone, Cond.code yX3_everyone cX3_everyone 1 (some .int), Cond.methodLink RX4 116 yX4_countedOn, Cond.instanceMethod yX4_countedOn, Cond.selects RX4 yX4_countedOn yX4_countedOn, Cond.code yX4_countedOn cX4_countedOn 4 (some .int), Cond.fieldLink RX4 24 "SnowCensus" "shadows" "LSnowCensus$Shadows;", Cond.fieldLink RX4 124 "SnowCensus$Snow" "span" "I", Cond.fieldLink RX4 239 "SnowCensus$Shadows" "counted" "I", Cond.methodLink RX4 120 yX3_darkFeet, Cond.instanceMethod yX3_darkFeet, Cond.selects RX3 yX3_darkFeet yX3_darkFeet, Cond.code yX3_darkFeet cX3_darkFeet 9 (some .long), Cond.methodLink RX3 45 yX3_hiddenSet, Cond.instanceMethod yX3_hiddenSet, Cond.selects RX3 yX3_hiddenSet yX3_hiddenSet, Cond.code yX3_hiddenSet cX3_hiddenSet 4 (some .int), Cond.methodLink RX3 31 yX3_has, Cond.methodLink RX3 41 yX3_firstLitFoot]
def wsX4_heights_r3 : List Cond := [Cond.instanceMethod yX3_firstLitFoot, Cond.selects RX3 yX3_firstLitFoot yX3_firstLitFoot, Cond.code yX3_firstLitFoot cX3_firstLitFoot 2 (some .int), Cond.methodLink RX3 48 yX3_shadeOf, Cond.instanceMethod yX3_shadeOf, Cond.selects RX3 yX3_shadeOf yX3_shadeOf, Cond.code yX3_shadeOf cX3_shadeOf 4 (some .int), Cond.methodLink RX3 35 Lib.Math.max.name, Cond.static Lib.Math.max.name, Cond.initialized "java/lang/Math", Cond.code Lib.Math.max.name Lib.Math.max.code 2 (some .int), Cond.methodLink RX4 127 yX1_measure, Cond.instanceMethod yX1_measure, Cond.selects RX1 yX1_measure yX1_measure, Cond.initialized RX1, Cond.code yX1_measure cX1_measure 6 none, Cond.fieldLink RX1 9 "SnowCensus$Shadows" "runCount" "I", Cond.fieldLink RX1 15 "SnowCensus$Shadows" "longest" "I", Cond.fieldLink RX1 18 "SnowCensus$Shadows" "counted" "I", Cond.fieldLink RX1 25 "SnowCensus$Shadows" "need" "I", Cond.methodLink RX1 21 yX1_closeRun, Cond.instanceMethod yX1_closeRun, Cond.selects RX1 yX1_closeRun yX1_closeRun, Cond.code yX1_closeRun cX1_closeRun 3 none]
def wsX4_heights_r4 : List Cond := [Cond.methodLink RX1 28 Lib.Math.max.name]
def wsX4_heights : List Cond := .code yX4_heights cX4_heights 4 (some .int) :: ((wsX4_heights_r1 ++ (wsX4_heights_r2 ++ (wsX4_heights_r3 ++ wsX4_heights_r4))) ++ wsX40 ++ wsX30 ++ wsX00 ++ wsX10)
def wsX4_kinds_r1 : List Cond := [Cond.fieldLink RX4 14 "SnowCensus" "snow" "LSnowCensus$Snow;", Cond.fieldLink RX4 18 "SnowCensus" "trial" "LSnowCensus$Snow;", Cond.fieldLink RX4 79 "SnowCensus$Snow" "kind" "[I", Cond.methodLink RX4 76 yX3_has, Cond.instanceMethod yX3_has, Cond.selects RX3 yX3_has yX3_has, Cond.initialized RX3, Cond.code yX3_has cX3_has 2 (some .boolean), Cond.fieldLink RX3 21 "SnowCensus$Snow" "standers" "I", Cond.methodLink RX4 156 yX3_becomeLike, Cond.instanceMethod yX3_becomeLike, Cond.selects RX3 yX3_becomeLike yX3_becomeLike, Cond.code yX3_becomeLike cX3_becomeLike 3 none, Cond.fieldLink RX3 9 "SnowCensus$Snow" "kind" "[I", Cond.fieldLink RX3 15 "SnowCensus$Snow" "foot" "[I", Cond.fieldLink RX3 18 "SnowCensus$Snow" "height" "[I", Cond.fieldLink RX3 25 "SnowCensus$Snow" "span" "I", Cond.fieldLink RX3 28 "SnowCensus$Snow" "tower" "I", Cond.methodLink RX4 177 yX4_areReadingsSoOnTrial, Cond.instanceMethod yX4_areReadingsSoOnTrial, Cond.selects RX4 yX4_areReadingsSoOnTrial yX4_areReadingsSoOnTrial, Cond.initialized RX4, Cond.code yX4_areReadingsSoOnTrial cX4_areReadingsSoOnTrial 2 (some .boolean), Cond.fieldLink RX4 31 "SnowCensus" "readings" "LSnowCensus$Readings;"]
def wsX4_kinds_r2 : List Cond := [Cond.fieldLink RX4 171 "SnowCensus$Readings" "count" "I", Cond.fieldLink RX4 247 "SnowCensus$Readings" "sun" "[I", Cond.fieldLink RX4 250 "SnowCensus$Readings" "counted" "[I", Cond.methodLink RX4 112 yX3_everyone, Cond.instanceMethod yX3_everyone, Cond.selects RX3 yX3_everyone yX3_everyone, Cond.code yX3_everyone cX3_everyone 1 (some .int), Cond.methodLink RX4 116 yX4_countedOn, Cond.instanceMethod yX4_countedOn, Cond.selects RX4 yX4_countedOn yX4_countedOn, Cond.code yX4_countedOn cX4_countedOn 4 (some .int), Cond.fieldLink RX4 24 "SnowCensus" "shadows" "LSnowCensus$Shadows;", Cond.fieldLink RX4 124 "SnowCensus$Snow" "span" "I", Cond.fieldLink RX4 239 "SnowCensus$Shadows" "counted" "I", Cond.methodLink RX4 120 yX3_darkFeet, Cond.instanceMethod yX3_darkFeet, Cond.selects RX3 yX3_darkFeet yX3_darkFeet, Cond.code yX3_darkFeet cX3_darkFeet 9 (some .long), Cond.methodLink RX3 45 yX3_hiddenSet, Cond.instanceMethod yX3_hiddenSet, Cond.selects RX3 yX3_hiddenSet yX3_hiddenSet, Cond.code yX3_hiddenSet cX3_hiddenSet 4 (some .int), Cond.methodLink RX3 31 yX3_has, Cond.methodLink RX3 41 yX3_firstLitFoot]
def wsX4_kinds_r3 : List Cond := [Cond.instanceMethod yX3_firstLitFoot, Cond.selects RX3 yX3_firstLitFoot yX3_firstLitFoot, Cond.code yX3_firstLitFoot cX3_firstLitFoot 2 (some .int), Cond.methodLink RX3 48 yX3_shadeOf, Cond.instanceMethod yX3_shadeOf, Cond.selects RX3 yX3_shadeOf yX3_shadeOf, Cond.code yX3_shadeOf cX3_shadeOf 4 (some .int), Cond.methodLink RX3 35 Lib.Math.max.name, Cond.static Lib.Math.max.name, Cond.initialized "java/lang/Math", Cond.code Lib.Math.max.name Lib.Math.max.code 2 (some .int), Cond.methodLink RX4 127 yX1_measure, Cond.instanceMethod yX1_measure, Cond.selects RX1 yX1_measure yX1_measure, Cond.initialized RX1, Cond.code yX1_measure cX1_measure 6 none, Cond.fieldLink RX1 9 "SnowCensus$Shadows" "runCount" "I", Cond.fieldLink RX1 15 "SnowCensus$Shadows" "longest" "I", Cond.fieldLink RX1 18 "SnowCensus$Shadows" "counted" "I", Cond.fieldLink RX1 25 "SnowCensus$Shadows" "need" "I", Cond.methodLink RX1 21 yX1_closeRun, Cond.instanceMethod yX1_closeRun, Cond.selects RX1 yX1_closeRun yX1_closeRun, Cond.code yX1_closeRun cX1_closeRun 3 none]
def wsX4_kinds_r4 : List Cond := [Cond.methodLink RX1 28 Lib.Math.max.name]
def wsX4_kinds : List Cond := .code yX4_kinds cX4_kinds 4 (some .int) :: ((wsX4_kinds_r1 ++ (wsX4_kinds_r2 ++ (wsX4_kinds_r3 ++ wsX4_kinds_r4))) ++ wsX40 ++ wsX30 ++ wsX00 ++ wsX10)
def wsX4_spans_r1 : List Cond := [Cond.fieldLink RX4 14 "SnowCensus" "snow" "LSnowCensus$Snow;", Cond.fieldLink RX4 18 "SnowCensus" "trial" "LSnowCensus$Snow;", Cond.fieldLink RX4 124 "SnowCensus$Snow" "span" "I", Cond.methodLink RX4 92 yX3_isLaid, Cond.instanceMethod yX3_isLaid, Cond.selects RX3 yX3_isLaid yX3_isLaid, Cond.initialized RX3, Cond.code yX3_isLaid cX3_isLaid 1 (some .boolean), Cond.fieldLink RX3 21 "SnowCensus$Snow" "standers" "I", Cond.methodLink RX4 156 yX3_becomeLike, Cond.instanceMethod yX3_becomeLike, Cond.selects RX3 yX3_becomeLike yX3_becomeLike, Cond.code yX3_becomeLike cX3_becomeLike 3 none, Cond.fieldLink RX3 9 "SnowCensus$Snow" "kind" "[I", Cond.fieldLink RX3 15 "SnowCensus$Snow" "foot" "[I", Cond.fieldLink RX3 18 "SnowCensus$Snow" "height" "[I", Cond.fieldLink RX3 25 "SnowCensus$Snow" "span" "I", Cond.fieldLink RX3 28 "SnowCensus$Snow" "tower" "I", Cond.methodLink RX4 177 yX4_areReadingsSoOnTrial, Cond.instanceMethod yX4_areReadingsSoOnTrial, Cond.selects RX4 yX4_areReadingsSoOnTrial yX4_areReadingsSoOnTrial, Cond.initialized RX4, Cond.code yX4_areReadingsSoOnTrial cX4_areReadingsSoOnTrial 2 (some .boolean), Cond.fieldLink RX4 31 "SnowCensus" "readings" "LSnowCensus$Readings;"]
def wsX4_spans_r2 : List Cond := [Cond.fieldLink RX4 171 "SnowCensus$Readings" "count" "I", Cond.fieldLink RX4 247 "SnowCensus$Readings" "sun" "[I", Cond.fieldLink RX4 250 "SnowCensus$Readings" "counted" "[I", Cond.methodLink RX4 112 yX3_everyone, Cond.instanceMethod yX3_everyone, Cond.selects RX3 yX3_everyone yX3_everyone, Cond.code yX3_everyone cX3_everyone 1 (some .int), Cond.methodLink RX4 116 yX4_countedOn, Cond.instanceMethod yX4_countedOn, Cond.selects RX4 yX4_countedOn yX4_countedOn, Cond.code yX4_countedOn cX4_countedOn 4 (some .int), Cond.fieldLink RX4 24 "SnowCensus" "shadows" "LSnowCensus$Shadows;", Cond.fieldLink RX4 239 "SnowCensus$Shadows" "counted" "I", Cond.methodLink RX4 120 yX3_darkFeet, Cond.instanceMethod yX3_darkFeet, Cond.selects RX3 yX3_darkFeet yX3_darkFeet, Cond.code yX3_darkFeet cX3_darkFeet 9 (some .long), Cond.methodLink RX3 45 yX3_hiddenSet, Cond.instanceMethod yX3_hiddenSet, Cond.selects RX3 yX3_hiddenSet yX3_hiddenSet, Cond.code yX3_hiddenSet cX3_hiddenSet 4 (some .int), Cond.methodLink RX3 31 yX3_has, Cond.instanceMethod yX3_has, Cond.selects RX3 yX3_has yX3_has]
def wsX4_spans_r3 : List Cond := [Cond.code yX3_has cX3_has 2 (some .boolean), Cond.methodLink RX3 41 yX3_firstLitFoot, Cond.instanceMethod yX3_firstLitFoot, Cond.selects RX3 yX3_firstLitFoot yX3_firstLitFoot, Cond.code yX3_firstLitFoot cX3_firstLitFoot 2 (some .int), Cond.methodLink RX3 48 yX3_shadeOf, Cond.instanceMethod yX3_shadeOf, Cond.selects RX3 yX3_shadeOf yX3_shadeOf, Cond.code yX3_shadeOf cX3_shadeOf 4 (some .int), Cond.methodLink RX3 35 Lib.Math.max.name, Cond.static Lib.Math.max.name, Cond.initialized "java/lang/Math", Cond.code Lib.Math.max.name Lib.Math.max.code 2 (some .int), Cond.methodLink RX4 127 yX1_measure, Cond.instanceMethod yX1_measure, Cond.selects RX1 yX1_measure yX1_measure, Cond.initialized RX1, Cond.code yX1_measure cX1_measure 6 none, Cond.fieldLink RX1 9 "SnowCensus$Shadows" "runCount" "I", Cond.fieldLink RX1 15 "SnowCensus$Shadows" "longest" "I", Cond.fieldLink RX1 18 "SnowCensus$Shadows" "counted" "I", Cond.fieldLink RX1 25 "SnowCensus$Shadows" "need" "I", Cond.methodLink RX1 21 yX1_closeRun, Cond.instanceMethod yX1_closeRun]
def wsX4_spans_r4 : List Cond := [Cond.selects RX1 yX1_closeRun yX1_closeRun, Cond.code yX1_closeRun cX1_closeRun 3 none, Cond.methodLink RX1 28 Lib.Math.max.name]
def wsX4_spans : List Cond := .code yX4_spans cX4_spans 3 (some .int) :: ((wsX4_spans_r1 ++ (wsX4_spans_r2 ++ (wsX4_spans_r3 ++ wsX4_spans_r4))) ++ wsX40 ++ wsX30 ++ wsX00 ++ wsX10)
def wsX4_odds_r1 : List Cond := [Cond.constantLong RX4 180 (-9223372036854775808), Cond.fieldLink RX4 14 "SnowCensus" "snow" "LSnowCensus$Snow;", Cond.methodLink RX4 163 yX4_refusalOfCount, Cond.instanceMethod yX4_refusalOfCount, Cond.selects RX4 yX4_refusalOfCount yX4_refusalOfCount, Cond.initialized RX4, Cond.code yX4_refusalOfCount cX4_refusalOfCount 3 (some .int), Cond.methodLink RX4 106 yX4_refusalAt, Cond.instanceMethod yX4_refusalAt, Cond.selects RX4 yX4_refusalAt yX4_refusalAt, Cond.code yX4_refusalAt cX4_refusalAt 2 (some .int), Cond.methodLink RX4 99 yX4_isSun, Cond.static yX4_isSun, Cond.code yX4_isSun cX4_isSun 1 (some .boolean), Cond.methodLink RX4 92 yX3_isLaid, Cond.instanceMethod yX3_isLaid, Cond.selects RX3 yX3_isLaid yX3_isLaid, Cond.initialized RX3, Cond.code yX3_isLaid cX3_isLaid 1 (some .boolean), Cond.fieldLink RX3 21 "SnowCensus$Snow" "standers" "I", Cond.methodLink RX4 112 yX3_everyone, Cond.instanceMethod yX3_everyone, Cond.selects RX3 yX3_everyone yX3_everyone, Cond.code yX3_everyone cX3_everyone 1 (some .int)]
def wsX4_odds_r2 : List Cond := [Cond.methodLink RX4 116 yX4_countedOn, Cond.instanceMethod yX4_countedOn, Cond.selects RX4 yX4_countedOn yX4_countedOn, Cond.code yX4_countedOn cX4_countedOn 4 (some .int), Cond.fieldLink RX4 24 "SnowCensus" "shadows" "LSnowCensus$Shadows;", Cond.fieldLink RX4 124 "SnowCensus$Snow" "span" "I", Cond.fieldLink RX4 239 "SnowCensus$Shadows" "counted" "I", Cond.methodLink RX4 120 yX3_darkFeet, Cond.instanceMethod yX3_darkFeet, Cond.selects RX3 yX3_darkFeet yX3_darkFeet, Cond.code yX3_darkFeet cX3_darkFeet 9 (some .long), Cond.fieldLink RX3 15 "SnowCensus$Snow" "foot" "[I", Cond.methodLink RX3 45 yX3_hiddenSet, Cond.instanceMethod yX3_hiddenSet, Cond.selects RX3 yX3_hiddenSet yX3_hiddenSet, Cond.code yX3_hiddenSet cX3_hiddenSet 4 (some .int), Cond.methodLink RX3 31 yX3_has, Cond.instanceMethod yX3_has, Cond.selects RX3 yX3_has yX3_has, Cond.code yX3_has cX3_has 2 (some .boolean), Cond.methodLink RX3 41 yX3_firstLitFoot, Cond.instanceMethod yX3_firstLitFoot, Cond.selects RX3 yX3_firstLitFoot yX3_firstLitFoot, Cond.code yX3_firstLitFoot cX3_firstLitFoot 2 (some .int)]
def wsX4_odds_r3 : List Cond := [Cond.fieldLink RX3 28 "SnowCensus$Snow" "tower" "I", Cond.methodLink RX3 48 yX3_shadeOf, Cond.instanceMethod yX3_shadeOf, Cond.selects RX3 yX3_shadeOf yX3_shadeOf, Cond.code yX3_shadeOf cX3_shadeOf 4 (some .int), Cond.fieldLink RX3 18 "SnowCensus$Snow" "height" "[I", Cond.fieldLink RX3 9 "SnowCensus$Snow" "kind" "[I", Cond.methodLink RX3 35 Lib.Math.max.name, Cond.static Lib.Math.max.name, Cond.initialized "java/lang/Math", Cond.code Lib.Math.max.name Lib.Math.max.code 2 (some .int), Cond.methodLink RX4 127 yX1_measure, Cond.instanceMethod yX1_measure, Cond.selects RX1 yX1_measure yX1_measure, Cond.initialized RX1, Cond.code yX1_measure cX1_measure 6 none, Cond.fieldLink RX1 9 "SnowCensus$Shadows" "runCount" "I", Cond.fieldLink RX1 15 "SnowCensus$Shadows" "longest" "I", Cond.fieldLink RX1 18 "SnowCensus$Shadows" "counted" "I", Cond.fieldLink RX1 25 "SnowCensus$Shadows" "need" "I", Cond.methodLink RX1 21 yX1_closeRun, Cond.instanceMethod yX1_closeRun, Cond.selects RX1 yX1_closeRun yX1_closeRun, Cond.code yX1_closeRun cX1_closeRun 3 none]
def wsX4_odds_r4 : List Cond := [Cond.methodLink RX1 28 Lib.Math.max.name]
def wsX4_odds : List Cond := .code yX4_odds cX4_odds 8 (some .long) :: ((wsX4_odds_r1 ++ (wsX4_odds_r2 ++ (wsX4_odds_r3 ++ wsX4_odds_r4))) ++ wsX40 ++ wsX30 ++ wsX10)
def wsX4_sheet : List Cond := .code yX4_sheet cX4_sheet 5 (some .int) :: ([.fieldLink RX4 42 "SnowCensus" "latestFault" "I", .methodLink RX4 46 yX4_sheetAt, .instanceMethod yX4_sheetAt, .selects RX4 yX4_sheetAt yX4_sheetAt, .initialized RX4, .code yX4_sheetAt cX4_sheetAt 2 (some (.object "SnowCensus$Sheet")), .fieldLink RX4 37 "SnowCensus" "sheets" "[LSnowCensus$Sheet;", .methodLink RX4 50 yX4_isLane, .static yX4_isLane, .code yX4_isLane cX4_isLane 1 (some .boolean), .methodLink RX4 62 yX4_failed, .instanceMethod yX4_failed, .selects RX4 yX4_failed yX4_failed, .code yX4_failed cX4_failed 2 (some .int), .methodLink RX4 182 yX2_renew, .instanceMethod yX2_renew, .selects RX2 yX2_renew yX2_renew, .initialized RX2, .code yX2_renew cX2_renew 4 none, .fieldLink RX2 15 "SnowCensus$Sheet" "hasRow" "Z", .fieldLink RX2 19 "SnowCensus$Sheet" "lane" "I", .fieldLink RX2 23 "SnowCensus$Sheet" "size" "I", .fieldLink RX2 9 "SnowCensus$Sheet" "cells" "[I"] ++ wsX40 ++ wsX20)
def wsX4_lose : List Cond := .code yX4_lose cX4_lose 4 (some .int) :: ([.fieldLink RX4 186 "SnowCensus$Sheet" "hasRow" "Z", .methodLink RX4 46 yX4_sheetAt, .instanceMethod yX4_sheetAt, .selects RX4 yX4_sheetAt yX4_sheetAt, .initialized RX4, .code yX4_sheetAt cX4_sheetAt 2 (some (.object "SnowCensus$Sheet")), .fieldLink RX4 37 "SnowCensus" "sheets" "[LSnowCensus$Sheet;", .methodLink RX4 190 yX2_empty, .instanceMethod yX2_empty, .selects RX2 yX2_empty yX2_empty, .initialized RX2, .code yX2_empty cX2_empty 1 none, .fieldLink RX2 15 "SnowCensus$Sheet" "hasRow" "Z", .fieldLink RX2 23 "SnowCensus$Sheet" "size" "I"] ++ wsX20 ++ wsX40)
def wsX4_put : List Cond := .code yX4_put cX4_put 5 (some .int) :: ([.fieldLink RX4 42 "SnowCensus" "latestFault" "I", .fieldLink RX4 186 "SnowCensus$Sheet" "hasRow" "Z", .fieldLink RX4 196 "SnowCensus$Sheet" "cells" "[I", .methodLink RX4 46 yX4_sheetAt, .instanceMethod yX4_sheetAt, .selects RX4 yX4_sheetAt yX4_sheetAt, .initialized RX4, .code yX4_sheetAt cX4_sheetAt 2 (some (.object "SnowCensus$Sheet")), .fieldLink RX4 37 "SnowCensus" "sheets" "[LSnowCensus$Sheet;", .methodLink RX4 62 yX4_failed, .instanceMethod yX4_failed, .selects RX4 yX4_failed yX4_failed, .code yX4_failed cX4_failed 2 (some .int), .methodLink RX4 193 yX2_hasCell, .instanceMethod yX2_hasCell, .selects RX2 yX2_hasCell yX2_hasCell, .initialized RX2, .code yX2_hasCell cX2_hasCell 2 (some .boolean), .fieldLink RX2 23 "SnowCensus$Sheet" "size" "I", .methodLink RX4 199 yX2_cutToLane, .instanceMethod yX2_cutToLane, .selects RX2 yX2_cutToLane yX2_cutToLane, .code yX2_cutToLane cX2_cutToLane 2 (some .int), .fieldLink RX2 19 "SnowCensus$Sheet" "lane" "I"] ++ wsX40 ++ wsX20)
def wsX4_cell_r1 : List Cond := [Cond.fieldLink RX4 42 "SnowCensus" "latestFault" "I", Cond.constantLong RX4 180 (-9223372036854775808), Cond.methodLink RX4 46 yX4_sheetAt, Cond.instanceMethod yX4_sheetAt, Cond.selects RX4 yX4_sheetAt yX4_sheetAt, Cond.initialized RX4, Cond.code yX4_sheetAt cX4_sheetAt 2 (some (.object "SnowCensus$Sheet")), Cond.fieldLink RX4 37 "SnowCensus" "sheets" "[LSnowCensus$Sheet;", Cond.methodLink RX4 50 yX4_isLane, Cond.static yX4_isLane, Cond.code yX4_isLane cX4_isLane 1 (some .boolean), Cond.methodLink RX4 54 yX2_faultAs, Cond.instanceMethod yX2_faultAs, Cond.selects RX2 yX2_faultAs yX2_faultAs, Cond.initialized RX2, Cond.code yX2_faultAs cX2_faultAs 2 (some .int), Cond.fieldLink RX2 15 "SnowCensus$Sheet" "hasRow" "Z", Cond.fieldLink RX2 19 "SnowCensus$Sheet" "lane" "I", Cond.methodLink RX4 193 yX2_hasCell, Cond.instanceMethod yX2_hasCell, Cond.selects RX2 yX2_hasCell yX2_hasCell, Cond.code yX2_hasCell cX2_hasCell 2 (some .boolean), Cond.fieldLink RX2 23 "SnowCensus$Sheet" "size" "I", Cond.methodLink RX4 202 yX2_at]
def wsX4_cell_r2 : List Cond := [Cond.instanceMethod yX2_at, Cond.selects RX2 yX2_at yX2_at, Cond.code yX2_at cX2_at 2 (some .int), Cond.fieldLink RX2 9 "SnowCensus$Sheet" "cells" "[I", Cond.methodLink RX2 26 yX2_hasCell]
def wsX4_cell : List Cond := .code yX4_cell cX4_cell 5 (some .long) :: ((wsX4_cell_r1 ++ wsX4_cell_r2) ++ wsX40 ++ wsX20)
def wsX4_copy : List Cond := .code yX4_copy cX4_copy 8 (some .int) :: ([.fieldLink RX4 42 "SnowCensus" "latestFault" "I", .fieldLink RX4 186 "SnowCensus$Sheet" "hasRow" "Z", .fieldLink RX4 205 "SnowCensus$Sheet" "lane" "I", .fieldLink RX4 196 "SnowCensus$Sheet" "cells" "[I", .methodLink RX4 208 arraycopyName, .native arraycopyName, .static arraycopyName, .initialized "java/lang/System", .methodLink RX4 46 yX4_sheetAt, .instanceMethod yX4_sheetAt, .selects RX4 yX4_sheetAt yX4_sheetAt, .initialized RX4, .code yX4_sheetAt cX4_sheetAt 2 (some (.object "SnowCensus$Sheet")), .fieldLink RX4 37 "SnowCensus" "sheets" "[LSnowCensus$Sheet;", .methodLink RX4 62 yX4_failed, .instanceMethod yX4_failed, .selects RX4 yX4_failed yX4_failed, .code yX4_failed cX4_failed 2 (some .int), .methodLink RX4 58 yX2_holds, .instanceMethod yX2_holds, .selects RX2 yX2_holds yX2_holds, .initialized RX2, .code yX2_holds cX2_holds 3 (some .boolean), .fieldLink RX2 23 "SnowCensus$Sheet" "size" "I"] ++ wsX40 ++ wsX20)
def wsX4_leaveInTrace : List Cond := .code yX4_leaveInTrace cX4_leaveInTrace 2 none :: ([.fieldLink RX4 227 "SnowCensus" "traced" "I"] ++ wsX40)
def wsX4_tellAsStander : List Cond := .code yX4_tellAsStander cX4_tellAsStander 2 (some .int) :: ([.fieldLink RX4 14 "SnowCensus" "snow" "LSnowCensus$Snow;", .fieldLink RX4 86 "SnowCensus$Snow" "height" "[I", .methodLink RX4 223 yX4_leaveInTrace, .instanceMethod yX4_leaveInTrace, .selects RX4 yX4_leaveInTrace yX4_leaveInTrace, .initialized RX4, .code yX4_leaveInTrace cX4_leaveInTrace 2 none, .fieldLink RX4 227 "SnowCensus" "traced" "I", .methodLink RX4 76 yX3_has, .instanceMethod yX3_has, .selects RX3 yX3_has yX3_has, .initialized RX3, .code yX3_has cX3_has 2 (some .boolean), .fieldLink RX3 21 "SnowCensus$Snow" "standers" "I"] ++ wsX40 ++ wsX30)
def wsX4_tellAsRider : List Cond := .code yX4_tellAsRider cX4_tellAsRider 2 (some .int) :: ([.methodLink RX4 223 yX4_leaveInTrace, .instanceMethod yX4_leaveInTrace, .selects RX4 yX4_leaveInTrace yX4_leaveInTrace, .initialized RX4, .code yX4_leaveInTrace cX4_leaveInTrace 2 none, .fieldLink RX4 227 "SnowCensus" "traced" "I", .methodLink RX4 220 yX4_tellAsStander, .instanceMethod yX4_tellAsStander, .selects RX4 yX4_tellAsStander yX4_tellAsStander, .code yX4_tellAsStander cX4_tellAsStander 2 (some .int), .fieldLink RX4 14 "SnowCensus" "snow" "LSnowCensus$Snow;", .fieldLink RX4 86 "SnowCensus$Snow" "height" "[I", .methodLink RX4 76 yX3_has, .instanceMethod yX3_has, .selects RX3 yX3_has yX3_has, .initialized RX3, .code yX3_has cX3_has 2 (some .boolean), .fieldLink RX3 21 "SnowCensus$Snow" "standers" "I"] ++ wsX40 ++ wsX30)
def wsX4_tellAsPole : List Cond := .code yX4_tellAsPole cX4_tellAsPole 3 (some .int) :: ([.methodLink RX4 223 yX4_leaveInTrace, .instanceMethod yX4_leaveInTrace, .selects RX4 yX4_leaveInTrace yX4_leaveInTrace, .initialized RX4, .code yX4_leaveInTrace cX4_leaveInTrace 2 none, .fieldLink RX4 227 "SnowCensus" "traced" "I", .methodLink RX4 214 yX4_tellAsRider, .instanceMethod yX4_tellAsRider, .selects RX4 yX4_tellAsRider yX4_tellAsRider, .code yX4_tellAsRider cX4_tellAsRider 2 (some .int), .methodLink RX4 220 yX4_tellAsStander, .instanceMethod yX4_tellAsStander, .selects RX4 yX4_tellAsStander yX4_tellAsStander, .code yX4_tellAsStander cX4_tellAsStander 2 (some .int), .fieldLink RX4 14 "SnowCensus" "snow" "LSnowCensus$Snow;", .fieldLink RX4 86 "SnowCensus$Snow" "height" "[I", .methodLink RX4 76 yX3_has, .instanceMethod yX3_has, .selects RX3 yX3_has yX3_has, .initialized RX3, .code yX3_has cX3_has 2 (some .boolean), .fieldLink RX3 21 "SnowCensus$Snow" "standers" "I"] ++ wsX40 ++ wsX30)
def wsX4_tell_r1 : List Cond := [Cond.fieldLink RX4 14 "SnowCensus" "snow" "LSnowCensus$Snow;", Cond.fieldLink RX4 79 "SnowCensus$Snow" "kind" "[I", Cond.methodLink RX4 76 yX3_has, Cond.instanceMethod yX3_has, Cond.selects RX3 yX3_has yX3_has, Cond.initialized RX3, Cond.code yX3_has cX3_has 2 (some .boolean), Cond.fieldLink RX3 21 "SnowCensus$Snow" "standers" "I", Cond.methodLink RX4 214 yX4_tellAsRider, Cond.instanceMethod yX4_tellAsRider, Cond.selects RX4 yX4_tellAsRider yX4_tellAsRider, Cond.initialized RX4, Cond.code yX4_tellAsRider cX4_tellAsRider 2 (some .int), Cond.methodLink RX4 223 yX4_leaveInTrace, Cond.instanceMethod yX4_leaveInTrace, Cond.selects RX4 yX4_leaveInTrace yX4_leaveInTrace, Cond.code yX4_leaveInTrace cX4_leaveInTrace 2 none, Cond.fieldLink RX4 227 "SnowCensus" "traced" "I", Cond.methodLink RX4 220 yX4_tellAsStander, Cond.instanceMethod yX4_tellAsStander, Cond.selects RX4 yX4_tellAsStander yX4_tellAsStander, Cond.code yX4_tellAsStander cX4_tellAsStander 2 (some .int), Cond.fieldLink RX4 86 "SnowCensus$Snow" "height" "[I", Cond.methodLink RX4 217 yX4_tellAsPole]
def wsX4_tell_r2 : List Cond := [Cond.instanceMethod yX4_tellAsPole, Cond.selects RX4 yX4_tellAsPole yX4_tellAsPole, Cond.code yX4_tellAsPole cX4_tellAsPole 3 (some .int)]
def wsX4_tell : List Cond := .code yX4_tell cX4_tell 2 (some .int) :: ((wsX4_tell_r1 ++ wsX4_tell_r2) ++ wsX40 ++ wsX30)
def wsX4_tax : List Cond := .code yX4_tax cX4_tax 2 (some .int) :: ([.fieldLink RX4 14 "SnowCensus" "snow" "LSnowCensus$Snow;", .fieldLink RX4 79 "SnowCensus$Snow" "kind" "[I", .methodLink RX4 76 yX3_has, .instanceMethod yX3_has, .selects RX3 yX3_has yX3_has, .initialized RX3, .code yX3_has cX3_has 2 (some .boolean), .fieldLink RX3 21 "SnowCensus$Snow" "standers" "I", .methodLink RX4 223 yX4_leaveInTrace, .instanceMethod yX4_leaveInTrace, .selects RX4 yX4_leaveInTrace yX4_leaveInTrace, .initialized RX4, .code yX4_leaveInTrace cX4_leaveInTrace 2 none, .fieldLink RX4 227 "SnowCensus" "traced" "I"] ++ wsX40 ++ wsX30)
def wsX4_as : List Cond := .code yX4_as cX4_as 3 (some .int) :: ([.fieldLink RX4 42 "SnowCensus" "latestFault" "I", .fieldLink RX4 14 "SnowCensus" "snow" "LSnowCensus$Snow;", .fieldLink RX4 79 "SnowCensus$Snow" "kind" "[I", .methodLink RX4 76 yX3_has, .instanceMethod yX3_has, .selects RX3 yX3_has yX3_has, .initialized RX3, .code yX3_has cX3_has 2 (some .boolean), .fieldLink RX3 21 "SnowCensus$Snow" "standers" "I", .methodLink RX4 62 yX4_failed, .instanceMethod yX4_failed, .selects RX4 yX4_failed yX4_failed, .initialized RX4, .code yX4_failed cX4_failed 2 (some .int)] ++ wsX40 ++ wsX30)
def wsX4_trace : List Cond := .code yX4_trace cX4_trace 1 (some .int) :: ([.fieldLink RX4 227 "SnowCensus" "traced" "I"] ++ wsX40)
def wsX4_fault : List Cond := .code yX4_fault cX4_fault 1 (some .int) :: ([.fieldLink RX4 42 "SnowCensus" "latestFault" "I"] ++ wsX40)
def wsX4_many : List Cond := .code yX4_many cX4_many 2 (some .int) :: ([.fieldLink RX4 14 "SnowCensus" "snow" "LSnowCensus$Snow;", .fieldLink RX4 73 "SnowCensus$Snow" "standers" "I", .fieldLink RX4 124 "SnowCensus$Snow" "span" "I", .fieldLink RX4 96 "SnowCensus$Snow" "tower" "I", .fieldLink RX4 31 "SnowCensus" "readings" "LSnowCensus$Readings;", .fieldLink RX4 171 "SnowCensus$Readings" "count" "I"] ++ wsX40 ++ wsX30 ++ wsX00)
def wsX5_init : List Cond := .code yX5_init cX5_init 1 none :: ([.methodLink RX5 1 objectInit, .instanceMethod objectInit, .code objectInit ⟨#[0xb1]⟩ 1 none, .arrayClass .int, .fieldLink RX5 9 "SnowCensusModel" "sorts" "[I", .fieldLink RX5 13 "SnowCensusModel" "sheetLong" "[I", .fieldLink RX5 16 "SnowCensusModel" "cells" "[I", .fieldLink RX5 19 "SnowCensusModel" "kind" "[I", .fieldLink RX5 22 "SnowCensusModel" "footOf" "[I", .fieldLink RX5 25 "SnowCensusModel" "height" "[I", .fieldLink RX5 28 "SnowCensusModel" "readKind" "[I", .fieldLink RX5 31 "SnowCensusModel" "readFoot" "[I", .fieldLink RX5 34 "SnowCensusModel" "readHeight" "[I", .arrayClass .boolean, .fieldLink RX5 37 "SnowCensusModel" "dark" "[Z", .fieldLink RX5 41 "SnowCensusModel" "kept" "[I", .fieldLink RX5 44 "SnowCensusModel" "readSun" "[I", .fieldLink RX5 47 "SnowCensusModel" "readCensus" "[I"] ++ wsX50)
def wsX5_fails : List Cond := .code yX5_fails cX5_fails 2 (some .int) :: ([.fieldLink RX5 50 "SnowCensusModel" "fault" "I"] ++ wsX50)
def wsX5_lost : List Cond := .code yX5_lost cX5_lost 2 (some .long) :: ([.fieldLink RX5 50 "SnowCensusModel" "fault" "I", .constantLong RX5 54 (-9223372036854775808)] ++ wsX50)
def wsX5_within : List Cond := .code yX5_within cX5_within 3 (some .boolean) :: ([])
def wsX5_isSheet : List Cond := .code yX5_isSheet cX5_isSheet 1 (some .boolean) :: ([.methodLink RX5 56 yX5_within, .static yX5_within, .initialized RX5, .code yX5_within cX5_within 3 (some .boolean)])
def wsX5_isSort : List Cond := .code yX5_isSort cX5_isSort 1 (some .boolean) :: ([.methodLink RX5 56 yX5_within, .static yX5_within, .initialized RX5, .code yX5_within cX5_within 3 (some .boolean)])
def wsX5_against : List Cond := .code yX5_against cX5_against 5 (some .int) :: ([.fieldLink RX5 9 "SnowCensusModel" "sorts" "[I", .fieldLink RX5 13 "SnowCensusModel" "sheetLong" "[I"] ++ wsX50)
def wsX5_isStander : List Cond := .code yX5_isStander cX5_isStander 2 (some .boolean) :: ([.fieldLink RX5 60 "SnowCensusModel" "standers" "I"] ++ wsX50)
def wsX5_isDigit : List Cond := .code yX5_isDigit cX5_isDigit 1 (some .boolean) :: ([.methodLink RX5 56 yX5_within, .static yX5_within, .initialized RX5, .code yX5_within cX5_within 3 (some .boolean)])
def wsX5_isSun : List Cond := .code yX5_isSun cX5_isSun 1 (some .boolean) :: ([.methodLink RX5 56 yX5_within, .static yX5_within, .initialized RX5, .code yX5_within cX5_within 3 (some .boolean)])
def wsX5_digit : List Cond := .code yX5_digit cX5_digit 3 (some .int) :: ([.fieldLink RX5 63 "SnowCensusModel" "at" "I", .fieldLink RX5 16 "SnowCensusModel" "cells" "[I", .methodLink RX5 56 yX5_within, .static yX5_within, .initialized RX5, .code yX5_within cX5_within 3 (some .boolean)] ++ wsX50)
def wsX5_isSign : List Cond := .code yX5_isSign cX5_isSign 3 (some .boolean) :: ([.fieldLink RX5 63 "SnowCensusModel" "at" "I", .fieldLink RX5 16 "SnowCensusModel" "cells" "[I"] ++ wsX50)
def wsX5_readStander : List Cond := .code yX5_readStander cX5_readStander 3 (some .boolean) :: ([.fieldLink RX5 63 "SnowCensusModel" "at" "I", .fieldLink RX5 16 "SnowCensusModel" "cells" "[I", .fieldLink RX5 28 "SnowCensusModel" "readKind" "[I", .fieldLink RX5 96 "SnowCensusModel" "readStanders" "I", .fieldLink RX5 31 "SnowCensusModel" "readFoot" "[I", .fieldLink RX5 34 "SnowCensusModel" "readHeight" "[I", .methodLink RX5 106 yX5_digit, .instanceMethod yX5_digit, .selects RX5 yX5_digit yX5_digit, .initialized RX5, .code yX5_digit cX5_digit 3 (some .int), .methodLink RX5 56 yX5_within, .static yX5_within, .code yX5_within cX5_within 3 (some .boolean)] ++ wsX50)
def wsX5_readField : List Cond := .code yX5_readField cX5_readField 2 (some .boolean) :: ([.fieldLink RX5 96 "SnowCensusModel" "readStanders" "I", .fieldLink RX5 84 "SnowCensusModel" "readSpan" "I", .fieldLink RX5 90 "SnowCensusModel" "readTower" "I", .fieldLink RX5 63 "SnowCensusModel" "at" "I", .methodLink RX5 102 yX5_isSign, .instanceMethod yX5_isSign, .selects RX5 yX5_isSign yX5_isSign, .initialized RX5, .code yX5_isSign cX5_isSign 3 (some .boolean), .fieldLink RX5 16 "SnowCensusModel" "cells" "[I", .methodLink RX5 106 yX5_digit, .instanceMethod yX5_digit, .selects RX5 yX5_digit yX5_digit, .code yX5_digit cX5_digit 3 (some .int), .methodLink RX5 56 yX5_within, .static yX5_within, .code yX5_within cX5_within 3 (some .boolean), .methodLink RX5 110 yX5_readStander, .instanceMethod yX5_readStander, .selects RX5 yX5_readStander yX5_readStander, .code yX5_readStander cX5_readStander 3 (some .boolean), .fieldLink RX5 28 "SnowCensusModel" "readKind" "[I", .fieldLink RX5 31 "SnowCensusModel" "readFoot" "[I", .fieldLink RX5 34 "SnowCensusModel" "readHeight" "[I"] ++ wsX50)
def wsX5_field_r1 : List Cond := [Cond.fieldLink RX5 50 "SnowCensusModel" "fault" "I", Cond.fieldLink RX5 63 "SnowCensusModel" "at" "I", Cond.fieldLink RX5 84 "SnowCensusModel" "readSpan" "I", Cond.fieldLink RX5 87 "SnowCensusModel" "span" "I", Cond.fieldLink RX5 90 "SnowCensusModel" "readTower" "I", Cond.fieldLink RX5 93 "SnowCensusModel" "tower" "I", Cond.fieldLink RX5 96 "SnowCensusModel" "readStanders" "I", Cond.fieldLink RX5 60 "SnowCensusModel" "standers" "I", Cond.fieldLink RX5 19 "SnowCensusModel" "kind" "[I", Cond.fieldLink RX5 28 "SnowCensusModel" "readKind" "[I", Cond.fieldLink RX5 22 "SnowCensusModel" "footOf" "[I", Cond.fieldLink RX5 31 "SnowCensusModel" "readFoot" "[I", Cond.fieldLink RX5 25 "SnowCensusModel" "height" "[I", Cond.fieldLink RX5 34 "SnowCensusModel" "readHeight" "[I", Cond.fieldLink RX5 99 "SnowCensusModel" "readings" "I", Cond.methodLink RX5 66 yX5_isSheet, Cond.static yX5_isSheet, Cond.initialized RX5, Cond.code yX5_isSheet cX5_isSheet 1 (some .boolean), Cond.methodLink RX5 56 yX5_within, Cond.static yX5_within, Cond.code yX5_within cX5_within 3 (some .boolean), Cond.methodLink RX5 70 yX5_isSort, Cond.static yX5_isSort]
def wsX5_field_r2 : List Cond := [Cond.code yX5_isSort cX5_isSort 1 (some .boolean), Cond.methodLink RX5 73 yX5_against, Cond.instanceMethod yX5_against, Cond.selects RX5 yX5_against yX5_against, Cond.code yX5_against cX5_against 5 (some .int), Cond.fieldLink RX5 9 "SnowCensusModel" "sorts" "[I", Cond.fieldLink RX5 13 "SnowCensusModel" "sheetLong" "[I", Cond.methodLink RX5 77 yX5_fails, Cond.instanceMethod yX5_fails, Cond.selects RX5 yX5_fails yX5_fails, Cond.code yX5_fails cX5_fails 2 (some .int), Cond.methodLink RX5 81 yX5_readField, Cond.instanceMethod yX5_readField, Cond.selects RX5 yX5_readField yX5_readField, Cond.code yX5_readField cX5_readField 2 (some .boolean), Cond.methodLink RX5 102 yX5_isSign, Cond.instanceMethod yX5_isSign, Cond.selects RX5 yX5_isSign yX5_isSign, Cond.code yX5_isSign cX5_isSign 3 (some .boolean), Cond.fieldLink RX5 16 "SnowCensusModel" "cells" "[I", Cond.methodLink RX5 106 yX5_digit, Cond.instanceMethod yX5_digit, Cond.selects RX5 yX5_digit yX5_digit, Cond.code yX5_digit cX5_digit 3 (some .int)]
def wsX5_field_r3 : List Cond := [Cond.methodLink RX5 110 yX5_readStander, Cond.instanceMethod yX5_readStander, Cond.selects RX5 yX5_readStander yX5_readStander, Cond.code yX5_readStander cX5_readStander 3 (some .boolean)]
def wsX5_field : List Cond := .code yX5_field cX5_field 8 (some .int) :: ((wsX5_field_r1 ++ (wsX5_field_r2 ++ wsX5_field_r3)) ++ wsX50)
def wsX5_shadeOf : List Cond := .code yX5_shadeOf cX5_shadeOf 4 (some .int) :: ([.fieldLink RX5 25 "SnowCensusModel" "height" "[I", .fieldLink RX5 19 "SnowCensusModel" "kind" "[I"] ++ wsX50)
def wsX5_ofStander : List Cond := .code yX5_ofStander cX5_ofStander 3 (some .int) :: ([.fieldLink RX5 19 "SnowCensusModel" "kind" "[I", .fieldLink RX5 22 "SnowCensusModel" "footOf" "[I", .fieldLink RX5 25 "SnowCensusModel" "height" "[I", .methodLink RX5 113 yX5_isStander, .instanceMethod yX5_isStander, .selects RX5 yX5_isStander yX5_isStander, .initialized RX5, .code yX5_isStander cX5_isStander 2 (some .boolean), .fieldLink RX5 60 "SnowCensusModel" "standers" "I"] ++ wsX50)
def wsX5_walk : List Cond := .code yX5_walk cX5_walk 4 (some .int) :: ([.fieldLink RX5 22 "SnowCensusModel" "footOf" "[I", .methodLink RX5 113 yX5_isStander, .instanceMethod yX5_isStander, .selects RX5 yX5_isStander yX5_isStander, .initialized RX5, .code yX5_isStander cX5_isStander 2 (some .boolean), .fieldLink RX5 60 "SnowCensusModel" "standers" "I", .methodLink RX5 116 yX5_isDigit, .static yX5_isDigit, .code yX5_isDigit cX5_isDigit 1 (some .boolean), .methodLink RX5 56 yX5_within, .static yX5_within, .code yX5_within cX5_within 3 (some .boolean)] ++ wsX50)
def wsX5_grow : List Cond := .code yX5_grow cX5_grow 4 (some .int) :: ([.fieldLink RX5 25 "SnowCensusModel" "height" "[I", .methodLink RX5 113 yX5_isStander, .instanceMethod yX5_isStander, .selects RX5 yX5_isStander yX5_isStander, .initialized RX5, .code yX5_isStander cX5_isStander 2 (some .boolean), .fieldLink RX5 60 "SnowCensusModel" "standers" "I", .methodLink RX5 116 yX5_isDigit, .static yX5_isDigit, .code yX5_isDigit cX5_isDigit 1 (some .boolean), .methodLink RX5 56 yX5_within, .static yX5_within, .code yX5_within cX5_within 3 (some .boolean)] ++ wsX50)
def wsX5_build : List Cond := .code yX5_build cX5_build 3 (some .int) :: ([.fieldLink RX5 60 "SnowCensusModel" "standers" "I", .fieldLink RX5 93 "SnowCensusModel" "tower" "I", .methodLink RX5 116 yX5_isDigit, .static yX5_isDigit, .initialized RX5, .code yX5_isDigit cX5_isDigit 1 (some .boolean), .methodLink RX5 56 yX5_within, .static yX5_within, .code yX5_within cX5_within 3 (some .boolean)] ++ wsX50)
def wsX5_shade : List Cond := .code yX5_shade cX5_shade 3 (some .int) :: ([.methodLink RX5 113 yX5_isStander, .instanceMethod yX5_isStander, .selects RX5 yX5_isStander yX5_isStander, .initialized RX5, .code yX5_isStander cX5_isStander 2 (some .boolean), .fieldLink RX5 60 "SnowCensusModel" "standers" "I", .methodLink RX5 119 yX5_isSun, .static yX5_isSun, .code yX5_isSun cX5_isSun 1 (some .boolean), .methodLink RX5 56 yX5_within, .static yX5_within, .code yX5_within cX5_within 3 (some .boolean), .methodLink RX5 122 yX5_shadeOf, .instanceMethod yX5_shadeOf, .selects RX5 yX5_shadeOf yX5_shadeOf, .code yX5_shadeOf cX5_shadeOf 4 (some .int), .fieldLink RX5 25 "SnowCensusModel" "height" "[I", .fieldLink RX5 19 "SnowCensusModel" "kind" "[I"] ++ wsX50)
def wsX5_isHidden : List Cond := .code yX5_isHidden cX5_isHidden 3 (some .boolean) :: ([.fieldLink RX5 22 "SnowCensusModel" "footOf" "[I", .fieldLink RX5 93 "SnowCensusModel" "tower" "I"] ++ wsX50)
def wsX5_darken : List Cond := .code yX5_darken cX5_darken 5 none :: ([.fieldLink RX5 37 "SnowCensusModel" "dark" "[Z", .fieldLink RX5 60 "SnowCensusModel" "standers" "I", .fieldLink RX5 125 "SnowCensusModel" "indoors" "I", .fieldLink RX5 22 "SnowCensusModel" "footOf" "[I", .methodLink RX5 128 yX5_isHidden, .instanceMethod yX5_isHidden, .selects RX5 yX5_isHidden yX5_isHidden, .initialized RX5, .code yX5_isHidden cX5_isHidden 3 (some .boolean), .fieldLink RX5 93 "SnowCensusModel" "tower" "I", .methodLink RX5 122 yX5_shadeOf, .instanceMethod yX5_shadeOf, .selects RX5 yX5_shadeOf yX5_shadeOf, .code yX5_shadeOf cX5_shadeOf 4 (some .int), .fieldLink RX5 25 "SnowCensusModel" "height" "[I", .fieldLink RX5 19 "SnowCensusModel" "kind" "[I"] ++ wsX50)
def wsX5_endRun : List Cond := .code yX5_endRun cX5_endRun 2 none :: ([.fieldLink RX5 131 "SnowCensusModel" "counted" "I", .fieldLink RX5 87 "SnowCensusModel" "span" "I", .fieldLink RX5 134 "SnowCensusModel" "runMany" "I", .fieldLink RX5 137 "SnowCensusModel" "longest" "I"] ++ wsX50)
def wsX5_count_r1 : List Cond := [Cond.fieldLink RX5 131 "SnowCensusModel" "counted" "I", Cond.fieldLink RX5 134 "SnowCensusModel" "runMany" "I", Cond.fieldLink RX5 137 "SnowCensusModel" "longest" "I", Cond.fieldLink RX5 144 "SnowCensusModel" "last" "I", Cond.fieldLink RX5 37 "SnowCensusModel" "dark" "[Z", Cond.methodLink RX5 140 yX5_darken, Cond.instanceMethod yX5_darken, Cond.selects RX5 yX5_darken yX5_darken, Cond.initialized RX5, Cond.code yX5_darken cX5_darken 5 none, Cond.fieldLink RX5 60 "SnowCensusModel" "standers" "I", Cond.fieldLink RX5 125 "SnowCensusModel" "indoors" "I", Cond.fieldLink RX5 22 "SnowCensusModel" "footOf" "[I", Cond.methodLink RX5 128 yX5_isHidden, Cond.instanceMethod yX5_isHidden, Cond.selects RX5 yX5_isHidden yX5_isHidden, Cond.code yX5_isHidden cX5_isHidden 3 (some .boolean), Cond.fieldLink RX5 93 "SnowCensusModel" "tower" "I", Cond.methodLink RX5 122 yX5_shadeOf, Cond.instanceMethod yX5_shadeOf, Cond.selects RX5 yX5_shadeOf yX5_shadeOf, Cond.code yX5_shadeOf cX5_shadeOf 4 (some .int), Cond.fieldLink RX5 25 "SnowCensusModel" "height" "[I", Cond.fieldLink RX5 19 "SnowCensusModel" "kind" "[I"]
def wsX5_count_r2 : List Cond := [Cond.methodLink RX5 147 yX5_endRun, Cond.instanceMethod yX5_endRun, Cond.selects RX5 yX5_endRun yX5_endRun, Cond.code yX5_endRun cX5_endRun 2 none, Cond.fieldLink RX5 87 "SnowCensusModel" "span" "I"]
def wsX5_count : List Cond := .code yX5_count cX5_count 4 none :: ((wsX5_count_r1 ++ wsX5_count_r2) ++ wsX50)
def wsX5_censusOf_r1 : List Cond := [Cond.fieldLink RX5 131 "SnowCensusModel" "counted" "I", Cond.methodLink RX5 150 yX5_count, Cond.instanceMethod yX5_count, Cond.selects RX5 yX5_count yX5_count, Cond.initialized RX5, Cond.code yX5_count cX5_count 4 none, Cond.fieldLink RX5 134 "SnowCensusModel" "runMany" "I", Cond.fieldLink RX5 137 "SnowCensusModel" "longest" "I", Cond.fieldLink RX5 144 "SnowCensusModel" "last" "I", Cond.fieldLink RX5 37 "SnowCensusModel" "dark" "[Z", Cond.methodLink RX5 140 yX5_darken, Cond.instanceMethod yX5_darken, Cond.selects RX5 yX5_darken yX5_darken, Cond.code yX5_darken cX5_darken 5 none, Cond.fieldLink RX5 60 "SnowCensusModel" "standers" "I", Cond.fieldLink RX5 125 "SnowCensusModel" "indoors" "I", Cond.fieldLink RX5 22 "SnowCensusModel" "footOf" "[I", Cond.methodLink RX5 128 yX5_isHidden, Cond.instanceMethod yX5_isHidden, Cond.selects RX5 yX5_isHidden yX5_isHidden, Cond.code yX5_isHidden cX5_isHidden 3 (some .boolean), Cond.fieldLink RX5 93 "SnowCensusModel" "tower" "I", Cond.methodLink RX5 122 yX5_shadeOf, Cond.instanceMethod yX5_shadeOf]
def wsX5_censusOf_r2 : List Cond := [Cond.selects RX5 yX5_shadeOf yX5_shadeOf, Cond.code yX5_shadeOf cX5_shadeOf 4 (some .int), Cond.fieldLink RX5 25 "SnowCensusModel" "height" "[I", Cond.fieldLink RX5 19 "SnowCensusModel" "kind" "[I", Cond.methodLink RX5 147 yX5_endRun, Cond.instanceMethod yX5_endRun, Cond.selects RX5 yX5_endRun yX5_endRun, Cond.code yX5_endRun cX5_endRun 2 none, Cond.fieldLink RX5 87 "SnowCensusModel" "span" "I"]
def wsX5_censusOf : List Cond := .code yX5_censusOf cX5_censusOf 2 (some .int) :: ((wsX5_censusOf_r1 ++ wsX5_censusOf_r2) ++ wsX50)
def wsX5_hiddenOf : List Cond := .code yX5_hiddenOf cX5_hiddenOf 4 (some .int) :: ([.fieldLink RX5 60 "SnowCensusModel" "standers" "I", .methodLink RX5 128 yX5_isHidden, .instanceMethod yX5_isHidden, .selects RX5 yX5_isHidden yX5_isHidden, .initialized RX5, .code yX5_isHidden cX5_isHidden 3 (some .boolean), .fieldLink RX5 22 "SnowCensusModel" "footOf" "[I", .fieldLink RX5 93 "SnowCensusModel" "tower" "I"] ++ wsX50)
def wsX5_hidden : List Cond := .code yX5_hidden cX5_hidden 2 (some .int) :: ([.fieldLink RX5 60 "SnowCensusModel" "standers" "I", .methodLink RX5 119 yX5_isSun, .static yX5_isSun, .initialized RX5, .code yX5_isSun cX5_isSun 1 (some .boolean), .methodLink RX5 56 yX5_within, .static yX5_within, .code yX5_within cX5_within 3 (some .boolean), .methodLink RX5 153 yX5_hiddenOf, .instanceMethod yX5_hiddenOf, .selects RX5 yX5_hiddenOf yX5_hiddenOf, .code yX5_hiddenOf cX5_hiddenOf 4 (some .int), .methodLink RX5 128 yX5_isHidden, .instanceMethod yX5_isHidden, .selects RX5 yX5_isHidden yX5_isHidden, .code yX5_isHidden cX5_isHidden 3 (some .boolean), .fieldLink RX5 22 "SnowCensusModel" "footOf" "[I", .fieldLink RX5 93 "SnowCensusModel" "tower" "I"] ++ wsX50)
def wsX5_census_r1 : List Cond := [Cond.fieldLink RX5 60 "SnowCensusModel" "standers" "I", Cond.methodLink RX5 119 yX5_isSun, Cond.static yX5_isSun, Cond.initialized RX5, Cond.code yX5_isSun cX5_isSun 1 (some .boolean), Cond.methodLink RX5 56 yX5_within, Cond.static yX5_within, Cond.code yX5_within cX5_within 3 (some .boolean), Cond.methodLink RX5 156 yX5_censusOf, Cond.instanceMethod yX5_censusOf, Cond.selects RX5 yX5_censusOf yX5_censusOf, Cond.code yX5_censusOf cX5_censusOf 2 (some .int), Cond.fieldLink RX5 131 "SnowCensusModel" "counted" "I", Cond.methodLink RX5 150 yX5_count, Cond.instanceMethod yX5_count, Cond.selects RX5 yX5_count yX5_count, Cond.code yX5_count cX5_count 4 none, Cond.fieldLink RX5 134 "SnowCensusModel" "runMany" "I", Cond.fieldLink RX5 137 "SnowCensusModel" "longest" "I", Cond.fieldLink RX5 144 "SnowCensusModel" "last" "I", Cond.fieldLink RX5 37 "SnowCensusModel" "dark" "[Z", Cond.methodLink RX5 140 yX5_darken, Cond.instanceMethod yX5_darken, Cond.selects RX5 yX5_darken yX5_darken]
def wsX5_census_r2 : List Cond := [Cond.code yX5_darken cX5_darken 5 none, Cond.fieldLink RX5 125 "SnowCensusModel" "indoors" "I", Cond.fieldLink RX5 22 "SnowCensusModel" "footOf" "[I", Cond.methodLink RX5 128 yX5_isHidden, Cond.instanceMethod yX5_isHidden, Cond.selects RX5 yX5_isHidden yX5_isHidden, Cond.code yX5_isHidden cX5_isHidden 3 (some .boolean), Cond.fieldLink RX5 93 "SnowCensusModel" "tower" "I", Cond.methodLink RX5 122 yX5_shadeOf, Cond.instanceMethod yX5_shadeOf, Cond.selects RX5 yX5_shadeOf yX5_shadeOf, Cond.code yX5_shadeOf cX5_shadeOf 4 (some .int), Cond.fieldLink RX5 25 "SnowCensusModel" "height" "[I", Cond.fieldLink RX5 19 "SnowCensusModel" "kind" "[I", Cond.methodLink RX5 147 yX5_endRun, Cond.instanceMethod yX5_endRun, Cond.selects RX5 yX5_endRun yX5_endRun, Cond.code yX5_endRun cX5_endRun 2 none, Cond.fieldLink RX5 87 "SnowCensusModel" "span" "I"]
def wsX5_census : List Cond := .code yX5_census cX5_census 2 (some .int) :: ((wsX5_census_r1 ++ wsX5_census_r2) ++ wsX50)
def wsX5_runs_r1 : List Cond := [Cond.fieldLink RX5 60 "SnowCensusModel" "standers" "I", Cond.fieldLink RX5 134 "SnowCensusModel" "runMany" "I", Cond.fieldLink RX5 137 "SnowCensusModel" "longest" "I", Cond.fieldLink RX5 144 "SnowCensusModel" "last" "I", Cond.methodLink RX5 119 yX5_isSun, Cond.static yX5_isSun, Cond.initialized RX5, Cond.code yX5_isSun cX5_isSun 1 (some .boolean), Cond.methodLink RX5 56 yX5_within, Cond.static yX5_within, Cond.code yX5_within cX5_within 3 (some .boolean), Cond.methodLink RX5 150 yX5_count, Cond.instanceMethod yX5_count, Cond.selects RX5 yX5_count yX5_count, Cond.code yX5_count cX5_count 4 none, Cond.fieldLink RX5 131 "SnowCensusModel" "counted" "I", Cond.fieldLink RX5 37 "SnowCensusModel" "dark" "[Z", Cond.methodLink RX5 140 yX5_darken, Cond.instanceMethod yX5_darken, Cond.selects RX5 yX5_darken yX5_darken, Cond.code yX5_darken cX5_darken 5 none, Cond.fieldLink RX5 125 "SnowCensusModel" "indoors" "I", Cond.fieldLink RX5 22 "SnowCensusModel" "footOf" "[I", Cond.methodLink RX5 128 yX5_isHidden]
def wsX5_runs_r2 : List Cond := [Cond.instanceMethod yX5_isHidden, Cond.selects RX5 yX5_isHidden yX5_isHidden, Cond.code yX5_isHidden cX5_isHidden 3 (some .boolean), Cond.fieldLink RX5 93 "SnowCensusModel" "tower" "I", Cond.methodLink RX5 122 yX5_shadeOf, Cond.instanceMethod yX5_shadeOf, Cond.selects RX5 yX5_shadeOf yX5_shadeOf, Cond.code yX5_shadeOf cX5_shadeOf 4 (some .int), Cond.fieldLink RX5 25 "SnowCensusModel" "height" "[I", Cond.fieldLink RX5 19 "SnowCensusModel" "kind" "[I", Cond.methodLink RX5 147 yX5_endRun, Cond.instanceMethod yX5_endRun, Cond.selects RX5 yX5_endRun yX5_endRun, Cond.code yX5_endRun cX5_endRun 2 none, Cond.fieldLink RX5 87 "SnowCensusModel" "span" "I"]
def wsX5_runs : List Cond := .code yX5_runs cX5_runs 3 (some .int) :: ((wsX5_runs_r1 ++ wsX5_runs_r2) ++ wsX50)
def wsX5_apart : List Cond := .code yX5_apart cX5_apart 2 (some .int) :: ([])
def wsX5_fair_r1 : List Cond := [Cond.fieldLink RX5 60 "SnowCensusModel" "standers" "I", Cond.methodLink RX5 156 yX5_censusOf, Cond.instanceMethod yX5_censusOf, Cond.selects RX5 yX5_censusOf yX5_censusOf, Cond.initialized RX5, Cond.code yX5_censusOf cX5_censusOf 2 (some .int), Cond.fieldLink RX5 131 "SnowCensusModel" "counted" "I", Cond.methodLink RX5 150 yX5_count, Cond.instanceMethod yX5_count, Cond.selects RX5 yX5_count yX5_count, Cond.code yX5_count cX5_count 4 none, Cond.fieldLink RX5 134 "SnowCensusModel" "runMany" "I", Cond.fieldLink RX5 137 "SnowCensusModel" "longest" "I", Cond.fieldLink RX5 144 "SnowCensusModel" "last" "I", Cond.fieldLink RX5 37 "SnowCensusModel" "dark" "[Z", Cond.methodLink RX5 140 yX5_darken, Cond.instanceMethod yX5_darken, Cond.selects RX5 yX5_darken yX5_darken, Cond.code yX5_darken cX5_darken 5 none, Cond.fieldLink RX5 125 "SnowCensusModel" "indoors" "I", Cond.fieldLink RX5 22 "SnowCensusModel" "footOf" "[I", Cond.methodLink RX5 128 yX5_isHidden, Cond.instanceMethod yX5_isHidden, Cond.selects RX5 yX5_isHidden yX5_isHidden]
def wsX5_fair_r2 : List Cond := [Cond.code yX5_isHidden cX5_isHidden 3 (some .boolean), Cond.fieldLink RX5 93 "SnowCensusModel" "tower" "I", Cond.methodLink RX5 122 yX5_shadeOf, Cond.instanceMethod yX5_shadeOf, Cond.selects RX5 yX5_shadeOf yX5_shadeOf, Cond.code yX5_shadeOf cX5_shadeOf 4 (some .int), Cond.fieldLink RX5 25 "SnowCensusModel" "height" "[I", Cond.fieldLink RX5 19 "SnowCensusModel" "kind" "[I", Cond.methodLink RX5 147 yX5_endRun, Cond.instanceMethod yX5_endRun, Cond.selects RX5 yX5_endRun yX5_endRun, Cond.code yX5_endRun cX5_endRun 2 none, Cond.fieldLink RX5 87 "SnowCensusModel" "span" "I", Cond.methodLink RX5 159 yX5_apart, Cond.static yX5_apart, Cond.code yX5_apart cX5_apart 2 (some .int)]
def wsX5_fair : List Cond := .code yX5_fair cX5_fair 3 (some .int) :: ((wsX5_fair_r1 ++ wsX5_fair_r2) ++ wsX50)
def wsX5_isTaken : List Cond := .code yX5_isTaken cX5_isTaken 4 (some .boolean) :: ([.fieldLink RX5 60 "SnowCensusModel" "standers" "I", .fieldLink RX5 22 "SnowCensusModel" "footOf" "[I"] ++ wsX50)
def wsX5_goWalks : List Cond := .code yX5_goWalks cX5_goWalks 6 (some .int) :: ([.fieldLink RX5 162 "SnowCensusModel" "steps" "I", .fieldLink RX5 16 "SnowCensusModel" "cells" "[I", .fieldLink RX5 22 "SnowCensusModel" "footOf" "[I", .methodLink RX5 165 yX5_isTaken, .instanceMethod yX5_isTaken, .selects RX5 yX5_isTaken yX5_isTaken, .initialized RX5, .code yX5_isTaken cX5_isTaken 4 (some .boolean), .fieldLink RX5 60 "SnowCensusModel" "standers" "I", .methodLink RX5 159 yX5_apart, .static yX5_apart, .code yX5_apart cX5_apart 2 (some .int)] ++ wsX50)
def wsX5_tellWalks_r1 : List Cond := [Cond.fieldLink RX5 22 "SnowCensusModel" "footOf" "[I", Cond.fieldLink RX5 162 "SnowCensusModel" "steps" "I", Cond.methodLink RX5 113 yX5_isStander, Cond.instanceMethod yX5_isStander, Cond.selects RX5 yX5_isStander yX5_isStander, Cond.initialized RX5, Cond.code yX5_isStander cX5_isStander 2 (some .boolean), Cond.fieldLink RX5 60 "SnowCensusModel" "standers" "I", Cond.methodLink RX5 156 yX5_censusOf, Cond.instanceMethod yX5_censusOf, Cond.selects RX5 yX5_censusOf yX5_censusOf, Cond.code yX5_censusOf cX5_censusOf 2 (some .int), Cond.fieldLink RX5 131 "SnowCensusModel" "counted" "I", Cond.methodLink RX5 150 yX5_count, Cond.instanceMethod yX5_count, Cond.selects RX5 yX5_count yX5_count, Cond.code yX5_count cX5_count 4 none, Cond.fieldLink RX5 134 "SnowCensusModel" "runMany" "I", Cond.fieldLink RX5 137 "SnowCensusModel" "longest" "I", Cond.fieldLink RX5 144 "SnowCensusModel" "last" "I", Cond.fieldLink RX5 37 "SnowCensusModel" "dark" "[Z", Cond.methodLink RX5 140 yX5_darken, Cond.instanceMethod yX5_darken, Cond.selects RX5 yX5_darken yX5_darken]
def wsX5_tellWalks_r2 : List Cond := [Cond.code yX5_darken cX5_darken 5 none, Cond.fieldLink RX5 125 "SnowCensusModel" "indoors" "I", Cond.methodLink RX5 128 yX5_isHidden, Cond.instanceMethod yX5_isHidden, Cond.selects RX5 yX5_isHidden yX5_isHidden, Cond.code yX5_isHidden cX5_isHidden 3 (some .boolean), Cond.fieldLink RX5 93 "SnowCensusModel" "tower" "I", Cond.methodLink RX5 122 yX5_shadeOf, Cond.instanceMethod yX5_shadeOf, Cond.selects RX5 yX5_shadeOf yX5_shadeOf, Cond.code yX5_shadeOf cX5_shadeOf 4 (some .int), Cond.fieldLink RX5 25 "SnowCensusModel" "height" "[I", Cond.fieldLink RX5 19 "SnowCensusModel" "kind" "[I", Cond.methodLink RX5 147 yX5_endRun, Cond.instanceMethod yX5_endRun, Cond.selects RX5 yX5_endRun yX5_endRun, Cond.code yX5_endRun cX5_endRun 2 none, Cond.fieldLink RX5 87 "SnowCensusModel" "span" "I", Cond.methodLink RX5 153 yX5_hiddenOf, Cond.instanceMethod yX5_hiddenOf, Cond.selects RX5 yX5_hiddenOf yX5_hiddenOf, Cond.code yX5_hiddenOf cX5_hiddenOf 4 (some .int)]
def wsX5_tellWalks : List Cond := .code yX5_tellWalks cX5_tellWalks 3 (some .int) :: ((wsX5_tellWalks_r1 ++ wsX5_tellWalks_r2) ++ wsX50)
def wsX5_walks_r1 : List Cond := [Cond.fieldLink RX5 50 "SnowCensusModel" "fault" "I", Cond.fieldLink RX5 60 "SnowCensusModel" "standers" "I", Cond.fieldLink RX5 16 "SnowCensusModel" "cells" "[I", Cond.fieldLink RX5 41 "SnowCensusModel" "kept" "[I", Cond.fieldLink RX5 22 "SnowCensusModel" "footOf" "[I", Cond.methodLink RX5 66 yX5_isSheet, Cond.static yX5_isSheet, Cond.initialized RX5, Cond.code yX5_isSheet cX5_isSheet 1 (some .boolean), Cond.methodLink RX5 56 yX5_within, Cond.static yX5_within, Cond.code yX5_within cX5_within 3 (some .boolean), Cond.methodLink RX5 119 yX5_isSun, Cond.static yX5_isSun, Cond.code yX5_isSun cX5_isSun 1 (some .boolean), Cond.methodLink RX5 70 yX5_isSort, Cond.static yX5_isSort, Cond.code yX5_isSort cX5_isSort 1 (some .boolean), Cond.methodLink RX5 73 yX5_against, Cond.instanceMethod yX5_against, Cond.selects RX5 yX5_against yX5_against, Cond.code yX5_against cX5_against 5 (some .int), Cond.fieldLink RX5 9 "SnowCensusModel" "sorts" "[I", Cond.fieldLink RX5 13 "SnowCensusModel" "sheetLong" "[I"]
def wsX5_walks_r2 : List Cond := [Cond.methodLink RX5 77 yX5_fails, Cond.instanceMethod yX5_fails, Cond.selects RX5 yX5_fails yX5_fails, Cond.code yX5_fails cX5_fails 2 (some .int), Cond.methodLink RX5 113 yX5_isStander, Cond.instanceMethod yX5_isStander, Cond.selects RX5 yX5_isStander yX5_isStander, Cond.code yX5_isStander cX5_isStander 2 (some .boolean), Cond.methodLink RX5 116 yX5_isDigit, Cond.static yX5_isDigit, Cond.code yX5_isDigit cX5_isDigit 1 (some .boolean), Cond.methodLink RX5 168 yX5_goWalks, Cond.instanceMethod yX5_goWalks, Cond.selects RX5 yX5_goWalks yX5_goWalks, Cond.code yX5_goWalks cX5_goWalks 6 (some .int), Cond.fieldLink RX5 162 "SnowCensusModel" "steps" "I", Cond.methodLink RX5 165 yX5_isTaken, Cond.instanceMethod yX5_isTaken, Cond.selects RX5 yX5_isTaken yX5_isTaken, Cond.code yX5_isTaken cX5_isTaken 4 (some .boolean), Cond.methodLink RX5 159 yX5_apart, Cond.static yX5_apart, Cond.code yX5_apart cX5_apart 2 (some .int), Cond.methodLink RX5 171 yX5_tellWalks]
def wsX5_walks_r3 : List Cond := [Cond.instanceMethod yX5_tellWalks, Cond.selects RX5 yX5_tellWalks yX5_tellWalks, Cond.code yX5_tellWalks cX5_tellWalks 3 (some .int), Cond.methodLink RX5 156 yX5_censusOf, Cond.instanceMethod yX5_censusOf, Cond.selects RX5 yX5_censusOf yX5_censusOf, Cond.code yX5_censusOf cX5_censusOf 2 (some .int), Cond.fieldLink RX5 131 "SnowCensusModel" "counted" "I", Cond.methodLink RX5 150 yX5_count, Cond.instanceMethod yX5_count, Cond.selects RX5 yX5_count yX5_count, Cond.code yX5_count cX5_count 4 none, Cond.fieldLink RX5 134 "SnowCensusModel" "runMany" "I", Cond.fieldLink RX5 137 "SnowCensusModel" "longest" "I", Cond.fieldLink RX5 144 "SnowCensusModel" "last" "I", Cond.fieldLink RX5 37 "SnowCensusModel" "dark" "[Z", Cond.methodLink RX5 140 yX5_darken, Cond.instanceMethod yX5_darken, Cond.selects RX5 yX5_darken yX5_darken, Cond.code yX5_darken cX5_darken 5 none, Cond.fieldLink RX5 125 "SnowCensusModel" "indoors" "I", Cond.methodLink RX5 128 yX5_isHidden, Cond.instanceMethod yX5_isHidden, Cond.selects RX5 yX5_isHidden yX5_isHidden]
def wsX5_walks_r4 : List Cond := [Cond.code yX5_isHidden cX5_isHidden 3 (some .boolean), Cond.fieldLink RX5 93 "SnowCensusModel" "tower" "I", Cond.methodLink RX5 122 yX5_shadeOf, Cond.instanceMethod yX5_shadeOf, Cond.selects RX5 yX5_shadeOf yX5_shadeOf, Cond.code yX5_shadeOf cX5_shadeOf 4 (some .int), Cond.fieldLink RX5 25 "SnowCensusModel" "height" "[I", Cond.fieldLink RX5 19 "SnowCensusModel" "kind" "[I", Cond.methodLink RX5 147 yX5_endRun, Cond.instanceMethod yX5_endRun, Cond.selects RX5 yX5_endRun yX5_endRun, Cond.code yX5_endRun cX5_endRun 2 none, Cond.fieldLink RX5 87 "SnowCensusModel" "span" "I", Cond.methodLink RX5 153 yX5_hiddenOf, Cond.instanceMethod yX5_hiddenOf, Cond.selects RX5 yX5_hiddenOf yX5_hiddenOf, Cond.code yX5_hiddenOf cX5_hiddenOf 4 (some .int)]
def wsX5_walks : List Cond := .code yX5_walks cX5_walks 12 (some .int) :: ((wsX5_walks_r1 ++ (wsX5_walks_r2 ++ (wsX5_walks_r3 ++ wsX5_walks_r4))) ++ wsX50)
def wsX5_pair_r1 : List Cond := [Cond.fieldLink RX5 22 "SnowCensusModel" "footOf" "[I", Cond.methodLink RX5 113 yX5_isStander, Cond.instanceMethod yX5_isStander, Cond.selects RX5 yX5_isStander yX5_isStander, Cond.initialized RX5, Cond.code yX5_isStander cX5_isStander 2 (some .boolean), Cond.fieldLink RX5 60 "SnowCensusModel" "standers" "I", Cond.methodLink RX5 119 yX5_isSun, Cond.static yX5_isSun, Cond.code yX5_isSun cX5_isSun 1 (some .boolean), Cond.methodLink RX5 56 yX5_within, Cond.static yX5_within, Cond.code yX5_within cX5_within 3 (some .boolean), Cond.methodLink RX5 128 yX5_isHidden, Cond.instanceMethod yX5_isHidden, Cond.selects RX5 yX5_isHidden yX5_isHidden, Cond.code yX5_isHidden cX5_isHidden 3 (some .boolean), Cond.fieldLink RX5 93 "SnowCensusModel" "tower" "I", Cond.methodLink RX5 156 yX5_censusOf, Cond.instanceMethod yX5_censusOf, Cond.selects RX5 yX5_censusOf yX5_censusOf, Cond.code yX5_censusOf cX5_censusOf 2 (some .int), Cond.fieldLink RX5 131 "SnowCensusModel" "counted" "I", Cond.methodLink RX5 150 yX5_count]
def wsX5_pair_r2 : List Cond := [Cond.instanceMethod yX5_count, Cond.selects RX5 yX5_count yX5_count, Cond.code yX5_count cX5_count 4 none, Cond.fieldLink RX5 134 "SnowCensusModel" "runMany" "I", Cond.fieldLink RX5 137 "SnowCensusModel" "longest" "I", Cond.fieldLink RX5 144 "SnowCensusModel" "last" "I", Cond.fieldLink RX5 37 "SnowCensusModel" "dark" "[Z", Cond.methodLink RX5 140 yX5_darken, Cond.instanceMethod yX5_darken, Cond.selects RX5 yX5_darken yX5_darken, Cond.code yX5_darken cX5_darken 5 none, Cond.fieldLink RX5 125 "SnowCensusModel" "indoors" "I", Cond.methodLink RX5 122 yX5_shadeOf, Cond.instanceMethod yX5_shadeOf, Cond.selects RX5 yX5_shadeOf yX5_shadeOf, Cond.code yX5_shadeOf cX5_shadeOf 4 (some .int), Cond.fieldLink RX5 25 "SnowCensusModel" "height" "[I", Cond.fieldLink RX5 19 "SnowCensusModel" "kind" "[I", Cond.methodLink RX5 147 yX5_endRun, Cond.instanceMethod yX5_endRun, Cond.selects RX5 yX5_endRun yX5_endRun, Cond.code yX5_endRun cX5_endRun 2 none, Cond.fieldLink RX5 87 "SnowCensusModel" "span" "I"]
def wsX5_pair : List Cond := .code yX5_pair cX5_pair 11 (some .int) :: ((wsX5_pair_r1 ++ wsX5_pair_r2) ++ wsX50)
def wsX5_size : List Cond := .code yX5_size cX5_size 3 (some .int) :: ([])
def wsX5_send_r1 : List Cond := [Cond.fieldLink RX5 60 "SnowCensusModel" "standers" "I", Cond.fieldLink RX5 125 "SnowCensusModel" "indoors" "I", Cond.methodLink RX5 119 yX5_isSun, Cond.static yX5_isSun, Cond.initialized RX5, Cond.code yX5_isSun cX5_isSun 1 (some .boolean), Cond.methodLink RX5 56 yX5_within, Cond.static yX5_within, Cond.code yX5_within cX5_within 3 (some .boolean), Cond.methodLink RX5 174 yX5_size, Cond.static yX5_size, Cond.code yX5_size cX5_size 3 (some .int), Cond.methodLink RX5 156 yX5_censusOf, Cond.instanceMethod yX5_censusOf, Cond.selects RX5 yX5_censusOf yX5_censusOf, Cond.code yX5_censusOf cX5_censusOf 2 (some .int), Cond.fieldLink RX5 131 "SnowCensusModel" "counted" "I", Cond.methodLink RX5 150 yX5_count, Cond.instanceMethod yX5_count, Cond.selects RX5 yX5_count yX5_count, Cond.code yX5_count cX5_count 4 none, Cond.fieldLink RX5 134 "SnowCensusModel" "runMany" "I", Cond.fieldLink RX5 137 "SnowCensusModel" "longest" "I", Cond.fieldLink RX5 144 "SnowCensusModel" "last" "I"]
def wsX5_send_r2 : List Cond := [Cond.fieldLink RX5 37 "SnowCensusModel" "dark" "[Z", Cond.methodLink RX5 140 yX5_darken, Cond.instanceMethod yX5_darken, Cond.selects RX5 yX5_darken yX5_darken, Cond.code yX5_darken cX5_darken 5 none, Cond.fieldLink RX5 22 "SnowCensusModel" "footOf" "[I", Cond.methodLink RX5 128 yX5_isHidden, Cond.instanceMethod yX5_isHidden, Cond.selects RX5 yX5_isHidden yX5_isHidden, Cond.code yX5_isHidden cX5_isHidden 3 (some .boolean), Cond.fieldLink RX5 93 "SnowCensusModel" "tower" "I", Cond.methodLink RX5 122 yX5_shadeOf, Cond.instanceMethod yX5_shadeOf, Cond.selects RX5 yX5_shadeOf yX5_shadeOf, Cond.code yX5_shadeOf cX5_shadeOf 4 (some .int), Cond.fieldLink RX5 25 "SnowCensusModel" "height" "[I", Cond.fieldLink RX5 19 "SnowCensusModel" "kind" "[I", Cond.methodLink RX5 147 yX5_endRun, Cond.instanceMethod yX5_endRun, Cond.selects RX5 yX5_endRun yX5_endRun, Cond.code yX5_endRun cX5_endRun 2 none, Cond.fieldLink RX5 87 "SnowCensusModel" "span" "I"]
def wsX5_send : List Cond := .code yX5_send cX5_send 4 (some .int) :: ((wsX5_send_r1 ++ wsX5_send_r2) ++ wsX50)
def wsX5_reading : List Cond := .code yX5_reading cX5_reading 3 (some .int) :: ([.fieldLink RX5 60 "SnowCensusModel" "standers" "I", .fieldLink RX5 99 "SnowCensusModel" "readings" "I", .fieldLink RX5 44 "SnowCensusModel" "readSun" "[I", .fieldLink RX5 47 "SnowCensusModel" "readCensus" "[I", .methodLink RX5 119 yX5_isSun, .static yX5_isSun, .initialized RX5, .code yX5_isSun cX5_isSun 1 (some .boolean), .methodLink RX5 56 yX5_within, .static yX5_within, .code yX5_within cX5_within 3 (some .boolean)] ++ wsX50)
def wsX5_back : List Cond := .code yX5_back cX5_back 2 (some .int) :: ([.fieldLink RX5 99 "SnowCensusModel" "readings" "I", .methodLink RX5 56 yX5_within, .static yX5_within, .initialized RX5, .code yX5_within cX5_within 3 (some .boolean)] ++ wsX50)
def wsX5_areSo_r1 : List Cond := [Cond.fieldLink RX5 99 "SnowCensusModel" "readings" "I", Cond.fieldLink RX5 44 "SnowCensusModel" "readSun" "[I", Cond.fieldLink RX5 47 "SnowCensusModel" "readCensus" "[I", Cond.methodLink RX5 156 yX5_censusOf, Cond.instanceMethod yX5_censusOf, Cond.selects RX5 yX5_censusOf yX5_censusOf, Cond.initialized RX5, Cond.code yX5_censusOf cX5_censusOf 2 (some .int), Cond.fieldLink RX5 131 "SnowCensusModel" "counted" "I", Cond.methodLink RX5 150 yX5_count, Cond.instanceMethod yX5_count, Cond.selects RX5 yX5_count yX5_count, Cond.code yX5_count cX5_count 4 none, Cond.fieldLink RX5 134 "SnowCensusModel" "runMany" "I", Cond.fieldLink RX5 137 "SnowCensusModel" "longest" "I", Cond.fieldLink RX5 144 "SnowCensusModel" "last" "I", Cond.fieldLink RX5 37 "SnowCensusModel" "dark" "[Z", Cond.methodLink RX5 140 yX5_darken, Cond.instanceMethod yX5_darken, Cond.selects RX5 yX5_darken yX5_darken, Cond.code yX5_darken cX5_darken 5 none, Cond.fieldLink RX5 60 "SnowCensusModel" "standers" "I", Cond.fieldLink RX5 125 "SnowCensusModel" "indoors" "I", Cond.fieldLink RX5 22 "SnowCensusModel" "footOf" "[I"]
def wsX5_areSo_r2 : List Cond := [Cond.methodLink RX5 128 yX5_isHidden, Cond.instanceMethod yX5_isHidden, Cond.selects RX5 yX5_isHidden yX5_isHidden, Cond.code yX5_isHidden cX5_isHidden 3 (some .boolean), Cond.fieldLink RX5 93 "SnowCensusModel" "tower" "I", Cond.methodLink RX5 122 yX5_shadeOf, Cond.instanceMethod yX5_shadeOf, Cond.selects RX5 yX5_shadeOf yX5_shadeOf, Cond.code yX5_shadeOf cX5_shadeOf 4 (some .int), Cond.fieldLink RX5 25 "SnowCensusModel" "height" "[I", Cond.fieldLink RX5 19 "SnowCensusModel" "kind" "[I", Cond.methodLink RX5 147 yX5_endRun, Cond.instanceMethod yX5_endRun, Cond.selects RX5 yX5_endRun yX5_endRun, Cond.code yX5_endRun cX5_endRun 2 none, Cond.fieldLink RX5 87 "SnowCensusModel" "span" "I"]
def wsX5_areSo : List Cond := .code yX5_areSo cX5_areSo 2 (some .boolean) :: ((wsX5_areSo_r1 ++ wsX5_areSo_r2) ++ wsX50)
def wsX5_heights_r1 : List Cond := [Cond.fieldLink RX5 25 "SnowCensusModel" "height" "[I", Cond.methodLink RX5 113 yX5_isStander, Cond.instanceMethod yX5_isStander, Cond.selects RX5 yX5_isStander yX5_isStander, Cond.initialized RX5, Cond.code yX5_isStander cX5_isStander 2 (some .boolean), Cond.fieldLink RX5 60 "SnowCensusModel" "standers" "I", Cond.methodLink RX5 177 yX5_areSo, Cond.instanceMethod yX5_areSo, Cond.selects RX5 yX5_areSo yX5_areSo, Cond.code yX5_areSo cX5_areSo 2 (some .boolean), Cond.fieldLink RX5 99 "SnowCensusModel" "readings" "I", Cond.fieldLink RX5 44 "SnowCensusModel" "readSun" "[I", Cond.fieldLink RX5 47 "SnowCensusModel" "readCensus" "[I", Cond.methodLink RX5 156 yX5_censusOf, Cond.instanceMethod yX5_censusOf, Cond.selects RX5 yX5_censusOf yX5_censusOf, Cond.code yX5_censusOf cX5_censusOf 2 (some .int), Cond.fieldLink RX5 131 "SnowCensusModel" "counted" "I", Cond.methodLink RX5 150 yX5_count, Cond.instanceMethod yX5_count, Cond.selects RX5 yX5_count yX5_count, Cond.code yX5_count cX5_count 4 none, Cond.fieldLink RX5 134 "SnowCensusModel" "runMany" "I"]
def wsX5_heights_r2 : List Cond := [Cond.fieldLink RX5 137 "SnowCensusModel" "longest" "I", Cond.fieldLink RX5 144 "SnowCensusModel" "last" "I", Cond.fieldLink RX5 37 "SnowCensusModel" "dark" "[Z", Cond.methodLink RX5 140 yX5_darken, Cond.instanceMethod yX5_darken, Cond.selects RX5 yX5_darken yX5_darken, Cond.code yX5_darken cX5_darken 5 none, Cond.fieldLink RX5 125 "SnowCensusModel" "indoors" "I", Cond.fieldLink RX5 22 "SnowCensusModel" "footOf" "[I", Cond.methodLink RX5 128 yX5_isHidden, Cond.instanceMethod yX5_isHidden, Cond.selects RX5 yX5_isHidden yX5_isHidden, Cond.code yX5_isHidden cX5_isHidden 3 (some .boolean), Cond.fieldLink RX5 93 "SnowCensusModel" "tower" "I", Cond.methodLink RX5 122 yX5_shadeOf, Cond.instanceMethod yX5_shadeOf, Cond.selects RX5 yX5_shadeOf yX5_shadeOf, Cond.code yX5_shadeOf cX5_shadeOf 4 (some .int), Cond.fieldLink RX5 19 "SnowCensusModel" "kind" "[I", Cond.methodLink RX5 147 yX5_endRun, Cond.instanceMethod yX5_endRun, Cond.selects RX5 yX5_endRun yX5_endRun, Cond.code yX5_endRun cX5_endRun 2 none, Cond.fieldLink RX5 87 "SnowCensusModel" "span" "I"]
def wsX5_heights : List Cond := .code yX5_heights cX5_heights 5 (some .int) :: ((wsX5_heights_r1 ++ wsX5_heights_r2) ++ wsX50)
def wsX5_kinds_r1 : List Cond := [Cond.fieldLink RX5 19 "SnowCensusModel" "kind" "[I", Cond.methodLink RX5 113 yX5_isStander, Cond.instanceMethod yX5_isStander, Cond.selects RX5 yX5_isStander yX5_isStander, Cond.initialized RX5, Cond.code yX5_isStander cX5_isStander 2 (some .boolean), Cond.fieldLink RX5 60 "SnowCensusModel" "standers" "I", Cond.methodLink RX5 177 yX5_areSo, Cond.instanceMethod yX5_areSo, Cond.selects RX5 yX5_areSo yX5_areSo, Cond.code yX5_areSo cX5_areSo 2 (some .boolean), Cond.fieldLink RX5 99 "SnowCensusModel" "readings" "I", Cond.fieldLink RX5 44 "SnowCensusModel" "readSun" "[I", Cond.fieldLink RX5 47 "SnowCensusModel" "readCensus" "[I", Cond.methodLink RX5 156 yX5_censusOf, Cond.instanceMethod yX5_censusOf, Cond.selects RX5 yX5_censusOf yX5_censusOf, Cond.code yX5_censusOf cX5_censusOf 2 (some .int), Cond.fieldLink RX5 131 "SnowCensusModel" "counted" "I", Cond.methodLink RX5 150 yX5_count, Cond.instanceMethod yX5_count, Cond.selects RX5 yX5_count yX5_count, Cond.code yX5_count cX5_count 4 none, Cond.fieldLink RX5 134 "SnowCensusModel" "runMany" "I"]
def wsX5_kinds_r2 : List Cond := [Cond.fieldLink RX5 137 "SnowCensusModel" "longest" "I", Cond.fieldLink RX5 144 "SnowCensusModel" "last" "I", Cond.fieldLink RX5 37 "SnowCensusModel" "dark" "[Z", Cond.methodLink RX5 140 yX5_darken, Cond.instanceMethod yX5_darken, Cond.selects RX5 yX5_darken yX5_darken, Cond.code yX5_darken cX5_darken 5 none, Cond.fieldLink RX5 125 "SnowCensusModel" "indoors" "I", Cond.fieldLink RX5 22 "SnowCensusModel" "footOf" "[I", Cond.methodLink RX5 128 yX5_isHidden, Cond.instanceMethod yX5_isHidden, Cond.selects RX5 yX5_isHidden yX5_isHidden, Cond.code yX5_isHidden cX5_isHidden 3 (some .boolean), Cond.fieldLink RX5 93 "SnowCensusModel" "tower" "I", Cond.methodLink RX5 122 yX5_shadeOf, Cond.instanceMethod yX5_shadeOf, Cond.selects RX5 yX5_shadeOf yX5_shadeOf, Cond.code yX5_shadeOf cX5_shadeOf 4 (some .int), Cond.fieldLink RX5 25 "SnowCensusModel" "height" "[I", Cond.methodLink RX5 147 yX5_endRun, Cond.instanceMethod yX5_endRun, Cond.selects RX5 yX5_endRun yX5_endRun, Cond.code yX5_endRun cX5_endRun 2 none, Cond.fieldLink RX5 87 "SnowCensusModel" "span" "I"]
def wsX5_kinds : List Cond := .code yX5_kinds cX5_kinds 5 (some .int) :: ((wsX5_kinds_r1 ++ wsX5_kinds_r2) ++ wsX50)
def wsX5_spans_r1 : List Cond := [Cond.fieldLink RX5 60 "SnowCensusModel" "standers" "I", Cond.fieldLink RX5 87 "SnowCensusModel" "span" "I", Cond.methodLink RX5 177 yX5_areSo, Cond.instanceMethod yX5_areSo, Cond.selects RX5 yX5_areSo yX5_areSo, Cond.initialized RX5, Cond.code yX5_areSo cX5_areSo 2 (some .boolean), Cond.fieldLink RX5 99 "SnowCensusModel" "readings" "I", Cond.fieldLink RX5 44 "SnowCensusModel" "readSun" "[I", Cond.fieldLink RX5 47 "SnowCensusModel" "readCensus" "[I", Cond.methodLink RX5 156 yX5_censusOf, Cond.instanceMethod yX5_censusOf, Cond.selects RX5 yX5_censusOf yX5_censusOf, Cond.code yX5_censusOf cX5_censusOf 2 (some .int), Cond.fieldLink RX5 131 "SnowCensusModel" "counted" "I", Cond.methodLink RX5 150 yX5_count, Cond.instanceMethod yX5_count, Cond.selects RX5 yX5_count yX5_count, Cond.code yX5_count cX5_count 4 none, Cond.fieldLink RX5 134 "SnowCensusModel" "runMany" "I", Cond.fieldLink RX5 137 "SnowCensusModel" "longest" "I", Cond.fieldLink RX5 144 "SnowCensusModel" "last" "I", Cond.fieldLink RX5 37 "SnowCensusModel" "dark" "[Z", Cond.methodLink RX5 140 yX5_darken]
def wsX5_spans_r2 : List Cond := [Cond.instanceMethod yX5_darken, Cond.selects RX5 yX5_darken yX5_darken, Cond.code yX5_darken cX5_darken 5 none, Cond.fieldLink RX5 125 "SnowCensusModel" "indoors" "I", Cond.fieldLink RX5 22 "SnowCensusModel" "footOf" "[I", Cond.methodLink RX5 128 yX5_isHidden, Cond.instanceMethod yX5_isHidden, Cond.selects RX5 yX5_isHidden yX5_isHidden, Cond.code yX5_isHidden cX5_isHidden 3 (some .boolean), Cond.fieldLink RX5 93 "SnowCensusModel" "tower" "I", Cond.methodLink RX5 122 yX5_shadeOf, Cond.instanceMethod yX5_shadeOf, Cond.selects RX5 yX5_shadeOf yX5_shadeOf, Cond.code yX5_shadeOf cX5_shadeOf 4 (some .int), Cond.fieldLink RX5 25 "SnowCensusModel" "height" "[I", Cond.fieldLink RX5 19 "SnowCensusModel" "kind" "[I", Cond.methodLink RX5 147 yX5_endRun, Cond.instanceMethod yX5_endRun, Cond.selects RX5 yX5_endRun yX5_endRun, Cond.code yX5_endRun cX5_endRun 2 none]
def wsX5_spans : List Cond := .code yX5_spans cX5_spans 4 (some .int) :: ((wsX5_spans_r1 ++ wsX5_spans_r2) ++ wsX50)
def wsX5_inLeastTerms : List Cond := .code yX5_inLeastTerms cX5_inLeastTerms 11 (some .long) :: ([])
def wsX5_odds_r1 : List Cond := [Cond.fieldLink RX5 60 "SnowCensusModel" "standers" "I", Cond.constantLong RX5 54 (-9223372036854775808), Cond.fieldLink RX5 125 "SnowCensusModel" "indoors" "I", Cond.methodLink RX5 119 yX5_isSun, Cond.static yX5_isSun, Cond.initialized RX5, Cond.code yX5_isSun cX5_isSun 1 (some .boolean), Cond.methodLink RX5 56 yX5_within, Cond.static yX5_within, Cond.code yX5_within cX5_within 3 (some .boolean), Cond.methodLink RX5 156 yX5_censusOf, Cond.instanceMethod yX5_censusOf, Cond.selects RX5 yX5_censusOf yX5_censusOf, Cond.code yX5_censusOf cX5_censusOf 2 (some .int), Cond.fieldLink RX5 131 "SnowCensusModel" "counted" "I", Cond.methodLink RX5 150 yX5_count, Cond.instanceMethod yX5_count, Cond.selects RX5 yX5_count yX5_count, Cond.code yX5_count cX5_count 4 none, Cond.fieldLink RX5 134 "SnowCensusModel" "runMany" "I", Cond.fieldLink RX5 137 "SnowCensusModel" "longest" "I", Cond.fieldLink RX5 144 "SnowCensusModel" "last" "I", Cond.fieldLink RX5 37 "SnowCensusModel" "dark" "[Z", Cond.methodLink RX5 140 yX5_darken]
def wsX5_odds_r2 : List Cond := [Cond.instanceMethod yX5_darken, Cond.selects RX5 yX5_darken yX5_darken, Cond.code yX5_darken cX5_darken 5 none, Cond.fieldLink RX5 22 "SnowCensusModel" "footOf" "[I", Cond.methodLink RX5 128 yX5_isHidden, Cond.instanceMethod yX5_isHidden, Cond.selects RX5 yX5_isHidden yX5_isHidden, Cond.code yX5_isHidden cX5_isHidden 3 (some .boolean), Cond.fieldLink RX5 93 "SnowCensusModel" "tower" "I", Cond.methodLink RX5 122 yX5_shadeOf, Cond.instanceMethod yX5_shadeOf, Cond.selects RX5 yX5_shadeOf yX5_shadeOf, Cond.code yX5_shadeOf cX5_shadeOf 4 (some .int), Cond.fieldLink RX5 25 "SnowCensusModel" "height" "[I", Cond.fieldLink RX5 19 "SnowCensusModel" "kind" "[I", Cond.methodLink RX5 147 yX5_endRun, Cond.instanceMethod yX5_endRun, Cond.selects RX5 yX5_endRun yX5_endRun, Cond.code yX5_endRun cX5_endRun 2 none, Cond.fieldLink RX5 87 "SnowCensusModel" "span" "I", Cond.methodLink RX5 181 yX5_inLeastTerms, Cond.static yX5_inLeastTerms, Cond.code yX5_inLeastTerms cX5_inLeastTerms 11 (some .long)]
def wsX5_odds : List Cond := .code yX5_odds cX5_odds 6 (some .long) :: ((wsX5_odds_r1 ++ wsX5_odds_r2) ++ wsX50)
def wsX5_sheet : List Cond := .code yX5_sheet cX5_sheet 5 (some .int) :: ([.fieldLink RX5 50 "SnowCensusModel" "fault" "I", .fieldLink RX5 9 "SnowCensusModel" "sorts" "[I", .fieldLink RX5 13 "SnowCensusModel" "sheetLong" "[I", .fieldLink RX5 16 "SnowCensusModel" "cells" "[I", .methodLink RX5 66 yX5_isSheet, .static yX5_isSheet, .initialized RX5, .code yX5_isSheet cX5_isSheet 1 (some .boolean), .methodLink RX5 56 yX5_within, .static yX5_within, .code yX5_within cX5_within 3 (some .boolean), .methodLink RX5 70 yX5_isSort, .static yX5_isSort, .code yX5_isSort cX5_isSort 1 (some .boolean), .methodLink RX5 77 yX5_fails, .instanceMethod yX5_fails, .selects RX5 yX5_fails yX5_fails, .code yX5_fails cX5_fails 2 (some .int)] ++ wsX50)
def wsX5_lose : List Cond := .code yX5_lose cX5_lose 3 (some .int) :: ([.fieldLink RX5 9 "SnowCensusModel" "sorts" "[I", .methodLink RX5 66 yX5_isSheet, .static yX5_isSheet, .initialized RX5, .code yX5_isSheet cX5_isSheet 1 (some .boolean), .methodLink RX5 56 yX5_within, .static yX5_within, .code yX5_within cX5_within 3 (some .boolean)] ++ wsX50)
def wsX5_put : List Cond := .code yX5_put cX5_put 4 (some .int) :: ([.fieldLink RX5 50 "SnowCensusModel" "fault" "I", .fieldLink RX5 9 "SnowCensusModel" "sorts" "[I", .fieldLink RX5 13 "SnowCensusModel" "sheetLong" "[I", .fieldLink RX5 16 "SnowCensusModel" "cells" "[I", .methodLink RX5 66 yX5_isSheet, .static yX5_isSheet, .initialized RX5, .code yX5_isSheet cX5_isSheet 1 (some .boolean), .methodLink RX5 56 yX5_within, .static yX5_within, .code yX5_within cX5_within 3 (some .boolean), .methodLink RX5 77 yX5_fails, .instanceMethod yX5_fails, .selects RX5 yX5_fails yX5_fails, .code yX5_fails cX5_fails 2 (some .int)] ++ wsX50)
def wsX5_cell : List Cond := .code yX5_cell cX5_cell 4 (some .long) :: ([.fieldLink RX5 50 "SnowCensusModel" "fault" "I", .constantLong RX5 54 (-9223372036854775808), .fieldLink RX5 9 "SnowCensusModel" "sorts" "[I", .fieldLink RX5 13 "SnowCensusModel" "sheetLong" "[I", .fieldLink RX5 16 "SnowCensusModel" "cells" "[I", .methodLink RX5 66 yX5_isSheet, .static yX5_isSheet, .initialized RX5, .code yX5_isSheet cX5_isSheet 1 (some .boolean), .methodLink RX5 56 yX5_within, .static yX5_within, .code yX5_within cX5_within 3 (some .boolean), .methodLink RX5 70 yX5_isSort, .static yX5_isSort, .code yX5_isSort cX5_isSort 1 (some .boolean), .methodLink RX5 185 yX5_lost, .instanceMethod yX5_lost, .selects RX5 yX5_lost yX5_lost, .code yX5_lost cX5_lost 2 (some .long)] ++ wsX50)
def wsX5_copy : List Cond := .code yX5_copy cX5_copy 10 (some .int) :: ([.fieldLink RX5 50 "SnowCensusModel" "fault" "I", .fieldLink RX5 9 "SnowCensusModel" "sorts" "[I", .fieldLink RX5 13 "SnowCensusModel" "sheetLong" "[I", .fieldLink RX5 16 "SnowCensusModel" "cells" "[I", .methodLink RX5 66 yX5_isSheet, .static yX5_isSheet, .initialized RX5, .code yX5_isSheet cX5_isSheet 1 (some .boolean), .methodLink RX5 56 yX5_within, .static yX5_within, .code yX5_within cX5_within 3 (some .boolean), .methodLink RX5 77 yX5_fails, .instanceMethod yX5_fails, .selects RX5 yX5_fails yX5_fails, .code yX5_fails cX5_fails 2 (some .int)] ++ wsX50)
def wsX5_begins : List Cond := .code yX5_begins cX5_begins 2 none :: ([.fieldLink RX5 189 "SnowCensusModel" "trace" "I"] ++ wsX50)
def wsX5_tell : List Cond := .code yX5_tell cX5_tell 3 (some .int) :: ([.fieldLink RX5 25 "SnowCensusModel" "height" "[I", .fieldLink RX5 19 "SnowCensusModel" "kind" "[I", .methodLink RX5 113 yX5_isStander, .instanceMethod yX5_isStander, .selects RX5 yX5_isStander yX5_isStander, .initialized RX5, .code yX5_isStander cX5_isStander 2 (some .boolean), .fieldLink RX5 60 "SnowCensusModel" "standers" "I", .methodLink RX5 192 yX5_begins, .instanceMethod yX5_begins, .selects RX5 yX5_begins yX5_begins, .code yX5_begins cX5_begins 2 none, .fieldLink RX5 189 "SnowCensusModel" "trace" "I"] ++ wsX50)
def wsX5_tax : List Cond := .code yX5_tax cX5_tax 2 (some .int) :: ([.fieldLink RX5 19 "SnowCensusModel" "kind" "[I", .methodLink RX5 113 yX5_isStander, .instanceMethod yX5_isStander, .selects RX5 yX5_isStander yX5_isStander, .initialized RX5, .code yX5_isStander cX5_isStander 2 (some .boolean), .fieldLink RX5 60 "SnowCensusModel" "standers" "I", .methodLink RX5 192 yX5_begins, .instanceMethod yX5_begins, .selects RX5 yX5_begins yX5_begins, .code yX5_begins cX5_begins 2 none, .fieldLink RX5 189 "SnowCensusModel" "trace" "I"] ++ wsX50)
def wsX5_as : List Cond := .code yX5_as cX5_as 3 (some .int) :: ([.fieldLink RX5 50 "SnowCensusModel" "fault" "I", .fieldLink RX5 19 "SnowCensusModel" "kind" "[I", .methodLink RX5 113 yX5_isStander, .instanceMethod yX5_isStander, .selects RX5 yX5_isStander yX5_isStander, .initialized RX5, .code yX5_isStander cX5_isStander 2 (some .boolean), .fieldLink RX5 60 "SnowCensusModel" "standers" "I", .methodLink RX5 56 yX5_within, .static yX5_within, .code yX5_within cX5_within 3 (some .boolean), .methodLink RX5 77 yX5_fails, .instanceMethod yX5_fails, .selects RX5 yX5_fails yX5_fails, .code yX5_fails cX5_fails 2 (some .int)] ++ wsX50)
def wsX5_trace : List Cond := .code yX5_trace cX5_trace 1 (some .int) :: ([.fieldLink RX5 189 "SnowCensusModel" "trace" "I"] ++ wsX50)
def wsX5_fault : List Cond := .code yX5_fault cX5_fault 1 (some .int) :: ([.fieldLink RX5 50 "SnowCensusModel" "fault" "I"] ++ wsX50)
def wsX5_many : List Cond := .code yX5_many cX5_many 2 (some .int) :: ([.fieldLink RX5 60 "SnowCensusModel" "standers" "I", .fieldLink RX5 87 "SnowCensusModel" "span" "I", .fieldLink RX5 93 "SnowCensusModel" "tower" "I", .fieldLink RX5 99 "SnowCensusModel" "readings" "I"] ++ wsX50)
def wsJ9_abs_0f7a4 : List Cond := .code yJ9_abs_0f7a4 cJ9_abs_0f7a4 1 (some .int) :: ([])
def wsJ9_max_7cf53 : List Cond := .code yJ9_max_7cf53 cJ9_max_7cf53 2 (some .int) :: ([])
abbrev vwCl : List vw_C := [(RX0, TX0, 3), (RX1, TX1, 4), (RX2, TX2, 4), (RX3, TX3, 6), (RX4, TX4, 7), (RX5, TX5, 29)]
end
section
theorem dX0_init_0 : decode cX0_init 0 = .ok (.aload_n 0, 1) := by decide +kernel
theorem dX0_init_1 : decode cX0_init 1 = .ok (.invokespecial 3, 3) := by decide +kernel
theorem dX0_init_4 : decode cX0_init 4 = .ok (.aload_n 0, 1) := by decide +kernel
theorem dX0_init_5 : decode cX0_init 5 = .ok (.bipush 8, 2) := by decide +kernel
theorem dX0_init_7 : decode cX0_init 7 = .ok (.newarray .int, 2) := by decide +kernel
theorem dX0_init_9 : decode cX0_init 9 = .ok (.putfield 9, 3) := by decide +kernel
theorem dX0_init_12 : decode cX0_init 12 = .ok (.aload_n 0, 1) := by decide +kernel
theorem dX0_init_13 : decode cX0_init 13 = .ok (.bipush 8, 2) := by decide +kernel
theorem dX0_init_15 : decode cX0_init 15 = .ok (.newarray .int, 2) := by decide +kernel
theorem dX0_init_17 : decode cX0_init 17 = .ok (.putfield 15, 3) := by decide +kernel
theorem dX0_init_20 : decode cX0_init 20 = .ok (.return_, 1) := by decide +kernel
theorem dX0_note_0 : decode cX0_note 0 = .ok (.aload_n 0, 1) := by decide +kernel
theorem dX0_note_1 : decode cX0_note 1 = .ok (.getfield 18, 3) := by decide +kernel
theorem dX0_note_4 : decode cX0_note 4 = .ok (.ifCond .lt 12, 3) := by decide +kernel
theorem dX0_note_7 : decode cX0_note 7 = .ok (.aload_n 0, 1) := by decide +kernel
theorem dX0_note_8 : decode cX0_note 8 = .ok (.getfield 18, 3) := by decide +kernel
theorem dX0_note_11 : decode cX0_note 11 = .ok (.bipush 8, 2) := by decide +kernel
theorem dX0_note_13 : decode cX0_note 13 = .ok (.if_icmp .lt 5, 3) := by decide +kernel
theorem dX0_note_16 : decode cX0_note 16 = .ok (.iconst 0, 1) := by decide +kernel
theorem dX0_note_17 : decode cX0_note 17 = .ok (.ireturn, 1) := by decide +kernel
theorem dX0_note_18 : decode cX0_note 18 = .ok (.aload_n 0, 1) := by decide +kernel
theorem dX0_note_19 : decode cX0_note 19 = .ok (.getfield 9, 3) := by decide +kernel
theorem dX0_note_22 : decode cX0_note 22 = .ok (.aload_n 0, 1) := by decide +kernel
theorem dX0_note_23 : decode cX0_note 23 = .ok (.getfield 18, 3) := by decide +kernel
theorem dX0_note_26 : decode cX0_note 26 = .ok (.iload_n 1, 1) := by decide +kernel
theorem dX0_note_27 : decode cX0_note 27 = .ok (.iastore, 1) := by decide +kernel
theorem dX0_note_28 : decode cX0_note 28 = .ok (.aload_n 0, 1) := by decide +kernel
theorem dX0_note_29 : decode cX0_note 29 = .ok (.getfield 15, 3) := by decide +kernel
theorem dX0_note_32 : decode cX0_note 32 = .ok (.aload_n 0, 1) := by decide +kernel
theorem dX0_note_33 : decode cX0_note 33 = .ok (.getfield 18, 3) := by decide +kernel
theorem dX0_note_36 : decode cX0_note 36 = .ok (.iload_n 2, 1) := by decide +kernel
theorem dX0_note_37 : decode cX0_note 37 = .ok (.iastore, 1) := by decide +kernel
theorem dX0_note_38 : decode cX0_note 38 = .ok (.aload_n 0, 1) := by decide +kernel
theorem dX0_note_39 : decode cX0_note 39 = .ok (.dup, 1) := by decide +kernel
theorem dX0_note_40 : decode cX0_note 40 = .ok (.getfield 18, 3) := by decide +kernel
theorem dX0_note_43 : decode cX0_note 43 = .ok (.iconst 1, 1) := by decide +kernel
theorem dX0_note_44 : decode cX0_note 44 = .ok (.iadd, 1) := by decide +kernel
theorem dX0_note_45 : decode cX0_note 45 = .ok (.putfield 18, 3) := by decide +kernel
theorem dX0_note_48 : decode cX0_note 48 = .ok (.iconst 1, 1) := by decide +kernel
theorem dX0_note_49 : decode cX0_note 49 = .ok (.ireturn, 1) := by decide +kernel
theorem dX1_init_0 : decode cX1_init 0 = .ok (.aload_n 0, 1) := by decide +kernel
theorem dX1_init_1 : decode cX1_init 1 = .ok (.invokespecial 3, 3) := by decide +kernel
theorem dX1_init_4 : decode cX1_init 4 = .ok (.return_, 1) := by decide +kernel
set_option maxRecDepth 20000 in
theorem ggX1_measure_X1_closeRun : GoodIn wsX1_measure wsX1_closeRun := goodIn_r _ [9, 1, 2, 10, 11, 12, 13, 3, 14, 15, 16, 17] (by decide +kernel) (by decide +kernel)
set_option maxRecDepth 20000 in
theorem gX1_measure_X1_closeRun : GoodIn wsX1_measure (wsV RX1 21 RX1 yX1_closeRun wsX1_closeRun) := goodIn_app (goodIn_of _ (by decide +kernel)) ggX1_measure_X1_closeRun
theorem dX1_measure_0 : decode cX1_measure 0 = .ok (.aload_n 0, 1) := by decide +kernel
theorem dX1_measure_1 : decode cX1_measure 1 = .ok (.iconst 0, 1) := by decide +kernel
theorem dX1_measure_2 : decode cX1_measure 2 = .ok (.putfield 9, 3) := by decide +kernel
theorem dX1_measure_5 : decode cX1_measure 5 = .ok (.aload_n 0, 1) := by decide +kernel
theorem dX1_measure_6 : decode cX1_measure 6 = .ok (.iconst 0, 1) := by decide +kernel
theorem dX1_measure_7 : decode cX1_measure 7 = .ok (.putfield 15, 3) := by decide +kernel
theorem dX1_measure_10 : decode cX1_measure 10 = .ok (.aload_n 0, 1) := by decide +kernel
theorem dX1_measure_11 : decode cX1_measure 11 = .ok (.iconst 0, 1) := by decide +kernel
theorem dX1_measure_12 : decode cX1_measure 12 = .ok (.putfield 18, 3) := by decide +kernel
theorem dX1_measure_15 : decode cX1_measure 15 = .ok (.iconst 0, 1) := by decide +kernel
theorem dX1_measure_16 : decode cX1_measure 16 = .ok (.istore 4, 2) := by decide +kernel
theorem dX1_measure_18 : decode cX1_measure 18 = .ok (.iconst 0, 1) := by decide +kernel
theorem dX1_measure_19 : decode cX1_measure 19 = .ok (.istore 5, 2) := by decide +kernel
theorem dX1_measure_21 : decode cX1_measure 21 = .ok (.iload 5, 2) := by decide +kernel
theorem dX1_measure_23 : decode cX1_measure 23 = .ok (.bipush 37, 2) := by decide +kernel
theorem dX1_measure_25 : decode cX1_measure 25 = .ok (.if_icmp .ge 45, 3) := by decide +kernel
theorem dX1_measure_28 : decode cX1_measure 28 = .ok (.lload_n 1, 1) := by decide +kernel
theorem dX1_measure_29 : decode cX1_measure 29 = .ok (.iload 5, 2) := by decide +kernel
theorem dX1_measure_31 : decode cX1_measure 31 = .ok (.lshr, 1) := by decide +kernel
theorem dX1_measure_32 : decode cX1_measure 32 = .ok (.lconst 0, 1) := by decide +kernel
theorem dX1_measure_33 : decode cX1_measure 33 = .ok (.lcmp, 1) := by decide +kernel
theorem dX1_measure_34 : decode cX1_measure 34 = .ok (.ifCond .eq 36, 3) := by decide +kernel
theorem dX1_measure_37 : decode cX1_measure 37 = .ok (.lload_n 1, 1) := by decide +kernel
theorem dX1_measure_38 : decode cX1_measure 38 = .ok (.iload 5, 2) := by decide +kernel
theorem dX1_measure_40 : decode cX1_measure 40 = .ok (.lshr, 1) := by decide +kernel
theorem dX1_measure_41 : decode cX1_measure 41 = .ok (.lconst 1, 1) := by decide +kernel
theorem dX1_measure_42 : decode cX1_measure 42 = .ok (.land, 1) := by decide +kernel
theorem dX1_measure_43 : decode cX1_measure 43 = .ok (.lconst 0, 1) := by decide +kernel
theorem dX1_measure_44 : decode cX1_measure 44 = .ok (.lcmp, 1) := by decide +kernel
theorem dX1_measure_45 : decode cX1_measure 45 = .ok (.ifCond .eq 9, 3) := by decide +kernel
theorem dX1_measure_48 : decode cX1_measure 48 = .ok (.iinc 4 1, 3) := by decide +kernel
theorem dX1_measure_51 : decode cX1_measure 51 = .ok (.goto 13, 3) := by decide +kernel
theorem dX1_measure_54 : decode cX1_measure 54 = .ok (.aload_n 0, 1) := by decide +kernel
theorem dX1_measure_55 : decode cX1_measure 55 = .ok (.iload 4, 2) := by decide +kernel
theorem dX1_measure_57 : decode cX1_measure 57 = .ok (.iload_n 3, 1) := by decide +kernel
theorem dX1_measure_58 : decode cX1_measure 58 = .ok (.invokevirtual 21, 3) := by decide +kernel
theorem dX1_measure_61 : decode cX1_measure 61 = .ok (.iconst 0, 1) := by decide +kernel
theorem dX1_measure_62 : decode cX1_measure 62 = .ok (.istore 4, 2) := by decide +kernel
theorem dX1_measure_64 : decode cX1_measure 64 = .ok (.iinc 5 1, 3) := by decide +kernel
theorem dX1_measure_67 : decode cX1_measure 67 = .ok (.goto (-46), 3) := by decide +kernel
theorem dX1_measure_70 : decode cX1_measure 70 = .ok (.aload_n 0, 1) := by decide +kernel
theorem dX1_measure_71 : decode cX1_measure 71 = .ok (.iload 4, 2) := by decide +kernel
theorem dX1_measure_73 : decode cX1_measure 73 = .ok (.iload_n 3, 1) := by decide +kernel
theorem dX1_measure_74 : decode cX1_measure 74 = .ok (.invokevirtual 21, 3) := by decide +kernel
theorem dX1_measure_77 : decode cX1_measure 77 = .ok (.aload_n 0, 1) := by decide +kernel
theorem dX1_measure_78 : decode cX1_measure 78 = .ok (.iload 5, 2) := by decide +kernel
theorem dX1_measure_80 : decode cX1_measure 80 = .ok (.putfield 25, 3) := by decide +kernel
theorem dX1_measure_83 : decode cX1_measure 83 = .ok (.return_, 1) := by decide +kernel
theorem dX1_closeRun_0 : decode cX1_closeRun 0 = .ok (.iload_n 1, 1) := by decide +kernel
theorem dX1_closeRun_1 : decode cX1_closeRun 1 = .ok (.iconst 1, 1) := by decide +kernel
theorem dX1_closeRun_2 : decode cX1_closeRun 2 = .ok (.if_icmp .lt 8, 3) := by decide +kernel
theorem dX1_closeRun_5 : decode cX1_closeRun 5 = .ok (.iload_n 2, 1) := by decide +kernel
theorem dX1_closeRun_6 : decode cX1_closeRun 6 = .ok (.iconst 1, 1) := by decide +kernel
theorem dX1_closeRun_7 : decode cX1_closeRun 7 = .ok (.if_icmp .ge 4, 3) := by decide +kernel
theorem dX1_closeRun_10 : decode cX1_closeRun 10 = .ok (.return_, 1) := by decide +kernel
theorem dX1_closeRun_11 : decode cX1_closeRun 11 = .ok (.aload_n 0, 1) := by decide +kernel
theorem dX1_closeRun_12 : decode cX1_closeRun 12 = .ok (.dup, 1) := by decide +kernel
theorem dX1_closeRun_13 : decode cX1_closeRun 13 = .ok (.getfield 9, 3) := by decide +kernel
theorem dX1_closeRun_16 : decode cX1_closeRun 16 = .ok (.iconst 1, 1) := by decide +kernel
theorem dX1_closeRun_17 : decode cX1_closeRun 17 = .ok (.iadd, 1) := by decide +kernel
theorem dX1_closeRun_18 : decode cX1_closeRun 18 = .ok (.putfield 9, 3) := by decide +kernel
theorem dX1_closeRun_21 : decode cX1_closeRun 21 = .ok (.aload_n 0, 1) := by decide +kernel
theorem dX1_closeRun_22 : decode cX1_closeRun 22 = .ok (.aload_n 0, 1) := by decide +kernel
theorem dX1_closeRun_23 : decode cX1_closeRun 23 = .ok (.getfield 15, 3) := by decide +kernel
theorem dX1_closeRun_26 : decode cX1_closeRun 26 = .ok (.iload_n 1, 1) := by decide +kernel
theorem dX1_closeRun_27 : decode cX1_closeRun 27 = .ok (.invokestatic 28, 3) := by decide +kernel
theorem dX1_closeRun_30 : decode cX1_closeRun 30 = .ok (.putfield 15, 3) := by decide +kernel
theorem dX1_closeRun_33 : decode cX1_closeRun 33 = .ok (.aload_n 0, 1) := by decide +kernel
theorem dX1_closeRun_34 : decode cX1_closeRun 34 = .ok (.dup, 1) := by decide +kernel
theorem dX1_closeRun_35 : decode cX1_closeRun 35 = .ok (.getfield 18, 3) := by decide +kernel
theorem dX1_closeRun_38 : decode cX1_closeRun 38 = .ok (.iload_n 1, 1) := by decide +kernel
theorem dX1_closeRun_39 : decode cX1_closeRun 39 = .ok (.iload_n 2, 1) := by decide +kernel
theorem dX1_closeRun_40 : decode cX1_closeRun 40 = .ok (.iadd, 1) := by decide +kernel
theorem dX1_closeRun_41 : decode cX1_closeRun 41 = .ok (.iconst 1, 1) := by decide +kernel
theorem dX1_closeRun_42 : decode cX1_closeRun 42 = .ok (.isub, 1) := by decide +kernel
theorem dX1_closeRun_43 : decode cX1_closeRun 43 = .ok (.iload_n 2, 1) := by decide +kernel
theorem dX1_closeRun_44 : decode cX1_closeRun 44 = .ok (.idiv, 1) := by decide +kernel
theorem dX1_closeRun_45 : decode cX1_closeRun 45 = .ok (.iadd, 1) := by decide +kernel
theorem dX1_closeRun_46 : decode cX1_closeRun 46 = .ok (.putfield 18, 3) := by decide +kernel
theorem dX1_closeRun_49 : decode cX1_closeRun 49 = .ok (.return_, 1) := by decide +kernel
theorem dX2_init_0 : decode cX2_init 0 = .ok (.aload_n 0, 1) := by decide +kernel
theorem dX2_init_1 : decode cX2_init 1 = .ok (.invokespecial 3, 3) := by decide +kernel
theorem dX2_init_4 : decode cX2_init 4 = .ok (.aload_n 0, 1) := by decide +kernel
theorem dX2_init_5 : decode cX2_init 5 = .ok (.bipush 60, 2) := by decide +kernel
theorem dX2_init_7 : decode cX2_init 7 = .ok (.newarray .int, 2) := by decide +kernel
theorem dX2_init_9 : decode cX2_init 9 = .ok (.putfield 9, 3) := by decide +kernel
theorem dX2_init_12 : decode cX2_init 12 = .ok (.return_, 1) := by decide +kernel
theorem dX2_renew_0 : decode cX2_renew 0 = .ok (.aload_n 0, 1) := by decide +kernel
theorem dX2_renew_1 : decode cX2_renew 1 = .ok (.iconst 1, 1) := by decide +kernel
theorem dX2_renew_2 : decode cX2_renew 2 = .ok (.putfield 15, 3) := by decide +kernel
theorem dX2_renew_5 : decode cX2_renew 5 = .ok (.aload_n 0, 1) := by decide +kernel
theorem dX2_renew_6 : decode cX2_renew 6 = .ok (.iload_n 1, 1) := by decide +kernel
theorem dX2_renew_7 : decode cX2_renew 7 = .ok (.putfield 19, 3) := by decide +kernel
theorem dX2_renew_10 : decode cX2_renew 10 = .ok (.aload_n 0, 1) := by decide +kernel
theorem dX2_renew_11 : decode cX2_renew 11 = .ok (.iload_n 2, 1) := by decide +kernel
theorem dX2_renew_12 : decode cX2_renew 12 = .ok (.putfield 23, 3) := by decide +kernel
theorem dX2_renew_15 : decode cX2_renew 15 = .ok (.iconst 0, 1) := by decide +kernel
theorem dX2_renew_16 : decode cX2_renew 16 = .ok (.istore_n 3, 1) := by decide +kernel
theorem dX2_renew_17 : decode cX2_renew 17 = .ok (.iload_n 3, 1) := by decide +kernel
theorem dX2_renew_18 : decode cX2_renew 18 = .ok (.bipush 60, 2) := by decide +kernel
theorem dX2_renew_20 : decode cX2_renew 20 = .ok (.if_icmp .ge 16, 3) := by decide +kernel
theorem dX2_renew_23 : decode cX2_renew 23 = .ok (.aload_n 0, 1) := by decide +kernel
theorem dX2_renew_24 : decode cX2_renew 24 = .ok (.getfield 9, 3) := by decide +kernel
theorem dX2_renew_27 : decode cX2_renew 27 = .ok (.iload_n 3, 1) := by decide +kernel
theorem dX2_renew_28 : decode cX2_renew 28 = .ok (.iconst 0, 1) := by decide +kernel
theorem dX2_renew_29 : decode cX2_renew 29 = .ok (.iastore, 1) := by decide +kernel
theorem dX2_renew_30 : decode cX2_renew 30 = .ok (.iinc 3 1, 3) := by decide +kernel
theorem dX2_renew_33 : decode cX2_renew 33 = .ok (.goto (-16), 3) := by decide +kernel
theorem dX2_renew_36 : decode cX2_renew 36 = .ok (.return_, 1) := by decide +kernel
theorem dX2_empty_0 : decode cX2_empty 0 = .ok (.aload_n 0, 1) := by decide +kernel
theorem dX2_empty_1 : decode cX2_empty 1 = .ok (.iconst 0, 1) := by decide +kernel
theorem dX2_empty_2 : decode cX2_empty 2 = .ok (.putfield 15, 3) := by decide +kernel
theorem dX2_empty_5 : decode cX2_empty 5 = .ok (.aload_n 0, 1) := by decide +kernel
theorem dX2_empty_6 : decode cX2_empty 6 = .ok (.iconst 0, 1) := by decide +kernel
theorem dX2_empty_7 : decode cX2_empty 7 = .ok (.putfield 23, 3) := by decide +kernel
theorem dX2_empty_10 : decode cX2_empty 10 = .ok (.return_, 1) := by decide +kernel
theorem dX2_faultAs_0 : decode cX2_faultAs 0 = .ok (.aload_n 0, 1) := by decide +kernel
theorem dX2_faultAs_1 : decode cX2_faultAs 1 = .ok (.getfield 15, 3) := by decide +kernel
theorem dX2_faultAs_4 : decode cX2_faultAs 4 = .ok (.ifCond .ne 5, 3) := by decide +kernel
theorem dX2_faultAs_7 : decode cX2_faultAs 7 = .ok (.iconst 1, 1) := by decide +kernel
theorem dX2_faultAs_8 : decode cX2_faultAs 8 = .ok (.ireturn, 1) := by decide +kernel
theorem dX2_faultAs_9 : decode cX2_faultAs 9 = .ok (.aload_n 0, 1) := by decide +kernel
theorem dX2_faultAs_10 : decode cX2_faultAs 10 = .ok (.getfield 19, 3) := by decide +kernel
theorem dX2_faultAs_13 : decode cX2_faultAs 13 = .ok (.iload_n 1, 1) := by decide +kernel
theorem dX2_faultAs_14 : decode cX2_faultAs 14 = .ok (.if_icmp .ne 7, 3) := by decide +kernel
theorem dX2_faultAs_17 : decode cX2_faultAs 17 = .ok (.iconst 0, 1) := by decide +kernel
theorem dX2_faultAs_18 : decode cX2_faultAs 18 = .ok (.goto 4, 3) := by decide +kernel
theorem dX2_faultAs_21 : decode cX2_faultAs 21 = .ok (.iconst 2, 1) := by decide +kernel
theorem dX2_faultAs_22 : decode cX2_faultAs 22 = .ok (.ireturn, 1) := by decide +kernel
theorem dX2_hasCell_0 : decode cX2_hasCell 0 = .ok (.iload_n 1, 1) := by decide +kernel
theorem dX2_hasCell_1 : decode cX2_hasCell 1 = .ok (.ifCond .lt 21, 3) := by decide +kernel
theorem dX2_hasCell_4 : decode cX2_hasCell 4 = .ok (.iload_n 1, 1) := by decide +kernel
theorem dX2_hasCell_5 : decode cX2_hasCell 5 = .ok (.aload_n 0, 1) := by decide +kernel
theorem dX2_hasCell_6 : decode cX2_hasCell 6 = .ok (.getfield 23, 3) := by decide +kernel
theorem dX2_hasCell_9 : decode cX2_hasCell 9 = .ok (.if_icmp .ge 13, 3) := by decide +kernel
theorem dX2_hasCell_12 : decode cX2_hasCell 12 = .ok (.iload_n 1, 1) := by decide +kernel
theorem dX2_hasCell_13 : decode cX2_hasCell 13 = .ok (.bipush 60, 2) := by decide +kernel
theorem dX2_hasCell_15 : decode cX2_hasCell 15 = .ok (.if_icmp .ge 7, 3) := by decide +kernel
theorem dX2_hasCell_18 : decode cX2_hasCell 18 = .ok (.iconst 1, 1) := by decide +kernel
theorem dX2_hasCell_19 : decode cX2_hasCell 19 = .ok (.goto 4, 3) := by decide +kernel
theorem dX2_hasCell_22 : decode cX2_hasCell 22 = .ok (.iconst 0, 1) := by decide +kernel
theorem dX2_hasCell_23 : decode cX2_hasCell 23 = .ok (.ireturn, 1) := by decide +kernel
theorem dX2_holds_0 : decode cX2_holds 0 = .ok (.iload_n 1, 1) := by decide +kernel
theorem dX2_holds_1 : decode cX2_holds 1 = .ok (.ifCond .lt 29, 3) := by decide +kernel
theorem dX2_holds_4 : decode cX2_holds 4 = .ok (.iload_n 1, 1) := by decide +kernel
theorem dX2_holds_5 : decode cX2_holds 5 = .ok (.aload_n 0, 1) := by decide +kernel
theorem dX2_holds_6 : decode cX2_holds 6 = .ok (.getfield 23, 3) := by decide +kernel
theorem dX2_holds_9 : decode cX2_holds 9 = .ok (.if_icmp .gt 21, 3) := by decide +kernel
theorem dX2_holds_12 : decode cX2_holds 12 = .ok (.iload_n 2, 1) := by decide +kernel
theorem dX2_holds_13 : decode cX2_holds 13 = .ok (.ifCond .lt 17, 3) := by decide +kernel
theorem dX2_holds_16 : decode cX2_holds 16 = .ok (.iload_n 2, 1) := by decide +kernel
theorem dX2_holds_17 : decode cX2_holds 17 = .ok (.aload_n 0, 1) := by decide +kernel
theorem dX2_holds_18 : decode cX2_holds 18 = .ok (.getfield 23, 3) := by decide +kernel
theorem dX2_holds_21 : decode cX2_holds 21 = .ok (.iload_n 1, 1) := by decide +kernel
theorem dX2_holds_22 : decode cX2_holds 22 = .ok (.isub, 1) := by decide +kernel
theorem dX2_holds_23 : decode cX2_holds 23 = .ok (.if_icmp .gt 7, 3) := by decide +kernel
theorem dX2_holds_26 : decode cX2_holds 26 = .ok (.iconst 1, 1) := by decide +kernel
theorem dX2_holds_27 : decode cX2_holds 27 = .ok (.goto 4, 3) := by decide +kernel
theorem dX2_holds_30 : decode cX2_holds 30 = .ok (.iconst 0, 1) := by decide +kernel
theorem dX2_holds_31 : decode cX2_holds 31 = .ok (.ireturn, 1) := by decide +kernel
set_option maxRecDepth 20000 in
theorem ggX2_at_X2_hasCell : GoodIn wsX2_at wsX2_hasCell := goodIn_r _ [6, 7, 8, 9, 10, 11] (by decide +kernel) (by decide +kernel)
set_option maxRecDepth 20000 in
theorem gX2_at_X2_hasCell : GoodIn wsX2_at (wsV RX2 26 RX2 yX2_hasCell wsX2_hasCell) := goodIn_app (goodIn_of _ (by decide +kernel)) ggX2_at_X2_hasCell
theorem dX2_at_0 : decode cX2_at 0 = .ok (.aload_n 0, 1) := by decide +kernel
theorem dX2_at_1 : decode cX2_at 1 = .ok (.iload_n 1, 1) := by decide +kernel
theorem dX2_at_2 : decode cX2_at 2 = .ok (.invokevirtual 26, 3) := by decide +kernel
theorem dX2_at_5 : decode cX2_at 5 = .ok (.ifCond .eq 12, 3) := by decide +kernel
theorem dX2_at_8 : decode cX2_at 8 = .ok (.aload_n 0, 1) := by decide +kernel
theorem dX2_at_9 : decode cX2_at 9 = .ok (.getfield 9, 3) := by decide +kernel
theorem dX2_at_12 : decode cX2_at 12 = .ok (.iload_n 1, 1) := by decide +kernel
theorem dX2_at_13 : decode cX2_at 13 = .ok (.iaload, 1) := by decide +kernel
theorem dX2_at_14 : decode cX2_at 14 = .ok (.goto 4, 3) := by decide +kernel
theorem dX2_at_17 : decode cX2_at 17 = .ok (.iconst 0, 1) := by decide +kernel
theorem dX2_at_18 : decode cX2_at 18 = .ok (.ireturn, 1) := by decide +kernel
theorem dX2_cutToLane_0 : decode cX2_cutToLane 0 = .ok (.aload_n 0, 1) := by decide +kernel
theorem dX2_cutToLane_1 : decode cX2_cutToLane 1 = .ok (.getfield 19, 3) := by decide +kernel
theorem dX2_cutToLane_4 : decode cX2_cutToLane 4 = .ok (.lookupswitch 34 #[(0, 28), (1, 31)], 28) := by decide +kernel
theorem dX2_cutToLane_32 : decode cX2_cutToLane 32 = .ok (.iload_n 1, 1) := by decide +kernel
theorem dX2_cutToLane_33 : decode cX2_cutToLane 33 = .ok (.i2b, 1) := by decide +kernel
theorem dX2_cutToLane_34 : decode cX2_cutToLane 34 = .ok (.ireturn, 1) := by decide +kernel
theorem dX2_cutToLane_35 : decode cX2_cutToLane 35 = .ok (.iload_n 1, 1) := by decide +kernel
theorem dX2_cutToLane_36 : decode cX2_cutToLane 36 = .ok (.i2s, 1) := by decide +kernel
theorem dX2_cutToLane_37 : decode cX2_cutToLane 37 = .ok (.ireturn, 1) := by decide +kernel
theorem dX2_cutToLane_38 : decode cX2_cutToLane 38 = .ok (.iload_n 1, 1) := by decide +kernel
theorem dX2_cutToLane_39 : decode cX2_cutToLane 39 = .ok (.ireturn, 1) := by decide +kernel
theorem dX3_init_0 : decode cX3_init 0 = .ok (.aload_n 0, 1) := by decide +kernel
theorem dX3_init_1 : decode cX3_init 1 = .ok (.invokespecial 3, 3) := by decide +kernel
theorem dX3_init_4 : decode cX3_init 4 = .ok (.aload_n 0, 1) := by decide +kernel
theorem dX3_init_5 : decode cX3_init 5 = .ok (.iconst 5, 1) := by decide +kernel
theorem dX3_init_6 : decode cX3_init 6 = .ok (.newarray .int, 2) := by decide +kernel
theorem dX3_init_8 : decode cX3_init 8 = .ok (.putfield 9, 3) := by decide +kernel
theorem dX3_init_11 : decode cX3_init 11 = .ok (.aload_n 0, 1) := by decide +kernel
theorem dX3_init_12 : decode cX3_init 12 = .ok (.iconst 5, 1) := by decide +kernel
theorem dX3_init_13 : decode cX3_init 13 = .ok (.newarray .int, 2) := by decide +kernel
theorem dX3_init_15 : decode cX3_init 15 = .ok (.putfield 15, 3) := by decide +kernel
theorem dX3_init_18 : decode cX3_init 18 = .ok (.aload_n 0, 1) := by decide +kernel
theorem dX3_init_19 : decode cX3_init 19 = .ok (.iconst 5, 1) := by decide +kernel
theorem dX3_init_20 : decode cX3_init 20 = .ok (.newarray .int, 2) := by decide +kernel
theorem dX3_init_22 : decode cX3_init 22 = .ok (.putfield 18, 3) := by decide +kernel
theorem dX3_init_25 : decode cX3_init 25 = .ok (.return_, 1) := by decide +kernel
theorem dX3_isLaid_0 : decode cX3_isLaid 0 = .ok (.aload_n 0, 1) := by decide +kernel
theorem dX3_isLaid_1 : decode cX3_isLaid 1 = .ok (.getfield 21, 3) := by decide +kernel
theorem dX3_isLaid_4 : decode cX3_isLaid 4 = .ok (.ifCond .le 7, 3) := by decide +kernel
theorem dX3_isLaid_7 : decode cX3_isLaid 7 = .ok (.iconst 1, 1) := by decide +kernel
theorem dX3_isLaid_8 : decode cX3_isLaid 8 = .ok (.goto 4, 3) := by decide +kernel
theorem dX3_isLaid_11 : decode cX3_isLaid 11 = .ok (.iconst 0, 1) := by decide +kernel
theorem dX3_isLaid_12 : decode cX3_isLaid 12 = .ok (.ireturn, 1) := by decide +kernel
theorem dX3_has_0 : decode cX3_has 0 = .ok (.iload_n 1, 1) := by decide +kernel
theorem dX3_has_1 : decode cX3_has 1 = .ok (.ifCond .lt 20, 3) := by decide +kernel
theorem dX3_has_4 : decode cX3_has 4 = .ok (.iload_n 1, 1) := by decide +kernel
theorem dX3_has_5 : decode cX3_has 5 = .ok (.aload_n 0, 1) := by decide +kernel
theorem dX3_has_6 : decode cX3_has 6 = .ok (.getfield 21, 3) := by decide +kernel
theorem dX3_has_9 : decode cX3_has 9 = .ok (.if_icmp .ge 12, 3) := by decide +kernel
theorem dX3_has_12 : decode cX3_has 12 = .ok (.iload_n 1, 1) := by decide +kernel
theorem dX3_has_13 : decode cX3_has 13 = .ok (.iconst 5, 1) := by decide +kernel
theorem dX3_has_14 : decode cX3_has 14 = .ok (.if_icmp .ge 7, 3) := by decide +kernel
theorem dX3_has_17 : decode cX3_has 17 = .ok (.iconst 1, 1) := by decide +kernel
theorem dX3_has_18 : decode cX3_has 18 = .ok (.goto 4, 3) := by decide +kernel
theorem dX3_has_21 : decode cX3_has 21 = .ok (.iconst 0, 1) := by decide +kernel
theorem dX3_has_22 : decode cX3_has 22 = .ok (.ireturn, 1) := by decide +kernel
theorem dX3_everyone_0 : decode cX3_everyone 0 = .ok (.iconst 1, 1) := by decide +kernel
theorem dX3_everyone_1 : decode cX3_everyone 1 = .ok (.aload_n 0, 1) := by decide +kernel
theorem dX3_everyone_2 : decode cX3_everyone 2 = .ok (.getfield 21, 3) := by decide +kernel
theorem dX3_everyone_5 : decode cX3_everyone 5 = .ok (.ishl, 1) := by decide +kernel
theorem dX3_everyone_6 : decode cX3_everyone 6 = .ok (.iconst 1, 1) := by decide +kernel
theorem dX3_everyone_7 : decode cX3_everyone 7 = .ok (.isub, 1) := by decide +kernel
theorem dX3_everyone_8 : decode cX3_everyone 8 = .ok (.ireturn, 1) := by decide +kernel
theorem dX3_becomeLike_0 : decode cX3_becomeLike 0 = .ok (.iconst 0, 1) := by decide +kernel
theorem dX3_becomeLike_1 : decode cX3_becomeLike 1 = .ok (.istore_n 2, 1) := by decide +kernel
theorem dX3_becomeLike_2 : decode cX3_becomeLike 2 = .ok (.iload_n 2, 1) := by decide +kernel
theorem dX3_becomeLike_3 : decode cX3_becomeLike 3 = .ok (.iconst 5, 1) := by decide +kernel
theorem dX3_becomeLike_4 : decode cX3_becomeLike 4 = .ok (.if_icmp .ge 45, 3) := by decide +kernel
theorem dX3_becomeLike_7 : decode cX3_becomeLike 7 = .ok (.aload_n 0, 1) := by decide +kernel
theorem dX3_becomeLike_8 : decode cX3_becomeLike 8 = .ok (.getfield 9, 3) := by decide +kernel
theorem dX3_becomeLike_11 : decode cX3_becomeLike 11 = .ok (.iload_n 2, 1) := by decide +kernel
theorem dX3_becomeLike_12 : decode cX3_becomeLike 12 = .ok (.aload_n 1, 1) := by decide +kernel
theorem dX3_becomeLike_13 : decode cX3_becomeLike 13 = .ok (.getfield 9, 3) := by decide +kernel
theorem dX3_becomeLike_16 : decode cX3_becomeLike 16 = .ok (.iload_n 2, 1) := by decide +kernel
theorem dX3_becomeLike_17 : decode cX3_becomeLike 17 = .ok (.iaload, 1) := by decide +kernel
theorem dX3_becomeLike_18 : decode cX3_becomeLike 18 = .ok (.iastore, 1) := by decide +kernel
theorem dX3_becomeLike_19 : decode cX3_becomeLike 19 = .ok (.aload_n 0, 1) := by decide +kernel
theorem dX3_becomeLike_20 : decode cX3_becomeLike 20 = .ok (.getfield 15, 3) := by decide +kernel
theorem dX3_becomeLike_23 : decode cX3_becomeLike 23 = .ok (.iload_n 2, 1) := by decide +kernel
theorem dX3_becomeLike_24 : decode cX3_becomeLike 24 = .ok (.aload_n 1, 1) := by decide +kernel
theorem dX3_becomeLike_25 : decode cX3_becomeLike 25 = .ok (.getfield 15, 3) := by decide +kernel
theorem dX3_becomeLike_28 : decode cX3_becomeLike 28 = .ok (.iload_n 2, 1) := by decide +kernel
theorem dX3_becomeLike_29 : decode cX3_becomeLike 29 = .ok (.iaload, 1) := by decide +kernel
theorem dX3_becomeLike_30 : decode cX3_becomeLike 30 = .ok (.iastore, 1) := by decide +kernel
theorem dX3_becomeLike_31 : decode cX3_becomeLike 31 = .ok (.aload_n 0, 1) := by decide +kernel
theorem dX3_becomeLike_32 : decode cX3_becomeLike 32 = .ok (.getfield 18, 3) := by decide +kernel
theorem dX3_becomeLike_35 : decode cX3_becomeLike 35 = .ok (.iload_n 2, 1) := by decide +kernel
theorem dX3_becomeLike_36 : decode cX3_becomeLike 36 = .ok (.aload_n 1, 1) := by decide +kernel
theorem dX3_becomeLike_37 : decode cX3_becomeLike 37 = .ok (.getfield 18, 3) := by decide +kernel
theorem dX3_becomeLike_40 : decode cX3_becomeLike 40 = .ok (.iload_n 2, 1) := by decide +kernel
theorem dX3_becomeLike_41 : decode cX3_becomeLike 41 = .ok (.iaload, 1) := by decide +kernel
theorem dX3_becomeLike_42 : decode cX3_becomeLike 42 = .ok (.iastore, 1) := by decide +kernel
theorem dX3_becomeLike_43 : decode cX3_becomeLike 43 = .ok (.iinc 2 1, 3) := by decide +kernel
theorem dX3_becomeLike_46 : decode cX3_becomeLike 46 = .ok (.goto (-44), 3) := by decide +kernel
theorem dX3_becomeLike_49 : decode cX3_becomeLike 49 = .ok (.aload_n 0, 1) := by decide +kernel
theorem dX3_becomeLike_50 : decode cX3_becomeLike 50 = .ok (.aload_n 1, 1) := by decide +kernel
theorem dX3_becomeLike_51 : decode cX3_becomeLike 51 = .ok (.getfield 21, 3) := by decide +kernel
theorem dX3_becomeLike_54 : decode cX3_becomeLike 54 = .ok (.putfield 21, 3) := by decide +kernel
theorem dX3_becomeLike_57 : decode cX3_becomeLike 57 = .ok (.aload_n 0, 1) := by decide +kernel
theorem dX3_becomeLike_58 : decode cX3_becomeLike 58 = .ok (.aload_n 1, 1) := by decide +kernel
theorem dX3_becomeLike_59 : decode cX3_becomeLike 59 = .ok (.getfield 25, 3) := by decide +kernel
theorem dX3_becomeLike_62 : decode cX3_becomeLike 62 = .ok (.putfield 25, 3) := by decide +kernel
theorem dX3_becomeLike_65 : decode cX3_becomeLike 65 = .ok (.aload_n 0, 1) := by decide +kernel
theorem dX3_becomeLike_66 : decode cX3_becomeLike 66 = .ok (.aload_n 1, 1) := by decide +kernel
theorem dX3_becomeLike_67 : decode cX3_becomeLike 67 = .ok (.getfield 28, 3) := by decide +kernel
theorem dX3_becomeLike_70 : decode cX3_becomeLike 70 = .ok (.putfield 28, 3) := by decide +kernel
theorem dX3_becomeLike_73 : decode cX3_becomeLike 73 = .ok (.return_, 1) := by decide +kernel
set_option maxRecDepth 20000 in
theorem ggX3_shadeOf_X3_has : GoodIn wsX3_shadeOf wsX3_has := goodIn_r _ [11, 12, 13, 14, 15, 16, 17, 18] (by decide +kernel) (by decide +kernel)
set_option maxRecDepth 20000 in
theorem gX3_shadeOf_X3_has : GoodIn wsX3_shadeOf (wsV RX3 31 RX3 yX3_has wsX3_has) := goodIn_app (goodIn_of _ (by decide +kernel)) ggX3_shadeOf_X3_has
theorem dX3_shadeOf_0 : decode cX3_shadeOf 0 = .ok (.aload_n 0, 1) := by decide +kernel
theorem dX3_shadeOf_1 : decode cX3_shadeOf 1 = .ok (.iload_n 1, 1) := by decide +kernel
theorem dX3_shadeOf_2 : decode cX3_shadeOf 2 = .ok (.invokevirtual 31, 3) := by decide +kernel
theorem dX3_shadeOf_5 : decode cX3_shadeOf 5 = .ok (.ifCond .ne 5, 3) := by decide +kernel
theorem dX3_shadeOf_8 : decode cX3_shadeOf 8 = .ok (.iconst 0, 1) := by decide +kernel
theorem dX3_shadeOf_9 : decode cX3_shadeOf 9 = .ok (.ireturn, 1) := by decide +kernel
theorem dX3_shadeOf_10 : decode cX3_shadeOf 10 = .ok (.aload_n 0, 1) := by decide +kernel
theorem dX3_shadeOf_11 : decode cX3_shadeOf 11 = .ok (.getfield 18, 3) := by decide +kernel
theorem dX3_shadeOf_14 : decode cX3_shadeOf 14 = .ok (.iload_n 1, 1) := by decide +kernel
theorem dX3_shadeOf_15 : decode cX3_shadeOf 15 = .ok (.iaload, 1) := by decide +kernel
theorem dX3_shadeOf_16 : decode cX3_shadeOf 16 = .ok (.iload_n 2, 1) := by decide +kernel
theorem dX3_shadeOf_17 : decode cX3_shadeOf 17 = .ok (.imul, 1) := by decide +kernel
theorem dX3_shadeOf_18 : decode cX3_shadeOf 18 = .ok (.istore_n 3, 1) := by decide +kernel
theorem dX3_shadeOf_19 : decode cX3_shadeOf 19 = .ok (.aload_n 0, 1) := by decide +kernel
theorem dX3_shadeOf_20 : decode cX3_shadeOf 20 = .ok (.getfield 9, 3) := by decide +kernel
theorem dX3_shadeOf_23 : decode cX3_shadeOf 23 = .ok (.iload_n 1, 1) := by decide +kernel
theorem dX3_shadeOf_24 : decode cX3_shadeOf 24 = .ok (.iaload, 1) := by decide +kernel
theorem dX3_shadeOf_25 : decode cX3_shadeOf 25 = .ok (.lookupswitch 39 #[(1, 27), (2, 35)], 27) := by decide +kernel
theorem dX3_shadeOf_52 : decode cX3_shadeOf 52 = .ok (.iload_n 3, 1) := by decide +kernel
theorem dX3_shadeOf_53 : decode cX3_shadeOf 53 = .ok (.iconst 1, 1) := by decide +kernel
theorem dX3_shadeOf_54 : decode cX3_shadeOf 54 = .ok (.isub, 1) := by decide +kernel
theorem dX3_shadeOf_55 : decode cX3_shadeOf 55 = .ok (.iconst 0, 1) := by decide +kernel
theorem dX3_shadeOf_56 : decode cX3_shadeOf 56 = .ok (.invokestatic 35, 3) := by decide +kernel
theorem dX3_shadeOf_59 : decode cX3_shadeOf 59 = .ok (.ireturn, 1) := by decide +kernel
theorem dX3_shadeOf_60 : decode cX3_shadeOf 60 = .ok (.iload_n 3, 1) := by decide +kernel
theorem dX3_shadeOf_61 : decode cX3_shadeOf 61 = .ok (.iconst 2, 1) := by decide +kernel
theorem dX3_shadeOf_62 : decode cX3_shadeOf 62 = .ok (.idiv, 1) := by decide +kernel
theorem dX3_shadeOf_63 : decode cX3_shadeOf 63 = .ok (.ireturn, 1) := by decide +kernel
theorem dX3_shadeOf_64 : decode cX3_shadeOf 64 = .ok (.iload_n 3, 1) := by decide +kernel
theorem dX3_shadeOf_65 : decode cX3_shadeOf 65 = .ok (.ireturn, 1) := by decide +kernel
theorem dX3_firstLitFoot_0 : decode cX3_firstLitFoot 0 = .ok (.aload_n 0, 1) := by decide +kernel
theorem dX3_firstLitFoot_1 : decode cX3_firstLitFoot 1 = .ok (.getfield 28, 3) := by decide +kernel
theorem dX3_firstLitFoot_4 : decode cX3_firstLitFoot 4 = .ok (.iload_n 1, 1) := by decide +kernel
theorem dX3_firstLitFoot_5 : decode cX3_firstLitFoot 5 = .ok (.imul, 1) := by decide +kernel
theorem dX3_firstLitFoot_6 : decode cX3_firstLitFoot 6 = .ok (.ireturn, 1) := by decide +kernel
set_option maxRecDepth 20000 in
theorem ggX3_hiddenSet_X3_has : GoodIn wsX3_hiddenSet wsX3_has := goodIn_r _ [6, 7, 13, 14, 15, 16, 17, 18] (by decide +kernel) (by decide +kernel)
set_option maxRecDepth 20000 in
theorem gX3_hiddenSet_X3_has : GoodIn wsX3_hiddenSet (wsV RX3 31 RX3 yX3_has wsX3_has) := goodIn_app (goodIn_of _ (by decide +kernel)) ggX3_hiddenSet_X3_has
set_option maxRecDepth 20000 in
theorem ggX3_hiddenSet_X3_firstLitFoot : GoodIn wsX3_hiddenSet wsX3_firstLitFoot := goodIn_r _ [11, 12, 13, 14, 15, 16, 17, 18] (by decide +kernel) (by decide +kernel)
set_option maxRecDepth 20000 in
theorem gX3_hiddenSet_X3_firstLitFoot : GoodIn wsX3_hiddenSet (wsV RX3 41 RX3 yX3_firstLitFoot wsX3_firstLitFoot) := goodIn_app (goodIn_of _ (by decide +kernel)) ggX3_hiddenSet_X3_firstLitFoot
theorem dX3_hiddenSet_0 : decode cX3_hiddenSet 0 = .ok (.iconst 0, 1) := by decide +kernel
theorem dX3_hiddenSet_1 : decode cX3_hiddenSet 1 = .ok (.istore_n 2, 1) := by decide +kernel
theorem dX3_hiddenSet_2 : decode cX3_hiddenSet 2 = .ok (.iconst 0, 1) := by decide +kernel
theorem dX3_hiddenSet_3 : decode cX3_hiddenSet 3 = .ok (.istore_n 3, 1) := by decide +kernel
theorem dX3_hiddenSet_4 : decode cX3_hiddenSet 4 = .ok (.iload_n 3, 1) := by decide +kernel
theorem dX3_hiddenSet_5 : decode cX3_hiddenSet 5 = .ok (.iconst 5, 1) := by decide +kernel
theorem dX3_hiddenSet_6 : decode cX3_hiddenSet 6 = .ok (.if_icmp .ge 37, 3) := by decide +kernel
theorem dX3_hiddenSet_9 : decode cX3_hiddenSet 9 = .ok (.aload_n 0, 1) := by decide +kernel
theorem dX3_hiddenSet_10 : decode cX3_hiddenSet 10 = .ok (.iload_n 3, 1) := by decide +kernel
theorem dX3_hiddenSet_11 : decode cX3_hiddenSet 11 = .ok (.invokevirtual 31, 3) := by decide +kernel
theorem dX3_hiddenSet_14 : decode cX3_hiddenSet 14 = .ok (.ifCond .eq 23, 3) := by decide +kernel
theorem dX3_hiddenSet_17 : decode cX3_hiddenSet 17 = .ok (.aload_n 0, 1) := by decide +kernel
theorem dX3_hiddenSet_18 : decode cX3_hiddenSet 18 = .ok (.getfield 15, 3) := by decide +kernel
theorem dX3_hiddenSet_21 : decode cX3_hiddenSet 21 = .ok (.iload_n 3, 1) := by decide +kernel
theorem dX3_hiddenSet_22 : decode cX3_hiddenSet 22 = .ok (.iaload, 1) := by decide +kernel
theorem dX3_hiddenSet_23 : decode cX3_hiddenSet 23 = .ok (.aload_n 0, 1) := by decide +kernel
theorem dX3_hiddenSet_24 : decode cX3_hiddenSet 24 = .ok (.iload_n 1, 1) := by decide +kernel
theorem dX3_hiddenSet_25 : decode cX3_hiddenSet 25 = .ok (.invokevirtual 41, 3) := by decide +kernel
theorem dX3_hiddenSet_28 : decode cX3_hiddenSet 28 = .ok (.if_icmp .ge 9, 3) := by decide +kernel
theorem dX3_hiddenSet_31 : decode cX3_hiddenSet 31 = .ok (.iload_n 2, 1) := by decide +kernel
theorem dX3_hiddenSet_32 : decode cX3_hiddenSet 32 = .ok (.iconst 1, 1) := by decide +kernel
theorem dX3_hiddenSet_33 : decode cX3_hiddenSet 33 = .ok (.iload_n 3, 1) := by decide +kernel
theorem dX3_hiddenSet_34 : decode cX3_hiddenSet 34 = .ok (.ishl, 1) := by decide +kernel
theorem dX3_hiddenSet_35 : decode cX3_hiddenSet 35 = .ok (.ior, 1) := by decide +kernel
theorem dX3_hiddenSet_36 : decode cX3_hiddenSet 36 = .ok (.istore_n 2, 1) := by decide +kernel
theorem dX3_hiddenSet_37 : decode cX3_hiddenSet 37 = .ok (.iinc 3 1, 3) := by decide +kernel
theorem dX3_hiddenSet_40 : decode cX3_hiddenSet 40 = .ok (.goto (-36), 3) := by decide +kernel
theorem dX3_hiddenSet_43 : decode cX3_hiddenSet 43 = .ok (.iload_n 2, 1) := by decide +kernel
theorem dX3_hiddenSet_44 : decode cX3_hiddenSet 44 = .ok (.ireturn, 1) := by decide +kernel
set_option maxRecDepth 20000 in
theorem ggX3_isAnotherOn_X3_has : GoodIn wsX3_isAnotherOn wsX3_has := goodIn_r _ [6, 7, 8, 9, 10, 11, 12, 13] (by decide +kernel) (by decide +kernel)
set_option maxRecDepth 20000 in
theorem gX3_isAnotherOn_X3_has : GoodIn wsX3_isAnotherOn (wsV RX3 31 RX3 yX3_has wsX3_has) := goodIn_app (goodIn_of _ (by decide +kernel)) ggX3_isAnotherOn_X3_has
theorem dX3_isAnotherOn_0 : decode cX3_isAnotherOn 0 = .ok (.iconst 0, 1) := by decide +kernel
theorem dX3_isAnotherOn_1 : decode cX3_isAnotherOn 1 = .ok (.istore_n 3, 1) := by decide +kernel
theorem dX3_isAnotherOn_2 : decode cX3_isAnotherOn 2 = .ok (.iload_n 3, 1) := by decide +kernel
theorem dX3_isAnotherOn_3 : decode cX3_isAnotherOn 3 = .ok (.iconst 5, 1) := by decide +kernel
theorem dX3_isAnotherOn_4 : decode cX3_isAnotherOn 4 = .ok (.if_icmp .ge 34, 3) := by decide +kernel
theorem dX3_isAnotherOn_7 : decode cX3_isAnotherOn 7 = .ok (.aload_n 0, 1) := by decide +kernel
theorem dX3_isAnotherOn_8 : decode cX3_isAnotherOn 8 = .ok (.iload_n 3, 1) := by decide +kernel
theorem dX3_isAnotherOn_9 : decode cX3_isAnotherOn 9 = .ok (.invokevirtual 31, 3) := by decide +kernel
theorem dX3_isAnotherOn_12 : decode cX3_isAnotherOn 12 = .ok (.ifCond .eq 20, 3) := by decide +kernel
theorem dX3_isAnotherOn_15 : decode cX3_isAnotherOn 15 = .ok (.iload_n 3, 1) := by decide +kernel
theorem dX3_isAnotherOn_16 : decode cX3_isAnotherOn 16 = .ok (.iload_n 2, 1) := by decide +kernel
theorem dX3_isAnotherOn_17 : decode cX3_isAnotherOn 17 = .ok (.if_icmp .eq 15, 3) := by decide +kernel
theorem dX3_isAnotherOn_20 : decode cX3_isAnotherOn 20 = .ok (.aload_n 0, 1) := by decide +kernel
theorem dX3_isAnotherOn_21 : decode cX3_isAnotherOn 21 = .ok (.getfield 15, 3) := by decide +kernel
theorem dX3_isAnotherOn_24 : decode cX3_isAnotherOn 24 = .ok (.iload_n 3, 1) := by decide +kernel
theorem dX3_isAnotherOn_25 : decode cX3_isAnotherOn 25 = .ok (.iaload, 1) := by decide +kernel
theorem dX3_isAnotherOn_26 : decode cX3_isAnotherOn 26 = .ok (.iload_n 1, 1) := by decide +kernel
theorem dX3_isAnotherOn_27 : decode cX3_isAnotherOn 27 = .ok (.if_icmp .ne 5, 3) := by decide +kernel
theorem dX3_isAnotherOn_30 : decode cX3_isAnotherOn 30 = .ok (.iconst 1, 1) := by decide +kernel
theorem dX3_isAnotherOn_31 : decode cX3_isAnotherOn 31 = .ok (.ireturn, 1) := by decide +kernel
theorem dX3_isAnotherOn_32 : decode cX3_isAnotherOn 32 = .ok (.iinc 3 1, 3) := by decide +kernel
theorem dX3_isAnotherOn_35 : decode cX3_isAnotherOn 35 = .ok (.goto (-33), 3) := by decide +kernel
theorem dX3_isAnotherOn_38 : decode cX3_isAnotherOn 38 = .ok (.iconst 0, 1) := by decide +kernel
theorem dX3_isAnotherOn_39 : decode cX3_isAnotherOn 39 = .ok (.ireturn, 1) := by decide +kernel
set_option maxRecDepth 20000 in
theorem ggX3_darkFeet_X3_hiddenSet : GoodIn wsX3_darkFeet wsX3_hiddenSet := goodIn_r _ [6, 1, 7, 8, 9, 5, 10, 11, 12, 13, 14, 15, 16, 27, 28, 29, 30, 31, 32] (by decide +kernel) (by decide +kernel)
set_option maxRecDepth 20000 in
theorem gX3_darkFeet_X3_hiddenSet : GoodIn wsX3_darkFeet (wsV RX3 45 RX3 yX3_hiddenSet wsX3_hiddenSet) := goodIn_app (goodIn_of _ (by decide +kernel)) ggX3_darkFeet_X3_hiddenSet
set_option maxRecDepth 20000 in
theorem ggX3_darkFeet_X3_has : GoodIn wsX3_darkFeet wsX3_has := goodIn_r _ [10, 11, 27, 28, 29, 30, 31, 32] (by decide +kernel) (by decide +kernel)
set_option maxRecDepth 20000 in
theorem gX3_darkFeet_X3_has : GoodIn wsX3_darkFeet (wsV RX3 31 RX3 yX3_has wsX3_has) := goodIn_app (goodIn_of _ (by decide +kernel)) ggX3_darkFeet_X3_has
set_option maxRecDepth 20000 in
theorem ggX3_darkFeet_X3_shadeOf : GoodIn wsX3_darkFeet wsX3_shadeOf := goodIn_r _ [20, 21, 22, 23, 24, 25, 26, 7, 8, 9, 5, 10, 11, 27, 28, 29, 30, 31, 32] (by decide +kernel) (by decide +kernel)
set_option maxRecDepth 20000 in
theorem gX3_darkFeet_X3_shadeOf : GoodIn wsX3_darkFeet (wsV RX3 48 RX3 yX3_shadeOf wsX3_shadeOf) := goodIn_app (goodIn_of _ (by decide +kernel)) ggX3_darkFeet_X3_shadeOf
theorem dX3_darkFeet_0 : decode cX3_darkFeet 0 = .ok (.iload_n 2, 1) := by decide +kernel
theorem dX3_darkFeet_1 : decode cX3_darkFeet 1 = .ok (.aload_n 0, 1) := by decide +kernel
theorem dX3_darkFeet_2 : decode cX3_darkFeet 2 = .ok (.iload_n 1, 1) := by decide +kernel
theorem dX3_darkFeet_3 : decode cX3_darkFeet 3 = .ok (.invokevirtual 45, 3) := by decide +kernel
theorem dX3_darkFeet_6 : decode cX3_darkFeet 6 = .ok (.iconst (-1), 1) := by decide +kernel
theorem dX3_darkFeet_7 : decode cX3_darkFeet 7 = .ok (.ixor, 1) := by decide +kernel
theorem dX3_darkFeet_8 : decode cX3_darkFeet 8 = .ok (.iand, 1) := by decide +kernel
theorem dX3_darkFeet_9 : decode cX3_darkFeet 9 = .ok (.istore_n 3, 1) := by decide +kernel
theorem dX3_darkFeet_10 : decode cX3_darkFeet 10 = .ok (.lconst 0, 1) := by decide +kernel
theorem dX3_darkFeet_11 : decode cX3_darkFeet 11 = .ok (.lstore 4, 2) := by decide +kernel
theorem dX3_darkFeet_13 : decode cX3_darkFeet 13 = .ok (.iconst 0, 1) := by decide +kernel
theorem dX3_darkFeet_14 : decode cX3_darkFeet 14 = .ok (.istore 6, 2) := by decide +kernel
theorem dX3_darkFeet_16 : decode cX3_darkFeet 16 = .ok (.iload 6, 2) := by decide +kernel
theorem dX3_darkFeet_18 : decode cX3_darkFeet 18 = .ok (.iconst 5, 1) := by decide +kernel
theorem dX3_darkFeet_19 : decode cX3_darkFeet 19 = .ok (.if_icmp .ge 57, 3) := by decide +kernel
theorem dX3_darkFeet_22 : decode cX3_darkFeet 22 = .ok (.aload_n 0, 1) := by decide +kernel
theorem dX3_darkFeet_23 : decode cX3_darkFeet 23 = .ok (.iload 6, 2) := by decide +kernel
theorem dX3_darkFeet_25 : decode cX3_darkFeet 25 = .ok (.invokevirtual 31, 3) := by decide +kernel
theorem dX3_darkFeet_28 : decode cX3_darkFeet 28 = .ok (.ifCond .eq 42, 3) := by decide +kernel
theorem dX3_darkFeet_31 : decode cX3_darkFeet 31 = .ok (.iload_n 3, 1) := by decide +kernel
theorem dX3_darkFeet_32 : decode cX3_darkFeet 32 = .ok (.iload 6, 2) := by decide +kernel
theorem dX3_darkFeet_34 : decode cX3_darkFeet 34 = .ok (.ishr, 1) := by decide +kernel
theorem dX3_darkFeet_35 : decode cX3_darkFeet 35 = .ok (.iconst 1, 1) := by decide +kernel
theorem dX3_darkFeet_36 : decode cX3_darkFeet 36 = .ok (.iand, 1) := by decide +kernel
theorem dX3_darkFeet_37 : decode cX3_darkFeet 37 = .ok (.ifCond .eq 33, 3) := by decide +kernel
theorem dX3_darkFeet_40 : decode cX3_darkFeet 40 = .ok (.lconst 1, 1) := by decide +kernel
theorem dX3_darkFeet_41 : decode cX3_darkFeet 41 = .ok (.aload_n 0, 1) := by decide +kernel
theorem dX3_darkFeet_42 : decode cX3_darkFeet 42 = .ok (.iload 6, 2) := by decide +kernel
theorem dX3_darkFeet_44 : decode cX3_darkFeet 44 = .ok (.iload_n 1, 1) := by decide +kernel
theorem dX3_darkFeet_45 : decode cX3_darkFeet 45 = .ok (.invokevirtual 48, 3) := by decide +kernel
theorem dX3_darkFeet_48 : decode cX3_darkFeet 48 = .ok (.iconst 1, 1) := by decide +kernel
theorem dX3_darkFeet_49 : decode cX3_darkFeet 49 = .ok (.iadd, 1) := by decide +kernel
theorem dX3_darkFeet_50 : decode cX3_darkFeet 50 = .ok (.lshl, 1) := by decide +kernel
theorem dX3_darkFeet_51 : decode cX3_darkFeet 51 = .ok (.lconst 1, 1) := by decide +kernel
theorem dX3_darkFeet_52 : decode cX3_darkFeet 52 = .ok (.lsub, 1) := by decide +kernel
theorem dX3_darkFeet_53 : decode cX3_darkFeet 53 = .ok (.lstore 7, 2) := by decide +kernel
theorem dX3_darkFeet_55 : decode cX3_darkFeet 55 = .ok (.lload 4, 2) := by decide +kernel
theorem dX3_darkFeet_57 : decode cX3_darkFeet 57 = .ok (.lload 7, 2) := by decide +kernel
theorem dX3_darkFeet_59 : decode cX3_darkFeet 59 = .ok (.aload_n 0, 1) := by decide +kernel
theorem dX3_darkFeet_60 : decode cX3_darkFeet 60 = .ok (.getfield 15, 3) := by decide +kernel
theorem dX3_darkFeet_63 : decode cX3_darkFeet 63 = .ok (.iload 6, 2) := by decide +kernel
theorem dX3_darkFeet_65 : decode cX3_darkFeet 65 = .ok (.iaload, 1) := by decide +kernel
theorem dX3_darkFeet_66 : decode cX3_darkFeet 66 = .ok (.lshl, 1) := by decide +kernel
theorem dX3_darkFeet_67 : decode cX3_darkFeet 67 = .ok (.lor, 1) := by decide +kernel
theorem dX3_darkFeet_68 : decode cX3_darkFeet 68 = .ok (.lstore 4, 2) := by decide +kernel
theorem dX3_darkFeet_70 : decode cX3_darkFeet 70 = .ok (.iinc 6 1, 3) := by decide +kernel
theorem dX3_darkFeet_73 : decode cX3_darkFeet 73 = .ok (.goto (-57), 3) := by decide +kernel
theorem dX3_darkFeet_76 : decode cX3_darkFeet 76 = .ok (.lload 4, 2) := by decide +kernel
theorem dX3_darkFeet_78 : decode cX3_darkFeet 78 = .ok (.lreturn, 1) := by decide +kernel
set_option maxRecDepth 20000 in
theorem ggX4_init_X3_init : GoodIn wsX4_init wsX3_init := goodIn_r _ [22, 23, 2, 3, 24, 25, 26, 27, 40, 41, 42, 43, 44, 45] (by decide +kernel) (by decide +kernel)
set_option maxRecDepth 20000 in
theorem gX4_init_X3_init_n13 : GoodIn wsX4_init (wsX3_init) := ggX4_init_X3_init
set_option maxRecDepth 20000 in
theorem ggX4_init_X1_init : GoodIn wsX4_init wsX1_init := goodIn_r _ [29, 30, 2, 3] (by decide +kernel) (by decide +kernel)
set_option maxRecDepth 20000 in
theorem gX4_init_X1_init_n23 : GoodIn wsX4_init (wsX1_init) := ggX4_init_X1_init
set_option maxRecDepth 20000 in
theorem ggX4_init_X0_init : GoodIn wsX4_init wsX0_init := goodIn_r _ [32, 33, 2, 3, 24, 34, 35, 57, 58, 59] (by decide +kernel) (by decide +kernel)
set_option maxRecDepth 20000 in
theorem gX4_init_X0_init_n30 : GoodIn wsX4_init (wsX0_init) := ggX4_init_X0_init
set_option maxRecDepth 20000 in
theorem ggX4_init_X2_init : GoodIn wsX4_init wsX2_init := goodIn_r _ [37, 38, 2, 3, 24, 39, 60, 61, 62, 63] (by decide +kernel) (by decide +kernel)
set_option maxRecDepth 20000 in
theorem gX4_init_X2_init_n41 : GoodIn wsX4_init (wsX2_init) := ggX4_init_X2_init
theorem dX4_init_0 : decode cX4_init 0 = .ok (.aload_n 0, 1) := by decide +kernel
theorem dX4_init_1 : decode cX4_init 1 = .ok (.invokespecial 5, 3) := by decide +kernel
theorem dX4_init_4 : decode cX4_init 4 = .ok (.aload_n 0, 1) := by decide +kernel
theorem dX4_init_5 : decode cX4_init 5 = .ok (.new 11, 3) := by decide +kernel
theorem dX4_init_8 : decode cX4_init 8 = .ok (.dup, 1) := by decide +kernel
theorem dX4_init_9 : decode cX4_init 9 = .ok (.invokespecial 13, 3) := by decide +kernel
theorem dX4_init_12 : decode cX4_init 12 = .ok (.putfield 14, 3) := by decide +kernel
theorem dX4_init_15 : decode cX4_init 15 = .ok (.aload_n 0, 1) := by decide +kernel
theorem dX4_init_16 : decode cX4_init 16 = .ok (.new 11, 3) := by decide +kernel
theorem dX4_init_19 : decode cX4_init 19 = .ok (.dup, 1) := by decide +kernel
theorem dX4_init_20 : decode cX4_init 20 = .ok (.invokespecial 13, 3) := by decide +kernel
theorem dX4_init_23 : decode cX4_init 23 = .ok (.putfield 18, 3) := by decide +kernel
theorem dX4_init_26 : decode cX4_init 26 = .ok (.aload_n 0, 1) := by decide +kernel
theorem dX4_init_27 : decode cX4_init 27 = .ok (.new 21, 3) := by decide +kernel
theorem dX4_init_30 : decode cX4_init 30 = .ok (.dup, 1) := by decide +kernel
theorem dX4_init_31 : decode cX4_init 31 = .ok (.invokespecial 23, 3) := by decide +kernel
theorem dX4_init_34 : decode cX4_init 34 = .ok (.putfield 24, 3) := by decide +kernel
theorem dX4_init_37 : decode cX4_init 37 = .ok (.aload_n 0, 1) := by decide +kernel
theorem dX4_init_38 : decode cX4_init 38 = .ok (.new 28, 3) := by decide +kernel
theorem dX4_init_41 : decode cX4_init 41 = .ok (.dup, 1) := by decide +kernel
theorem dX4_init_42 : decode cX4_init 42 = .ok (.invokespecial 30, 3) := by decide +kernel
theorem dX4_init_45 : decode cX4_init 45 = .ok (.putfield 31, 3) := by decide +kernel
theorem dX4_init_48 : decode cX4_init 48 = .ok (.aload_n 0, 1) := by decide +kernel
theorem dX4_init_49 : decode cX4_init 49 = .ok (.iconst 4, 1) := by decide +kernel
theorem dX4_init_50 : decode cX4_init 50 = .ok (.anewarray 35, 3) := by decide +kernel
theorem dX4_init_53 : decode cX4_init 53 = .ok (.putfield 37, 3) := by decide +kernel
theorem dX4_init_56 : decode cX4_init 56 = .ok (.iconst 0, 1) := by decide +kernel
theorem dX4_init_57 : decode cX4_init 57 = .ok (.istore_n 1, 1) := by decide +kernel
theorem dX4_init_58 : decode cX4_init 58 = .ok (.iload_n 1, 1) := by decide +kernel
theorem dX4_init_59 : decode cX4_init 59 = .ok (.aload_n 0, 1) := by decide +kernel
theorem dX4_init_60 : decode cX4_init 60 = .ok (.getfield 37, 3) := by decide +kernel
theorem dX4_init_63 : decode cX4_init 63 = .ok (.arraylength, 1) := by decide +kernel
theorem dX4_init_64 : decode cX4_init 64 = .ok (.if_icmp .ge 22, 3) := by decide +kernel
theorem dX4_init_67 : decode cX4_init 67 = .ok (.aload_n 0, 1) := by decide +kernel
theorem dX4_init_68 : decode cX4_init 68 = .ok (.getfield 37, 3) := by decide +kernel
theorem dX4_init_71 : decode cX4_init 71 = .ok (.iload_n 1, 1) := by decide +kernel
theorem dX4_init_72 : decode cX4_init 72 = .ok (.new 35, 3) := by decide +kernel
theorem dX4_init_75 : decode cX4_init 75 = .ok (.dup, 1) := by decide +kernel
theorem dX4_init_76 : decode cX4_init 76 = .ok (.invokespecial 41, 3) := by decide +kernel
theorem dX4_init_79 : decode cX4_init 79 = .ok (.aastore, 1) := by decide +kernel
theorem dX4_init_80 : decode cX4_init 80 = .ok (.iinc 1 1, 3) := by decide +kernel
theorem dX4_init_83 : decode cX4_init 83 = .ok (.goto (-25), 3) := by decide +kernel
theorem dX4_init_86 : decode cX4_init 86 = .ok (.return_, 1) := by decide +kernel
set_option maxRecDepth 20000 in
theorem ggX4_field_X4_sheetAt : GoodIn wsX4_field wsX4_sheetAt := goodIn_r _ [8, 9, 61, 62, 63, 64, 65, 66, 67] (by decide +kernel) (by decide +kernel)
set_option maxRecDepth 20000 in
theorem gX4_field_X4_sheetAt : GoodIn wsX4_field (wsV RX4 46 RX4 yX4_sheetAt wsX4_sheetAt) := goodIn_app (goodIn_of _ (by decide +kernel)) ggX4_field_X4_sheetAt
set_option maxRecDepth 20000 in
theorem ggX4_field_X4_isLane : GoodIn wsX4_field wsX4_isLane := goodIn_r _ [12] (by decide +kernel) (by decide +kernel)
set_option maxRecDepth 20000 in
theorem gX4_field_X4_isLane : GoodIn wsX4_field (va_wsS RX4 50 yX4_isLane wsX4_isLane) := goodIn_app (goodIn_of _ (by decide +kernel)) ggX4_field_X4_isLane
set_option maxRecDepth 20000 in
theorem ggX4_field_X2_faultAs : GoodIn wsX4_field wsX2_faultAs := goodIn_r _ [17, 18, 19, 74, 75, 76, 77] (by decide +kernel) (by decide +kernel)
set_option maxRecDepth 20000 in
theorem gX4_field_X2_faultAs : GoodIn wsX4_field (wsV RX4 54 RX2 yX2_faultAs wsX2_faultAs) := goodIn_app (goodIn_of _ (by decide +kernel)) ggX4_field_X2_faultAs
set_option maxRecDepth 20000 in
theorem ggX4_field_X2_holds : GoodIn wsX4_field wsX2_holds := goodIn_r _ [23, 24, 74, 75, 76, 77] (by decide +kernel) (by decide +kernel)
set_option maxRecDepth 20000 in
theorem gX4_field_X2_holds : GoodIn wsX4_field (wsV RX4 58 RX2 yX2_holds wsX2_holds) := goodIn_app (goodIn_of _ (by decide +kernel)) ggX4_field_X2_holds
set_option maxRecDepth 20000 in
theorem ggX4_field_X4_failed : GoodIn wsX4_field wsX4_failed := goodIn_r _ [28, 1, 61, 62, 63, 64, 65, 66, 67] (by decide +kernel) (by decide +kernel)
set_option maxRecDepth 20000 in
theorem gX4_field_X4_failed : GoodIn wsX4_field (wsV RX4 62 RX4 yX4_failed wsX4_failed) := goodIn_app (goodIn_of _ (by decide +kernel)) ggX4_field_X4_failed
set_option maxRecDepth 20000 in
theorem ggX4_field_X4_firstFault : GoodIn wsX4_field wsX4_firstFault := goodIn_r _ [31, 32, 33, 34, 16, 35, 36, 37, 38, 39, 40, 24, 41, 42, 7, 43, 44, 45, 46, 47, 48, 49, 74, 75, 76, 77] (by decide +kernel) (by decide +kernel)
set_option maxRecDepth 20000 in
theorem gX4_field_X4_firstFault : GoodIn wsX4_field (va_wsS RX4 65 yX4_firstFault wsX4_firstFault) := goodIn_app (goodIn_of _ (by decide +kernel)) ggX4_field_X4_firstFault
set_option maxRecDepth 20000 in
theorem ggX4_field_X4_layField : GoodIn wsX4_field wsX4_layField := goodIn_r _ [53, 2, 54, 55, 3, 56, 57, 58, 59, 60, 32, 33, 34, 16, 35, 36, 37, 38, 39, 40, 24, 47, 48, 7, 49, 61, 62, 63, 64, 65, 66, 67, 68, 69, 70, 71, 72, 73, 78, 79, 80, 74, 75, 76, 77] (by decide +kernel) (by decide +kernel)
set_option maxRecDepth 20000 in
theorem gX4_field_X4_layField : GoodIn wsX4_field (wsV RX4 69 RX4 yX4_layField wsX4_layField) := goodIn_app (goodIn_of _ (by decide +kernel)) ggX4_field_X4_layField
theorem dX4_field_0 : decode cX4_field 0 = .ok (.aload_n 0, 1) := by decide +kernel
theorem dX4_field_1 : decode cX4_field 1 = .ok (.iconst 0, 1) := by decide +kernel
theorem dX4_field_2 : decode cX4_field 2 = .ok (.putfield 42, 3) := by decide +kernel
theorem dX4_field_5 : decode cX4_field 5 = .ok (.aload_n 0, 1) := by decide +kernel
theorem dX4_field_6 : decode cX4_field 6 = .ok (.iload_n 1, 1) := by decide +kernel
theorem dX4_field_7 : decode cX4_field 7 = .ok (.invokevirtual 46, 3) := by decide +kernel
theorem dX4_field_10 : decode cX4_field 10 = .ok (.astore 5, 2) := by decide +kernel
theorem dX4_field_12 : decode cX4_field 12 = .ok (.aload 5, 2) := by decide +kernel
theorem dX4_field_14 : decode cX4_field 14 = .ok (.ifnonnull 5, 3) := by decide +kernel
theorem dX4_field_17 : decode cX4_field 17 = .ok (.iconst (-1), 1) := by decide +kernel
theorem dX4_field_18 : decode cX4_field 18 = .ok (.ireturn, 1) := by decide +kernel
theorem dX4_field_19 : decode cX4_field 19 = .ok (.iload_n 2, 1) := by decide +kernel
theorem dX4_field_20 : decode cX4_field 20 = .ok (.invokestatic 50, 3) := by decide +kernel
theorem dX4_field_23 : decode cX4_field 23 = .ok (.ifCond .ne 6, 3) := by decide +kernel
theorem dX4_field_26 : decode cX4_field 26 = .ok (.bipush (-2), 2) := by decide +kernel
theorem dX4_field_28 : decode cX4_field 28 = .ok (.ireturn, 1) := by decide +kernel
theorem dX4_field_29 : decode cX4_field 29 = .ok (.aload 5, 2) := by decide +kernel
theorem dX4_field_31 : decode cX4_field 31 = .ok (.iload_n 2, 1) := by decide +kernel
theorem dX4_field_32 : decode cX4_field 32 = .ok (.invokevirtual 54, 3) := by decide +kernel
theorem dX4_field_35 : decode cX4_field 35 = .ok (.istore 6, 2) := by decide +kernel
theorem dX4_field_37 : decode cX4_field 37 = .ok (.iload 6, 2) := by decide +kernel
theorem dX4_field_39 : decode cX4_field 39 = .ok (.ifCond .ne 11, 3) := by decide +kernel
theorem dX4_field_42 : decode cX4_field 42 = .ok (.iload 4, 2) := by decide +kernel
theorem dX4_field_44 : decode cX4_field 44 = .ok (.ifCond .ge 6, 3) := by decide +kernel
theorem dX4_field_47 : decode cX4_field 47 = .ok (.iconst 4, 1) := by decide +kernel
theorem dX4_field_48 : decode cX4_field 48 = .ok (.istore 6, 2) := by decide +kernel
theorem dX4_field_50 : decode cX4_field 50 = .ok (.iload 6, 2) := by decide +kernel
theorem dX4_field_52 : decode cX4_field 52 = .ok (.ifCond .ne 17, 3) := by decide +kernel
theorem dX4_field_55 : decode cX4_field 55 = .ok (.aload 5, 2) := by decide +kernel
theorem dX4_field_57 : decode cX4_field 57 = .ok (.iload_n 3, 1) := by decide +kernel
theorem dX4_field_58 : decode cX4_field 58 = .ok (.iload 4, 2) := by decide +kernel
theorem dX4_field_60 : decode cX4_field 60 = .ok (.invokevirtual 58, 3) := by decide +kernel
theorem dX4_field_63 : decode cX4_field 63 = .ok (.ifCond .ne 6, 3) := by decide +kernel
theorem dX4_field_66 : decode cX4_field 66 = .ok (.iconst 3, 1) := by decide +kernel
theorem dX4_field_67 : decode cX4_field 67 = .ok (.istore 6, 2) := by decide +kernel
theorem dX4_field_69 : decode cX4_field 69 = .ok (.iload 6, 2) := by decide +kernel
theorem dX4_field_71 : decode cX4_field 71 = .ok (.ifCond .eq 10, 3) := by decide +kernel
theorem dX4_field_74 : decode cX4_field 74 = .ok (.aload_n 0, 1) := by decide +kernel
theorem dX4_field_75 : decode cX4_field 75 = .ok (.iload 6, 2) := by decide +kernel
theorem dX4_field_77 : decode cX4_field 77 = .ok (.invokevirtual 62, 3) := by decide +kernel
theorem dX4_field_80 : decode cX4_field 80 = .ok (.ireturn, 1) := by decide +kernel
theorem dX4_field_81 : decode cX4_field 81 = .ok (.aload 5, 2) := by decide +kernel
theorem dX4_field_83 : decode cX4_field 83 = .ok (.iload_n 3, 1) := by decide +kernel
theorem dX4_field_84 : decode cX4_field 84 = .ok (.iload 4, 2) := by decide +kernel
theorem dX4_field_86 : decode cX4_field 86 = .ok (.invokestatic 65, 3) := by decide +kernel
theorem dX4_field_89 : decode cX4_field 89 = .ok (.istore 7, 2) := by decide +kernel
theorem dX4_field_91 : decode cX4_field 91 = .ok (.iload 7, 2) := by decide +kernel
theorem dX4_field_93 : decode cX4_field 93 = .ok (.bipush (-9), 2) := by decide +kernel
theorem dX4_field_95 : decode cX4_field 95 = .ok (.if_icmp .eq 9, 3) := by decide +kernel
theorem dX4_field_98 : decode cX4_field 98 = .ok (.bipush (-100), 2) := by decide +kernel
theorem dX4_field_100 : decode cX4_field 100 = .ok (.iload 7, 2) := by decide +kernel
theorem dX4_field_102 : decode cX4_field 102 = .ok (.isub, 1) := by decide +kernel
theorem dX4_field_103 : decode cX4_field 103 = .ok (.ireturn, 1) := by decide +kernel
theorem dX4_field_104 : decode cX4_field 104 = .ok (.aload_n 0, 1) := by decide +kernel
theorem dX4_field_105 : decode cX4_field 105 = .ok (.aload 5, 2) := by decide +kernel
theorem dX4_field_107 : decode cX4_field 107 = .ok (.iload_n 3, 1) := by decide +kernel
theorem dX4_field_108 : decode cX4_field 108 = .ok (.iload 4, 2) := by decide +kernel
theorem dX4_field_110 : decode cX4_field 110 = .ok (.invokevirtual 69, 3) := by decide +kernel
theorem dX4_field_113 : decode cX4_field 113 = .ok (.aload_n 0, 1) := by decide +kernel
theorem dX4_field_114 : decode cX4_field 114 = .ok (.getfield 14, 3) := by decide +kernel
theorem dX4_field_117 : decode cX4_field 117 = .ok (.getfield 73, 3) := by decide +kernel
theorem dX4_field_120 : decode cX4_field 120 = .ok (.ireturn, 1) := by decide +kernel
set_option maxRecDepth 20000 in
theorem ggX4_ofStander_X3_has : GoodIn wsX4_ofStander wsX3_has := goodIn_r _ [9, 10, 18, 19, 20, 21, 22, 23] (by decide +kernel) (by decide +kernel)
set_option maxRecDepth 20000 in
theorem gX4_ofStander_X3_has : GoodIn wsX4_ofStander (wsV RX4 76 RX3 yX3_has wsX3_has) := goodIn_app (goodIn_of _ (by decide +kernel)) ggX4_ofStander_X3_has
theorem dX4_ofStander_0 : decode cX4_ofStander 0 = .ok (.aload_n 0, 1) := by decide +kernel
theorem dX4_ofStander_1 : decode cX4_ofStander 1 = .ok (.getfield 14, 3) := by decide +kernel
theorem dX4_ofStander_4 : decode cX4_ofStander 4 = .ok (.iload_n 1, 1) := by decide +kernel
theorem dX4_ofStander_5 : decode cX4_ofStander 5 = .ok (.invokevirtual 76, 3) := by decide +kernel
theorem dX4_ofStander_8 : decode cX4_ofStander 8 = .ok (.ifCond .ne 5, 3) := by decide +kernel
theorem dX4_ofStander_11 : decode cX4_ofStander 11 = .ok (.iconst (-1), 1) := by decide +kernel
theorem dX4_ofStander_12 : decode cX4_ofStander 12 = .ok (.ireturn, 1) := by decide +kernel
theorem dX4_ofStander_13 : decode cX4_ofStander 13 = .ok (.iload_n 2, 1) := by decide +kernel
theorem dX4_ofStander_14 : decode cX4_ofStander 14 = .ok (.tableswitch 56 0 2 #[26, 36, 46], 26) := by decide +kernel
theorem dX4_ofStander_40 : decode cX4_ofStander 40 = .ok (.aload_n 0, 1) := by decide +kernel
theorem dX4_ofStander_41 : decode cX4_ofStander 41 = .ok (.getfield 14, 3) := by decide +kernel
theorem dX4_ofStander_44 : decode cX4_ofStander 44 = .ok (.getfield 79, 3) := by decide +kernel
theorem dX4_ofStander_47 : decode cX4_ofStander 47 = .ok (.iload_n 1, 1) := by decide +kernel
theorem dX4_ofStander_48 : decode cX4_ofStander 48 = .ok (.iaload, 1) := by decide +kernel
theorem dX4_ofStander_49 : decode cX4_ofStander 49 = .ok (.ireturn, 1) := by decide +kernel
theorem dX4_ofStander_50 : decode cX4_ofStander 50 = .ok (.aload_n 0, 1) := by decide +kernel
theorem dX4_ofStander_51 : decode cX4_ofStander 51 = .ok (.getfield 14, 3) := by decide +kernel
theorem dX4_ofStander_54 : decode cX4_ofStander 54 = .ok (.getfield 83, 3) := by decide +kernel
theorem dX4_ofStander_57 : decode cX4_ofStander 57 = .ok (.iload_n 1, 1) := by decide +kernel
theorem dX4_ofStander_58 : decode cX4_ofStander 58 = .ok (.iaload, 1) := by decide +kernel
theorem dX4_ofStander_59 : decode cX4_ofStander 59 = .ok (.ireturn, 1) := by decide +kernel
theorem dX4_ofStander_60 : decode cX4_ofStander 60 = .ok (.aload_n 0, 1) := by decide +kernel
theorem dX4_ofStander_61 : decode cX4_ofStander 61 = .ok (.getfield 14, 3) := by decide +kernel
theorem dX4_ofStander_64 : decode cX4_ofStander 64 = .ok (.getfield 86, 3) := by decide +kernel
theorem dX4_ofStander_67 : decode cX4_ofStander 67 = .ok (.iload_n 1, 1) := by decide +kernel
theorem dX4_ofStander_68 : decode cX4_ofStander 68 = .ok (.iaload, 1) := by decide +kernel
theorem dX4_ofStander_69 : decode cX4_ofStander 69 = .ok (.ireturn, 1) := by decide +kernel
theorem dX4_ofStander_70 : decode cX4_ofStander 70 = .ok (.bipush (-2), 2) := by decide +kernel
theorem dX4_ofStander_72 : decode cX4_ofStander 72 = .ok (.ireturn, 1) := by decide +kernel
set_option maxRecDepth 20000 in
theorem ggX4_walk_X3_has : GoodIn wsX4_walk wsX3_has := goodIn_r _ [7, 8, 20, 21, 22, 23, 24, 25] (by decide +kernel) (by decide +kernel)
set_option maxRecDepth 20000 in
theorem gX4_walk_X3_has : GoodIn wsX4_walk (wsV RX4 76 RX3 yX3_has wsX3_has) := goodIn_app (goodIn_of _ (by decide +kernel)) ggX4_walk_X3_has
set_option maxRecDepth 20000 in
theorem ggX4_walk_X4_isDigit : GoodIn wsX4_walk wsX4_isDigit := goodIn_r _ [12] (by decide +kernel) (by decide +kernel)
set_option maxRecDepth 20000 in
theorem gX4_walk_X4_isDigit : GoodIn wsX4_walk (va_wsS RX4 89 yX4_isDigit wsX4_isDigit) := goodIn_app (goodIn_of _ (by decide +kernel)) ggX4_walk_X4_isDigit
theorem dX4_walk_0 : decode cX4_walk 0 = .ok (.aload_n 0, 1) := by decide +kernel
theorem dX4_walk_1 : decode cX4_walk 1 = .ok (.getfield 14, 3) := by decide +kernel
theorem dX4_walk_4 : decode cX4_walk 4 = .ok (.iload_n 1, 1) := by decide +kernel
theorem dX4_walk_5 : decode cX4_walk 5 = .ok (.invokevirtual 76, 3) := by decide +kernel
theorem dX4_walk_8 : decode cX4_walk 8 = .ok (.ifCond .ne 5, 3) := by decide +kernel
theorem dX4_walk_11 : decode cX4_walk 11 = .ok (.iconst (-1), 1) := by decide +kernel
theorem dX4_walk_12 : decode cX4_walk 12 = .ok (.ireturn, 1) := by decide +kernel
theorem dX4_walk_13 : decode cX4_walk 13 = .ok (.iload_n 2, 1) := by decide +kernel
theorem dX4_walk_14 : decode cX4_walk 14 = .ok (.invokestatic 89, 3) := by decide +kernel
theorem dX4_walk_17 : decode cX4_walk 17 = .ok (.ifCond .ne 6, 3) := by decide +kernel
theorem dX4_walk_20 : decode cX4_walk 20 = .ok (.bipush (-2), 2) := by decide +kernel
theorem dX4_walk_22 : decode cX4_walk 22 = .ok (.ireturn, 1) := by decide +kernel
theorem dX4_walk_23 : decode cX4_walk 23 = .ok (.aload_n 0, 1) := by decide +kernel
theorem dX4_walk_24 : decode cX4_walk 24 = .ok (.getfield 14, 3) := by decide +kernel
theorem dX4_walk_27 : decode cX4_walk 27 = .ok (.getfield 83, 3) := by decide +kernel
theorem dX4_walk_30 : decode cX4_walk 30 = .ok (.iload_n 1, 1) := by decide +kernel
theorem dX4_walk_31 : decode cX4_walk 31 = .ok (.iaload, 1) := by decide +kernel
theorem dX4_walk_32 : decode cX4_walk 32 = .ok (.istore_n 3, 1) := by decide +kernel
theorem dX4_walk_33 : decode cX4_walk 33 = .ok (.aload_n 0, 1) := by decide +kernel
theorem dX4_walk_34 : decode cX4_walk 34 = .ok (.getfield 14, 3) := by decide +kernel
theorem dX4_walk_37 : decode cX4_walk 37 = .ok (.getfield 83, 3) := by decide +kernel
theorem dX4_walk_40 : decode cX4_walk 40 = .ok (.iload_n 1, 1) := by decide +kernel
theorem dX4_walk_41 : decode cX4_walk 41 = .ok (.iload_n 2, 1) := by decide +kernel
theorem dX4_walk_42 : decode cX4_walk 42 = .ok (.iastore, 1) := by decide +kernel
theorem dX4_walk_43 : decode cX4_walk 43 = .ok (.iload_n 3, 1) := by decide +kernel
theorem dX4_walk_44 : decode cX4_walk 44 = .ok (.ireturn, 1) := by decide +kernel
set_option maxRecDepth 20000 in
theorem ggX4_grow_X3_has : GoodIn wsX4_grow wsX3_has := goodIn_r _ [7, 8, 20, 21, 22, 23, 24, 25] (by decide +kernel) (by decide +kernel)
set_option maxRecDepth 20000 in
theorem gX4_grow_X3_has : GoodIn wsX4_grow (wsV RX4 76 RX3 yX3_has wsX3_has) := goodIn_app (goodIn_of _ (by decide +kernel)) ggX4_grow_X3_has
set_option maxRecDepth 20000 in
theorem ggX4_grow_X4_isDigit : GoodIn wsX4_grow wsX4_isDigit := goodIn_r _ [12] (by decide +kernel) (by decide +kernel)
set_option maxRecDepth 20000 in
theorem gX4_grow_X4_isDigit : GoodIn wsX4_grow (va_wsS RX4 89 yX4_isDigit wsX4_isDigit) := goodIn_app (goodIn_of _ (by decide +kernel)) ggX4_grow_X4_isDigit
theorem dX4_grow_0 : decode cX4_grow 0 = .ok (.aload_n 0, 1) := by decide +kernel
theorem dX4_grow_1 : decode cX4_grow 1 = .ok (.getfield 14, 3) := by decide +kernel
theorem dX4_grow_4 : decode cX4_grow 4 = .ok (.iload_n 1, 1) := by decide +kernel
theorem dX4_grow_5 : decode cX4_grow 5 = .ok (.invokevirtual 76, 3) := by decide +kernel
theorem dX4_grow_8 : decode cX4_grow 8 = .ok (.ifCond .ne 5, 3) := by decide +kernel
theorem dX4_grow_11 : decode cX4_grow 11 = .ok (.iconst (-1), 1) := by decide +kernel
theorem dX4_grow_12 : decode cX4_grow 12 = .ok (.ireturn, 1) := by decide +kernel
theorem dX4_grow_13 : decode cX4_grow 13 = .ok (.iload_n 2, 1) := by decide +kernel
theorem dX4_grow_14 : decode cX4_grow 14 = .ok (.invokestatic 89, 3) := by decide +kernel
theorem dX4_grow_17 : decode cX4_grow 17 = .ok (.ifCond .ne 6, 3) := by decide +kernel
theorem dX4_grow_20 : decode cX4_grow 20 = .ok (.bipush (-2), 2) := by decide +kernel
theorem dX4_grow_22 : decode cX4_grow 22 = .ok (.ireturn, 1) := by decide +kernel
theorem dX4_grow_23 : decode cX4_grow 23 = .ok (.aload_n 0, 1) := by decide +kernel
theorem dX4_grow_24 : decode cX4_grow 24 = .ok (.getfield 14, 3) := by decide +kernel
theorem dX4_grow_27 : decode cX4_grow 27 = .ok (.getfield 86, 3) := by decide +kernel
theorem dX4_grow_30 : decode cX4_grow 30 = .ok (.iload_n 1, 1) := by decide +kernel
theorem dX4_grow_31 : decode cX4_grow 31 = .ok (.iaload, 1) := by decide +kernel
theorem dX4_grow_32 : decode cX4_grow 32 = .ok (.istore_n 3, 1) := by decide +kernel
theorem dX4_grow_33 : decode cX4_grow 33 = .ok (.aload_n 0, 1) := by decide +kernel
theorem dX4_grow_34 : decode cX4_grow 34 = .ok (.getfield 14, 3) := by decide +kernel
theorem dX4_grow_37 : decode cX4_grow 37 = .ok (.getfield 86, 3) := by decide +kernel
theorem dX4_grow_40 : decode cX4_grow 40 = .ok (.iload_n 1, 1) := by decide +kernel
theorem dX4_grow_41 : decode cX4_grow 41 = .ok (.iload_n 2, 1) := by decide +kernel
theorem dX4_grow_42 : decode cX4_grow 42 = .ok (.iastore, 1) := by decide +kernel
theorem dX4_grow_43 : decode cX4_grow 43 = .ok (.iload_n 3, 1) := by decide +kernel
theorem dX4_grow_44 : decode cX4_grow 44 = .ok (.ireturn, 1) := by decide +kernel
set_option maxRecDepth 20000 in
theorem ggX4_build_X4_isDigit : GoodIn wsX4_build wsX4_isDigit := goodIn_r _ [6] (by decide +kernel) (by decide +kernel)
set_option maxRecDepth 20000 in
theorem gX4_build_X4_isDigit : GoodIn wsX4_build (va_wsS RX4 89 yX4_isDigit wsX4_isDigit) := goodIn_app (goodIn_of _ (by decide +kernel)) ggX4_build_X4_isDigit
set_option maxRecDepth 20000 in
theorem ggX4_build_X3_isLaid : GoodIn wsX4_build wsX3_isLaid := goodIn_r _ [11, 12, 20, 21, 22, 23, 24, 25] (by decide +kernel) (by decide +kernel)
set_option maxRecDepth 20000 in
theorem gX4_build_X3_isLaid : GoodIn wsX4_build (wsV RX4 92 RX3 yX3_isLaid wsX3_isLaid) := goodIn_app (goodIn_of _ (by decide +kernel)) ggX4_build_X3_isLaid
theorem dX4_build_0 : decode cX4_build 0 = .ok (.iload_n 1, 1) := by decide +kernel
theorem dX4_build_1 : decode cX4_build 1 = .ok (.invokestatic 89, 3) := by decide +kernel
theorem dX4_build_4 : decode cX4_build 4 = .ok (.ifCond .ne 6, 3) := by decide +kernel
theorem dX4_build_7 : decode cX4_build 7 = .ok (.bipush (-2), 2) := by decide +kernel
theorem dX4_build_9 : decode cX4_build 9 = .ok (.ireturn, 1) := by decide +kernel
theorem dX4_build_10 : decode cX4_build 10 = .ok (.aload_n 0, 1) := by decide +kernel
theorem dX4_build_11 : decode cX4_build 11 = .ok (.getfield 14, 3) := by decide +kernel
theorem dX4_build_14 : decode cX4_build 14 = .ok (.invokevirtual 92, 3) := by decide +kernel
theorem dX4_build_17 : decode cX4_build 17 = .ok (.ifCond .ne 6, 3) := by decide +kernel
theorem dX4_build_20 : decode cX4_build 20 = .ok (.bipush (-3), 2) := by decide +kernel
theorem dX4_build_22 : decode cX4_build 22 = .ok (.ireturn, 1) := by decide +kernel
theorem dX4_build_23 : decode cX4_build 23 = .ok (.aload_n 0, 1) := by decide +kernel
theorem dX4_build_24 : decode cX4_build 24 = .ok (.getfield 14, 3) := by decide +kernel
theorem dX4_build_27 : decode cX4_build 27 = .ok (.getfield 96, 3) := by decide +kernel
theorem dX4_build_30 : decode cX4_build 30 = .ok (.istore_n 2, 1) := by decide +kernel
theorem dX4_build_31 : decode cX4_build 31 = .ok (.aload_n 0, 1) := by decide +kernel
theorem dX4_build_32 : decode cX4_build 32 = .ok (.getfield 14, 3) := by decide +kernel
theorem dX4_build_35 : decode cX4_build 35 = .ok (.iload_n 1, 1) := by decide +kernel
theorem dX4_build_36 : decode cX4_build 36 = .ok (.putfield 96, 3) := by decide +kernel
theorem dX4_build_39 : decode cX4_build 39 = .ok (.iload_n 2, 1) := by decide +kernel
theorem dX4_build_40 : decode cX4_build 40 = .ok (.ireturn, 1) := by decide +kernel
set_option maxRecDepth 20000 in
theorem ggX4_shade_X3_has : GoodIn wsX4_shade wsX3_has := goodIn_r _ [6, 7, 30, 31, 32, 33, 34, 35] (by decide +kernel) (by decide +kernel)
set_option maxRecDepth 20000 in
theorem gX4_shade_X3_has : GoodIn wsX4_shade (wsV RX4 76 RX3 yX3_has wsX3_has) := goodIn_app (goodIn_of _ (by decide +kernel)) ggX4_shade_X3_has
set_option maxRecDepth 20000 in
theorem ggX4_shade_X4_isSun : GoodIn wsX4_shade wsX4_isSun := goodIn_r _ [11] (by decide +kernel) (by decide +kernel)
set_option maxRecDepth 20000 in
theorem gX4_shade_X4_isSun : GoodIn wsX4_shade (va_wsS RX4 99 yX4_isSun wsX4_isSun) := goodIn_app (goodIn_of _ (by decide +kernel)) ggX4_shade_X4_isSun
set_option maxRecDepth 20000 in
theorem ggX4_shade_X3_shadeOf : GoodIn wsX4_shade wsX3_shadeOf := goodIn_r _ [15, 16, 17, 18, 19, 20, 21, 22, 3, 4, 5, 6, 7, 30, 31, 32, 33, 34, 35] (by decide +kernel) (by decide +kernel)
set_option maxRecDepth 20000 in
theorem gX4_shade_X3_shadeOf : GoodIn wsX4_shade (wsV RX4 102 RX3 yX3_shadeOf wsX3_shadeOf) := goodIn_app (goodIn_of _ (by decide +kernel)) ggX4_shade_X3_shadeOf
theorem dX4_shade_0 : decode cX4_shade 0 = .ok (.aload_n 0, 1) := by decide +kernel
theorem dX4_shade_1 : decode cX4_shade 1 = .ok (.getfield 14, 3) := by decide +kernel
theorem dX4_shade_4 : decode cX4_shade 4 = .ok (.iload_n 1, 1) := by decide +kernel
theorem dX4_shade_5 : decode cX4_shade 5 = .ok (.invokevirtual 76, 3) := by decide +kernel
theorem dX4_shade_8 : decode cX4_shade 8 = .ok (.ifCond .ne 5, 3) := by decide +kernel
theorem dX4_shade_11 : decode cX4_shade 11 = .ok (.iconst (-1), 1) := by decide +kernel
theorem dX4_shade_12 : decode cX4_shade 12 = .ok (.ireturn, 1) := by decide +kernel
theorem dX4_shade_13 : decode cX4_shade 13 = .ok (.iload_n 2, 1) := by decide +kernel
theorem dX4_shade_14 : decode cX4_shade 14 = .ok (.invokestatic 99, 3) := by decide +kernel
theorem dX4_shade_17 : decode cX4_shade 17 = .ok (.ifCond .eq 15, 3) := by decide +kernel
theorem dX4_shade_20 : decode cX4_shade 20 = .ok (.aload_n 0, 1) := by decide +kernel
theorem dX4_shade_21 : decode cX4_shade 21 = .ok (.getfield 14, 3) := by decide +kernel
theorem dX4_shade_24 : decode cX4_shade 24 = .ok (.iload_n 1, 1) := by decide +kernel
theorem dX4_shade_25 : decode cX4_shade 25 = .ok (.iload_n 2, 1) := by decide +kernel
theorem dX4_shade_26 : decode cX4_shade 26 = .ok (.invokevirtual 102, 3) := by decide +kernel
theorem dX4_shade_29 : decode cX4_shade 29 = .ok (.goto 5, 3) := by decide +kernel
theorem dX4_shade_32 : decode cX4_shade 32 = .ok (.bipush (-2), 2) := by decide +kernel
theorem dX4_shade_34 : decode cX4_shade 34 = .ok (.ireturn, 1) := by decide +kernel
set_option maxRecDepth 20000 in
theorem ggX4_hidden_X4_refusalAt : GoodIn wsX4_hidden wsX4_refusalAt := goodIn_r _ [6, 1, 7, 8, 5, 9, 10, 11, 12, 13, 14, 15, 30, 31, 32, 33, 34, 35, 36, 37, 38, 39, 40, 41, 42] (by decide +kernel) (by decide +kernel)
set_option maxRecDepth 20000 in
theorem gX4_hidden_X4_refusalAt : GoodIn wsX4_hidden (wsV RX4 106 RX4 yX4_refusalAt wsX4_refusalAt) := goodIn_app (goodIn_of _ (by decide +kernel)) ggX4_hidden_X4_refusalAt
set_option maxRecDepth 20000 in
theorem ggX4_hidden_X3_hiddenSet : GoodIn wsX4_hidden wsX3_hiddenSet := goodIn_r _ [19, 20, 21, 22, 23, 13, 24, 15, 25, 26, 27, 28, 29, 37, 38, 39, 40, 41, 42] (by decide +kernel) (by decide +kernel)
set_option maxRecDepth 20000 in
theorem gX4_hidden_X3_hiddenSet : GoodIn wsX4_hidden (wsV RX4 109 RX3 yX3_hiddenSet wsX3_hiddenSet) := goodIn_app (goodIn_of _ (by decide +kernel)) ggX4_hidden_X3_hiddenSet
theorem dX4_hidden_0 : decode cX4_hidden 0 = .ok (.aload_n 0, 1) := by decide +kernel
theorem dX4_hidden_1 : decode cX4_hidden 1 = .ok (.iload_n 1, 1) := by decide +kernel
theorem dX4_hidden_2 : decode cX4_hidden 2 = .ok (.invokevirtual 106, 3) := by decide +kernel
theorem dX4_hidden_5 : decode cX4_hidden 5 = .ok (.istore_n 2, 1) := by decide +kernel
theorem dX4_hidden_6 : decode cX4_hidden 6 = .ok (.iload_n 2, 1) := by decide +kernel
theorem dX4_hidden_7 : decode cX4_hidden 7 = .ok (.ifCond .eq 7, 3) := by decide +kernel
theorem dX4_hidden_10 : decode cX4_hidden 10 = .ok (.iload_n 2, 1) := by decide +kernel
theorem dX4_hidden_11 : decode cX4_hidden 11 = .ok (.goto 11, 3) := by decide +kernel
theorem dX4_hidden_14 : decode cX4_hidden 14 = .ok (.aload_n 0, 1) := by decide +kernel
theorem dX4_hidden_15 : decode cX4_hidden 15 = .ok (.getfield 14, 3) := by decide +kernel
theorem dX4_hidden_18 : decode cX4_hidden 18 = .ok (.iload_n 1, 1) := by decide +kernel
theorem dX4_hidden_19 : decode cX4_hidden 19 = .ok (.invokevirtual 109, 3) := by decide +kernel
theorem dX4_hidden_22 : decode cX4_hidden 22 = .ok (.ireturn, 1) := by decide +kernel
set_option maxRecDepth 20000 in
theorem ggX4_census_X4_refusalAt : GoodIn wsX4_census wsX4_refusalAt := goodIn_r _ [6, 1, 7, 8, 5, 9, 10, 11, 12, 13, 14, 15, 69, 70, 71, 72, 73, 74, 75, 76, 77, 78, 79, 80, 81] (by decide +kernel) (by decide +kernel)
set_option maxRecDepth 20000 in
theorem gX4_census_X4_refusalAt : GoodIn wsX4_census (wsV RX4 106 RX4 yX4_refusalAt wsX4_refusalAt) := goodIn_app (goodIn_of _ (by decide +kernel)) ggX4_census_X4_refusalAt
set_option maxRecDepth 20000 in
theorem ggX4_census_X3_everyone : GoodIn wsX4_census wsX3_everyone := goodIn_r _ [19, 15, 76, 77, 78, 79, 80, 81] (by decide +kernel) (by decide +kernel)
set_option maxRecDepth 20000 in
theorem gX4_census_X3_everyone : GoodIn wsX4_census (wsV RX4 112 RX3 yX3_everyone wsX3_everyone) := goodIn_app (goodIn_of _ (by decide +kernel)) ggX4_census_X3_everyone
set_option maxRecDepth 20000 in
theorem ggX4_census_X4_countedOn : GoodIn wsX4_census wsX4_countedOn := goodIn_r _ [23, 24, 25, 26, 27, 28, 29, 13, 30, 31, 32, 33, 34, 35, 36, 37, 38, 39, 15, 40, 41, 42, 43, 44, 45, 46, 47, 48, 49, 50, 51, 52, 53, 54, 55, 56, 57, 58, 59, 60, 61, 62, 63, 64, 65, 66, 67, 68, 69, 70, 71, 72, 73, 74, 75, 76, 77, 78, 79, 80, 81, 82, 83, 84, 85] (by decide +kernel) (by decide +kernel)
set_option maxRecDepth 20000 in
theorem gX4_census_X4_countedOn : GoodIn wsX4_census (wsV RX4 116 RX4 yX4_countedOn wsX4_countedOn) := goodIn_app (goodIn_of _ (by decide +kernel)) ggX4_census_X4_countedOn
theorem dX4_census_0 : decode cX4_census 0 = .ok (.aload_n 0, 1) := by decide +kernel
theorem dX4_census_1 : decode cX4_census 1 = .ok (.iload_n 1, 1) := by decide +kernel
theorem dX4_census_2 : decode cX4_census 2 = .ok (.invokevirtual 106, 3) := by decide +kernel
theorem dX4_census_5 : decode cX4_census 5 = .ok (.istore_n 2, 1) := by decide +kernel
theorem dX4_census_6 : decode cX4_census 6 = .ok (.iload_n 2, 1) := by decide +kernel
theorem dX4_census_7 : decode cX4_census 7 = .ok (.ifCond .eq 7, 3) := by decide +kernel
theorem dX4_census_10 : decode cX4_census 10 = .ok (.iload_n 2, 1) := by decide +kernel
theorem dX4_census_11 : decode cX4_census 11 = .ok (.goto 19, 3) := by decide +kernel
theorem dX4_census_14 : decode cX4_census 14 = .ok (.aload_n 0, 1) := by decide +kernel
theorem dX4_census_15 : decode cX4_census 15 = .ok (.aload_n 0, 1) := by decide +kernel
theorem dX4_census_16 : decode cX4_census 16 = .ok (.getfield 14, 3) := by decide +kernel
theorem dX4_census_19 : decode cX4_census 19 = .ok (.iload_n 1, 1) := by decide +kernel
theorem dX4_census_20 : decode cX4_census 20 = .ok (.aload_n 0, 1) := by decide +kernel
theorem dX4_census_21 : decode cX4_census 21 = .ok (.getfield 14, 3) := by decide +kernel
theorem dX4_census_24 : decode cX4_census 24 = .ok (.invokevirtual 112, 3) := by decide +kernel
theorem dX4_census_27 : decode cX4_census 27 = .ok (.invokevirtual 116, 3) := by decide +kernel
theorem dX4_census_30 : decode cX4_census 30 = .ok (.ireturn, 1) := by decide +kernel
set_option maxRecDepth 20000 in
theorem ggX4_runs_X4_refusalAt : GoodIn wsX4_runs wsX4_refusalAt := goodIn_r _ [11, 2, 12, 13, 10, 14, 15, 16, 17, 18, 19, 20, 67, 68, 69, 70, 71, 72, 73, 74, 75, 76, 77, 78, 79] (by decide +kernel) (by decide +kernel)
set_option maxRecDepth 20000 in
theorem gX4_runs_X4_refusalAt : GoodIn wsX4_runs (wsV RX4 106 RX4 yX4_refusalAt wsX4_refusalAt) := goodIn_app (goodIn_of _ (by decide +kernel)) ggX4_runs_X4_refusalAt
set_option maxRecDepth 20000 in
theorem ggX4_runs_X3_everyone : GoodIn wsX4_runs wsX3_everyone := goodIn_r _ [24, 20, 74, 75, 76, 77, 78, 79] (by decide +kernel) (by decide +kernel)
set_option maxRecDepth 20000 in
theorem gX4_runs_X3_everyone : GoodIn wsX4_runs (wsV RX4 112 RX3 yX3_everyone wsX3_everyone) := goodIn_app (goodIn_of _ (by decide +kernel)) ggX4_runs_X3_everyone
set_option maxRecDepth 20000 in
theorem ggX4_runs_X3_darkFeet : GoodIn wsX4_runs wsX3_darkFeet := goodIn_r _ [28, 29, 30, 31, 32, 18, 33, 34, 35, 36, 37, 20, 38, 39, 40, 41, 42, 43, 44, 45, 46, 47, 48, 49, 50, 51, 52, 74, 75, 76, 77, 78, 79] (by decide +kernel) (by decide +kernel)
set_option maxRecDepth 20000 in
theorem gX4_runs_X3_darkFeet : GoodIn wsX4_runs (wsV RX4 120 RX3 yX3_darkFeet wsX3_darkFeet) := goodIn_app (goodIn_of _ (by decide +kernel)) ggX4_runs_X3_darkFeet
set_option maxRecDepth 20000 in
theorem ggX4_runs_X1_measure : GoodIn wsX4_runs wsX1_measure := goodIn_r _ [57, 58, 59, 60, 61, 62, 63, 64, 56, 65, 66, 50, 51, 52, 80, 81, 82, 83] (by decide +kernel) (by decide +kernel)
set_option maxRecDepth 20000 in
theorem gX4_runs_X1_measure : GoodIn wsX4_runs (wsV RX4 127 RX1 yX1_measure wsX1_measure) := goodIn_app (goodIn_of _ (by decide +kernel)) ggX4_runs_X1_measure
theorem dX4_runs_0 : decode cX4_runs 0 = .ok (.iload_n 2, 1) := by decide +kernel
theorem dX4_runs_1 : decode cX4_runs 1 = .ok (.ifCond .lt 8, 3) := by decide +kernel
theorem dX4_runs_4 : decode cX4_runs 4 = .ok (.iload_n 2, 1) := by decide +kernel
theorem dX4_runs_5 : decode cX4_runs 5 = .ok (.iconst 2, 1) := by decide +kernel
theorem dX4_runs_6 : decode cX4_runs 6 = .ok (.if_icmp .le 6, 3) := by decide +kernel
theorem dX4_runs_9 : decode cX4_runs 9 = .ok (.bipush (-2), 2) := by decide +kernel
theorem dX4_runs_11 : decode cX4_runs 11 = .ok (.ireturn, 1) := by decide +kernel
theorem dX4_runs_12 : decode cX4_runs 12 = .ok (.aload_n 0, 1) := by decide +kernel
theorem dX4_runs_13 : decode cX4_runs 13 = .ok (.iload_n 1, 1) := by decide +kernel
theorem dX4_runs_14 : decode cX4_runs 14 = .ok (.invokevirtual 106, 3) := by decide +kernel
theorem dX4_runs_17 : decode cX4_runs 17 = .ok (.istore_n 3, 1) := by decide +kernel
theorem dX4_runs_18 : decode cX4_runs 18 = .ok (.iload_n 3, 1) := by decide +kernel
theorem dX4_runs_19 : decode cX4_runs 19 = .ok (.ifCond .eq 5, 3) := by decide +kernel
theorem dX4_runs_22 : decode cX4_runs 22 = .ok (.iload_n 3, 1) := by decide +kernel
theorem dX4_runs_23 : decode cX4_runs 23 = .ok (.ireturn, 1) := by decide +kernel
theorem dX4_runs_24 : decode cX4_runs 24 = .ok (.aload_n 0, 1) := by decide +kernel
theorem dX4_runs_25 : decode cX4_runs 25 = .ok (.getfield 24, 3) := by decide +kernel
theorem dX4_runs_28 : decode cX4_runs 28 = .ok (.aload_n 0, 1) := by decide +kernel
theorem dX4_runs_29 : decode cX4_runs 29 = .ok (.getfield 14, 3) := by decide +kernel
theorem dX4_runs_32 : decode cX4_runs 32 = .ok (.iload_n 1, 1) := by decide +kernel
theorem dX4_runs_33 : decode cX4_runs 33 = .ok (.aload_n 0, 1) := by decide +kernel
theorem dX4_runs_34 : decode cX4_runs 34 = .ok (.getfield 14, 3) := by decide +kernel
theorem dX4_runs_37 : decode cX4_runs 37 = .ok (.invokevirtual 112, 3) := by decide +kernel
theorem dX4_runs_40 : decode cX4_runs 40 = .ok (.invokevirtual 120, 3) := by decide +kernel
theorem dX4_runs_43 : decode cX4_runs 43 = .ok (.aload_n 0, 1) := by decide +kernel
theorem dX4_runs_44 : decode cX4_runs 44 = .ok (.getfield 14, 3) := by decide +kernel
theorem dX4_runs_47 : decode cX4_runs 47 = .ok (.getfield 124, 3) := by decide +kernel
theorem dX4_runs_50 : decode cX4_runs 50 = .ok (.invokevirtual 127, 3) := by decide +kernel
theorem dX4_runs_53 : decode cX4_runs 53 = .ok (.iload_n 2, 1) := by decide +kernel
theorem dX4_runs_54 : decode cX4_runs 54 = .ok (.lookupswitch 42 #[(0, 26), (1, 34)], 26) := by decide +kernel
theorem dX4_runs_80 : decode cX4_runs 80 = .ok (.aload_n 0, 1) := by decide +kernel
theorem dX4_runs_81 : decode cX4_runs 81 = .ok (.getfield 24, 3) := by decide +kernel
theorem dX4_runs_84 : decode cX4_runs 84 = .ok (.getfield 131, 3) := by decide +kernel
theorem dX4_runs_87 : decode cX4_runs 87 = .ok (.ireturn, 1) := by decide +kernel
theorem dX4_runs_88 : decode cX4_runs 88 = .ok (.aload_n 0, 1) := by decide +kernel
theorem dX4_runs_89 : decode cX4_runs 89 = .ok (.getfield 24, 3) := by decide +kernel
theorem dX4_runs_92 : decode cX4_runs 92 = .ok (.getfield 134, 3) := by decide +kernel
theorem dX4_runs_95 : decode cX4_runs 95 = .ok (.ireturn, 1) := by decide +kernel
theorem dX4_runs_96 : decode cX4_runs 96 = .ok (.aload_n 0, 1) := by decide +kernel
theorem dX4_runs_97 : decode cX4_runs 97 = .ok (.getfield 24, 3) := by decide +kernel
theorem dX4_runs_100 : decode cX4_runs 100 = .ok (.getfield 137, 3) := by decide +kernel
theorem dX4_runs_103 : decode cX4_runs 103 = .ok (.ireturn, 1) := by decide +kernel
set_option maxRecDepth 20000 in
theorem ggX4_fair_X3_isLaid : GoodIn wsX4_fair wsX3_isLaid := goodIn_r _ [6, 7, 77, 78, 79, 80, 81, 82] (by decide +kernel) (by decide +kernel)
set_option maxRecDepth 20000 in
theorem gX4_fair_X3_isLaid : GoodIn wsX4_fair (wsV RX4 92 RX3 yX3_isLaid wsX3_isLaid) := goodIn_app (goodIn_of _ (by decide +kernel)) ggX4_fair_X3_isLaid
set_option maxRecDepth 20000 in
theorem ggX4_fair_X4_offAt : GoodIn wsX4_fair wsX4_offAt := goodIn_r _ [12, 1, 13, 14, 15, 16, 17, 18, 19, 20, 5, 21, 7, 22, 23, 24, 11, 25, 26, 27, 28, 29, 30, 31, 32, 33, 34, 35, 36, 37, 38, 39, 40, 41, 42, 43, 44, 45, 46, 47, 48, 49, 50, 51, 52, 53, 54, 55, 56, 57, 58, 59, 60, 61, 62, 63, 64, 65, 66, 67, 68, 69, 70, 71, 72, 73, 74, 75, 76, 77, 78, 79, 80, 81, 82, 83, 84, 85, 86] (by decide +kernel) (by decide +kernel)
set_option maxRecDepth 20000 in
theorem gX4_fair_X4_offAt : GoodIn wsX4_fair (wsV RX4 140 RX4 yX4_offAt wsX4_offAt) := goodIn_app (goodIn_of _ (by decide +kernel)) ggX4_fair_X4_offAt
theorem dX4_fair_0 : decode cX4_fair 0 = .ok (.aload_n 0, 1) := by decide +kernel
theorem dX4_fair_1 : decode cX4_fair 1 = .ok (.getfield 14, 3) := by decide +kernel
theorem dX4_fair_4 : decode cX4_fair 4 = .ok (.invokevirtual 92, 3) := by decide +kernel
theorem dX4_fair_7 : decode cX4_fair 7 = .ok (.ifCond .ne 6, 3) := by decide +kernel
theorem dX4_fair_10 : decode cX4_fair 10 = .ok (.bipush (-3), 2) := by decide +kernel
theorem dX4_fair_12 : decode cX4_fair 12 = .ok (.ireturn, 1) := by decide +kernel
theorem dX4_fair_13 : decode cX4_fair 13 = .ok (.iconst 1, 1) := by decide +kernel
theorem dX4_fair_14 : decode cX4_fair 14 = .ok (.istore_n 1, 1) := by decide +kernel
theorem dX4_fair_15 : decode cX4_fair 15 = .ok (.aload_n 0, 1) := by decide +kernel
theorem dX4_fair_16 : decode cX4_fair 16 = .ok (.iconst 1, 1) := by decide +kernel
theorem dX4_fair_17 : decode cX4_fair 17 = .ok (.invokevirtual 140, 3) := by decide +kernel
theorem dX4_fair_20 : decode cX4_fair 20 = .ok (.istore_n 2, 1) := by decide +kernel
theorem dX4_fair_21 : decode cX4_fair 21 = .ok (.iconst 2, 1) := by decide +kernel
theorem dX4_fair_22 : decode cX4_fair 22 = .ok (.istore_n 3, 1) := by decide +kernel
theorem dX4_fair_23 : decode cX4_fair 23 = .ok (.iload_n 3, 1) := by decide +kernel
theorem dX4_fair_24 : decode cX4_fair 24 = .ok (.iconst 3, 1) := by decide +kernel
theorem dX4_fair_25 : decode cX4_fair 25 = .ok (.if_icmp .gt 27, 3) := by decide +kernel
theorem dX4_fair_28 : decode cX4_fair 28 = .ok (.aload_n 0, 1) := by decide +kernel
theorem dX4_fair_29 : decode cX4_fair 29 = .ok (.iload_n 3, 1) := by decide +kernel
theorem dX4_fair_30 : decode cX4_fair 30 = .ok (.invokevirtual 140, 3) := by decide +kernel
theorem dX4_fair_33 : decode cX4_fair 33 = .ok (.istore 4, 2) := by decide +kernel
theorem dX4_fair_35 : decode cX4_fair 35 = .ok (.iload 4, 2) := by decide +kernel
theorem dX4_fair_37 : decode cX4_fair 37 = .ok (.iload_n 2, 1) := by decide +kernel
theorem dX4_fair_38 : decode cX4_fair 38 = .ok (.if_icmp .ge 8, 3) := by decide +kernel
theorem dX4_fair_41 : decode cX4_fair 41 = .ok (.iload_n 3, 1) := by decide +kernel
theorem dX4_fair_42 : decode cX4_fair 42 = .ok (.istore_n 1, 1) := by decide +kernel
theorem dX4_fair_43 : decode cX4_fair 43 = .ok (.iload 4, 2) := by decide +kernel
theorem dX4_fair_45 : decode cX4_fair 45 = .ok (.istore_n 2, 1) := by decide +kernel
theorem dX4_fair_46 : decode cX4_fair 46 = .ok (.iinc 3 1, 3) := by decide +kernel
theorem dX4_fair_49 : decode cX4_fair 49 = .ok (.goto (-26), 3) := by decide +kernel
theorem dX4_fair_52 : decode cX4_fair 52 = .ok (.iload_n 1, 1) := by decide +kernel
theorem dX4_fair_53 : decode cX4_fair 53 = .ok (.ireturn, 1) := by decide +kernel
set_option maxRecDepth 20000 in
theorem ggX4_walks_X4_sheetAt : GoodIn wsX4_walks wsX4_sheetAt := goodIn_r _ [7, 8, 133, 134, 135, 136, 137, 138, 139] (by decide +kernel) (by decide +kernel)
set_option maxRecDepth 20000 in
theorem gX4_walks_X4_sheetAt : GoodIn wsX4_walks (wsV RX4 46 RX4 yX4_sheetAt wsX4_sheetAt) := goodIn_app (goodIn_of _ (by decide +kernel)) ggX4_walks_X4_sheetAt
set_option maxRecDepth 20000 in
theorem ggX4_walks_X4_isSun : GoodIn wsX4_walks wsX4_isSun := goodIn_r _ [11] (by decide +kernel) (by decide +kernel)
set_option maxRecDepth 20000 in
theorem gX4_walks_X4_isSun : GoodIn wsX4_walks (va_wsS RX4 99 yX4_isSun wsX4_isSun) := goodIn_app (goodIn_of _ (by decide +kernel)) ggX4_walks_X4_isSun
set_option maxRecDepth 20000 in
theorem ggX4_walks_X4_isLane : GoodIn wsX4_walks wsX4_isLane := goodIn_r _ [14] (by decide +kernel) (by decide +kernel)
set_option maxRecDepth 20000 in
theorem gX4_walks_X4_isLane : GoodIn wsX4_walks (va_wsS RX4 50 yX4_isLane wsX4_isLane) := goodIn_app (goodIn_of _ (by decide +kernel)) ggX4_walks_X4_isLane
set_option maxRecDepth 20000 in
theorem ggX4_walks_X4_isAskedOfWalks : GoodIn wsX4_walks wsX4_isAskedOfWalks := goodIn_r _ [17] (by decide +kernel) (by decide +kernel)
set_option maxRecDepth 20000 in
theorem gX4_walks_X4_isAskedOfWalks : GoodIn wsX4_walks (va_wsS RX4 143 yX4_isAskedOfWalks wsX4_isAskedOfWalks) := goodIn_app (goodIn_of _ (by decide +kernel)) ggX4_walks_X4_isAskedOfWalks
set_option maxRecDepth 20000 in
theorem ggX4_walks_X2_faultAs : GoodIn wsX4_walks wsX2_faultAs := goodIn_r _ [22, 23, 24, 140, 141, 142, 143] (by decide +kernel) (by decide +kernel)
set_option maxRecDepth 20000 in
theorem gX4_walks_X2_faultAs : GoodIn wsX4_walks (wsV RX4 54 RX2 yX2_faultAs wsX2_faultAs) := goodIn_app (goodIn_of _ (by decide +kernel)) ggX4_walks_X2_faultAs
set_option maxRecDepth 20000 in
theorem ggX4_walks_X2_holds : GoodIn wsX4_walks wsX2_holds := goodIn_r _ [28, 29, 140, 141, 142, 143] (by decide +kernel) (by decide +kernel)
set_option maxRecDepth 20000 in
theorem gX4_walks_X2_holds : GoodIn wsX4_walks (wsV RX4 58 RX2 yX2_holds wsX2_holds) := goodIn_app (goodIn_of _ (by decide +kernel)) ggX4_walks_X2_holds
set_option maxRecDepth 20000 in
theorem ggX4_walks_X4_failed : GoodIn wsX4_walks wsX4_failed := goodIn_r _ [33, 1, 133, 134, 135, 136, 137, 138, 139] (by decide +kernel) (by decide +kernel)
set_option maxRecDepth 20000 in
theorem gX4_walks_X4_failed : GoodIn wsX4_walks (wsV RX4 62 RX4 yX4_failed wsX4_failed) := goodIn_app (goodIn_of _ (by decide +kernel)) ggX4_walks_X4_failed
set_option maxRecDepth 20000 in
theorem ggX4_walks_X3_isLaid : GoodIn wsX4_walks wsX3_isLaid := goodIn_r _ [38, 39, 144, 145, 146, 147, 148, 149] (by decide +kernel) (by decide +kernel)
set_option maxRecDepth 20000 in
theorem gX4_walks_X3_isLaid : GoodIn wsX4_walks (wsV RX4 92 RX3 yX3_isLaid wsX3_isLaid) := goodIn_app (goodIn_of _ (by decide +kernel)) ggX4_walks_X3_isLaid
set_option maxRecDepth 20000 in
theorem ggX4_walks_X4_refusalOfPairs : GoodIn wsX4_walks wsX4_refusalOfPairs := goodIn_r _ [43, 2, 44, 45, 46, 21, 47, 48, 49, 50, 51, 52, 29, 53, 54, 55, 37, 56, 39, 57, 58, 6, 59, 133, 134, 135, 136, 137, 138, 139, 140, 141, 142, 143, 144, 145, 146, 147, 148, 149] (by decide +kernel) (by decide +kernel)
set_option maxRecDepth 20000 in
theorem gX4_walks_X4_refusalOfPairs : GoodIn wsX4_walks (wsV RX4 146 RX4 yX4_refusalOfPairs wsX4_refusalOfPairs) := goodIn_app (goodIn_of _ (by decide +kernel)) ggX4_walks_X4_refusalOfPairs
set_option maxRecDepth 20000 in
theorem ggX4_walks_X4_walkOnTrial : GoodIn wsX4_walks wsX4_walkOnTrial := goodIn_r _ [63, 64, 2, 65, 66, 67, 68, 69, 70, 71, 72, 37, 73, 74, 75, 76, 39, 77, 78, 44, 45, 46, 21, 47, 48, 49, 50, 51, 52, 29, 53, 54, 55, 56, 79, 80, 81, 82, 83, 133, 134, 135, 136, 137, 138, 139, 144, 145, 146, 147, 148, 149, 140, 141, 142, 143] (by decide +kernel) (by decide +kernel)
set_option maxRecDepth 20000 in
theorem gX4_walks_X4_walkOnTrial : GoodIn wsX4_walks (wsV RX4 149 RX4 yX4_walkOnTrial wsX4_walkOnTrial) := goodIn_app (goodIn_of _ (by decide +kernel)) ggX4_walks_X4_walkOnTrial
set_option maxRecDepth 20000 in
theorem ggX4_walks_X4_behindWalks : GoodIn wsX4_walks wsX4_behindWalks := goodIn_r _ [87, 64, 65, 88, 89, 90, 37, 91, 39, 92, 93, 94, 6, 95, 96, 97, 98, 99, 100, 101, 102, 75, 103, 104, 105, 106, 83, 54, 55, 56, 107, 108, 109, 110, 78, 111, 112, 113, 114, 76, 74, 115, 116, 68, 117, 118, 119, 120, 121, 122, 123, 124, 125, 126, 127, 128, 129, 130, 131, 132, 53, 133, 134, 135, 136, 137, 138, 139, 144, 145, 146, 147, 148, 149, 150, 151, 152, 153] (by decide +kernel) (by decide +kernel)
set_option maxRecDepth 20000 in
theorem gX4_walks_X4_behindWalks : GoodIn wsX4_walks (wsV RX4 152 RX4 yX4_behindWalks wsX4_behindWalks) := goodIn_app (goodIn_of _ (by decide +kernel)) ggX4_walks_X4_behindWalks
theorem dX4_walks_0 : decode cX4_walks 0 = .ok (.aload_n 0, 1) := by decide +kernel
theorem dX4_walks_1 : decode cX4_walks 1 = .ok (.iconst 0, 1) := by decide +kernel
theorem dX4_walks_2 : decode cX4_walks 2 = .ok (.putfield 42, 3) := by decide +kernel
theorem dX4_walks_5 : decode cX4_walks 5 = .ok (.aload_n 0, 1) := by decide +kernel
theorem dX4_walks_6 : decode cX4_walks 6 = .ok (.iload_n 2, 1) := by decide +kernel
theorem dX4_walks_7 : decode cX4_walks 7 = .ok (.invokevirtual 46, 3) := by decide +kernel
theorem dX4_walks_10 : decode cX4_walks 10 = .ok (.astore 7, 2) := by decide +kernel
theorem dX4_walks_12 : decode cX4_walks 12 = .ok (.aload 7, 2) := by decide +kernel
theorem dX4_walks_14 : decode cX4_walks 14 = .ok (.ifnonnull 5, 3) := by decide +kernel
theorem dX4_walks_17 : decode cX4_walks 17 = .ok (.iconst (-1), 1) := by decide +kernel
theorem dX4_walks_18 : decode cX4_walks 18 = .ok (.ireturn, 1) := by decide +kernel
theorem dX4_walks_19 : decode cX4_walks 19 = .ok (.iload_n 1, 1) := by decide +kernel
theorem dX4_walks_20 : decode cX4_walks 20 = .ok (.invokestatic 99, 3) := by decide +kernel
theorem dX4_walks_23 : decode cX4_walks 23 = .ok (.ifCond .eq 30, 3) := by decide +kernel
theorem dX4_walks_26 : decode cX4_walks 26 = .ok (.iload_n 3, 1) := by decide +kernel
theorem dX4_walks_27 : decode cX4_walks 27 = .ok (.invokestatic 50, 3) := by decide +kernel
theorem dX4_walks_30 : decode cX4_walks 30 = .ok (.ifCond .eq 23, 3) := by decide +kernel
theorem dX4_walks_33 : decode cX4_walks 33 = .ok (.iload 5, 2) := by decide +kernel
theorem dX4_walks_35 : decode cX4_walks 35 = .ok (.ifCond .lt 18, 3) := by decide +kernel
theorem dX4_walks_38 : decode cX4_walks 38 = .ok (.iload 5, 2) := by decide +kernel
theorem dX4_walks_40 : decode cX4_walks 40 = .ok (.bipush 20, 2) := by decide +kernel
theorem dX4_walks_42 : decode cX4_walks 42 = .ok (.if_icmp .gt 11, 3) := by decide +kernel
theorem dX4_walks_45 : decode cX4_walks 45 = .ok (.iload 6, 2) := by decide +kernel
theorem dX4_walks_47 : decode cX4_walks 47 = .ok (.invokestatic 143, 3) := by decide +kernel
theorem dX4_walks_50 : decode cX4_walks 50 = .ok (.ifCond .ne 6, 3) := by decide +kernel
theorem dX4_walks_53 : decode cX4_walks 53 = .ok (.bipush (-2), 2) := by decide +kernel
theorem dX4_walks_55 : decode cX4_walks 55 = .ok (.ireturn, 1) := by decide +kernel
theorem dX4_walks_56 : decode cX4_walks 56 = .ok (.aload 7, 2) := by decide +kernel
theorem dX4_walks_58 : decode cX4_walks 58 = .ok (.iload_n 3, 1) := by decide +kernel
theorem dX4_walks_59 : decode cX4_walks 59 = .ok (.invokevirtual 54, 3) := by decide +kernel
theorem dX4_walks_62 : decode cX4_walks 62 = .ok (.istore 8, 2) := by decide +kernel
theorem dX4_walks_64 : decode cX4_walks 64 = .ok (.iload 8, 2) := by decide +kernel
theorem dX4_walks_66 : decode cX4_walks 66 = .ok (.ifCond .ne 20, 3) := by decide +kernel
theorem dX4_walks_69 : decode cX4_walks 69 = .ok (.aload 7, 2) := by decide +kernel
theorem dX4_walks_71 : decode cX4_walks 71 = .ok (.iload 4, 2) := by decide +kernel
theorem dX4_walks_73 : decode cX4_walks 73 = .ok (.iconst 2, 1) := by decide +kernel
theorem dX4_walks_74 : decode cX4_walks 74 = .ok (.iload 5, 2) := by decide +kernel
theorem dX4_walks_76 : decode cX4_walks 76 = .ok (.imul, 1) := by decide +kernel
theorem dX4_walks_77 : decode cX4_walks 77 = .ok (.invokevirtual 58, 3) := by decide +kernel
theorem dX4_walks_80 : decode cX4_walks 80 = .ok (.ifCond .ne 6, 3) := by decide +kernel
theorem dX4_walks_83 : decode cX4_walks 83 = .ok (.iconst 3, 1) := by decide +kernel
theorem dX4_walks_84 : decode cX4_walks 84 = .ok (.istore 8, 2) := by decide +kernel
theorem dX4_walks_86 : decode cX4_walks 86 = .ok (.iload 8, 2) := by decide +kernel
theorem dX4_walks_88 : decode cX4_walks 88 = .ok (.ifCond .eq 10, 3) := by decide +kernel
theorem dX4_walks_91 : decode cX4_walks 91 = .ok (.aload_n 0, 1) := by decide +kernel
theorem dX4_walks_92 : decode cX4_walks 92 = .ok (.iload 8, 2) := by decide +kernel
theorem dX4_walks_94 : decode cX4_walks 94 = .ok (.invokevirtual 62, 3) := by decide +kernel
theorem dX4_walks_97 : decode cX4_walks 97 = .ok (.ireturn, 1) := by decide +kernel
theorem dX4_walks_98 : decode cX4_walks 98 = .ok (.aload_n 0, 1) := by decide +kernel
theorem dX4_walks_99 : decode cX4_walks 99 = .ok (.getfield 14, 3) := by decide +kernel
theorem dX4_walks_102 : decode cX4_walks 102 = .ok (.invokevirtual 92, 3) := by decide +kernel
theorem dX4_walks_105 : decode cX4_walks 105 = .ok (.ifCond .ne 6, 3) := by decide +kernel
theorem dX4_walks_108 : decode cX4_walks 108 = .ok (.bipush (-3), 2) := by decide +kernel
theorem dX4_walks_110 : decode cX4_walks 110 = .ok (.ireturn, 1) := by decide +kernel
theorem dX4_walks_111 : decode cX4_walks 111 = .ok (.aload_n 0, 1) := by decide +kernel
theorem dX4_walks_112 : decode cX4_walks 112 = .ok (.aload 7, 2) := by decide +kernel
theorem dX4_walks_114 : decode cX4_walks 114 = .ok (.iload 4, 2) := by decide +kernel
theorem dX4_walks_116 : decode cX4_walks 116 = .ok (.iload 5, 2) := by decide +kernel
theorem dX4_walks_118 : decode cX4_walks 118 = .ok (.invokevirtual 146, 3) := by decide +kernel
theorem dX4_walks_121 : decode cX4_walks 121 = .ok (.istore 9, 2) := by decide +kernel
theorem dX4_walks_123 : decode cX4_walks 123 = .ok (.iload 9, 2) := by decide +kernel
theorem dX4_walks_125 : decode cX4_walks 125 = .ok (.ifCond .eq 6, 3) := by decide +kernel
theorem dX4_walks_128 : decode cX4_walks 128 = .ok (.iload 9, 2) := by decide +kernel
theorem dX4_walks_130 : decode cX4_walks 130 = .ok (.ireturn, 1) := by decide +kernel
theorem dX4_walks_131 : decode cX4_walks 131 = .ok (.aload_n 0, 1) := by decide +kernel
theorem dX4_walks_132 : decode cX4_walks 132 = .ok (.iload_n 1, 1) := by decide +kernel
theorem dX4_walks_133 : decode cX4_walks 133 = .ok (.aload_n 0, 1) := by decide +kernel
theorem dX4_walks_134 : decode cX4_walks 134 = .ok (.aload 7, 2) := by decide +kernel
theorem dX4_walks_136 : decode cX4_walks 136 = .ok (.iload 4, 2) := by decide +kernel
theorem dX4_walks_138 : decode cX4_walks 138 = .ok (.iload 5, 2) := by decide +kernel
theorem dX4_walks_140 : decode cX4_walks 140 = .ok (.invokevirtual 149, 3) := by decide +kernel
theorem dX4_walks_143 : decode cX4_walks 143 = .ok (.iload 6, 2) := by decide +kernel
theorem dX4_walks_145 : decode cX4_walks 145 = .ok (.invokevirtual 152, 3) := by decide +kernel
theorem dX4_walks_148 : decode cX4_walks 148 = .ok (.ireturn, 1) := by decide +kernel
set_option maxRecDepth 20000 in
theorem ggX4_pair_X3_has : GoodIn wsX4_pair wsX3_has := goodIn_r _ [8, 9, 77, 78, 79, 80, 81, 82] (by decide +kernel) (by decide +kernel)
set_option maxRecDepth 20000 in
theorem gX4_pair_X3_has : GoodIn wsX4_pair (wsV RX4 76 RX3 yX3_has wsX3_has) := goodIn_app (goodIn_of _ (by decide +kernel)) ggX4_pair_X3_has
set_option maxRecDepth 20000 in
theorem ggX4_pair_X4_isSun : GoodIn wsX4_pair wsX4_isSun := goodIn_r _ [13] (by decide +kernel) (by decide +kernel)
set_option maxRecDepth 20000 in
theorem gX4_pair_X4_isSun : GoodIn wsX4_pair (va_wsS RX4 99 yX4_isSun wsX4_isSun) := goodIn_app (goodIn_of _ (by decide +kernel)) ggX4_pair_X4_isSun
set_option maxRecDepth 20000 in
theorem ggX4_pair_X3_becomeLike : GoodIn wsX4_pair wsX3_becomeLike := goodIn_r _ [17, 18, 19, 20, 9, 21, 22, 77, 78, 79, 80, 81, 82] (by decide +kernel) (by decide +kernel)
set_option maxRecDepth 20000 in
theorem gX4_pair_X3_becomeLike : GoodIn wsX4_pair (wsV RX4 156 RX3 yX3_becomeLike wsX3_becomeLike) := goodIn_app (goodIn_of _ (by decide +kernel)) ggX4_pair_X3_becomeLike
set_option maxRecDepth 20000 in
theorem ggX4_pair_X3_firstLitFoot : GoodIn wsX4_pair wsX3_firstLitFoot := goodIn_r _ [26, 22, 77, 78, 79, 80, 81, 82] (by decide +kernel) (by decide +kernel)
set_option maxRecDepth 20000 in
theorem gX4_pair_X3_firstLitFoot : GoodIn wsX4_pair (wsV RX4 160 RX3 yX3_firstLitFoot wsX3_firstLitFoot) := goodIn_app (goodIn_of _ (by decide +kernel)) ggX4_pair_X3_firstLitFoot
set_option maxRecDepth 20000 in
theorem ggX4_pair_X3_everyone : GoodIn wsX4_pair wsX3_everyone := goodIn_r _ [30, 9, 77, 78, 79, 80, 81, 82] (by decide +kernel) (by decide +kernel)
set_option maxRecDepth 20000 in
theorem gX4_pair_X3_everyone : GoodIn wsX4_pair (wsV RX4 112 RX3 yX3_everyone wsX3_everyone) := goodIn_app (goodIn_of _ (by decide +kernel)) ggX4_pair_X3_everyone
set_option maxRecDepth 20000 in
theorem ggX4_pair_X4_countedOn : GoodIn wsX4_pair wsX4_countedOn := goodIn_r _ [34, 35, 36, 37, 38, 39, 40, 7, 41, 19, 42, 43, 44, 45, 46, 5, 6, 8, 9, 47, 24, 25, 26, 22, 48, 49, 50, 51, 20, 18, 52, 53, 54, 55, 56, 57, 58, 59, 60, 61, 62, 63, 64, 65, 66, 67, 68, 69, 70, 71, 72, 73, 74, 75, 76, 77, 78, 79, 80, 81, 82, 83, 84, 85, 86] (by decide +kernel) (by decide +kernel)
set_option maxRecDepth 20000 in
theorem gX4_pair_X4_countedOn : GoodIn wsX4_pair (wsV RX4 116 RX4 yX4_countedOn wsX4_countedOn) := goodIn_app (goodIn_of _ (by decide +kernel)) ggX4_pair_X4_countedOn
theorem dX4_pair_0 : decode cX4_pair 0 = .ok (.aload_n 0, 1) := by decide +kernel
theorem dX4_pair_1 : decode cX4_pair 1 = .ok (.getfield 14, 3) := by decide +kernel
theorem dX4_pair_4 : decode cX4_pair 4 = .ok (.iload_n 1, 1) := by decide +kernel
theorem dX4_pair_5 : decode cX4_pair 5 = .ok (.invokevirtual 76, 3) := by decide +kernel
theorem dX4_pair_8 : decode cX4_pair 8 = .ok (.ifCond .eq 19, 3) := by decide +kernel
theorem dX4_pair_11 : decode cX4_pair 11 = .ok (.aload_n 0, 1) := by decide +kernel
theorem dX4_pair_12 : decode cX4_pair 12 = .ok (.getfield 14, 3) := by decide +kernel
theorem dX4_pair_15 : decode cX4_pair 15 = .ok (.iload_n 2, 1) := by decide +kernel
theorem dX4_pair_16 : decode cX4_pair 16 = .ok (.invokevirtual 76, 3) := by decide +kernel
theorem dX4_pair_19 : decode cX4_pair 19 = .ok (.ifCond .eq 8, 3) := by decide +kernel
theorem dX4_pair_22 : decode cX4_pair 22 = .ok (.iload_n 1, 1) := by decide +kernel
theorem dX4_pair_23 : decode cX4_pair 23 = .ok (.iload_n 2, 1) := by decide +kernel
theorem dX4_pair_24 : decode cX4_pair 24 = .ok (.if_icmp .ne 5, 3) := by decide +kernel
theorem dX4_pair_27 : decode cX4_pair 27 = .ok (.iconst (-1), 1) := by decide +kernel
theorem dX4_pair_28 : decode cX4_pair 28 = .ok (.ireturn, 1) := by decide +kernel
theorem dX4_pair_29 : decode cX4_pair 29 = .ok (.iload_n 3, 1) := by decide +kernel
theorem dX4_pair_30 : decode cX4_pair 30 = .ok (.invokestatic 99, 3) := by decide +kernel
theorem dX4_pair_33 : decode cX4_pair 33 = .ok (.ifCond .eq 14, 3) := by decide +kernel
theorem dX4_pair_36 : decode cX4_pair 36 = .ok (.iload 4, 2) := by decide +kernel
theorem dX4_pair_38 : decode cX4_pair 38 = .ok (.ifCond .lt 9, 3) := by decide +kernel
theorem dX4_pair_41 : decode cX4_pair 41 = .ok (.iload 4, 2) := by decide +kernel
theorem dX4_pair_43 : decode cX4_pair 43 = .ok (.iconst 2, 1) := by decide +kernel
theorem dX4_pair_44 : decode cX4_pair 44 = .ok (.if_icmp .le 6, 3) := by decide +kernel
theorem dX4_pair_47 : decode cX4_pair 47 = .ok (.bipush (-2), 2) := by decide +kernel
theorem dX4_pair_49 : decode cX4_pair 49 = .ok (.ireturn, 1) := by decide +kernel
theorem dX4_pair_50 : decode cX4_pair 50 = .ok (.aload_n 0, 1) := by decide +kernel
theorem dX4_pair_51 : decode cX4_pair 51 = .ok (.getfield 18, 3) := by decide +kernel
theorem dX4_pair_54 : decode cX4_pair 54 = .ok (.aload_n 0, 1) := by decide +kernel
theorem dX4_pair_55 : decode cX4_pair 55 = .ok (.getfield 14, 3) := by decide +kernel
theorem dX4_pair_58 : decode cX4_pair 58 = .ok (.invokevirtual 156, 3) := by decide +kernel
theorem dX4_pair_61 : decode cX4_pair 61 = .ok (.bipush (-9), 2) := by decide +kernel
theorem dX4_pair_63 : decode cX4_pair 63 = .ok (.istore 5, 2) := by decide +kernel
theorem dX4_pair_65 : decode cX4_pair 65 = .ok (.bipush (-9), 2) := by decide +kernel
theorem dX4_pair_67 : decode cX4_pair 67 = .ok (.istore 6, 2) := by decide +kernel
theorem dX4_pair_69 : decode cX4_pair 69 = .ok (.bipush (-9), 2) := by decide +kernel
theorem dX4_pair_71 : decode cX4_pair 71 = .ok (.istore 7, 2) := by decide +kernel
theorem dX4_pair_73 : decode cX4_pair 73 = .ok (.aload_n 0, 1) := by decide +kernel
theorem dX4_pair_74 : decode cX4_pair 74 = .ok (.getfield 14, 3) := by decide +kernel
theorem dX4_pair_77 : decode cX4_pair 77 = .ok (.iload_n 3, 1) := by decide +kernel
theorem dX4_pair_78 : decode cX4_pair 78 = .ok (.invokevirtual 160, 3) := by decide +kernel
theorem dX4_pair_81 : decode cX4_pair 81 = .ok (.istore 8, 2) := by decide +kernel
theorem dX4_pair_83 : decode cX4_pair 83 = .ok (.iload 8, 2) := by decide +kernel
theorem dX4_pair_85 : decode cX4_pair 85 = .ok (.bipush 9, 2) := by decide +kernel
theorem dX4_pair_87 : decode cX4_pair 87 = .ok (.if_icmp .gt 98, 3) := by decide +kernel
theorem dX4_pair_90 : decode cX4_pair 90 = .ok (.aload_n 0, 1) := by decide +kernel
theorem dX4_pair_91 : decode cX4_pair 91 = .ok (.getfield 14, 3) := by decide +kernel
theorem dX4_pair_94 : decode cX4_pair 94 = .ok (.iload_n 3, 1) := by decide +kernel
theorem dX4_pair_95 : decode cX4_pair 95 = .ok (.invokevirtual 160, 3) := by decide +kernel
theorem dX4_pair_98 : decode cX4_pair 98 = .ok (.istore 9, 2) := by decide +kernel
theorem dX4_pair_100 : decode cX4_pair 100 = .ok (.iload 9, 2) := by decide +kernel
theorem dX4_pair_102 : decode cX4_pair 102 = .ok (.bipush 9, 2) := by decide +kernel
theorem dX4_pair_104 : decode cX4_pair 104 = .ok (.if_icmp .gt 75, 3) := by decide +kernel
theorem dX4_pair_107 : decode cX4_pair 107 = .ok (.aload_n 0, 1) := by decide +kernel
theorem dX4_pair_108 : decode cX4_pair 108 = .ok (.getfield 18, 3) := by decide +kernel
theorem dX4_pair_111 : decode cX4_pair 111 = .ok (.getfield 83, 3) := by decide +kernel
theorem dX4_pair_114 : decode cX4_pair 114 = .ok (.iload_n 1, 1) := by decide +kernel
theorem dX4_pair_115 : decode cX4_pair 115 = .ok (.iload 8, 2) := by decide +kernel
theorem dX4_pair_117 : decode cX4_pair 117 = .ok (.iastore, 1) := by decide +kernel
theorem dX4_pair_118 : decode cX4_pair 118 = .ok (.aload_n 0, 1) := by decide +kernel
theorem dX4_pair_119 : decode cX4_pair 119 = .ok (.getfield 18, 3) := by decide +kernel
theorem dX4_pair_122 : decode cX4_pair 122 = .ok (.getfield 83, 3) := by decide +kernel
theorem dX4_pair_125 : decode cX4_pair 125 = .ok (.iload_n 2, 1) := by decide +kernel
theorem dX4_pair_126 : decode cX4_pair 126 = .ok (.iload 9, 2) := by decide +kernel
theorem dX4_pair_128 : decode cX4_pair 128 = .ok (.iastore, 1) := by decide +kernel
theorem dX4_pair_129 : decode cX4_pair 129 = .ok (.aload_n 0, 1) := by decide +kernel
theorem dX4_pair_130 : decode cX4_pair 130 = .ok (.aload_n 0, 1) := by decide +kernel
theorem dX4_pair_131 : decode cX4_pair 131 = .ok (.getfield 18, 3) := by decide +kernel
theorem dX4_pair_134 : decode cX4_pair 134 = .ok (.iload_n 3, 1) := by decide +kernel
theorem dX4_pair_135 : decode cX4_pair 135 = .ok (.aload_n 0, 1) := by decide +kernel
theorem dX4_pair_136 : decode cX4_pair 136 = .ok (.getfield 18, 3) := by decide +kernel
theorem dX4_pair_139 : decode cX4_pair 139 = .ok (.invokevirtual 112, 3) := by decide +kernel
theorem dX4_pair_142 : decode cX4_pair 142 = .ok (.invokevirtual 116, 3) := by decide +kernel
theorem dX4_pair_145 : decode cX4_pair 145 = .ok (.istore 10, 2) := by decide +kernel
theorem dX4_pair_147 : decode cX4_pair 147 = .ok (.iload 5, 2) := by decide +kernel
theorem dX4_pair_149 : decode cX4_pair 149 = .ok (.bipush (-9), 2) := by decide +kernel
theorem dX4_pair_151 : decode cX4_pair 151 = .ok (.if_icmp .eq 10, 3) := by decide +kernel
theorem dX4_pair_154 : decode cX4_pair 154 = .ok (.iload 10, 2) := by decide +kernel
theorem dX4_pair_156 : decode cX4_pair 156 = .ok (.iload 5, 2) := by decide +kernel
theorem dX4_pair_158 : decode cX4_pair 158 = .ok (.if_icmp .ge 15, 3) := by decide +kernel
theorem dX4_pair_161 : decode cX4_pair 161 = .ok (.iload 10, 2) := by decide +kernel
theorem dX4_pair_163 : decode cX4_pair 163 = .ok (.istore 5, 2) := by decide +kernel
theorem dX4_pair_165 : decode cX4_pair 165 = .ok (.iload 8, 2) := by decide +kernel
theorem dX4_pair_167 : decode cX4_pair 167 = .ok (.istore 6, 2) := by decide +kernel
theorem dX4_pair_169 : decode cX4_pair 169 = .ok (.iload 9, 2) := by decide +kernel
theorem dX4_pair_171 : decode cX4_pair 171 = .ok (.istore 7, 2) := by decide +kernel
theorem dX4_pair_173 : decode cX4_pair 173 = .ok (.iinc 9 1, 3) := by decide +kernel
theorem dX4_pair_176 : decode cX4_pair 176 = .ok (.goto (-76), 3) := by decide +kernel
theorem dX4_pair_179 : decode cX4_pair 179 = .ok (.iinc 8 1, 3) := by decide +kernel
theorem dX4_pair_182 : decode cX4_pair 182 = .ok (.goto (-99), 3) := by decide +kernel
theorem dX4_pair_185 : decode cX4_pair 185 = .ok (.iload 4, 2) := by decide +kernel
theorem dX4_pair_187 : decode cX4_pair 187 = .ok (.lookupswitch 31 #[(0, 25), (1, 28)], 25) := by decide +kernel
theorem dX4_pair_212 : decode cX4_pair 212 = .ok (.iload 5, 2) := by decide +kernel
theorem dX4_pair_214 : decode cX4_pair 214 = .ok (.ireturn, 1) := by decide +kernel
theorem dX4_pair_215 : decode cX4_pair 215 = .ok (.iload 6, 2) := by decide +kernel
theorem dX4_pair_217 : decode cX4_pair 217 = .ok (.ireturn, 1) := by decide +kernel
theorem dX4_pair_218 : decode cX4_pair 218 = .ok (.iload 7, 2) := by decide +kernel
theorem dX4_pair_220 : decode cX4_pair 220 = .ok (.ireturn, 1) := by decide +kernel
set_option maxRecDepth 20000 in
theorem ggX4_send_X4_refusalOfCount : GoodIn wsX4_send wsX4_refusalOfCount := goodIn_r _ [6, 7, 8, 9, 5, 10, 1, 11, 12, 13, 14, 15, 16, 17, 18, 19, 80, 81, 82, 83, 84, 85, 86, 87, 88, 89, 90, 91, 92] (by decide +kernel) (by decide +kernel)
set_option maxRecDepth 20000 in
theorem gX4_send_X4_refusalOfCount : GoodIn wsX4_send (wsV RX4 163 RX4 yX4_refusalOfCount wsX4_refusalOfCount) := goodIn_app (goodIn_of _ (by decide +kernel)) ggX4_send_X4_refusalOfCount
set_option maxRecDepth 20000 in
theorem ggX4_send_X3_everyone : GoodIn wsX4_send wsX3_everyone := goodIn_r _ [23, 19, 87, 88, 89, 90, 91, 92] (by decide +kernel) (by decide +kernel)
set_option maxRecDepth 20000 in
theorem gX4_send_X3_everyone : GoodIn wsX4_send (wsV RX4 112 RX3 yX3_everyone wsX3_everyone) := goodIn_app (goodIn_of _ (by decide +kernel)) ggX4_send_X3_everyone
set_option maxRecDepth 20000 in
theorem ggX4_send_J6_bitCount_0f7a4 : GoodIn wsX4_send wsJ6_bitCount_0f7a4 := goodIn_r _ [27, 28, 29, 30] (by decide +kernel) (by decide +kernel)
set_option maxRecDepth 20000 in
theorem gX4_send_J6_bitCount_0f7a4 : GoodIn wsX4_send (va_wsS RX4 166 yJ6_bitCount_0f7a4 wsJ6_bitCount_0f7a4) := goodIn_app (goodIn_of _ (by decide +kernel)) ggX4_send_J6_bitCount_0f7a4
set_option maxRecDepth 20000 in
theorem ggX4_send_X4_countedOn : GoodIn wsX4_send wsX4_countedOn := goodIn_r _ [34, 35, 36, 37, 38, 39, 40, 17, 41, 42, 43, 44, 45, 46, 47, 48, 49, 50, 19, 51, 52, 53, 54, 55, 56, 57, 58, 59, 60, 61, 62, 63, 64, 65, 66, 67, 68, 69, 70, 71, 72, 73, 74, 75, 76, 77, 78, 79, 80, 81, 82, 83, 84, 85, 86, 87, 88, 89, 90, 91, 92, 93, 94, 95, 96] (by decide +kernel) (by decide +kernel)
set_option maxRecDepth 20000 in
theorem gX4_send_X4_countedOn : GoodIn wsX4_send (wsV RX4 116 RX4 yX4_countedOn wsX4_countedOn) := goodIn_app (goodIn_of _ (by decide +kernel)) ggX4_send_X4_countedOn
theorem dX4_send_0 : decode cX4_send 0 = .ok (.aload_n 0, 1) := by decide +kernel
theorem dX4_send_1 : decode cX4_send 1 = .ok (.iload_n 1, 1) := by decide +kernel
theorem dX4_send_2 : decode cX4_send 2 = .ok (.iload_n 2, 1) := by decide +kernel
theorem dX4_send_3 : decode cX4_send 3 = .ok (.invokevirtual 163, 3) := by decide +kernel
theorem dX4_send_6 : decode cX4_send 6 = .ok (.istore_n 3, 1) := by decide +kernel
theorem dX4_send_7 : decode cX4_send 7 = .ok (.iload_n 3, 1) := by decide +kernel
theorem dX4_send_8 : decode cX4_send 8 = .ok (.ifCond .eq 5, 3) := by decide +kernel
theorem dX4_send_11 : decode cX4_send 11 = .ok (.iload_n 3, 1) := by decide +kernel
theorem dX4_send_12 : decode cX4_send 12 = .ok (.ireturn, 1) := by decide +kernel
theorem dX4_send_13 : decode cX4_send 13 = .ok (.aload_n 0, 1) := by decide +kernel
theorem dX4_send_14 : decode cX4_send 14 = .ok (.getfield 14, 3) := by decide +kernel
theorem dX4_send_17 : decode cX4_send 17 = .ok (.invokevirtual 112, 3) := by decide +kernel
theorem dX4_send_20 : decode cX4_send 20 = .ok (.istore 4, 2) := by decide +kernel
theorem dX4_send_22 : decode cX4_send 22 = .ok (.bipush (-9), 2) := by decide +kernel
theorem dX4_send_24 : decode cX4_send 24 = .ok (.istore 5, 2) := by decide +kernel
theorem dX4_send_26 : decode cX4_send 26 = .ok (.iconst 0, 1) := by decide +kernel
theorem dX4_send_27 : decode cX4_send 27 = .ok (.istore 6, 2) := by decide +kernel
theorem dX4_send_29 : decode cX4_send 29 = .ok (.iload 6, 2) := by decide +kernel
theorem dX4_send_31 : decode cX4_send 31 = .ok (.iload 4, 2) := by decide +kernel
theorem dX4_send_33 : decode cX4_send 33 = .ok (.if_icmp .gt 65, 3) := by decide +kernel
theorem dX4_send_36 : decode cX4_send 36 = .ok (.iload 5, 2) := by decide +kernel
theorem dX4_send_38 : decode cX4_send 38 = .ok (.bipush (-9), 2) := by decide +kernel
theorem dX4_send_40 : decode cX4_send 40 = .ok (.if_icmp .eq 16, 3) := by decide +kernel
theorem dX4_send_43 : decode cX4_send 43 = .ok (.iload 6, 2) := by decide +kernel
theorem dX4_send_45 : decode cX4_send 45 = .ok (.invokestatic 166, 3) := by decide +kernel
theorem dX4_send_48 : decode cX4_send 48 = .ok (.iload 5, 2) := by decide +kernel
theorem dX4_send_50 : decode cX4_send 50 = .ok (.invokestatic 166, 3) := by decide +kernel
theorem dX4_send_53 : decode cX4_send 53 = .ok (.if_icmp .ge 7, 3) := by decide +kernel
theorem dX4_send_56 : decode cX4_send 56 = .ok (.iconst 1, 1) := by decide +kernel
theorem dX4_send_57 : decode cX4_send 57 = .ok (.goto 4, 3) := by decide +kernel
theorem dX4_send_60 : decode cX4_send 60 = .ok (.iconst 0, 1) := by decide +kernel
theorem dX4_send_61 : decode cX4_send 61 = .ok (.istore 7, 2) := by decide +kernel
theorem dX4_send_63 : decode cX4_send 63 = .ok (.iload 7, 2) := by decide +kernel
theorem dX4_send_65 : decode cX4_send 65 = .ok (.ifCond .eq 27, 3) := by decide +kernel
theorem dX4_send_68 : decode cX4_send 68 = .ok (.aload_n 0, 1) := by decide +kernel
theorem dX4_send_69 : decode cX4_send 69 = .ok (.aload_n 0, 1) := by decide +kernel
theorem dX4_send_70 : decode cX4_send 70 = .ok (.getfield 14, 3) := by decide +kernel
theorem dX4_send_73 : decode cX4_send 73 = .ok (.iload_n 1, 1) := by decide +kernel
theorem dX4_send_74 : decode cX4_send 74 = .ok (.iload 4, 2) := by decide +kernel
theorem dX4_send_76 : decode cX4_send 76 = .ok (.iload 6, 2) := by decide +kernel
theorem dX4_send_78 : decode cX4_send 78 = .ok (.iconst (-1), 1) := by decide +kernel
theorem dX4_send_79 : decode cX4_send 79 = .ok (.ixor, 1) := by decide +kernel
theorem dX4_send_80 : decode cX4_send 80 = .ok (.iand, 1) := by decide +kernel
theorem dX4_send_81 : decode cX4_send 81 = .ok (.invokevirtual 116, 3) := by decide +kernel
theorem dX4_send_84 : decode cX4_send 84 = .ok (.iload_n 2, 1) := by decide +kernel
theorem dX4_send_85 : decode cX4_send 85 = .ok (.if_icmp .ne 7, 3) := by decide +kernel
theorem dX4_send_88 : decode cX4_send 88 = .ok (.iload 6, 2) := by decide +kernel
theorem dX4_send_90 : decode cX4_send 90 = .ok (.istore 5, 2) := by decide +kernel
theorem dX4_send_92 : decode cX4_send 92 = .ok (.iinc 6 1, 3) := by decide +kernel
theorem dX4_send_95 : decode cX4_send 95 = .ok (.goto (-66), 3) := by decide +kernel
theorem dX4_send_98 : decode cX4_send 98 = .ok (.iload 5, 2) := by decide +kernel
theorem dX4_send_100 : decode cX4_send 100 = .ok (.ireturn, 1) := by decide +kernel
set_option maxRecDepth 20000 in
theorem ggX4_reading_X4_refusalOfCount : GoodIn wsX4_reading wsX4_refusalOfCount := goodIn_r _ [7, 8, 9, 10, 6, 11, 12, 13, 14, 15, 16, 17, 18, 19, 20, 21, 30, 31, 32, 33, 34, 35, 36, 40, 41, 42, 43, 44, 45] (by decide +kernel) (by decide +kernel)
set_option maxRecDepth 20000 in
theorem gX4_reading_X4_refusalOfCount : GoodIn wsX4_reading (wsV RX4 163 RX4 yX4_refusalOfCount wsX4_refusalOfCount) := goodIn_app (goodIn_of _ (by decide +kernel)) ggX4_reading_X4_refusalOfCount
set_option maxRecDepth 20000 in
theorem ggX4_reading_X0_note : GoodIn wsX4_reading wsX0_note := goodIn_r _ [26, 27, 28, 29, 37, 38, 39] (by decide +kernel) (by decide +kernel)
set_option maxRecDepth 20000 in
theorem gX4_reading_X0_note : GoodIn wsX4_reading (wsV RX4 174 RX0 yX0_note wsX0_note) := goodIn_app (goodIn_of _ (by decide +kernel)) ggX4_reading_X0_note
theorem dX4_reading_0 : decode cX4_reading 0 = .ok (.aload_n 0, 1) := by decide +kernel
theorem dX4_reading_1 : decode cX4_reading 1 = .ok (.iload_n 1, 1) := by decide +kernel
theorem dX4_reading_2 : decode cX4_reading 2 = .ok (.iload_n 2, 1) := by decide +kernel
theorem dX4_reading_3 : decode cX4_reading 3 = .ok (.invokevirtual 163, 3) := by decide +kernel
theorem dX4_reading_6 : decode cX4_reading 6 = .ok (.istore_n 3, 1) := by decide +kernel
theorem dX4_reading_7 : decode cX4_reading 7 = .ok (.iload_n 3, 1) := by decide +kernel
theorem dX4_reading_8 : decode cX4_reading 8 = .ok (.ifCond .eq 5, 3) := by decide +kernel
theorem dX4_reading_11 : decode cX4_reading 11 = .ok (.iload_n 3, 1) := by decide +kernel
theorem dX4_reading_12 : decode cX4_reading 12 = .ok (.ireturn, 1) := by decide +kernel
theorem dX4_reading_13 : decode cX4_reading 13 = .ok (.aload_n 0, 1) := by decide +kernel
theorem dX4_reading_14 : decode cX4_reading 14 = .ok (.getfield 31, 3) := by decide +kernel
theorem dX4_reading_17 : decode cX4_reading 17 = .ok (.getfield 171, 3) := by decide +kernel
theorem dX4_reading_20 : decode cX4_reading 20 = .ok (.istore 4, 2) := by decide +kernel
theorem dX4_reading_22 : decode cX4_reading 22 = .ok (.aload_n 0, 1) := by decide +kernel
theorem dX4_reading_23 : decode cX4_reading 23 = .ok (.getfield 31, 3) := by decide +kernel
theorem dX4_reading_26 : decode cX4_reading 26 = .ok (.iload_n 1, 1) := by decide +kernel
theorem dX4_reading_27 : decode cX4_reading 27 = .ok (.iload_n 2, 1) := by decide +kernel
theorem dX4_reading_28 : decode cX4_reading 28 = .ok (.invokevirtual 174, 3) := by decide +kernel
theorem dX4_reading_31 : decode cX4_reading 31 = .ok (.ifCond .eq 8, 3) := by decide +kernel
theorem dX4_reading_34 : decode cX4_reading 34 = .ok (.iload 4, 2) := by decide +kernel
theorem dX4_reading_36 : decode cX4_reading 36 = .ok (.goto 5, 3) := by decide +kernel
theorem dX4_reading_39 : decode cX4_reading 39 = .ok (.bipush (-4), 2) := by decide +kernel
theorem dX4_reading_41 : decode cX4_reading 41 = .ok (.ireturn, 1) := by decide +kernel
theorem dX4_back_0 : decode cX4_back 0 = .ok (.iload_n 1, 1) := by decide +kernel
theorem dX4_back_1 : decode cX4_back 1 = .ok (.ifCond .lt 14, 3) := by decide +kernel
theorem dX4_back_4 : decode cX4_back 4 = .ok (.iload_n 1, 1) := by decide +kernel
theorem dX4_back_5 : decode cX4_back 5 = .ok (.aload_n 0, 1) := by decide +kernel
theorem dX4_back_6 : decode cX4_back 6 = .ok (.getfield 31, 3) := by decide +kernel
theorem dX4_back_9 : decode cX4_back 9 = .ok (.getfield 171, 3) := by decide +kernel
theorem dX4_back_12 : decode cX4_back 12 = .ok (.if_icmp .le 6, 3) := by decide +kernel
theorem dX4_back_15 : decode cX4_back 15 = .ok (.bipush (-2), 2) := by decide +kernel
theorem dX4_back_17 : decode cX4_back 17 = .ok (.ireturn, 1) := by decide +kernel
theorem dX4_back_18 : decode cX4_back 18 = .ok (.aload_n 0, 1) := by decide +kernel
theorem dX4_back_19 : decode cX4_back 19 = .ok (.getfield 31, 3) := by decide +kernel
theorem dX4_back_22 : decode cX4_back 22 = .ok (.dup, 1) := by decide +kernel
theorem dX4_back_23 : decode cX4_back 23 = .ok (.getfield 171, 3) := by decide +kernel
theorem dX4_back_26 : decode cX4_back 26 = .ok (.iload_n 1, 1) := by decide +kernel
theorem dX4_back_27 : decode cX4_back 27 = .ok (.isub, 1) := by decide +kernel
theorem dX4_back_28 : decode cX4_back 28 = .ok (.putfield 171, 3) := by decide +kernel
theorem dX4_back_31 : decode cX4_back 31 = .ok (.aload_n 0, 1) := by decide +kernel
theorem dX4_back_32 : decode cX4_back 32 = .ok (.getfield 31, 3) := by decide +kernel
theorem dX4_back_35 : decode cX4_back 35 = .ok (.getfield 171, 3) := by decide +kernel
theorem dX4_back_38 : decode cX4_back 38 = .ok (.ireturn, 1) := by decide +kernel
set_option maxRecDepth 20000 in
theorem ggX4_heights_X3_has : GoodIn wsX4_heights wsX3_has := goodIn_r _ [8, 9, 81, 82, 83, 84, 85, 86] (by decide +kernel) (by decide +kernel)
set_option maxRecDepth 20000 in
theorem gX4_heights_X3_has : GoodIn wsX4_heights (wsV RX4 76 RX3 yX3_has wsX3_has) := goodIn_app (goodIn_of _ (by decide +kernel)) ggX4_heights_X3_has
set_option maxRecDepth 20000 in
theorem ggX4_heights_X3_becomeLike : GoodIn wsX4_heights wsX3_becomeLike := goodIn_r _ [13, 14, 15, 16, 9, 17, 18, 81, 82, 83, 84, 85, 86] (by decide +kernel) (by decide +kernel)
set_option maxRecDepth 20000 in
theorem gX4_heights_X3_becomeLike : GoodIn wsX4_heights (wsV RX4 156 RX3 yX3_becomeLike wsX3_becomeLike) := goodIn_app (goodIn_of _ (by decide +kernel)) ggX4_heights_X3_becomeLike
set_option maxRecDepth 20000 in
theorem ggX4_heights_X4_areReadingsSoOnTrial : GoodIn wsX4_heights wsX4_areReadingsSoOnTrial := goodIn_r _ [23, 24, 25, 2, 26, 27, 28, 29, 30, 7, 31, 9, 32, 33, 34, 22, 35, 36, 37, 38, 39, 40, 41, 42, 15, 43, 44, 45, 46, 47, 5, 6, 8, 48, 49, 50, 51, 18, 52, 53, 54, 55, 16, 14, 56, 57, 58, 59, 60, 61, 62, 63, 64, 65, 66, 67, 68, 69, 70, 71, 72, 73, 74, 75, 76, 77, 78, 79, 80, 87, 88, 89, 81, 82, 83, 84, 85, 86, 90, 91, 92, 93] (by decide +kernel) (by decide +kernel)
set_option maxRecDepth 20000 in
theorem gX4_heights_X4_areReadingsSoOnTrial : GoodIn wsX4_heights (wsV RX4 177 RX4 yX4_areReadingsSoOnTrial wsX4_areReadingsSoOnTrial) := goodIn_app (goodIn_of _ (by decide +kernel)) ggX4_heights_X4_areReadingsSoOnTrial
theorem dX4_heights_0 : decode cX4_heights 0 = .ok (.aload_n 0, 1) := by decide +kernel
theorem dX4_heights_1 : decode cX4_heights 1 = .ok (.getfield 14, 3) := by decide +kernel
theorem dX4_heights_4 : decode cX4_heights 4 = .ok (.iload_n 1, 1) := by decide +kernel
theorem dX4_heights_5 : decode cX4_heights 5 = .ok (.invokevirtual 76, 3) := by decide +kernel
theorem dX4_heights_8 : decode cX4_heights 8 = .ok (.ifCond .ne 5, 3) := by decide +kernel
theorem dX4_heights_11 : decode cX4_heights 11 = .ok (.iconst (-1), 1) := by decide +kernel
theorem dX4_heights_12 : decode cX4_heights 12 = .ok (.ireturn, 1) := by decide +kernel
theorem dX4_heights_13 : decode cX4_heights 13 = .ok (.aload_n 0, 1) := by decide +kernel
theorem dX4_heights_14 : decode cX4_heights 14 = .ok (.getfield 18, 3) := by decide +kernel
theorem dX4_heights_17 : decode cX4_heights 17 = .ok (.aload_n 0, 1) := by decide +kernel
theorem dX4_heights_18 : decode cX4_heights 18 = .ok (.getfield 14, 3) := by decide +kernel
theorem dX4_heights_21 : decode cX4_heights 21 = .ok (.invokevirtual 156, 3) := by decide +kernel
theorem dX4_heights_24 : decode cX4_heights 24 = .ok (.iconst 0, 1) := by decide +kernel
theorem dX4_heights_25 : decode cX4_heights 25 = .ok (.istore_n 2, 1) := by decide +kernel
theorem dX4_heights_26 : decode cX4_heights 26 = .ok (.iconst 0, 1) := by decide +kernel
theorem dX4_heights_27 : decode cX4_heights 27 = .ok (.istore_n 3, 1) := by decide +kernel
theorem dX4_heights_28 : decode cX4_heights 28 = .ok (.iload_n 3, 1) := by decide +kernel
theorem dX4_heights_29 : decode cX4_heights 29 = .ok (.bipush 9, 2) := by decide +kernel
theorem dX4_heights_31 : decode cX4_heights 31 = .ok (.if_icmp .gt 32, 3) := by decide +kernel
theorem dX4_heights_34 : decode cX4_heights 34 = .ok (.aload_n 0, 1) := by decide +kernel
theorem dX4_heights_35 : decode cX4_heights 35 = .ok (.getfield 18, 3) := by decide +kernel
theorem dX4_heights_38 : decode cX4_heights 38 = .ok (.getfield 86, 3) := by decide +kernel
theorem dX4_heights_41 : decode cX4_heights 41 = .ok (.iload_n 1, 1) := by decide +kernel
theorem dX4_heights_42 : decode cX4_heights 42 = .ok (.iload_n 3, 1) := by decide +kernel
theorem dX4_heights_43 : decode cX4_heights 43 = .ok (.iastore, 1) := by decide +kernel
theorem dX4_heights_44 : decode cX4_heights 44 = .ok (.aload_n 0, 1) := by decide +kernel
theorem dX4_heights_45 : decode cX4_heights 45 = .ok (.invokevirtual 177, 3) := by decide +kernel
theorem dX4_heights_48 : decode cX4_heights 48 = .ok (.ifCond .eq 9, 3) := by decide +kernel
theorem dX4_heights_51 : decode cX4_heights 51 = .ok (.iload_n 2, 1) := by decide +kernel
theorem dX4_heights_52 : decode cX4_heights 52 = .ok (.iconst 1, 1) := by decide +kernel
theorem dX4_heights_53 : decode cX4_heights 53 = .ok (.iload_n 3, 1) := by decide +kernel
theorem dX4_heights_54 : decode cX4_heights 54 = .ok (.ishl, 1) := by decide +kernel
theorem dX4_heights_55 : decode cX4_heights 55 = .ok (.ior, 1) := by decide +kernel
theorem dX4_heights_56 : decode cX4_heights 56 = .ok (.istore_n 2, 1) := by decide +kernel
theorem dX4_heights_57 : decode cX4_heights 57 = .ok (.iinc 3 1, 3) := by decide +kernel
theorem dX4_heights_60 : decode cX4_heights 60 = .ok (.goto (-32), 3) := by decide +kernel
theorem dX4_heights_63 : decode cX4_heights 63 = .ok (.iload_n 2, 1) := by decide +kernel
theorem dX4_heights_64 : decode cX4_heights 64 = .ok (.ireturn, 1) := by decide +kernel
set_option maxRecDepth 20000 in
theorem ggX4_kinds_X3_has : GoodIn wsX4_kinds wsX3_has := goodIn_r _ [8, 9, 81, 82, 83, 84, 85, 86] (by decide +kernel) (by decide +kernel)
set_option maxRecDepth 20000 in
theorem gX4_kinds_X3_has : GoodIn wsX4_kinds (wsV RX4 76 RX3 yX3_has wsX3_has) := goodIn_app (goodIn_of _ (by decide +kernel)) ggX4_kinds_X3_has
set_option maxRecDepth 20000 in
theorem ggX4_kinds_X3_becomeLike : GoodIn wsX4_kinds wsX3_becomeLike := goodIn_r _ [13, 14, 15, 16, 9, 17, 18, 81, 82, 83, 84, 85, 86] (by decide +kernel) (by decide +kernel)
set_option maxRecDepth 20000 in
theorem gX4_kinds_X3_becomeLike : GoodIn wsX4_kinds (wsV RX4 156 RX3 yX3_becomeLike wsX3_becomeLike) := goodIn_app (goodIn_of _ (by decide +kernel)) ggX4_kinds_X3_becomeLike
set_option maxRecDepth 20000 in
theorem ggX4_kinds_X4_areReadingsSoOnTrial : GoodIn wsX4_kinds wsX4_areReadingsSoOnTrial := goodIn_r _ [23, 24, 25, 2, 26, 27, 28, 29, 30, 7, 31, 9, 32, 33, 34, 22, 35, 36, 37, 38, 39, 40, 41, 42, 15, 43, 44, 45, 46, 47, 5, 6, 8, 48, 49, 50, 51, 18, 52, 53, 54, 55, 16, 14, 56, 57, 58, 59, 60, 61, 62, 63, 64, 65, 66, 67, 68, 69, 70, 71, 72, 73, 74, 75, 76, 77, 78, 79, 80, 87, 88, 89, 81, 82, 83, 84, 85, 86, 90, 91, 92, 93] (by decide +kernel) (by decide +kernel)
set_option maxRecDepth 20000 in
theorem gX4_kinds_X4_areReadingsSoOnTrial : GoodIn wsX4_kinds (wsV RX4 177 RX4 yX4_areReadingsSoOnTrial wsX4_areReadingsSoOnTrial) := goodIn_app (goodIn_of _ (by decide +kernel)) ggX4_kinds_X4_areReadingsSoOnTrial
theorem dX4_kinds_0 : decode cX4_kinds 0 = .ok (.aload_n 0, 1) := by decide +kernel
theorem dX4_kinds_1 : decode cX4_kinds 1 = .ok (.getfield 14, 3) := by decide +kernel
theorem dX4_kinds_4 : decode cX4_kinds 4 = .ok (.iload_n 1, 1) := by decide +kernel
theorem dX4_kinds_5 : decode cX4_kinds 5 = .ok (.invokevirtual 76, 3) := by decide +kernel
theorem dX4_kinds_8 : decode cX4_kinds 8 = .ok (.ifCond .ne 5, 3) := by decide +kernel
theorem dX4_kinds_11 : decode cX4_kinds 11 = .ok (.iconst (-1), 1) := by decide +kernel
theorem dX4_kinds_12 : decode cX4_kinds 12 = .ok (.ireturn, 1) := by decide +kernel
theorem dX4_kinds_13 : decode cX4_kinds 13 = .ok (.aload_n 0, 1) := by decide +kernel
theorem dX4_kinds_14 : decode cX4_kinds 14 = .ok (.getfield 18, 3) := by decide +kernel
theorem dX4_kinds_17 : decode cX4_kinds 17 = .ok (.aload_n 0, 1) := by decide +kernel
theorem dX4_kinds_18 : decode cX4_kinds 18 = .ok (.getfield 14, 3) := by decide +kernel
theorem dX4_kinds_21 : decode cX4_kinds 21 = .ok (.invokevirtual 156, 3) := by decide +kernel
theorem dX4_kinds_24 : decode cX4_kinds 24 = .ok (.iconst 0, 1) := by decide +kernel
theorem dX4_kinds_25 : decode cX4_kinds 25 = .ok (.istore_n 2, 1) := by decide +kernel
theorem dX4_kinds_26 : decode cX4_kinds 26 = .ok (.iconst 0, 1) := by decide +kernel
theorem dX4_kinds_27 : decode cX4_kinds 27 = .ok (.istore_n 3, 1) := by decide +kernel
theorem dX4_kinds_28 : decode cX4_kinds 28 = .ok (.iload_n 3, 1) := by decide +kernel
theorem dX4_kinds_29 : decode cX4_kinds 29 = .ok (.iconst 2, 1) := by decide +kernel
theorem dX4_kinds_30 : decode cX4_kinds 30 = .ok (.if_icmp .gt 32, 3) := by decide +kernel
theorem dX4_kinds_33 : decode cX4_kinds 33 = .ok (.aload_n 0, 1) := by decide +kernel
theorem dX4_kinds_34 : decode cX4_kinds 34 = .ok (.getfield 18, 3) := by decide +kernel
theorem dX4_kinds_37 : decode cX4_kinds 37 = .ok (.getfield 79, 3) := by decide +kernel
theorem dX4_kinds_40 : decode cX4_kinds 40 = .ok (.iload_n 1, 1) := by decide +kernel
theorem dX4_kinds_41 : decode cX4_kinds 41 = .ok (.iload_n 3, 1) := by decide +kernel
theorem dX4_kinds_42 : decode cX4_kinds 42 = .ok (.iastore, 1) := by decide +kernel
theorem dX4_kinds_43 : decode cX4_kinds 43 = .ok (.aload_n 0, 1) := by decide +kernel
theorem dX4_kinds_44 : decode cX4_kinds 44 = .ok (.invokevirtual 177, 3) := by decide +kernel
theorem dX4_kinds_47 : decode cX4_kinds 47 = .ok (.ifCond .eq 9, 3) := by decide +kernel
theorem dX4_kinds_50 : decode cX4_kinds 50 = .ok (.iload_n 2, 1) := by decide +kernel
theorem dX4_kinds_51 : decode cX4_kinds 51 = .ok (.iconst 1, 1) := by decide +kernel
theorem dX4_kinds_52 : decode cX4_kinds 52 = .ok (.iload_n 3, 1) := by decide +kernel
theorem dX4_kinds_53 : decode cX4_kinds 53 = .ok (.ishl, 1) := by decide +kernel
theorem dX4_kinds_54 : decode cX4_kinds 54 = .ok (.ior, 1) := by decide +kernel
theorem dX4_kinds_55 : decode cX4_kinds 55 = .ok (.istore_n 2, 1) := by decide +kernel
theorem dX4_kinds_56 : decode cX4_kinds 56 = .ok (.iinc 3 1, 3) := by decide +kernel
theorem dX4_kinds_59 : decode cX4_kinds 59 = .ok (.goto (-31), 3) := by decide +kernel
theorem dX4_kinds_62 : decode cX4_kinds 62 = .ok (.iload_n 2, 1) := by decide +kernel
theorem dX4_kinds_63 : decode cX4_kinds 63 = .ok (.ireturn, 1) := by decide +kernel
set_option maxRecDepth 20000 in
theorem ggX4_spans_X3_isLaid : GoodIn wsX4_spans wsX3_isLaid := goodIn_r _ [8, 9, 83, 84, 85, 86, 87, 88] (by decide +kernel) (by decide +kernel)
set_option maxRecDepth 20000 in
theorem gX4_spans_X3_isLaid : GoodIn wsX4_spans (wsV RX4 92 RX3 yX3_isLaid wsX3_isLaid) := goodIn_app (goodIn_of _ (by decide +kernel)) ggX4_spans_X3_isLaid
set_option maxRecDepth 20000 in
theorem ggX4_spans_X3_becomeLike : GoodIn wsX4_spans wsX3_becomeLike := goodIn_r _ [13, 14, 15, 16, 9, 17, 18, 83, 84, 85, 86, 87, 88] (by decide +kernel) (by decide +kernel)
set_option maxRecDepth 20000 in
theorem gX4_spans_X3_becomeLike : GoodIn wsX4_spans (wsV RX4 156 RX3 yX3_becomeLike wsX3_becomeLike) := goodIn_app (goodIn_of _ (by decide +kernel)) ggX4_spans_X3_becomeLike
set_option maxRecDepth 20000 in
theorem ggX4_spans_X4_areReadingsSoOnTrial : GoodIn wsX4_spans wsX4_areReadingsSoOnTrial := goodIn_r _ [23, 24, 25, 2, 26, 27, 28, 29, 30, 7, 31, 9, 32, 33, 34, 22, 35, 36, 3, 37, 38, 39, 40, 41, 15, 42, 43, 44, 45, 46, 47, 48, 49, 50, 51, 52, 53, 18, 54, 55, 56, 57, 16, 14, 58, 59, 60, 61, 62, 63, 64, 65, 66, 67, 68, 69, 70, 71, 72, 73, 74, 75, 76, 77, 78, 79, 80, 81, 82, 89, 90, 91, 83, 84, 85, 86, 87, 88, 92, 93, 94, 95] (by decide +kernel) (by decide +kernel)
set_option maxRecDepth 20000 in
theorem gX4_spans_X4_areReadingsSoOnTrial : GoodIn wsX4_spans (wsV RX4 177 RX4 yX4_areReadingsSoOnTrial wsX4_areReadingsSoOnTrial) := goodIn_app (goodIn_of _ (by decide +kernel)) ggX4_spans_X4_areReadingsSoOnTrial
theorem dX4_spans_0 : decode cX4_spans 0 = .ok (.aload_n 0, 1) := by decide +kernel
theorem dX4_spans_1 : decode cX4_spans 1 = .ok (.getfield 14, 3) := by decide +kernel
theorem dX4_spans_4 : decode cX4_spans 4 = .ok (.invokevirtual 92, 3) := by decide +kernel
theorem dX4_spans_7 : decode cX4_spans 7 = .ok (.ifCond .ne 6, 3) := by decide +kernel
theorem dX4_spans_10 : decode cX4_spans 10 = .ok (.bipush (-3), 2) := by decide +kernel
theorem dX4_spans_12 : decode cX4_spans 12 = .ok (.ireturn, 1) := by decide +kernel
theorem dX4_spans_13 : decode cX4_spans 13 = .ok (.aload_n 0, 1) := by decide +kernel
theorem dX4_spans_14 : decode cX4_spans 14 = .ok (.getfield 18, 3) := by decide +kernel
theorem dX4_spans_17 : decode cX4_spans 17 = .ok (.aload_n 0, 1) := by decide +kernel
theorem dX4_spans_18 : decode cX4_spans 18 = .ok (.getfield 14, 3) := by decide +kernel
theorem dX4_spans_21 : decode cX4_spans 21 = .ok (.invokevirtual 156, 3) := by decide +kernel
theorem dX4_spans_24 : decode cX4_spans 24 = .ok (.iconst 0, 1) := by decide +kernel
theorem dX4_spans_25 : decode cX4_spans 25 = .ok (.istore_n 1, 1) := by decide +kernel
theorem dX4_spans_26 : decode cX4_spans 26 = .ok (.iconst 1, 1) := by decide +kernel
theorem dX4_spans_27 : decode cX4_spans 27 = .ok (.istore_n 2, 1) := by decide +kernel
theorem dX4_spans_28 : decode cX4_spans 28 = .ok (.iload_n 2, 1) := by decide +kernel
theorem dX4_spans_29 : decode cX4_spans 29 = .ok (.bipush 9, 2) := by decide +kernel
theorem dX4_spans_31 : decode cX4_spans 31 = .ok (.if_icmp .gt 30, 3) := by decide +kernel
theorem dX4_spans_34 : decode cX4_spans 34 = .ok (.aload_n 0, 1) := by decide +kernel
theorem dX4_spans_35 : decode cX4_spans 35 = .ok (.getfield 18, 3) := by decide +kernel
theorem dX4_spans_38 : decode cX4_spans 38 = .ok (.iload_n 2, 1) := by decide +kernel
theorem dX4_spans_39 : decode cX4_spans 39 = .ok (.putfield 124, 3) := by decide +kernel
theorem dX4_spans_42 : decode cX4_spans 42 = .ok (.aload_n 0, 1) := by decide +kernel
theorem dX4_spans_43 : decode cX4_spans 43 = .ok (.invokevirtual 177, 3) := by decide +kernel
theorem dX4_spans_46 : decode cX4_spans 46 = .ok (.ifCond .eq 9, 3) := by decide +kernel
theorem dX4_spans_49 : decode cX4_spans 49 = .ok (.iload_n 1, 1) := by decide +kernel
theorem dX4_spans_50 : decode cX4_spans 50 = .ok (.iconst 1, 1) := by decide +kernel
theorem dX4_spans_51 : decode cX4_spans 51 = .ok (.iload_n 2, 1) := by decide +kernel
theorem dX4_spans_52 : decode cX4_spans 52 = .ok (.ishl, 1) := by decide +kernel
theorem dX4_spans_53 : decode cX4_spans 53 = .ok (.ior, 1) := by decide +kernel
theorem dX4_spans_54 : decode cX4_spans 54 = .ok (.istore_n 1, 1) := by decide +kernel
theorem dX4_spans_55 : decode cX4_spans 55 = .ok (.iinc 2 1, 3) := by decide +kernel
theorem dX4_spans_58 : decode cX4_spans 58 = .ok (.goto (-30), 3) := by decide +kernel
theorem dX4_spans_61 : decode cX4_spans 61 = .ok (.iload_n 1, 1) := by decide +kernel
theorem dX4_spans_62 : decode cX4_spans 62 = .ok (.ireturn, 1) := by decide +kernel
set_option maxRecDepth 20000 in
theorem ggX4_odds_X4_refusalOfCount : GoodIn wsX4_odds wsX4_refusalOfCount := goodIn_r _ [7, 8, 9, 10, 6, 11, 2, 12, 13, 14, 15, 16, 17, 18, 19, 20, 74, 75, 76, 77, 78, 79, 80, 81, 82, 83, 84, 85, 86] (by decide +kernel) (by decide +kernel)
set_option maxRecDepth 20000 in
theorem gX4_odds_X4_refusalOfCount : GoodIn wsX4_odds (wsV RX4 163 RX4 yX4_refusalOfCount wsX4_refusalOfCount) := goodIn_app (goodIn_of _ (by decide +kernel)) ggX4_odds_X4_refusalOfCount
set_option maxRecDepth 20000 in
theorem ggX4_odds_X3_everyone : GoodIn wsX4_odds wsX3_everyone := goodIn_r _ [24, 20, 81, 82, 83, 84, 85, 86] (by decide +kernel) (by decide +kernel)
set_option maxRecDepth 20000 in
theorem gX4_odds_X3_everyone : GoodIn wsX4_odds (wsV RX4 112 RX3 yX3_everyone wsX3_everyone) := goodIn_app (goodIn_of _ (by decide +kernel)) ggX4_odds_X3_everyone
set_option maxRecDepth 20000 in
theorem ggX4_odds_X4_countedOn : GoodIn wsX4_odds wsX4_countedOn := goodIn_r _ [28, 29, 30, 31, 32, 33, 34, 18, 35, 36, 37, 38, 39, 40, 41, 42, 43, 44, 20, 45, 46, 47, 48, 49, 50, 51, 52, 53, 54, 55, 56, 57, 58, 59, 60, 61, 62, 63, 64, 65, 66, 67, 68, 69, 70, 71, 72, 73, 74, 75, 76, 77, 78, 79, 80, 81, 82, 83, 84, 85, 86, 87, 88, 89, 90] (by decide +kernel) (by decide +kernel)
set_option maxRecDepth 20000 in
theorem gX4_odds_X4_countedOn : GoodIn wsX4_odds (wsV RX4 116 RX4 yX4_countedOn wsX4_countedOn) := goodIn_app (goodIn_of _ (by decide +kernel)) ggX4_odds_X4_countedOn
theorem dX4_odds_0 : decode cX4_odds 0 = .ok (.aload_n 0, 1) := by decide +kernel
theorem dX4_odds_1 : decode cX4_odds 1 = .ok (.iload_n 1, 1) := by decide +kernel
theorem dX4_odds_2 : decode cX4_odds 2 = .ok (.iload_n 2, 1) := by decide +kernel
theorem dX4_odds_3 : decode cX4_odds 3 = .ok (.invokevirtual 163, 3) := by decide +kernel
theorem dX4_odds_6 : decode cX4_odds 6 = .ok (.ifCond .ne 12, 3) := by decide +kernel
theorem dX4_odds_9 : decode cX4_odds 9 = .ok (.iload_n 3, 1) := by decide +kernel
theorem dX4_odds_10 : decode cX4_odds 10 = .ok (.ifCond .lt 8, 3) := by decide +kernel
theorem dX4_odds_13 : decode cX4_odds 13 = .ok (.iload_n 3, 1) := by decide +kernel
theorem dX4_odds_14 : decode cX4_odds 14 = .ok (.iconst 1, 1) := by decide +kernel
theorem dX4_odds_15 : decode cX4_odds 15 = .ok (.if_icmp .le 7, 3) := by decide +kernel
theorem dX4_odds_18 : decode cX4_odds 18 = .ok (.ldc2_w 180, 3) := by decide +kernel
theorem dX4_odds_21 : decode cX4_odds 21 = .ok (.lreturn, 1) := by decide +kernel
theorem dX4_odds_22 : decode cX4_odds 22 = .ok (.aload_n 0, 1) := by decide +kernel
theorem dX4_odds_23 : decode cX4_odds 23 = .ok (.getfield 14, 3) := by decide +kernel
theorem dX4_odds_26 : decode cX4_odds 26 = .ok (.invokevirtual 112, 3) := by decide +kernel
theorem dX4_odds_29 : decode cX4_odds 29 = .ok (.istore 4, 2) := by decide +kernel
theorem dX4_odds_31 : decode cX4_odds 31 = .ok (.iconst 0, 1) := by decide +kernel
theorem dX4_odds_32 : decode cX4_odds 32 = .ok (.istore 5, 2) := by decide +kernel
theorem dX4_odds_34 : decode cX4_odds 34 = .ok (.iconst 0, 1) := by decide +kernel
theorem dX4_odds_35 : decode cX4_odds 35 = .ok (.istore 6, 2) := by decide +kernel
theorem dX4_odds_37 : decode cX4_odds 37 = .ok (.iload 6, 2) := by decide +kernel
theorem dX4_odds_39 : decode cX4_odds 39 = .ok (.iload 4, 2) := by decide +kernel
theorem dX4_odds_41 : decode cX4_odds 41 = .ok (.if_icmp .gt 27, 3) := by decide +kernel
theorem dX4_odds_44 : decode cX4_odds 44 = .ok (.aload_n 0, 1) := by decide +kernel
theorem dX4_odds_45 : decode cX4_odds 45 = .ok (.aload_n 0, 1) := by decide +kernel
theorem dX4_odds_46 : decode cX4_odds 46 = .ok (.getfield 14, 3) := by decide +kernel
theorem dX4_odds_49 : decode cX4_odds 49 = .ok (.iload_n 1, 1) := by decide +kernel
theorem dX4_odds_50 : decode cX4_odds 50 = .ok (.iload 6, 2) := by decide +kernel
theorem dX4_odds_52 : decode cX4_odds 52 = .ok (.invokevirtual 116, 3) := by decide +kernel
theorem dX4_odds_55 : decode cX4_odds 55 = .ok (.iload_n 2, 1) := by decide +kernel
theorem dX4_odds_56 : decode cX4_odds 56 = .ok (.if_icmp .ne 6, 3) := by decide +kernel
theorem dX4_odds_59 : decode cX4_odds 59 = .ok (.iinc 5 1, 3) := by decide +kernel
theorem dX4_odds_62 : decode cX4_odds 62 = .ok (.iinc 6 1, 3) := by decide +kernel
theorem dX4_odds_65 : decode cX4_odds 65 = .ok (.goto (-28), 3) := by decide +kernel
theorem dX4_odds_68 : decode cX4_odds 68 = .ok (.iload 4, 2) := by decide +kernel
theorem dX4_odds_70 : decode cX4_odds 70 = .ok (.iconst 1, 1) := by decide +kernel
theorem dX4_odds_71 : decode cX4_odds 71 = .ok (.iadd, 1) := by decide +kernel
theorem dX4_odds_72 : decode cX4_odds 72 = .ok (.istore 6, 2) := by decide +kernel
theorem dX4_odds_74 : decode cX4_odds 74 = .ok (.iconst 0, 1) := by decide +kernel
theorem dX4_odds_75 : decode cX4_odds 75 = .ok (.istore 7, 2) := by decide +kernel
theorem dX4_odds_77 : decode cX4_odds 77 = .ok (.iload 7, 2) := by decide +kernel
theorem dX4_odds_79 : decode cX4_odds 79 = .ok (.iconst 5, 1) := by decide +kernel
theorem dX4_odds_80 : decode cX4_odds 80 = .ok (.if_icmp .ge 35, 3) := by decide +kernel
theorem dX4_odds_83 : decode cX4_odds 83 = .ok (.iload 6, 2) := by decide +kernel
theorem dX4_odds_85 : decode cX4_odds 85 = .ok (.iconst 2, 1) := by decide +kernel
theorem dX4_odds_86 : decode cX4_odds 86 = .ok (.irem, 1) := by decide +kernel
theorem dX4_odds_87 : decode cX4_odds 87 = .ok (.ifCond .ne 28, 3) := by decide +kernel
theorem dX4_odds_90 : decode cX4_odds 90 = .ok (.iload 5, 2) := by decide +kernel
theorem dX4_odds_92 : decode cX4_odds 92 = .ok (.iconst 2, 1) := by decide +kernel
theorem dX4_odds_93 : decode cX4_odds 93 = .ok (.irem, 1) := by decide +kernel
theorem dX4_odds_94 : decode cX4_odds 94 = .ok (.ifCond .ne 21, 3) := by decide +kernel
theorem dX4_odds_97 : decode cX4_odds 97 = .ok (.iload 5, 2) := by decide +kernel
theorem dX4_odds_99 : decode cX4_odds 99 = .ok (.iconst 2, 1) := by decide +kernel
theorem dX4_odds_100 : decode cX4_odds 100 = .ok (.idiv, 1) := by decide +kernel
theorem dX4_odds_101 : decode cX4_odds 101 = .ok (.istore 5, 2) := by decide +kernel
theorem dX4_odds_103 : decode cX4_odds 103 = .ok (.iload 6, 2) := by decide +kernel
theorem dX4_odds_105 : decode cX4_odds 105 = .ok (.iconst 2, 1) := by decide +kernel
theorem dX4_odds_106 : decode cX4_odds 106 = .ok (.idiv, 1) := by decide +kernel
theorem dX4_odds_107 : decode cX4_odds 107 = .ok (.istore 6, 2) := by decide +kernel
theorem dX4_odds_109 : decode cX4_odds 109 = .ok (.iinc 7 1, 3) := by decide +kernel
theorem dX4_odds_112 : decode cX4_odds 112 = .ok (.goto (-35), 3) := by decide +kernel
theorem dX4_odds_115 : decode cX4_odds 115 = .ok (.iload_n 3, 1) := by decide +kernel
theorem dX4_odds_116 : decode cX4_odds 116 = .ok (.ifCond .ne 9, 3) := by decide +kernel
theorem dX4_odds_119 : decode cX4_odds 119 = .ok (.iload 5, 2) := by decide +kernel
theorem dX4_odds_121 : decode cX4_odds 121 = .ok (.i2l, 1) := by decide +kernel
theorem dX4_odds_122 : decode cX4_odds 122 = .ok (.goto 6, 3) := by decide +kernel
theorem dX4_odds_125 : decode cX4_odds 125 = .ok (.iload 6, 2) := by decide +kernel
theorem dX4_odds_127 : decode cX4_odds 127 = .ok (.i2l, 1) := by decide +kernel
theorem dX4_odds_128 : decode cX4_odds 128 = .ok (.lreturn, 1) := by decide +kernel
set_option maxRecDepth 20000 in
theorem ggX4_sheet_X4_sheetAt : GoodIn wsX4_sheet wsX4_sheetAt := goodIn_r _ [6, 7, 24, 25, 26, 27, 28, 29, 30] (by decide +kernel) (by decide +kernel)
set_option maxRecDepth 20000 in
theorem gX4_sheet_X4_sheetAt : GoodIn wsX4_sheet (wsV RX4 46 RX4 yX4_sheetAt wsX4_sheetAt) := goodIn_app (goodIn_of _ (by decide +kernel)) ggX4_sheet_X4_sheetAt
set_option maxRecDepth 20000 in
theorem ggX4_sheet_X4_isLane : GoodIn wsX4_sheet wsX4_isLane := goodIn_r _ [10] (by decide +kernel) (by decide +kernel)
set_option maxRecDepth 20000 in
theorem gX4_sheet_X4_isLane : GoodIn wsX4_sheet (va_wsS RX4 50 yX4_isLane wsX4_isLane) := goodIn_app (goodIn_of _ (by decide +kernel)) ggX4_sheet_X4_isLane
set_option maxRecDepth 20000 in
theorem ggX4_sheet_X4_failed : GoodIn wsX4_sheet wsX4_failed := goodIn_r _ [14, 1, 24, 25, 26, 27, 28, 29, 30] (by decide +kernel) (by decide +kernel)
set_option maxRecDepth 20000 in
theorem gX4_sheet_X4_failed : GoodIn wsX4_sheet (wsV RX4 62 RX4 yX4_failed wsX4_failed) := goodIn_app (goodIn_of _ (by decide +kernel)) ggX4_sheet_X4_failed
set_option maxRecDepth 20000 in
theorem ggX4_sheet_X2_renew : GoodIn wsX4_sheet wsX2_renew := goodIn_r _ [19, 20, 21, 22, 23, 31, 32, 33, 34] (by decide +kernel) (by decide +kernel)
set_option maxRecDepth 20000 in
theorem gX4_sheet_X2_renew : GoodIn wsX4_sheet (wsV RX4 182 RX2 yX2_renew wsX2_renew) := goodIn_app (goodIn_of _ (by decide +kernel)) ggX4_sheet_X2_renew
theorem dX4_sheet_0 : decode cX4_sheet 0 = .ok (.aload_n 0, 1) := by decide +kernel
theorem dX4_sheet_1 : decode cX4_sheet 1 = .ok (.iconst 0, 1) := by decide +kernel
theorem dX4_sheet_2 : decode cX4_sheet 2 = .ok (.putfield 42, 3) := by decide +kernel
theorem dX4_sheet_5 : decode cX4_sheet 5 = .ok (.aload_n 0, 1) := by decide +kernel
theorem dX4_sheet_6 : decode cX4_sheet 6 = .ok (.iload_n 1, 1) := by decide +kernel
theorem dX4_sheet_7 : decode cX4_sheet 7 = .ok (.invokevirtual 46, 3) := by decide +kernel
theorem dX4_sheet_10 : decode cX4_sheet 10 = .ok (.astore 4, 2) := by decide +kernel
theorem dX4_sheet_12 : decode cX4_sheet 12 = .ok (.aload 4, 2) := by decide +kernel
theorem dX4_sheet_14 : decode cX4_sheet 14 = .ok (.ifnonnull 5, 3) := by decide +kernel
theorem dX4_sheet_17 : decode cX4_sheet 17 = .ok (.iconst (-1), 1) := by decide +kernel
theorem dX4_sheet_18 : decode cX4_sheet 18 = .ok (.ireturn, 1) := by decide +kernel
theorem dX4_sheet_19 : decode cX4_sheet 19 = .ok (.iload_n 2, 1) := by decide +kernel
theorem dX4_sheet_20 : decode cX4_sheet 20 = .ok (.invokestatic 50, 3) := by decide +kernel
theorem dX4_sheet_23 : decode cX4_sheet 23 = .ok (.ifCond .eq 9, 3) := by decide +kernel
theorem dX4_sheet_26 : decode cX4_sheet 26 = .ok (.iload_n 3, 1) := by decide +kernel
theorem dX4_sheet_27 : decode cX4_sheet 27 = .ok (.bipush 60, 2) := by decide +kernel
theorem dX4_sheet_29 : decode cX4_sheet 29 = .ok (.if_icmp .le 6, 3) := by decide +kernel
theorem dX4_sheet_32 : decode cX4_sheet 32 = .ok (.bipush (-2), 2) := by decide +kernel
theorem dX4_sheet_34 : decode cX4_sheet 34 = .ok (.ireturn, 1) := by decide +kernel
theorem dX4_sheet_35 : decode cX4_sheet 35 = .ok (.iload_n 3, 1) := by decide +kernel
theorem dX4_sheet_36 : decode cX4_sheet 36 = .ok (.ifCond .ge 9, 3) := by decide +kernel
theorem dX4_sheet_39 : decode cX4_sheet 39 = .ok (.aload_n 0, 1) := by decide +kernel
theorem dX4_sheet_40 : decode cX4_sheet 40 = .ok (.iconst 4, 1) := by decide +kernel
theorem dX4_sheet_41 : decode cX4_sheet 41 = .ok (.invokevirtual 62, 3) := by decide +kernel
theorem dX4_sheet_44 : decode cX4_sheet 44 = .ok (.ireturn, 1) := by decide +kernel
theorem dX4_sheet_45 : decode cX4_sheet 45 = .ok (.aload 4, 2) := by decide +kernel
theorem dX4_sheet_47 : decode cX4_sheet 47 = .ok (.iload_n 2, 1) := by decide +kernel
theorem dX4_sheet_48 : decode cX4_sheet 48 = .ok (.iload_n 3, 1) := by decide +kernel
theorem dX4_sheet_49 : decode cX4_sheet 49 = .ok (.invokevirtual 182, 3) := by decide +kernel
theorem dX4_sheet_52 : decode cX4_sheet 52 = .ok (.iconst 1, 1) := by decide +kernel
theorem dX4_sheet_53 : decode cX4_sheet 53 = .ok (.ireturn, 1) := by decide +kernel
set_option maxRecDepth 20000 in
theorem ggX4_lose_X4_sheetAt : GoodIn wsX4_lose wsX4_sheetAt := goodIn_r _ [6, 7, 19, 20, 21, 22, 23, 24, 25] (by decide +kernel) (by decide +kernel)
set_option maxRecDepth 20000 in
theorem gX4_lose_X4_sheetAt : GoodIn wsX4_lose (wsV RX4 46 RX4 yX4_sheetAt wsX4_sheetAt) := goodIn_app (goodIn_of _ (by decide +kernel)) ggX4_lose_X4_sheetAt
set_option maxRecDepth 20000 in
theorem ggX4_lose_X2_empty : GoodIn wsX4_lose wsX2_empty := goodIn_r _ [12, 13, 14, 15, 16, 17, 18] (by decide +kernel) (by decide +kernel)
set_option maxRecDepth 20000 in
theorem gX4_lose_X2_empty : GoodIn wsX4_lose (wsV RX4 190 RX2 yX2_empty wsX2_empty) := goodIn_app (goodIn_of _ (by decide +kernel)) ggX4_lose_X2_empty
theorem dX4_lose_0 : decode cX4_lose 0 = .ok (.aload_n 0, 1) := by decide +kernel
theorem dX4_lose_1 : decode cX4_lose 1 = .ok (.iload_n 1, 1) := by decide +kernel
theorem dX4_lose_2 : decode cX4_lose 2 = .ok (.invokevirtual 46, 3) := by decide +kernel
theorem dX4_lose_5 : decode cX4_lose 5 = .ok (.astore_n 2, 1) := by decide +kernel
theorem dX4_lose_6 : decode cX4_lose 6 = .ok (.aload_n 2, 1) := by decide +kernel
theorem dX4_lose_7 : decode cX4_lose 7 = .ok (.ifnonnull 5, 3) := by decide +kernel
theorem dX4_lose_10 : decode cX4_lose 10 = .ok (.iconst (-1), 1) := by decide +kernel
theorem dX4_lose_11 : decode cX4_lose 11 = .ok (.ireturn, 1) := by decide +kernel
theorem dX4_lose_12 : decode cX4_lose 12 = .ok (.aload_n 2, 1) := by decide +kernel
theorem dX4_lose_13 : decode cX4_lose 13 = .ok (.getfield 186, 3) := by decide +kernel
theorem dX4_lose_16 : decode cX4_lose 16 = .ok (.istore_n 3, 1) := by decide +kernel
theorem dX4_lose_17 : decode cX4_lose 17 = .ok (.aload_n 2, 1) := by decide +kernel
theorem dX4_lose_18 : decode cX4_lose 18 = .ok (.invokevirtual 190, 3) := by decide +kernel
theorem dX4_lose_21 : decode cX4_lose 21 = .ok (.iload_n 3, 1) := by decide +kernel
theorem dX4_lose_22 : decode cX4_lose 22 = .ok (.ifCond .eq 7, 3) := by decide +kernel
theorem dX4_lose_25 : decode cX4_lose 25 = .ok (.iconst 1, 1) := by decide +kernel
theorem dX4_lose_26 : decode cX4_lose 26 = .ok (.goto 4, 3) := by decide +kernel
theorem dX4_lose_29 : decode cX4_lose 29 = .ok (.iconst 0, 1) := by decide +kernel
theorem dX4_lose_30 : decode cX4_lose 30 = .ok (.ireturn, 1) := by decide +kernel
set_option maxRecDepth 20000 in
theorem ggX4_put_X4_sheetAt : GoodIn wsX4_put wsX4_sheetAt := goodIn_r _ [8, 9, 25, 26, 27, 28, 29, 30, 31] (by decide +kernel) (by decide +kernel)
set_option maxRecDepth 20000 in
theorem gX4_put_X4_sheetAt : GoodIn wsX4_put (wsV RX4 46 RX4 yX4_sheetAt wsX4_sheetAt) := goodIn_app (goodIn_of _ (by decide +kernel)) ggX4_put_X4_sheetAt
set_option maxRecDepth 20000 in
theorem ggX4_put_X4_failed : GoodIn wsX4_put wsX4_failed := goodIn_r _ [13, 1, 25, 26, 27, 28, 29, 30, 31] (by decide +kernel) (by decide +kernel)
set_option maxRecDepth 20000 in
theorem gX4_put_X4_failed : GoodIn wsX4_put (wsV RX4 62 RX4 yX4_failed wsX4_failed) := goodIn_app (goodIn_of _ (by decide +kernel)) ggX4_put_X4_failed
set_option maxRecDepth 20000 in
theorem ggX4_put_X2_hasCell : GoodIn wsX4_put wsX2_hasCell := goodIn_r _ [18, 19, 32, 33, 34, 35] (by decide +kernel) (by decide +kernel)
set_option maxRecDepth 20000 in
theorem gX4_put_X2_hasCell : GoodIn wsX4_put (wsV RX4 193 RX2 yX2_hasCell wsX2_hasCell) := goodIn_app (goodIn_of _ (by decide +kernel)) ggX4_put_X2_hasCell
set_option maxRecDepth 20000 in
theorem ggX4_put_X2_cutToLane : GoodIn wsX4_put wsX2_cutToLane := goodIn_r _ [23, 24, 32, 33, 34, 35] (by decide +kernel) (by decide +kernel)
set_option maxRecDepth 20000 in
theorem gX4_put_X2_cutToLane : GoodIn wsX4_put (wsV RX4 199 RX2 yX2_cutToLane wsX2_cutToLane) := goodIn_app (goodIn_of _ (by decide +kernel)) ggX4_put_X2_cutToLane
theorem dX4_put_0 : decode cX4_put 0 = .ok (.aload_n 0, 1) := by decide +kernel
theorem dX4_put_1 : decode cX4_put 1 = .ok (.iconst 0, 1) := by decide +kernel
theorem dX4_put_2 : decode cX4_put 2 = .ok (.putfield 42, 3) := by decide +kernel
theorem dX4_put_5 : decode cX4_put 5 = .ok (.aload_n 0, 1) := by decide +kernel
theorem dX4_put_6 : decode cX4_put 6 = .ok (.iload_n 1, 1) := by decide +kernel
theorem dX4_put_7 : decode cX4_put 7 = .ok (.invokevirtual 46, 3) := by decide +kernel
theorem dX4_put_10 : decode cX4_put 10 = .ok (.astore 4, 2) := by decide +kernel
theorem dX4_put_12 : decode cX4_put 12 = .ok (.aload 4, 2) := by decide +kernel
theorem dX4_put_14 : decode cX4_put 14 = .ok (.ifnonnull 5, 3) := by decide +kernel
theorem dX4_put_17 : decode cX4_put 17 = .ok (.iconst (-1), 1) := by decide +kernel
theorem dX4_put_18 : decode cX4_put 18 = .ok (.ireturn, 1) := by decide +kernel
theorem dX4_put_19 : decode cX4_put 19 = .ok (.aload 4, 2) := by decide +kernel
theorem dX4_put_21 : decode cX4_put 21 = .ok (.getfield 186, 3) := by decide +kernel
theorem dX4_put_24 : decode cX4_put 24 = .ok (.ifCond .ne 9, 3) := by decide +kernel
theorem dX4_put_27 : decode cX4_put 27 = .ok (.aload_n 0, 1) := by decide +kernel
theorem dX4_put_28 : decode cX4_put 28 = .ok (.iconst 1, 1) := by decide +kernel
theorem dX4_put_29 : decode cX4_put 29 = .ok (.invokevirtual 62, 3) := by decide +kernel
theorem dX4_put_32 : decode cX4_put 32 = .ok (.ireturn, 1) := by decide +kernel
theorem dX4_put_33 : decode cX4_put 33 = .ok (.aload 4, 2) := by decide +kernel
theorem dX4_put_35 : decode cX4_put 35 = .ok (.iload_n 2, 1) := by decide +kernel
theorem dX4_put_36 : decode cX4_put 36 = .ok (.invokevirtual 193, 3) := by decide +kernel
theorem dX4_put_39 : decode cX4_put 39 = .ok (.ifCond .ne 9, 3) := by decide +kernel
theorem dX4_put_42 : decode cX4_put 42 = .ok (.aload_n 0, 1) := by decide +kernel
theorem dX4_put_43 : decode cX4_put 43 = .ok (.iconst 3, 1) := by decide +kernel
theorem dX4_put_44 : decode cX4_put 44 = .ok (.invokevirtual 62, 3) := by decide +kernel
theorem dX4_put_47 : decode cX4_put 47 = .ok (.ireturn, 1) := by decide +kernel
theorem dX4_put_48 : decode cX4_put 48 = .ok (.aload 4, 2) := by decide +kernel
theorem dX4_put_50 : decode cX4_put 50 = .ok (.getfield 196, 3) := by decide +kernel
theorem dX4_put_53 : decode cX4_put 53 = .ok (.iload_n 2, 1) := by decide +kernel
theorem dX4_put_54 : decode cX4_put 54 = .ok (.aload 4, 2) := by decide +kernel
theorem dX4_put_56 : decode cX4_put 56 = .ok (.iload_n 3, 1) := by decide +kernel
theorem dX4_put_57 : decode cX4_put 57 = .ok (.invokevirtual 199, 3) := by decide +kernel
theorem dX4_put_60 : decode cX4_put 60 = .ok (.iastore, 1) := by decide +kernel
theorem dX4_put_61 : decode cX4_put 61 = .ok (.iconst 1, 1) := by decide +kernel
theorem dX4_put_62 : decode cX4_put 62 = .ok (.ireturn, 1) := by decide +kernel
set_option maxRecDepth 20000 in
theorem ggX4_cell_X4_sheetAt : GoodIn wsX4_cell wsX4_sheetAt := goodIn_r _ [7, 8, 30, 31, 32, 33, 34, 35, 36] (by decide +kernel) (by decide +kernel)
set_option maxRecDepth 20000 in
theorem gX4_cell_X4_sheetAt : GoodIn wsX4_cell (wsV RX4 46 RX4 yX4_sheetAt wsX4_sheetAt) := goodIn_app (goodIn_of _ (by decide +kernel)) ggX4_cell_X4_sheetAt
set_option maxRecDepth 20000 in
theorem ggX4_cell_X4_isLane : GoodIn wsX4_cell wsX4_isLane := goodIn_r _ [11] (by decide +kernel) (by decide +kernel)
set_option maxRecDepth 20000 in
theorem gX4_cell_X4_isLane : GoodIn wsX4_cell (va_wsS RX4 50 yX4_isLane wsX4_isLane) := goodIn_app (goodIn_of _ (by decide +kernel)) ggX4_cell_X4_isLane
set_option maxRecDepth 20000 in
theorem ggX4_cell_X2_faultAs : GoodIn wsX4_cell wsX2_faultAs := goodIn_r _ [16, 17, 18, 37, 38, 39, 40] (by decide +kernel) (by decide +kernel)
set_option maxRecDepth 20000 in
theorem gX4_cell_X2_faultAs : GoodIn wsX4_cell (wsV RX4 54 RX2 yX2_faultAs wsX2_faultAs) := goodIn_app (goodIn_of _ (by decide +kernel)) ggX4_cell_X2_faultAs
set_option maxRecDepth 20000 in
theorem ggX4_cell_X2_hasCell : GoodIn wsX4_cell wsX2_hasCell := goodIn_r _ [22, 23, 37, 38, 39, 40] (by decide +kernel) (by decide +kernel)
set_option maxRecDepth 20000 in
theorem gX4_cell_X2_hasCell : GoodIn wsX4_cell (wsV RX4 193 RX2 yX2_hasCell wsX2_hasCell) := goodIn_app (goodIn_of _ (by decide +kernel)) ggX4_cell_X2_hasCell
set_option maxRecDepth 20000 in
theorem ggX4_cell_X2_at : GoodIn wsX4_cell wsX2_at := goodIn_r _ [27, 28, 29, 20, 21, 15, 22, 23, 37, 38, 39, 40] (by decide +kernel) (by decide +kernel)
set_option maxRecDepth 20000 in
theorem gX4_cell_X2_at : GoodIn wsX4_cell (wsV RX4 202 RX2 yX2_at wsX2_at) := goodIn_app (goodIn_of _ (by decide +kernel)) ggX4_cell_X2_at
theorem dX4_cell_0 : decode cX4_cell 0 = .ok (.aload_n 0, 1) := by decide +kernel
theorem dX4_cell_1 : decode cX4_cell 1 = .ok (.iconst 0, 1) := by decide +kernel
theorem dX4_cell_2 : decode cX4_cell 2 = .ok (.putfield 42, 3) := by decide +kernel
theorem dX4_cell_5 : decode cX4_cell 5 = .ok (.aload_n 0, 1) := by decide +kernel
theorem dX4_cell_6 : decode cX4_cell 6 = .ok (.iload_n 1, 1) := by decide +kernel
theorem dX4_cell_7 : decode cX4_cell 7 = .ok (.invokevirtual 46, 3) := by decide +kernel
theorem dX4_cell_10 : decode cX4_cell 10 = .ok (.astore 4, 2) := by decide +kernel
theorem dX4_cell_12 : decode cX4_cell 12 = .ok (.aload 4, 2) := by decide +kernel
theorem dX4_cell_14 : decode cX4_cell 14 = .ok (.ifnull 10, 3) := by decide +kernel
theorem dX4_cell_17 : decode cX4_cell 17 = .ok (.iload_n 3, 1) := by decide +kernel
theorem dX4_cell_18 : decode cX4_cell 18 = .ok (.invokestatic 50, 3) := by decide +kernel
theorem dX4_cell_21 : decode cX4_cell 21 = .ok (.ifCond .ne 7, 3) := by decide +kernel
theorem dX4_cell_24 : decode cX4_cell 24 = .ok (.ldc2_w 180, 3) := by decide +kernel
theorem dX4_cell_27 : decode cX4_cell 27 = .ok (.lreturn, 1) := by decide +kernel
theorem dX4_cell_28 : decode cX4_cell 28 = .ok (.aload_n 0, 1) := by decide +kernel
theorem dX4_cell_29 : decode cX4_cell 29 = .ok (.aload 4, 2) := by decide +kernel
theorem dX4_cell_31 : decode cX4_cell 31 = .ok (.iload_n 3, 1) := by decide +kernel
theorem dX4_cell_32 : decode cX4_cell 32 = .ok (.invokevirtual 54, 3) := by decide +kernel
theorem dX4_cell_35 : decode cX4_cell 35 = .ok (.putfield 42, 3) := by decide +kernel
theorem dX4_cell_38 : decode cX4_cell 38 = .ok (.aload_n 0, 1) := by decide +kernel
theorem dX4_cell_39 : decode cX4_cell 39 = .ok (.getfield 42, 3) := by decide +kernel
theorem dX4_cell_42 : decode cX4_cell 42 = .ok (.ifCond .ne 17, 3) := by decide +kernel
theorem dX4_cell_45 : decode cX4_cell 45 = .ok (.aload 4, 2) := by decide +kernel
theorem dX4_cell_47 : decode cX4_cell 47 = .ok (.iload_n 2, 1) := by decide +kernel
theorem dX4_cell_48 : decode cX4_cell 48 = .ok (.invokevirtual 193, 3) := by decide +kernel
theorem dX4_cell_51 : decode cX4_cell 51 = .ok (.ifCond .ne 8, 3) := by decide +kernel
theorem dX4_cell_54 : decode cX4_cell 54 = .ok (.aload_n 0, 1) := by decide +kernel
theorem dX4_cell_55 : decode cX4_cell 55 = .ok (.iconst 3, 1) := by decide +kernel
theorem dX4_cell_56 : decode cX4_cell 56 = .ok (.putfield 42, 3) := by decide +kernel
theorem dX4_cell_59 : decode cX4_cell 59 = .ok (.aload_n 0, 1) := by decide +kernel
theorem dX4_cell_60 : decode cX4_cell 60 = .ok (.getfield 42, 3) := by decide +kernel
theorem dX4_cell_63 : decode cX4_cell 63 = .ok (.ifCond .ne 13, 3) := by decide +kernel
theorem dX4_cell_66 : decode cX4_cell 66 = .ok (.aload 4, 2) := by decide +kernel
theorem dX4_cell_68 : decode cX4_cell 68 = .ok (.iload_n 2, 1) := by decide +kernel
theorem dX4_cell_69 : decode cX4_cell 69 = .ok (.invokevirtual 202, 3) := by decide +kernel
theorem dX4_cell_72 : decode cX4_cell 72 = .ok (.i2l, 1) := by decide +kernel
theorem dX4_cell_73 : decode cX4_cell 73 = .ok (.goto 6, 3) := by decide +kernel
theorem dX4_cell_76 : decode cX4_cell 76 = .ok (.ldc2_w 180, 3) := by decide +kernel
theorem dX4_cell_79 : decode cX4_cell 79 = .ok (.lreturn, 1) := by decide +kernel
set_option maxRecDepth 20000 in
theorem ggX4_copy_X4_sheetAt : GoodIn wsX4_copy wsX4_sheetAt := goodIn_r _ [13, 14, 25, 26, 27, 28, 29, 30, 31] (by decide +kernel) (by decide +kernel)
set_option maxRecDepth 20000 in
theorem gX4_copy_X4_sheetAt : GoodIn wsX4_copy (wsV RX4 46 RX4 yX4_sheetAt wsX4_sheetAt) := goodIn_app (goodIn_of _ (by decide +kernel)) ggX4_copy_X4_sheetAt
set_option maxRecDepth 20000 in
theorem ggX4_copy_X4_failed : GoodIn wsX4_copy wsX4_failed := goodIn_r _ [18, 1, 25, 26, 27, 28, 29, 30, 31] (by decide +kernel) (by decide +kernel)
set_option maxRecDepth 20000 in
theorem gX4_copy_X4_failed : GoodIn wsX4_copy (wsV RX4 62 RX4 yX4_failed wsX4_failed) := goodIn_app (goodIn_of _ (by decide +kernel)) ggX4_copy_X4_failed
set_option maxRecDepth 20000 in
theorem ggX4_copy_X2_holds : GoodIn wsX4_copy wsX2_holds := goodIn_r _ [23, 24, 32, 33, 34, 35] (by decide +kernel) (by decide +kernel)
set_option maxRecDepth 20000 in
theorem gX4_copy_X2_holds : GoodIn wsX4_copy (wsV RX4 58 RX2 yX2_holds wsX2_holds) := goodIn_app (goodIn_of _ (by decide +kernel)) ggX4_copy_X2_holds
theorem dX4_copy_0 : decode cX4_copy 0 = .ok (.aload_n 0, 1) := by decide +kernel
theorem dX4_copy_1 : decode cX4_copy 1 = .ok (.iconst 0, 1) := by decide +kernel
theorem dX4_copy_2 : decode cX4_copy 2 = .ok (.putfield 42, 3) := by decide +kernel
theorem dX4_copy_5 : decode cX4_copy 5 = .ok (.aload_n 0, 1) := by decide +kernel
theorem dX4_copy_6 : decode cX4_copy 6 = .ok (.iload_n 1, 1) := by decide +kernel
theorem dX4_copy_7 : decode cX4_copy 7 = .ok (.invokevirtual 46, 3) := by decide +kernel
theorem dX4_copy_10 : decode cX4_copy 10 = .ok (.astore 6, 2) := by decide +kernel
theorem dX4_copy_12 : decode cX4_copy 12 = .ok (.aload_n 0, 1) := by decide +kernel
theorem dX4_copy_13 : decode cX4_copy 13 = .ok (.iload_n 3, 1) := by decide +kernel
theorem dX4_copy_14 : decode cX4_copy 14 = .ok (.invokevirtual 46, 3) := by decide +kernel
theorem dX4_copy_17 : decode cX4_copy 17 = .ok (.astore 7, 2) := by decide +kernel
theorem dX4_copy_19 : decode cX4_copy 19 = .ok (.aload 6, 2) := by decide +kernel
theorem dX4_copy_21 : decode cX4_copy 21 = .ok (.ifnull 8, 3) := by decide +kernel
theorem dX4_copy_24 : decode cX4_copy 24 = .ok (.aload 7, 2) := by decide +kernel
theorem dX4_copy_26 : decode cX4_copy 26 = .ok (.ifnonnull 5, 3) := by decide +kernel
theorem dX4_copy_29 : decode cX4_copy 29 = .ok (.iconst (-1), 1) := by decide +kernel
theorem dX4_copy_30 : decode cX4_copy 30 = .ok (.ireturn, 1) := by decide +kernel
theorem dX4_copy_31 : decode cX4_copy 31 = .ok (.aload 6, 2) := by decide +kernel
theorem dX4_copy_33 : decode cX4_copy 33 = .ok (.getfield 186, 3) := by decide +kernel
theorem dX4_copy_36 : decode cX4_copy 36 = .ok (.ifCond .eq 11, 3) := by decide +kernel
theorem dX4_copy_39 : decode cX4_copy 39 = .ok (.aload 7, 2) := by decide +kernel
theorem dX4_copy_41 : decode cX4_copy 41 = .ok (.getfield 186, 3) := by decide +kernel
theorem dX4_copy_44 : decode cX4_copy 44 = .ok (.ifCond .ne 9, 3) := by decide +kernel
theorem dX4_copy_47 : decode cX4_copy 47 = .ok (.aload_n 0, 1) := by decide +kernel
theorem dX4_copy_48 : decode cX4_copy 48 = .ok (.iconst 1, 1) := by decide +kernel
theorem dX4_copy_49 : decode cX4_copy 49 = .ok (.invokevirtual 62, 3) := by decide +kernel
theorem dX4_copy_52 : decode cX4_copy 52 = .ok (.ireturn, 1) := by decide +kernel
theorem dX4_copy_53 : decode cX4_copy 53 = .ok (.aload 6, 2) := by decide +kernel
theorem dX4_copy_55 : decode cX4_copy 55 = .ok (.getfield 205, 3) := by decide +kernel
theorem dX4_copy_58 : decode cX4_copy 58 = .ok (.aload 7, 2) := by decide +kernel
theorem dX4_copy_60 : decode cX4_copy 60 = .ok (.getfield 205, 3) := by decide +kernel
theorem dX4_copy_63 : decode cX4_copy 63 = .ok (.if_icmp .eq 9, 3) := by decide +kernel
theorem dX4_copy_66 : decode cX4_copy 66 = .ok (.aload_n 0, 1) := by decide +kernel
theorem dX4_copy_67 : decode cX4_copy 67 = .ok (.iconst 2, 1) := by decide +kernel
theorem dX4_copy_68 : decode cX4_copy 68 = .ok (.invokevirtual 62, 3) := by decide +kernel
theorem dX4_copy_71 : decode cX4_copy 71 = .ok (.ireturn, 1) := by decide +kernel
theorem dX4_copy_72 : decode cX4_copy 72 = .ok (.aload 6, 2) := by decide +kernel
theorem dX4_copy_74 : decode cX4_copy 74 = .ok (.iload_n 2, 1) := by decide +kernel
theorem dX4_copy_75 : decode cX4_copy 75 = .ok (.iload 5, 2) := by decide +kernel
theorem dX4_copy_77 : decode cX4_copy 77 = .ok (.invokevirtual 58, 3) := by decide +kernel
theorem dX4_copy_80 : decode cX4_copy 80 = .ok (.ifCond .eq 15, 3) := by decide +kernel
theorem dX4_copy_83 : decode cX4_copy 83 = .ok (.aload 7, 2) := by decide +kernel
theorem dX4_copy_85 : decode cX4_copy 85 = .ok (.iload 4, 2) := by decide +kernel
theorem dX4_copy_87 : decode cX4_copy 87 = .ok (.iload 5, 2) := by decide +kernel
theorem dX4_copy_89 : decode cX4_copy 89 = .ok (.invokevirtual 58, 3) := by decide +kernel
theorem dX4_copy_92 : decode cX4_copy 92 = .ok (.ifCond .ne 9, 3) := by decide +kernel
theorem dX4_copy_95 : decode cX4_copy 95 = .ok (.aload_n 0, 1) := by decide +kernel
theorem dX4_copy_96 : decode cX4_copy 96 = .ok (.iconst 3, 1) := by decide +kernel
theorem dX4_copy_97 : decode cX4_copy 97 = .ok (.invokevirtual 62, 3) := by decide +kernel
theorem dX4_copy_100 : decode cX4_copy 100 = .ok (.ireturn, 1) := by decide +kernel
theorem dX4_copy_101 : decode cX4_copy 101 = .ok (.aload 6, 2) := by decide +kernel
theorem dX4_copy_103 : decode cX4_copy 103 = .ok (.getfield 196, 3) := by decide +kernel
theorem dX4_copy_106 : decode cX4_copy 106 = .ok (.iload_n 2, 1) := by decide +kernel
theorem dX4_copy_107 : decode cX4_copy 107 = .ok (.aload 7, 2) := by decide +kernel
theorem dX4_copy_109 : decode cX4_copy 109 = .ok (.getfield 196, 3) := by decide +kernel
theorem dX4_copy_112 : decode cX4_copy 112 = .ok (.iload 4, 2) := by decide +kernel
theorem dX4_copy_114 : decode cX4_copy 114 = .ok (.iload 5, 2) := by decide +kernel
theorem dX4_copy_116 : decode cX4_copy 116 = .ok (.invokestatic 208, 3) := by decide +kernel
theorem dX4_copy_119 : decode cX4_copy 119 = .ok (.iload 5, 2) := by decide +kernel
theorem dX4_copy_121 : decode cX4_copy 121 = .ok (.ireturn, 1) := by decide +kernel
set_option maxRecDepth 20000 in
theorem ggX4_tell_X3_has : GoodIn wsX4_tell wsX3_has := goodIn_r _ [7, 8, 35, 36, 37, 38, 39, 40] (by decide +kernel) (by decide +kernel)
set_option maxRecDepth 20000 in
theorem gX4_tell_X3_has : GoodIn wsX4_tell (wsV RX4 76 RX3 yX3_has wsX3_has) := goodIn_app (goodIn_of _ (by decide +kernel)) ggX4_tell_X3_has
set_option maxRecDepth 20000 in
theorem ggX4_tell_X4_tellAsRider : GoodIn wsX4_tell wsX4_tellAsRider := goodIn_r _ [13, 14, 15, 16, 12, 17, 18, 19, 20, 21, 22, 1, 23, 3, 4, 5, 6, 7, 8, 28, 29, 30, 31, 32, 33, 34, 35, 36, 37, 38, 39, 40] (by decide +kernel) (by decide +kernel)
set_option maxRecDepth 20000 in
theorem gX4_tell_X4_tellAsRider : GoodIn wsX4_tell (wsV RX4 214 RX4 yX4_tellAsRider wsX4_tellAsRider) := goodIn_app (goodIn_of _ (by decide +kernel)) ggX4_tell_X4_tellAsRider
set_option maxRecDepth 20000 in
theorem ggX4_tell_X4_tellAsPole : GoodIn wsX4_tell wsX4_tellAsPole := goodIn_r _ [27, 14, 15, 16, 12, 17, 18, 9, 10, 11, 13, 19, 20, 21, 22, 1, 23, 3, 4, 5, 6, 7, 8, 28, 29, 30, 31, 32, 33, 34, 35, 36, 37, 38, 39, 40] (by decide +kernel) (by decide +kernel)
set_option maxRecDepth 20000 in
theorem gX4_tell_X4_tellAsPole : GoodIn wsX4_tell (wsV RX4 217 RX4 yX4_tellAsPole wsX4_tellAsPole) := goodIn_app (goodIn_of _ (by decide +kernel)) ggX4_tell_X4_tellAsPole
set_option maxRecDepth 20000 in
theorem ggX4_tell_X4_tellAsStander : GoodIn wsX4_tell wsX4_tellAsStander := goodIn_r _ [22, 1, 23, 14, 15, 16, 12, 17, 18, 3, 4, 5, 6, 7, 8, 28, 29, 30, 31, 32, 33, 34, 35, 36, 37, 38, 39, 40] (by decide +kernel) (by decide +kernel)
set_option maxRecDepth 20000 in
theorem gX4_tell_X4_tellAsStander : GoodIn wsX4_tell (wsV RX4 220 RX4 yX4_tellAsStander wsX4_tellAsStander) := goodIn_app (goodIn_of _ (by decide +kernel)) ggX4_tell_X4_tellAsStander
theorem dX4_tell_0 : decode cX4_tell 0 = .ok (.aload_n 0, 1) := by decide +kernel
theorem dX4_tell_1 : decode cX4_tell 1 = .ok (.getfield 14, 3) := by decide +kernel
theorem dX4_tell_4 : decode cX4_tell 4 = .ok (.iload_n 1, 1) := by decide +kernel
theorem dX4_tell_5 : decode cX4_tell 5 = .ok (.invokevirtual 76, 3) := by decide +kernel
theorem dX4_tell_8 : decode cX4_tell 8 = .ok (.ifCond .ne 5, 3) := by decide +kernel
theorem dX4_tell_11 : decode cX4_tell 11 = .ok (.iconst (-1), 1) := by decide +kernel
theorem dX4_tell_12 : decode cX4_tell 12 = .ok (.ireturn, 1) := by decide +kernel
theorem dX4_tell_13 : decode cX4_tell 13 = .ok (.aload_n 0, 1) := by decide +kernel
theorem dX4_tell_14 : decode cX4_tell 14 = .ok (.getfield 14, 3) := by decide +kernel
theorem dX4_tell_17 : decode cX4_tell 17 = .ok (.getfield 79, 3) := by decide +kernel
theorem dX4_tell_20 : decode cX4_tell 20 = .ok (.iload_n 1, 1) := by decide +kernel
theorem dX4_tell_21 : decode cX4_tell 21 = .ok (.iaload, 1) := by decide +kernel
theorem dX4_tell_22 : decode cX4_tell 22 = .ok (.lookupswitch 38 #[(1, 26), (2, 32)], 26) := by decide +kernel
theorem dX4_tell_48 : decode cX4_tell 48 = .ok (.aload_n 0, 1) := by decide +kernel
theorem dX4_tell_49 : decode cX4_tell 49 = .ok (.iload_n 1, 1) := by decide +kernel
theorem dX4_tell_50 : decode cX4_tell 50 = .ok (.invokevirtual 214, 3) := by decide +kernel
theorem dX4_tell_53 : decode cX4_tell 53 = .ok (.ireturn, 1) := by decide +kernel
theorem dX4_tell_54 : decode cX4_tell 54 = .ok (.aload_n 0, 1) := by decide +kernel
theorem dX4_tell_55 : decode cX4_tell 55 = .ok (.iload_n 1, 1) := by decide +kernel
theorem dX4_tell_56 : decode cX4_tell 56 = .ok (.invokevirtual 217, 3) := by decide +kernel
theorem dX4_tell_59 : decode cX4_tell 59 = .ok (.ireturn, 1) := by decide +kernel
theorem dX4_tell_60 : decode cX4_tell 60 = .ok (.aload_n 0, 1) := by decide +kernel
theorem dX4_tell_61 : decode cX4_tell 61 = .ok (.iload_n 1, 1) := by decide +kernel
theorem dX4_tell_62 : decode cX4_tell 62 = .ok (.invokevirtual 220, 3) := by decide +kernel
theorem dX4_tell_65 : decode cX4_tell 65 = .ok (.ireturn, 1) := by decide +kernel
set_option maxRecDepth 20000 in
theorem ggX4_tax_X3_has : GoodIn wsX4_tax wsX3_has := goodIn_r _ [7, 8, 22, 23, 24, 25, 26, 27] (by decide +kernel) (by decide +kernel)
set_option maxRecDepth 20000 in
theorem gX4_tax_X3_has : GoodIn wsX4_tax (wsV RX4 76 RX3 yX3_has wsX3_has) := goodIn_app (goodIn_of _ (by decide +kernel)) ggX4_tax_X3_has
set_option maxRecDepth 20000 in
theorem ggX4_tax_X4_leaveInTrace : GoodIn wsX4_tax wsX4_leaveInTrace := goodIn_r _ [13, 14, 15, 16, 17, 18, 19, 20, 21] (by decide +kernel) (by decide +kernel)
set_option maxRecDepth 20000 in
theorem gX4_tax_X4_leaveInTrace : GoodIn wsX4_tax (wsV RX4 223 RX4 yX4_leaveInTrace wsX4_leaveInTrace) := goodIn_app (goodIn_of _ (by decide +kernel)) ggX4_tax_X4_leaveInTrace
theorem dX4_tax_0 : decode cX4_tax 0 = .ok (.aload_n 0, 1) := by decide +kernel
theorem dX4_tax_1 : decode cX4_tax 1 = .ok (.getfield 14, 3) := by decide +kernel
theorem dX4_tax_4 : decode cX4_tax 4 = .ok (.iload_n 1, 1) := by decide +kernel
theorem dX4_tax_5 : decode cX4_tax 5 = .ok (.invokevirtual 76, 3) := by decide +kernel
theorem dX4_tax_8 : decode cX4_tax 8 = .ok (.ifCond .ne 5, 3) := by decide +kernel
theorem dX4_tax_11 : decode cX4_tax 11 = .ok (.iconst (-1), 1) := by decide +kernel
theorem dX4_tax_12 : decode cX4_tax 12 = .ok (.ireturn, 1) := by decide +kernel
theorem dX4_tax_13 : decode cX4_tax 13 = .ok (.aload_n 0, 1) := by decide +kernel
theorem dX4_tax_14 : decode cX4_tax 14 = .ok (.getfield 14, 3) := by decide +kernel
theorem dX4_tax_17 : decode cX4_tax 17 = .ok (.getfield 79, 3) := by decide +kernel
theorem dX4_tax_20 : decode cX4_tax 20 = .ok (.iload_n 1, 1) := by decide +kernel
theorem dX4_tax_21 : decode cX4_tax 21 = .ok (.iaload, 1) := by decide +kernel
theorem dX4_tax_22 : decode cX4_tax 22 = .ok (.iconst 2, 1) := by decide +kernel
theorem dX4_tax_23 : decode cX4_tax 23 = .ok (.if_icmp .ne 11, 3) := by decide +kernel
theorem dX4_tax_26 : decode cX4_tax 26 = .ok (.aload_n 0, 1) := by decide +kernel
theorem dX4_tax_27 : decode cX4_tax 27 = .ok (.iconst 5, 1) := by decide +kernel
theorem dX4_tax_28 : decode cX4_tax 28 = .ok (.invokevirtual 223, 3) := by decide +kernel
theorem dX4_tax_31 : decode cX4_tax 31 = .ok (.bipush 60, 2) := by decide +kernel
theorem dX4_tax_33 : decode cX4_tax 33 = .ok (.ireturn, 1) := by decide +kernel
theorem dX4_tax_34 : decode cX4_tax 34 = .ok (.aload_n 0, 1) := by decide +kernel
theorem dX4_tax_35 : decode cX4_tax 35 = .ok (.iconst 4, 1) := by decide +kernel
theorem dX4_tax_36 : decode cX4_tax 36 = .ok (.invokevirtual 223, 3) := by decide +kernel
theorem dX4_tax_39 : decode cX4_tax 39 = .ok (.iload_n 1, 1) := by decide +kernel
theorem dX4_tax_40 : decode cX4_tax 40 = .ok (.ireturn, 1) := by decide +kernel
set_option maxRecDepth 20000 in
theorem ggX4_as_X3_has : GoodIn wsX4_as wsX3_has := goodIn_r _ [8, 9, 22, 23, 24, 25, 26, 27] (by decide +kernel) (by decide +kernel)
set_option maxRecDepth 20000 in
theorem gX4_as_X3_has : GoodIn wsX4_as (wsV RX4 76 RX3 yX3_has wsX3_has) := goodIn_app (goodIn_of _ (by decide +kernel)) ggX4_as_X3_has
set_option maxRecDepth 20000 in
theorem ggX4_as_X4_failed : GoodIn wsX4_as wsX4_failed := goodIn_r _ [14, 1, 15, 16, 17, 18, 19, 20, 21] (by decide +kernel) (by decide +kernel)
set_option maxRecDepth 20000 in
theorem gX4_as_X4_failed : GoodIn wsX4_as (wsV RX4 62 RX4 yX4_failed wsX4_failed) := goodIn_app (goodIn_of _ (by decide +kernel)) ggX4_as_X4_failed
theorem dX4_as_0 : decode cX4_as 0 = .ok (.aload_n 0, 1) := by decide +kernel
theorem dX4_as_1 : decode cX4_as 1 = .ok (.iconst 0, 1) := by decide +kernel
theorem dX4_as_2 : decode cX4_as 2 = .ok (.putfield 42, 3) := by decide +kernel
theorem dX4_as_5 : decode cX4_as 5 = .ok (.aload_n 0, 1) := by decide +kernel
theorem dX4_as_6 : decode cX4_as 6 = .ok (.getfield 14, 3) := by decide +kernel
theorem dX4_as_9 : decode cX4_as 9 = .ok (.iload_n 1, 1) := by decide +kernel
theorem dX4_as_10 : decode cX4_as 10 = .ok (.invokevirtual 76, 3) := by decide +kernel
theorem dX4_as_13 : decode cX4_as 13 = .ok (.ifCond .ne 5, 3) := by decide +kernel
theorem dX4_as_16 : decode cX4_as 16 = .ok (.iconst (-1), 1) := by decide +kernel
theorem dX4_as_17 : decode cX4_as 17 = .ok (.ireturn, 1) := by decide +kernel
theorem dX4_as_18 : decode cX4_as 18 = .ok (.iload_n 2, 1) := by decide +kernel
theorem dX4_as_19 : decode cX4_as 19 = .ok (.ifCond .lt 8, 3) := by decide +kernel
theorem dX4_as_22 : decode cX4_as 22 = .ok (.iload_n 2, 1) := by decide +kernel
theorem dX4_as_23 : decode cX4_as 23 = .ok (.iconst 2, 1) := by decide +kernel
theorem dX4_as_24 : decode cX4_as 24 = .ok (.if_icmp .le 6, 3) := by decide +kernel
theorem dX4_as_27 : decode cX4_as 27 = .ok (.bipush (-2), 2) := by decide +kernel
theorem dX4_as_29 : decode cX4_as 29 = .ok (.ireturn, 1) := by decide +kernel
theorem dX4_as_30 : decode cX4_as 30 = .ok (.iload_n 2, 1) := by decide +kernel
theorem dX4_as_31 : decode cX4_as 31 = .ok (.aload_n 0, 1) := by decide +kernel
theorem dX4_as_32 : decode cX4_as 32 = .ok (.getfield 14, 3) := by decide +kernel
theorem dX4_as_35 : decode cX4_as 35 = .ok (.getfield 79, 3) := by decide +kernel
theorem dX4_as_38 : decode cX4_as 38 = .ok (.iload_n 1, 1) := by decide +kernel
theorem dX4_as_39 : decode cX4_as 39 = .ok (.iaload, 1) := by decide +kernel
theorem dX4_as_40 : decode cX4_as 40 = .ok (.if_icmp .gt 7, 3) := by decide +kernel
theorem dX4_as_43 : decode cX4_as 43 = .ok (.iconst 1, 1) := by decide +kernel
theorem dX4_as_44 : decode cX4_as 44 = .ok (.goto 8, 3) := by decide +kernel
theorem dX4_as_47 : decode cX4_as 47 = .ok (.aload_n 0, 1) := by decide +kernel
theorem dX4_as_48 : decode cX4_as 48 = .ok (.iconst 2, 1) := by decide +kernel
theorem dX4_as_49 : decode cX4_as 49 = .ok (.invokevirtual 62, 3) := by decide +kernel
theorem dX4_as_52 : decode cX4_as 52 = .ok (.ireturn, 1) := by decide +kernel
theorem dX4_trace_0 : decode cX4_trace 0 = .ok (.aload_n 0, 1) := by decide +kernel
theorem dX4_trace_1 : decode cX4_trace 1 = .ok (.getfield 227, 3) := by decide +kernel
theorem dX4_trace_4 : decode cX4_trace 4 = .ok (.ireturn, 1) := by decide +kernel
theorem dX4_fault_0 : decode cX4_fault 0 = .ok (.aload_n 0, 1) := by decide +kernel
theorem dX4_fault_1 : decode cX4_fault 1 = .ok (.getfield 42, 3) := by decide +kernel
theorem dX4_fault_4 : decode cX4_fault 4 = .ok (.ireturn, 1) := by decide +kernel
theorem dX4_many_0 : decode cX4_many 0 = .ok (.iload_n 1, 1) := by decide +kernel
theorem dX4_many_1 : decode cX4_many 1 = .ok (.tableswitch 63 0 3 #[31, 39, 47, 55], 31) := by decide +kernel
theorem dX4_many_32 : decode cX4_many 32 = .ok (.aload_n 0, 1) := by decide +kernel
theorem dX4_many_33 : decode cX4_many 33 = .ok (.getfield 14, 3) := by decide +kernel
theorem dX4_many_36 : decode cX4_many 36 = .ok (.getfield 73, 3) := by decide +kernel
theorem dX4_many_39 : decode cX4_many 39 = .ok (.ireturn, 1) := by decide +kernel
theorem dX4_many_40 : decode cX4_many 40 = .ok (.aload_n 0, 1) := by decide +kernel
theorem dX4_many_41 : decode cX4_many 41 = .ok (.getfield 14, 3) := by decide +kernel
theorem dX4_many_44 : decode cX4_many 44 = .ok (.getfield 124, 3) := by decide +kernel
theorem dX4_many_47 : decode cX4_many 47 = .ok (.ireturn, 1) := by decide +kernel
theorem dX4_many_48 : decode cX4_many 48 = .ok (.aload_n 0, 1) := by decide +kernel
theorem dX4_many_49 : decode cX4_many 49 = .ok (.getfield 14, 3) := by decide +kernel
theorem dX4_many_52 : decode cX4_many 52 = .ok (.getfield 96, 3) := by decide +kernel
theorem dX4_many_55 : decode cX4_many 55 = .ok (.ireturn, 1) := by decide +kernel
theorem dX4_many_56 : decode cX4_many 56 = .ok (.aload_n 0, 1) := by decide +kernel
theorem dX4_many_57 : decode cX4_many 57 = .ok (.getfield 31, 3) := by decide +kernel
theorem dX4_many_60 : decode cX4_many 60 = .ok (.getfield 171, 3) := by decide +kernel
theorem dX4_many_63 : decode cX4_many 63 = .ok (.ireturn, 1) := by decide +kernel
theorem dX4_many_64 : decode cX4_many 64 = .ok (.bipush (-2), 2) := by decide +kernel
theorem dX4_many_66 : decode cX4_many 66 = .ok (.ireturn, 1) := by decide +kernel
theorem dX4_isDigit_0 : decode cX4_isDigit 0 = .ok (.iload_n 0, 1) := by decide +kernel
theorem dX4_isDigit_1 : decode cX4_isDigit 1 = .ok (.ifCond .lt 13, 3) := by decide +kernel
theorem dX4_isDigit_4 : decode cX4_isDigit 4 = .ok (.iload_n 0, 1) := by decide +kernel
theorem dX4_isDigit_5 : decode cX4_isDigit 5 = .ok (.bipush 9, 2) := by decide +kernel
theorem dX4_isDigit_7 : decode cX4_isDigit 7 = .ok (.if_icmp .gt 7, 3) := by decide +kernel
theorem dX4_isDigit_10 : decode cX4_isDigit 10 = .ok (.iconst 1, 1) := by decide +kernel
theorem dX4_isDigit_11 : decode cX4_isDigit 11 = .ok (.goto 4, 3) := by decide +kernel
theorem dX4_isDigit_14 : decode cX4_isDigit 14 = .ok (.iconst 0, 1) := by decide +kernel
theorem dX4_isDigit_15 : decode cX4_isDigit 15 = .ok (.ireturn, 1) := by decide +kernel
theorem dX4_isSun_0 : decode cX4_isSun 0 = .ok (.iload_n 0, 1) := by decide +kernel
theorem dX4_isSun_1 : decode cX4_isSun 1 = .ok (.iconst 1, 1) := by decide +kernel
theorem dX4_isSun_2 : decode cX4_isSun 2 = .ok (.if_icmp .lt 12, 3) := by decide +kernel
theorem dX4_isSun_5 : decode cX4_isSun 5 = .ok (.iload_n 0, 1) := by decide +kernel
theorem dX4_isSun_6 : decode cX4_isSun 6 = .ok (.iconst 3, 1) := by decide +kernel
theorem dX4_isSun_7 : decode cX4_isSun 7 = .ok (.if_icmp .gt 7, 3) := by decide +kernel
theorem dX4_isSun_10 : decode cX4_isSun 10 = .ok (.iconst 1, 1) := by decide +kernel
theorem dX4_isSun_11 : decode cX4_isSun 11 = .ok (.goto 4, 3) := by decide +kernel
theorem dX4_isSun_14 : decode cX4_isSun 14 = .ok (.iconst 0, 1) := by decide +kernel
theorem dX4_isSun_15 : decode cX4_isSun 15 = .ok (.ireturn, 1) := by decide +kernel
theorem dX4_isLane_0 : decode cX4_isLane 0 = .ok (.iload_n 0, 1) := by decide +kernel
theorem dX4_isLane_1 : decode cX4_isLane 1 = .ok (.ifCond .lt 12, 3) := by decide +kernel
theorem dX4_isLane_4 : decode cX4_isLane 4 = .ok (.iload_n 0, 1) := by decide +kernel
theorem dX4_isLane_5 : decode cX4_isLane 5 = .ok (.iconst 2, 1) := by decide +kernel
theorem dX4_isLane_6 : decode cX4_isLane 6 = .ok (.if_icmp .gt 7, 3) := by decide +kernel
theorem dX4_isLane_9 : decode cX4_isLane 9 = .ok (.iconst 1, 1) := by decide +kernel
theorem dX4_isLane_10 : decode cX4_isLane 10 = .ok (.goto 4, 3) := by decide +kernel
theorem dX4_isLane_13 : decode cX4_isLane 13 = .ok (.iconst 0, 1) := by decide +kernel
theorem dX4_isLane_14 : decode cX4_isLane 14 = .ok (.ireturn, 1) := by decide +kernel
theorem dX4_isAskedOfWalks_0 : decode cX4_isAskedOfWalks 0 = .ok (.iload_n 0, 1) := by decide +kernel
theorem dX4_isAskedOfWalks_1 : decode cX4_isAskedOfWalks 1 = .ok (.ifCond .lt 8, 3) := by decide +kernel
theorem dX4_isAskedOfWalks_4 : decode cX4_isAskedOfWalks 4 = .ok (.iload_n 0, 1) := by decide +kernel
theorem dX4_isAskedOfWalks_5 : decode cX4_isAskedOfWalks 5 = .ok (.iconst 3, 1) := by decide +kernel
theorem dX4_isAskedOfWalks_6 : decode cX4_isAskedOfWalks 6 = .ok (.if_icmp .le 15, 3) := by decide +kernel
theorem dX4_isAskedOfWalks_9 : decode cX4_isAskedOfWalks 9 = .ok (.iload_n 0, 1) := by decide +kernel
theorem dX4_isAskedOfWalks_10 : decode cX4_isAskedOfWalks 10 = .ok (.bipush 10, 2) := by decide +kernel
theorem dX4_isAskedOfWalks_12 : decode cX4_isAskedOfWalks 12 = .ok (.if_icmp .lt 13, 3) := by decide +kernel
theorem dX4_isAskedOfWalks_15 : decode cX4_isAskedOfWalks 15 = .ok (.iload_n 0, 1) := by decide +kernel
theorem dX4_isAskedOfWalks_16 : decode cX4_isAskedOfWalks 16 = .ok (.bipush 15, 2) := by decide +kernel
theorem dX4_isAskedOfWalks_18 : decode cX4_isAskedOfWalks 18 = .ok (.if_icmp .ge 7, 3) := by decide +kernel
theorem dX4_isAskedOfWalks_21 : decode cX4_isAskedOfWalks 21 = .ok (.iconst 1, 1) := by decide +kernel
theorem dX4_isAskedOfWalks_22 : decode cX4_isAskedOfWalks 22 = .ok (.goto 4, 3) := by decide +kernel
theorem dX4_isAskedOfWalks_25 : decode cX4_isAskedOfWalks 25 = .ok (.iconst 0, 1) := by decide +kernel
theorem dX4_isAskedOfWalks_26 : decode cX4_isAskedOfWalks 26 = .ok (.ireturn, 1) := by decide +kernel
set_option maxRecDepth 20000 in
theorem ggX4_refusalAt_X4_isSun : GoodIn wsX4_refusalAt wsX4_isSun := goodIn_r _ [5] (by decide +kernel) (by decide +kernel)
set_option maxRecDepth 20000 in
theorem gX4_refusalAt_X4_isSun : GoodIn wsX4_refusalAt (va_wsS RX4 99 yX4_isSun wsX4_isSun) := goodIn_app (goodIn_of _ (by decide +kernel)) ggX4_refusalAt_X4_isSun
set_option maxRecDepth 20000 in
theorem ggX4_refusalAt_X3_isLaid : GoodIn wsX4_refusalAt wsX3_isLaid := goodIn_r _ [10, 11, 19, 20, 21, 22, 23, 24] (by decide +kernel) (by decide +kernel)
set_option maxRecDepth 20000 in
theorem gX4_refusalAt_X3_isLaid : GoodIn wsX4_refusalAt (wsV RX4 92 RX3 yX3_isLaid wsX3_isLaid) := goodIn_app (goodIn_of _ (by decide +kernel)) ggX4_refusalAt_X3_isLaid
theorem dX4_refusalAt_0 : decode cX4_refusalAt 0 = .ok (.iload_n 1, 1) := by decide +kernel
theorem dX4_refusalAt_1 : decode cX4_refusalAt 1 = .ok (.invokestatic 99, 3) := by decide +kernel
theorem dX4_refusalAt_4 : decode cX4_refusalAt 4 = .ok (.ifCond .ne 6, 3) := by decide +kernel
theorem dX4_refusalAt_7 : decode cX4_refusalAt 7 = .ok (.bipush (-2), 2) := by decide +kernel
theorem dX4_refusalAt_9 : decode cX4_refusalAt 9 = .ok (.ireturn, 1) := by decide +kernel
theorem dX4_refusalAt_10 : decode cX4_refusalAt 10 = .ok (.aload_n 0, 1) := by decide +kernel
theorem dX4_refusalAt_11 : decode cX4_refusalAt 11 = .ok (.getfield 14, 3) := by decide +kernel
theorem dX4_refusalAt_14 : decode cX4_refusalAt 14 = .ok (.invokevirtual 92, 3) := by decide +kernel
theorem dX4_refusalAt_17 : decode cX4_refusalAt 17 = .ok (.ifCond .eq 7, 3) := by decide +kernel
theorem dX4_refusalAt_20 : decode cX4_refusalAt 20 = .ok (.iconst 0, 1) := by decide +kernel
theorem dX4_refusalAt_21 : decode cX4_refusalAt 21 = .ok (.goto 5, 3) := by decide +kernel
theorem dX4_refusalAt_24 : decode cX4_refusalAt 24 = .ok (.bipush (-3), 2) := by decide +kernel
theorem dX4_refusalAt_26 : decode cX4_refusalAt 26 = .ok (.ireturn, 1) := by decide +kernel
set_option maxRecDepth 20000 in
theorem ggX4_refusalOfCount_X4_refusalAt : GoodIn wsX4_refusalOfCount wsX4_refusalAt := goodIn_r _ [5, 6, 7, 8, 4, 9, 10, 11, 12, 13, 14, 15, 16, 17, 18, 19, 20, 21, 22, 23, 24, 25, 26, 27, 28] (by decide +kernel) (by decide +kernel)
set_option maxRecDepth 20000 in
theorem gX4_refusalOfCount_X4_refusalAt : GoodIn wsX4_refusalOfCount (wsV RX4 106 RX4 yX4_refusalAt wsX4_refusalAt) := goodIn_app (goodIn_of _ (by decide +kernel)) ggX4_refusalOfCount_X4_refusalAt
theorem dX4_refusalOfCount_0 : decode cX4_refusalOfCount 0 = .ok (.iload_n 2, 1) := by decide +kernel
theorem dX4_refusalOfCount_1 : decode cX4_refusalOfCount 1 = .ok (.ifCond .lt 9, 3) := by decide +kernel
theorem dX4_refusalOfCount_4 : decode cX4_refusalOfCount 4 = .ok (.iload_n 2, 1) := by decide +kernel
theorem dX4_refusalOfCount_5 : decode cX4_refusalOfCount 5 = .ok (.bipush 99, 2) := by decide +kernel
theorem dX4_refusalOfCount_7 : decode cX4_refusalOfCount 7 = .ok (.if_icmp .le 8, 3) := by decide +kernel
theorem dX4_refusalOfCount_10 : decode cX4_refusalOfCount 10 = .ok (.bipush (-2), 2) := by decide +kernel
theorem dX4_refusalOfCount_12 : decode cX4_refusalOfCount 12 = .ok (.goto 8, 3) := by decide +kernel
theorem dX4_refusalOfCount_15 : decode cX4_refusalOfCount 15 = .ok (.aload_n 0, 1) := by decide +kernel
theorem dX4_refusalOfCount_16 : decode cX4_refusalOfCount 16 = .ok (.iload_n 1, 1) := by decide +kernel
theorem dX4_refusalOfCount_17 : decode cX4_refusalOfCount 17 = .ok (.invokevirtual 106, 3) := by decide +kernel
theorem dX4_refusalOfCount_20 : decode cX4_refusalOfCount 20 = .ok (.ireturn, 1) := by decide +kernel
theorem dX4_failed_0 : decode cX4_failed 0 = .ok (.aload_n 0, 1) := by decide +kernel
theorem dX4_failed_1 : decode cX4_failed 1 = .ok (.iload_n 1, 1) := by decide +kernel
theorem dX4_failed_2 : decode cX4_failed 2 = .ok (.putfield 42, 3) := by decide +kernel
theorem dX4_failed_5 : decode cX4_failed 5 = .ok (.bipush (-10), 2) := by decide +kernel
theorem dX4_failed_7 : decode cX4_failed 7 = .ok (.iload_n 1, 1) := by decide +kernel
theorem dX4_failed_8 : decode cX4_failed 8 = .ok (.isub, 1) := by decide +kernel
theorem dX4_failed_9 : decode cX4_failed 9 = .ok (.ireturn, 1) := by decide +kernel
theorem dX4_sheetAt_0 : decode cX4_sheetAt 0 = .ok (.iload_n 1, 1) := by decide +kernel
theorem dX4_sheetAt_1 : decode cX4_sheetAt 1 = .ok (.ifCond .lt 21, 3) := by decide +kernel
theorem dX4_sheetAt_4 : decode cX4_sheetAt 4 = .ok (.iload_n 1, 1) := by decide +kernel
theorem dX4_sheetAt_5 : decode cX4_sheetAt 5 = .ok (.aload_n 0, 1) := by decide +kernel
theorem dX4_sheetAt_6 : decode cX4_sheetAt 6 = .ok (.getfield 37, 3) := by decide +kernel
theorem dX4_sheetAt_9 : decode cX4_sheetAt 9 = .ok (.arraylength, 1) := by decide +kernel
theorem dX4_sheetAt_10 : decode cX4_sheetAt 10 = .ok (.if_icmp .ge 12, 3) := by decide +kernel
theorem dX4_sheetAt_13 : decode cX4_sheetAt 13 = .ok (.aload_n 0, 1) := by decide +kernel
theorem dX4_sheetAt_14 : decode cX4_sheetAt 14 = .ok (.getfield 37, 3) := by decide +kernel
theorem dX4_sheetAt_17 : decode cX4_sheetAt 17 = .ok (.iload_n 1, 1) := by decide +kernel
theorem dX4_sheetAt_18 : decode cX4_sheetAt 18 = .ok (.aaload, 1) := by decide +kernel
theorem dX4_sheetAt_19 : decode cX4_sheetAt 19 = .ok (.goto 4, 3) := by decide +kernel
theorem dX4_sheetAt_22 : decode cX4_sheetAt 22 = .ok (.aconst_null, 1) := by decide +kernel
theorem dX4_sheetAt_23 : decode cX4_sheetAt 23 = .ok (.areturn, 1) := by decide +kernel
set_option maxRecDepth 20000 in
theorem ggX4_firstFault_X2_at : GoodIn wsX4_firstFault wsX2_at := goodIn_r _ [5, 6, 7, 8, 9, 4, 10, 11, 22, 23, 24, 25] (by decide +kernel) (by decide +kernel)
set_option maxRecDepth 20000 in
theorem gX4_firstFault_X2_at : GoodIn wsX4_firstFault (wsV RX4 202 RX2 yX2_at wsX2_at) := goodIn_app (goodIn_of _ (by decide +kernel)) ggX4_firstFault_X2_at
set_option maxRecDepth 20000 in
theorem ggX4_firstFault_X4_goesOnWith : GoodIn wsX4_firstFault wsX4_goesOnWith := goodIn_r _ [15, 16, 17, 14, 18, 19, 20, 21] (by decide +kernel) (by decide +kernel)
set_option maxRecDepth 20000 in
theorem gX4_firstFault_X4_goesOnWith : GoodIn wsX4_firstFault (va_wsS RX4 230 yX4_goesOnWith wsX4_goesOnWith) := goodIn_app (goodIn_of _ (by decide +kernel)) ggX4_firstFault_X4_goesOnWith
theorem dX4_firstFault_0 : decode cX4_firstFault 0 = .ok (.iconst 0, 1) := by decide +kernel
theorem dX4_firstFault_1 : decode cX4_firstFault 1 = .ok (.istore_n 3, 1) := by decide +kernel
theorem dX4_firstFault_2 : decode cX4_firstFault 2 = .ok (.iload_n 3, 1) := by decide +kernel
theorem dX4_firstFault_3 : decode cX4_firstFault 3 = .ok (.iload_n 2, 1) := by decide +kernel
theorem dX4_firstFault_4 : decode cX4_firstFault 4 = .ok (.if_icmp .ge 25, 3) := by decide +kernel
theorem dX4_firstFault_7 : decode cX4_firstFault 7 = .ok (.iload_n 3, 1) := by decide +kernel
theorem dX4_firstFault_8 : decode cX4_firstFault 8 = .ok (.aload_n 0, 1) := by decide +kernel
theorem dX4_firstFault_9 : decode cX4_firstFault 9 = .ok (.iload_n 1, 1) := by decide +kernel
theorem dX4_firstFault_10 : decode cX4_firstFault 10 = .ok (.iload_n 3, 1) := by decide +kernel
theorem dX4_firstFault_11 : decode cX4_firstFault 11 = .ok (.iadd, 1) := by decide +kernel
theorem dX4_firstFault_12 : decode cX4_firstFault 12 = .ok (.invokevirtual 202, 3) := by decide +kernel
theorem dX4_firstFault_15 : decode cX4_firstFault 15 = .ok (.invokestatic 230, 3) := by decide +kernel
theorem dX4_firstFault_18 : decode cX4_firstFault 18 = .ok (.ifCond .ne 5, 3) := by decide +kernel
theorem dX4_firstFault_21 : decode cX4_firstFault 21 = .ok (.iload_n 3, 1) := by decide +kernel
theorem dX4_firstFault_22 : decode cX4_firstFault 22 = .ok (.ireturn, 1) := by decide +kernel
theorem dX4_firstFault_23 : decode cX4_firstFault 23 = .ok (.iinc 3 1, 3) := by decide +kernel
theorem dX4_firstFault_26 : decode cX4_firstFault 26 = .ok (.goto (-24), 3) := by decide +kernel
theorem dX4_firstFault_29 : decode cX4_firstFault 29 = .ok (.iload_n 2, 1) := by decide +kernel
theorem dX4_firstFault_30 : decode cX4_firstFault 30 = .ok (.bipush 7, 2) := by decide +kernel
theorem dX4_firstFault_32 : decode cX4_firstFault 32 = .ok (.if_icmp .lt 15, 3) := by decide +kernel
theorem dX4_firstFault_35 : decode cX4_firstFault 35 = .ok (.iload_n 2, 1) := by decide +kernel
theorem dX4_firstFault_36 : decode cX4_firstFault 36 = .ok (.iconst 3, 1) := by decide +kernel
theorem dX4_firstFault_37 : decode cX4_firstFault 37 = .ok (.isub, 1) := by decide +kernel
theorem dX4_firstFault_38 : decode cX4_firstFault 38 = .ok (.iconst 4, 1) := by decide +kernel
theorem dX4_firstFault_39 : decode cX4_firstFault 39 = .ok (.irem, 1) := by decide +kernel
theorem dX4_firstFault_40 : decode cX4_firstFault 40 = .ok (.ifCond .ne 7, 3) := by decide +kernel
theorem dX4_firstFault_43 : decode cX4_firstFault 43 = .ok (.iconst 1, 1) := by decide +kernel
theorem dX4_firstFault_44 : decode cX4_firstFault 44 = .ok (.goto 4, 3) := by decide +kernel
theorem dX4_firstFault_47 : decode cX4_firstFault 47 = .ok (.iconst 0, 1) := by decide +kernel
theorem dX4_firstFault_48 : decode cX4_firstFault 48 = .ok (.istore_n 3, 1) := by decide +kernel
theorem dX4_firstFault_49 : decode cX4_firstFault 49 = .ok (.iload_n 3, 1) := by decide +kernel
theorem dX4_firstFault_50 : decode cX4_firstFault 50 = .ok (.ifCond .eq 8, 3) := by decide +kernel
theorem dX4_firstFault_53 : decode cX4_firstFault 53 = .ok (.bipush (-9), 2) := by decide +kernel
theorem dX4_firstFault_55 : decode cX4_firstFault 55 = .ok (.goto 4, 3) := by decide +kernel
theorem dX4_firstFault_58 : decode cX4_firstFault 58 = .ok (.iload_n 2, 1) := by decide +kernel
theorem dX4_firstFault_59 : decode cX4_firstFault 59 = .ok (.ireturn, 1) := by decide +kernel
set_option maxRecDepth 20000 in
theorem ggX4_goesOnWith_X4_isDigitCode : GoodIn wsX4_goesOnWith wsX4_isDigitCode := goodIn_r _ [4] (by decide +kernel) (by decide +kernel)
set_option maxRecDepth 20000 in
theorem gX4_goesOnWith_X4_isDigitCode : GoodIn wsX4_goesOnWith (va_wsS RX4 233 yX4_isDigitCode wsX4_isDigitCode) := goodIn_app (goodIn_of _ (by decide +kernel)) ggX4_goesOnWith_X4_isDigitCode
set_option maxRecDepth 20000 in
theorem ggX4_goesOnWith_X4_kindOfLetter : GoodIn wsX4_goesOnWith wsX4_kindOfLetter := goodIn_r _ [7] (by decide +kernel) (by decide +kernel)
set_option maxRecDepth 20000 in
theorem gX4_goesOnWith_X4_kindOfLetter : GoodIn wsX4_goesOnWith (va_wsS RX4 236 yX4_kindOfLetter wsX4_kindOfLetter) := goodIn_app (goodIn_of _ (by decide +kernel)) ggX4_goesOnWith_X4_kindOfLetter
theorem dX4_goesOnWith_0 : decode cX4_goesOnWith 0 = .ok (.iload_n 0, 1) := by decide +kernel
theorem dX4_goesOnWith_1 : decode cX4_goesOnWith 1 = .ok (.ifCond .ne 15, 3) := by decide +kernel
theorem dX4_goesOnWith_4 : decode cX4_goesOnWith 4 = .ok (.iload_n 1, 1) := by decide +kernel
theorem dX4_goesOnWith_5 : decode cX4_goesOnWith 5 = .ok (.bipush 102, 2) := by decide +kernel
theorem dX4_goesOnWith_7 : decode cX4_goesOnWith 7 = .ok (.if_icmp .ne 7, 3) := by decide +kernel
theorem dX4_goesOnWith_10 : decode cX4_goesOnWith 10 = .ok (.iconst 1, 1) := by decide +kernel
theorem dX4_goesOnWith_11 : decode cX4_goesOnWith 11 = .ok (.goto 4, 3) := by decide +kernel
theorem dX4_goesOnWith_14 : decode cX4_goesOnWith 14 = .ok (.iconst 0, 1) := by decide +kernel
theorem dX4_goesOnWith_15 : decode cX4_goesOnWith 15 = .ok (.ireturn, 1) := by decide +kernel
theorem dX4_goesOnWith_16 : decode cX4_goesOnWith 16 = .ok (.iload_n 0, 1) := by decide +kernel
theorem dX4_goesOnWith_17 : decode cX4_goesOnWith 17 = .ok (.iconst 1, 1) := by decide +kernel
theorem dX4_goesOnWith_18 : decode cX4_goesOnWith 18 = .ok (.if_icmp .ne 21, 3) := by decide +kernel
theorem dX4_goesOnWith_21 : decode cX4_goesOnWith 21 = .ok (.iload_n 1, 1) := by decide +kernel
theorem dX4_goesOnWith_22 : decode cX4_goesOnWith 22 = .ok (.bipush 49, 2) := by decide +kernel
theorem dX4_goesOnWith_24 : decode cX4_goesOnWith 24 = .ok (.if_icmp .lt 13, 3) := by decide +kernel
theorem dX4_goesOnWith_27 : decode cX4_goesOnWith 27 = .ok (.iload_n 1, 1) := by decide +kernel
theorem dX4_goesOnWith_28 : decode cX4_goesOnWith 28 = .ok (.bipush 57, 2) := by decide +kernel
theorem dX4_goesOnWith_30 : decode cX4_goesOnWith 30 = .ok (.if_icmp .gt 7, 3) := by decide +kernel
theorem dX4_goesOnWith_33 : decode cX4_goesOnWith 33 = .ok (.iconst 1, 1) := by decide +kernel
theorem dX4_goesOnWith_34 : decode cX4_goesOnWith 34 = .ok (.goto 4, 3) := by decide +kernel
theorem dX4_goesOnWith_37 : decode cX4_goesOnWith 37 = .ok (.iconst 0, 1) := by decide +kernel
theorem dX4_goesOnWith_38 : decode cX4_goesOnWith 38 = .ok (.ireturn, 1) := by decide +kernel
theorem dX4_goesOnWith_39 : decode cX4_goesOnWith 39 = .ok (.iload_n 0, 1) := by decide +kernel
theorem dX4_goesOnWith_40 : decode cX4_goesOnWith 40 = .ok (.iconst 2, 1) := by decide +kernel
theorem dX4_goesOnWith_41 : decode cX4_goesOnWith 41 = .ok (.if_icmp .ne 8, 3) := by decide +kernel
theorem dX4_goesOnWith_44 : decode cX4_goesOnWith 44 = .ok (.iload_n 1, 1) := by decide +kernel
theorem dX4_goesOnWith_45 : decode cX4_goesOnWith 45 = .ok (.invokestatic 233, 3) := by decide +kernel
theorem dX4_goesOnWith_48 : decode cX4_goesOnWith 48 = .ok (.ireturn, 1) := by decide +kernel
theorem dX4_goesOnWith_49 : decode cX4_goesOnWith 49 = .ok (.iload_n 0, 1) := by decide +kernel
theorem dX4_goesOnWith_50 : decode cX4_goesOnWith 50 = .ok (.bipush 23, 2) := by decide +kernel
theorem dX4_goesOnWith_52 : decode cX4_goesOnWith 52 = .ok (.if_icmp .lt 5, 3) := by decide +kernel
theorem dX4_goesOnWith_55 : decode cX4_goesOnWith 55 = .ok (.iconst 0, 1) := by decide +kernel
theorem dX4_goesOnWith_56 : decode cX4_goesOnWith 56 = .ok (.ireturn, 1) := by decide +kernel
theorem dX4_goesOnWith_57 : decode cX4_goesOnWith 57 = .ok (.iload_n 0, 1) := by decide +kernel
theorem dX4_goesOnWith_58 : decode cX4_goesOnWith 58 = .ok (.iconst 3, 1) := by decide +kernel
theorem dX4_goesOnWith_59 : decode cX4_goesOnWith 59 = .ok (.isub, 1) := by decide +kernel
theorem dX4_goesOnWith_60 : decode cX4_goesOnWith 60 = .ok (.iconst 4, 1) := by decide +kernel
theorem dX4_goesOnWith_61 : decode cX4_goesOnWith 61 = .ok (.irem, 1) := by decide +kernel
theorem dX4_goesOnWith_62 : decode cX4_goesOnWith 62 = .ok (.lookupswitch 53 #[(0, 26), (1, 38)], 26) := by decide +kernel
theorem dX4_goesOnWith_88 : decode cX4_goesOnWith 88 = .ok (.iload_n 1, 1) := by decide +kernel
theorem dX4_goesOnWith_89 : decode cX4_goesOnWith 89 = .ok (.bipush 59, 2) := by decide +kernel
theorem dX4_goesOnWith_91 : decode cX4_goesOnWith 91 = .ok (.if_icmp .ne 7, 3) := by decide +kernel
theorem dX4_goesOnWith_94 : decode cX4_goesOnWith 94 = .ok (.iconst 1, 1) := by decide +kernel
theorem dX4_goesOnWith_95 : decode cX4_goesOnWith 95 = .ok (.goto 4, 3) := by decide +kernel
theorem dX4_goesOnWith_98 : decode cX4_goesOnWith 98 = .ok (.iconst 0, 1) := by decide +kernel
theorem dX4_goesOnWith_99 : decode cX4_goesOnWith 99 = .ok (.ireturn, 1) := by decide +kernel
theorem dX4_goesOnWith_100 : decode cX4_goesOnWith 100 = .ok (.iload_n 1, 1) := by decide +kernel
theorem dX4_goesOnWith_101 : decode cX4_goesOnWith 101 = .ok (.invokestatic 236, 3) := by decide +kernel
theorem dX4_goesOnWith_104 : decode cX4_goesOnWith 104 = .ok (.bipush (-9), 2) := by decide +kernel
theorem dX4_goesOnWith_106 : decode cX4_goesOnWith 106 = .ok (.if_icmp .eq 7, 3) := by decide +kernel
theorem dX4_goesOnWith_109 : decode cX4_goesOnWith 109 = .ok (.iconst 1, 1) := by decide +kernel
theorem dX4_goesOnWith_110 : decode cX4_goesOnWith 110 = .ok (.goto 4, 3) := by decide +kernel
theorem dX4_goesOnWith_113 : decode cX4_goesOnWith 113 = .ok (.iconst 0, 1) := by decide +kernel
theorem dX4_goesOnWith_114 : decode cX4_goesOnWith 114 = .ok (.ireturn, 1) := by decide +kernel
theorem dX4_goesOnWith_115 : decode cX4_goesOnWith 115 = .ok (.iload_n 1, 1) := by decide +kernel
theorem dX4_goesOnWith_116 : decode cX4_goesOnWith 116 = .ok (.invokestatic 233, 3) := by decide +kernel
theorem dX4_goesOnWith_119 : decode cX4_goesOnWith 119 = .ok (.ireturn, 1) := by decide +kernel
theorem dX4_isDigitCode_0 : decode cX4_isDigitCode 0 = .ok (.iload_n 0, 1) := by decide +kernel
theorem dX4_isDigitCode_1 : decode cX4_isDigitCode 1 = .ok (.bipush 48, 2) := by decide +kernel
theorem dX4_isDigitCode_3 : decode cX4_isDigitCode 3 = .ok (.if_icmp .lt 13, 3) := by decide +kernel
theorem dX4_isDigitCode_6 : decode cX4_isDigitCode 6 = .ok (.iload_n 0, 1) := by decide +kernel
theorem dX4_isDigitCode_7 : decode cX4_isDigitCode 7 = .ok (.bipush 57, 2) := by decide +kernel
theorem dX4_isDigitCode_9 : decode cX4_isDigitCode 9 = .ok (.if_icmp .gt 7, 3) := by decide +kernel
theorem dX4_isDigitCode_12 : decode cX4_isDigitCode 12 = .ok (.iconst 1, 1) := by decide +kernel
theorem dX4_isDigitCode_13 : decode cX4_isDigitCode 13 = .ok (.goto 4, 3) := by decide +kernel
theorem dX4_isDigitCode_16 : decode cX4_isDigitCode 16 = .ok (.iconst 0, 1) := by decide +kernel
theorem dX4_isDigitCode_17 : decode cX4_isDigitCode 17 = .ok (.ireturn, 1) := by decide +kernel
theorem dX4_kindOfLetter_0 : decode cX4_kindOfLetter 0 = .ok (.iload_n 0, 1) := by decide +kernel
theorem dX4_kindOfLetter_1 : decode cX4_kindOfLetter 1 = .ok (.tableswitch 37 112 115 #[35, 37, 33, 31], 31) := by decide +kernel
theorem dX4_kindOfLetter_32 : decode cX4_kindOfLetter 32 = .ok (.iconst 0, 1) := by decide +kernel
theorem dX4_kindOfLetter_33 : decode cX4_kindOfLetter 33 = .ok (.ireturn, 1) := by decide +kernel
theorem dX4_kindOfLetter_34 : decode cX4_kindOfLetter 34 = .ok (.iconst 1, 1) := by decide +kernel
theorem dX4_kindOfLetter_35 : decode cX4_kindOfLetter 35 = .ok (.ireturn, 1) := by decide +kernel
theorem dX4_kindOfLetter_36 : decode cX4_kindOfLetter 36 = .ok (.iconst 2, 1) := by decide +kernel
theorem dX4_kindOfLetter_37 : decode cX4_kindOfLetter 37 = .ok (.ireturn, 1) := by decide +kernel
theorem dX4_kindOfLetter_38 : decode cX4_kindOfLetter 38 = .ok (.bipush (-9), 2) := by decide +kernel
theorem dX4_kindOfLetter_40 : decode cX4_kindOfLetter 40 = .ok (.ireturn, 1) := by decide +kernel
set_option maxRecDepth 20000 in
theorem ggX4_layField_X2_at : GoodIn wsX4_layField wsX2_at := goodIn_r _ [14, 15, 16, 17, 18, 13, 19, 20, 41, 42, 43, 44] (by decide +kernel) (by decide +kernel)
set_option maxRecDepth 20000 in
theorem gX4_layField_X2_at : GoodIn wsX4_layField (wsV RX4 202 RX2 yX2_at wsX2_at) := goodIn_app (goodIn_of _ (by decide +kernel)) ggX4_layField_X2_at
set_option maxRecDepth 20000 in
theorem ggX4_layField_X4_kindOfLetter : GoodIn wsX4_layField wsX4_kindOfLetter := goodIn_r _ [24] (by decide +kernel) (by decide +kernel)
set_option maxRecDepth 20000 in
theorem gX4_layField_X4_kindOfLetter : GoodIn wsX4_layField (va_wsS RX4 236 yX4_kindOfLetter wsX4_kindOfLetter) := goodIn_app (goodIn_of _ (by decide +kernel)) ggX4_layField_X4_kindOfLetter
theorem dX4_layField_0 : decode cX4_layField 0 = .ok (.aload_n 0, 1) := by decide +kernel
theorem dX4_layField_1 : decode cX4_layField 1 = .ok (.getfield 14, 3) := by decide +kernel
theorem dX4_layField_4 : decode cX4_layField 4 = .ok (.aload_n 1, 1) := by decide +kernel
theorem dX4_layField_5 : decode cX4_layField 5 = .ok (.iload_n 2, 1) := by decide +kernel
theorem dX4_layField_6 : decode cX4_layField 6 = .ok (.iconst 1, 1) := by decide +kernel
theorem dX4_layField_7 : decode cX4_layField 7 = .ok (.iadd, 1) := by decide +kernel
theorem dX4_layField_8 : decode cX4_layField 8 = .ok (.invokevirtual 202, 3) := by decide +kernel
theorem dX4_layField_11 : decode cX4_layField 11 = .ok (.bipush 48, 2) := by decide +kernel
theorem dX4_layField_13 : decode cX4_layField 13 = .ok (.isub, 1) := by decide +kernel
theorem dX4_layField_14 : decode cX4_layField 14 = .ok (.putfield 124, 3) := by decide +kernel
theorem dX4_layField_17 : decode cX4_layField 17 = .ok (.aload_n 0, 1) := by decide +kernel
theorem dX4_layField_18 : decode cX4_layField 18 = .ok (.getfield 14, 3) := by decide +kernel
theorem dX4_layField_21 : decode cX4_layField 21 = .ok (.aload_n 1, 1) := by decide +kernel
theorem dX4_layField_22 : decode cX4_layField 22 = .ok (.iload_n 2, 1) := by decide +kernel
theorem dX4_layField_23 : decode cX4_layField 23 = .ok (.iconst 2, 1) := by decide +kernel
theorem dX4_layField_24 : decode cX4_layField 24 = .ok (.iadd, 1) := by decide +kernel
theorem dX4_layField_25 : decode cX4_layField 25 = .ok (.invokevirtual 202, 3) := by decide +kernel
theorem dX4_layField_28 : decode cX4_layField 28 = .ok (.bipush 48, 2) := by decide +kernel
theorem dX4_layField_30 : decode cX4_layField 30 = .ok (.isub, 1) := by decide +kernel
theorem dX4_layField_31 : decode cX4_layField 31 = .ok (.putfield 96, 3) := by decide +kernel
theorem dX4_layField_34 : decode cX4_layField 34 = .ok (.aload_n 0, 1) := by decide +kernel
theorem dX4_layField_35 : decode cX4_layField 35 = .ok (.getfield 14, 3) := by decide +kernel
theorem dX4_layField_38 : decode cX4_layField 38 = .ok (.iload_n 3, 1) := by decide +kernel
theorem dX4_layField_39 : decode cX4_layField 39 = .ok (.iconst 3, 1) := by decide +kernel
theorem dX4_layField_40 : decode cX4_layField 40 = .ok (.isub, 1) := by decide +kernel
theorem dX4_layField_41 : decode cX4_layField 41 = .ok (.iconst 4, 1) := by decide +kernel
theorem dX4_layField_42 : decode cX4_layField 42 = .ok (.idiv, 1) := by decide +kernel
theorem dX4_layField_43 : decode cX4_layField 43 = .ok (.putfield 73, 3) := by decide +kernel
theorem dX4_layField_46 : decode cX4_layField 46 = .ok (.iconst 0, 1) := by decide +kernel
theorem dX4_layField_47 : decode cX4_layField 47 = .ok (.istore 4, 2) := by decide +kernel
theorem dX4_layField_49 : decode cX4_layField 49 = .ok (.iload 4, 2) := by decide +kernel
theorem dX4_layField_51 : decode cX4_layField 51 = .ok (.aload_n 0, 1) := by decide +kernel
theorem dX4_layField_52 : decode cX4_layField 52 = .ok (.getfield 14, 3) := by decide +kernel
theorem dX4_layField_55 : decode cX4_layField 55 = .ok (.getfield 73, 3) := by decide +kernel
theorem dX4_layField_58 : decode cX4_layField 58 = .ok (.if_icmp .ge 88, 3) := by decide +kernel
theorem dX4_layField_61 : decode cX4_layField 61 = .ok (.iload 4, 2) := by decide +kernel
theorem dX4_layField_63 : decode cX4_layField 63 = .ok (.iconst 5, 1) := by decide +kernel
theorem dX4_layField_64 : decode cX4_layField 64 = .ok (.if_icmp .ge 82, 3) := by decide +kernel
theorem dX4_layField_67 : decode cX4_layField 67 = .ok (.iload_n 2, 1) := by decide +kernel
theorem dX4_layField_68 : decode cX4_layField 68 = .ok (.iconst 3, 1) := by decide +kernel
theorem dX4_layField_69 : decode cX4_layField 69 = .ok (.iadd, 1) := by decide +kernel
theorem dX4_layField_70 : decode cX4_layField 70 = .ok (.iconst 4, 1) := by decide +kernel
theorem dX4_layField_71 : decode cX4_layField 71 = .ok (.iload 4, 2) := by decide +kernel
theorem dX4_layField_73 : decode cX4_layField 73 = .ok (.imul, 1) := by decide +kernel
theorem dX4_layField_74 : decode cX4_layField 74 = .ok (.iadd, 1) := by decide +kernel
theorem dX4_layField_75 : decode cX4_layField 75 = .ok (.istore 5, 2) := by decide +kernel
theorem dX4_layField_77 : decode cX4_layField 77 = .ok (.aload_n 0, 1) := by decide +kernel
theorem dX4_layField_78 : decode cX4_layField 78 = .ok (.getfield 14, 3) := by decide +kernel
theorem dX4_layField_81 : decode cX4_layField 81 = .ok (.getfield 79, 3) := by decide +kernel
theorem dX4_layField_84 : decode cX4_layField 84 = .ok (.iload 4, 2) := by decide +kernel
theorem dX4_layField_86 : decode cX4_layField 86 = .ok (.aload_n 1, 1) := by decide +kernel
theorem dX4_layField_87 : decode cX4_layField 87 = .ok (.iload 5, 2) := by decide +kernel
theorem dX4_layField_89 : decode cX4_layField 89 = .ok (.iconst 1, 1) := by decide +kernel
theorem dX4_layField_90 : decode cX4_layField 90 = .ok (.iadd, 1) := by decide +kernel
theorem dX4_layField_91 : decode cX4_layField 91 = .ok (.invokevirtual 202, 3) := by decide +kernel
theorem dX4_layField_94 : decode cX4_layField 94 = .ok (.invokestatic 236, 3) := by decide +kernel
theorem dX4_layField_97 : decode cX4_layField 97 = .ok (.iastore, 1) := by decide +kernel
theorem dX4_layField_98 : decode cX4_layField 98 = .ok (.aload_n 0, 1) := by decide +kernel
theorem dX4_layField_99 : decode cX4_layField 99 = .ok (.getfield 14, 3) := by decide +kernel
theorem dX4_layField_102 : decode cX4_layField 102 = .ok (.getfield 83, 3) := by decide +kernel
theorem dX4_layField_105 : decode cX4_layField 105 = .ok (.iload 4, 2) := by decide +kernel
theorem dX4_layField_107 : decode cX4_layField 107 = .ok (.aload_n 1, 1) := by decide +kernel
theorem dX4_layField_108 : decode cX4_layField 108 = .ok (.iload 5, 2) := by decide +kernel
theorem dX4_layField_110 : decode cX4_layField 110 = .ok (.iconst 2, 1) := by decide +kernel
theorem dX4_layField_111 : decode cX4_layField 111 = .ok (.iadd, 1) := by decide +kernel
theorem dX4_layField_112 : decode cX4_layField 112 = .ok (.invokevirtual 202, 3) := by decide +kernel
theorem dX4_layField_115 : decode cX4_layField 115 = .ok (.bipush 48, 2) := by decide +kernel
theorem dX4_layField_117 : decode cX4_layField 117 = .ok (.isub, 1) := by decide +kernel
theorem dX4_layField_118 : decode cX4_layField 118 = .ok (.iastore, 1) := by decide +kernel
theorem dX4_layField_119 : decode cX4_layField 119 = .ok (.aload_n 0, 1) := by decide +kernel
theorem dX4_layField_120 : decode cX4_layField 120 = .ok (.getfield 14, 3) := by decide +kernel
theorem dX4_layField_123 : decode cX4_layField 123 = .ok (.getfield 86, 3) := by decide +kernel
theorem dX4_layField_126 : decode cX4_layField 126 = .ok (.iload 4, 2) := by decide +kernel
theorem dX4_layField_128 : decode cX4_layField 128 = .ok (.aload_n 1, 1) := by decide +kernel
theorem dX4_layField_129 : decode cX4_layField 129 = .ok (.iload 5, 2) := by decide +kernel
theorem dX4_layField_131 : decode cX4_layField 131 = .ok (.iconst 3, 1) := by decide +kernel
theorem dX4_layField_132 : decode cX4_layField 132 = .ok (.iadd, 1) := by decide +kernel
theorem dX4_layField_133 : decode cX4_layField 133 = .ok (.invokevirtual 202, 3) := by decide +kernel
theorem dX4_layField_136 : decode cX4_layField 136 = .ok (.bipush 48, 2) := by decide +kernel
theorem dX4_layField_138 : decode cX4_layField 138 = .ok (.isub, 1) := by decide +kernel
theorem dX4_layField_139 : decode cX4_layField 139 = .ok (.iastore, 1) := by decide +kernel
theorem dX4_layField_140 : decode cX4_layField 140 = .ok (.iinc 4 1, 3) := by decide +kernel
theorem dX4_layField_143 : decode cX4_layField 143 = .ok (.goto (-94), 3) := by decide +kernel
theorem dX4_layField_146 : decode cX4_layField 146 = .ok (.aload_n 0, 1) := by decide +kernel
theorem dX4_layField_147 : decode cX4_layField 147 = .ok (.getfield 31, 3) := by decide +kernel
theorem dX4_layField_150 : decode cX4_layField 150 = .ok (.iconst 0, 1) := by decide +kernel
theorem dX4_layField_151 : decode cX4_layField 151 = .ok (.putfield 171, 3) := by decide +kernel
theorem dX4_layField_154 : decode cX4_layField 154 = .ok (.return_, 1) := by decide +kernel
set_option maxRecDepth 20000 in
theorem ggX4_countedOn_X3_darkFeet : GoodIn wsX4_countedOn wsX3_darkFeet := goodIn_r _ [8, 9, 10, 11, 12, 7, 13, 14, 15, 16, 17, 18, 19, 20, 21, 22, 23, 24, 25, 26, 27, 28, 29, 30, 31, 32, 33, 55, 56, 57, 58, 59, 60] (by decide +kernel) (by decide +kernel)
set_option maxRecDepth 20000 in
theorem gX4_countedOn_X3_darkFeet : GoodIn wsX4_countedOn (wsV RX4 120 RX3 yX3_darkFeet wsX3_darkFeet) := goodIn_app (goodIn_of _ (by decide +kernel)) ggX4_countedOn_X3_darkFeet
set_option maxRecDepth 20000 in
theorem ggX4_countedOn_X1_measure : GoodIn wsX4_countedOn wsX1_measure := goodIn_r _ [38, 39, 40, 41, 42, 43, 44, 45, 37, 46, 47, 31, 32, 33, 61, 62, 63, 64] (by decide +kernel) (by decide +kernel)
set_option maxRecDepth 20000 in
theorem gX4_countedOn_X1_measure : GoodIn wsX4_countedOn (wsV RX4 127 RX1 yX1_measure wsX1_measure) := goodIn_app (goodIn_of _ (by decide +kernel)) ggX4_countedOn_X1_measure
theorem dX4_countedOn_0 : decode cX4_countedOn 0 = .ok (.aload_n 0, 1) := by decide +kernel
theorem dX4_countedOn_1 : decode cX4_countedOn 1 = .ok (.getfield 24, 3) := by decide +kernel
theorem dX4_countedOn_4 : decode cX4_countedOn 4 = .ok (.aload_n 1, 1) := by decide +kernel
theorem dX4_countedOn_5 : decode cX4_countedOn 5 = .ok (.iload_n 2, 1) := by decide +kernel
theorem dX4_countedOn_6 : decode cX4_countedOn 6 = .ok (.iload_n 3, 1) := by decide +kernel
theorem dX4_countedOn_7 : decode cX4_countedOn 7 = .ok (.invokevirtual 120, 3) := by decide +kernel
theorem dX4_countedOn_10 : decode cX4_countedOn 10 = .ok (.aload_n 1, 1) := by decide +kernel
theorem dX4_countedOn_11 : decode cX4_countedOn 11 = .ok (.getfield 124, 3) := by decide +kernel
theorem dX4_countedOn_14 : decode cX4_countedOn 14 = .ok (.invokevirtual 127, 3) := by decide +kernel
theorem dX4_countedOn_17 : decode cX4_countedOn 17 = .ok (.aload_n 0, 1) := by decide +kernel
theorem dX4_countedOn_18 : decode cX4_countedOn 18 = .ok (.getfield 24, 3) := by decide +kernel
theorem dX4_countedOn_21 : decode cX4_countedOn 21 = .ok (.getfield 239, 3) := by decide +kernel
theorem dX4_countedOn_24 : decode cX4_countedOn 24 = .ok (.ireturn, 1) := by decide +kernel
set_option maxRecDepth 20000 in
theorem ggX4_offAt_X3_everyone : GoodIn wsX4_offAt wsX3_everyone := goodIn_r _ [11, 12, 69, 70, 71, 72, 73, 74] (by decide +kernel) (by decide +kernel)
set_option maxRecDepth 20000 in
theorem gX4_offAt_X3_everyone : GoodIn wsX4_offAt (wsV RX4 112 RX3 yX3_everyone wsX3_everyone) := goodIn_app (goodIn_of _ (by decide +kernel)) ggX4_offAt_X3_everyone
set_option maxRecDepth 20000 in
theorem ggX4_offAt_X4_countedOn : GoodIn wsX4_offAt wsX4_countedOn := goodIn_r _ [17, 18, 19, 20, 21, 22, 23, 10, 24, 25, 26, 27, 28, 29, 30, 31, 32, 33, 12, 34, 35, 36, 37, 38, 39, 40, 41, 42, 43, 44, 45, 46, 5, 47, 48, 49, 50, 51, 52, 53, 54, 55, 56, 57, 58, 59, 60, 61, 62, 63, 64, 65, 66, 67, 68, 69, 70, 71, 72, 73, 74, 75, 76, 77, 78] (by decide +kernel) (by decide +kernel)
set_option maxRecDepth 20000 in
theorem gX4_offAt_X4_countedOn : GoodIn wsX4_offAt (wsV RX4 116 RX4 yX4_countedOn wsX4_countedOn) := goodIn_app (goodIn_of _ (by decide +kernel)) ggX4_offAt_X4_countedOn
theorem dX4_offAt_0 : decode cX4_offAt 0 = .ok (.aload_n 0, 1) := by decide +kernel
theorem dX4_offAt_1 : decode cX4_offAt 1 = .ok (.aload_n 0, 1) := by decide +kernel
theorem dX4_offAt_2 : decode cX4_offAt 2 = .ok (.getfield 14, 3) := by decide +kernel
theorem dX4_offAt_5 : decode cX4_offAt 5 = .ok (.iload_n 1, 1) := by decide +kernel
theorem dX4_offAt_6 : decode cX4_offAt 6 = .ok (.aload_n 0, 1) := by decide +kernel
theorem dX4_offAt_7 : decode cX4_offAt 7 = .ok (.getfield 14, 3) := by decide +kernel
theorem dX4_offAt_10 : decode cX4_offAt 10 = .ok (.invokevirtual 112, 3) := by decide +kernel
theorem dX4_offAt_13 : decode cX4_offAt 13 = .ok (.invokevirtual 116, 3) := by decide +kernel
theorem dX4_offAt_16 : decode cX4_offAt 16 = .ok (.aload_n 0, 1) := by decide +kernel
theorem dX4_offAt_17 : decode cX4_offAt 17 = .ok (.getfield 14, 3) := by decide +kernel
theorem dX4_offAt_20 : decode cX4_offAt 20 = .ok (.getfield 73, 3) := by decide +kernel
theorem dX4_offAt_23 : decode cX4_offAt 23 = .ok (.isub, 1) := by decide +kernel
theorem dX4_offAt_24 : decode cX4_offAt 24 = .ok (.invokestatic 242, 3) := by decide +kernel
theorem dX4_offAt_27 : decode cX4_offAt 27 = .ok (.ireturn, 1) := by decide +kernel
set_option maxRecDepth 20000 in
theorem ggX4_areReadingsSoOnTrial_X3_everyone : GoodIn wsX4_areReadingsSoOnTrial wsX3_everyone := goodIn_r _ [10, 11, 72, 73, 74, 75, 76, 77] (by decide +kernel) (by decide +kernel)
set_option maxRecDepth 20000 in
theorem gX4_areReadingsSoOnTrial_X3_everyone : GoodIn wsX4_areReadingsSoOnTrial (wsV RX4 112 RX3 yX3_everyone wsX3_everyone) := goodIn_app (goodIn_of _ (by decide +kernel)) ggX4_areReadingsSoOnTrial_X3_everyone
set_option maxRecDepth 20000 in
theorem ggX4_areReadingsSoOnTrial_X4_countedOn : GoodIn wsX4_areReadingsSoOnTrial wsX4_countedOn := goodIn_r _ [16, 17, 18, 19, 20, 21, 22, 9, 23, 24, 25, 26, 27, 28, 29, 30, 31, 32, 11, 33, 34, 35, 36, 37, 38, 39, 40, 41, 42, 43, 44, 45, 46, 47, 48, 49, 50, 51, 52, 53, 54, 55, 56, 57, 58, 59, 60, 61, 62, 63, 64, 65, 66, 67, 68, 72, 73, 74, 75, 76, 77, 78, 79, 80, 81] (by decide +kernel) (by decide +kernel)
set_option maxRecDepth 20000 in
theorem gX4_areReadingsSoOnTrial_X4_countedOn : GoodIn wsX4_areReadingsSoOnTrial (wsV RX4 116 RX4 yX4_countedOn wsX4_countedOn) := goodIn_app (goodIn_of _ (by decide +kernel)) ggX4_areReadingsSoOnTrial_X4_countedOn
theorem dX4_areReadingsSoOnTrial_0 : decode cX4_areReadingsSoOnTrial 0 = .ok (.iconst 0, 1) := by decide +kernel
theorem dX4_areReadingsSoOnTrial_1 : decode cX4_areReadingsSoOnTrial 1 = .ok (.istore_n 1, 1) := by decide +kernel
theorem dX4_areReadingsSoOnTrial_2 : decode cX4_areReadingsSoOnTrial 2 = .ok (.iload_n 1, 1) := by decide +kernel
theorem dX4_areReadingsSoOnTrial_3 : decode cX4_areReadingsSoOnTrial 3 = .ok (.aload_n 0, 1) := by decide +kernel
theorem dX4_areReadingsSoOnTrial_4 : decode cX4_areReadingsSoOnTrial 4 = .ok (.getfield 31, 3) := by decide +kernel
theorem dX4_areReadingsSoOnTrial_7 : decode cX4_areReadingsSoOnTrial 7 = .ok (.getfield 171, 3) := by decide +kernel
theorem dX4_areReadingsSoOnTrial_10 : decode cX4_areReadingsSoOnTrial 10 = .ok (.if_icmp .ge 53, 3) := by decide +kernel
theorem dX4_areReadingsSoOnTrial_13 : decode cX4_areReadingsSoOnTrial 13 = .ok (.iload_n 1, 1) := by decide +kernel
theorem dX4_areReadingsSoOnTrial_14 : decode cX4_areReadingsSoOnTrial 14 = .ok (.bipush 8, 2) := by decide +kernel
theorem dX4_areReadingsSoOnTrial_16 : decode cX4_areReadingsSoOnTrial 16 = .ok (.if_icmp .ge 47, 3) := by decide +kernel
theorem dX4_areReadingsSoOnTrial_19 : decode cX4_areReadingsSoOnTrial 19 = .ok (.aload_n 0, 1) := by decide +kernel
theorem dX4_areReadingsSoOnTrial_20 : decode cX4_areReadingsSoOnTrial 20 = .ok (.aload_n 0, 1) := by decide +kernel
theorem dX4_areReadingsSoOnTrial_21 : decode cX4_areReadingsSoOnTrial 21 = .ok (.getfield 18, 3) := by decide +kernel
theorem dX4_areReadingsSoOnTrial_24 : decode cX4_areReadingsSoOnTrial 24 = .ok (.aload_n 0, 1) := by decide +kernel
theorem dX4_areReadingsSoOnTrial_25 : decode cX4_areReadingsSoOnTrial 25 = .ok (.getfield 31, 3) := by decide +kernel
theorem dX4_areReadingsSoOnTrial_28 : decode cX4_areReadingsSoOnTrial 28 = .ok (.getfield 247, 3) := by decide +kernel
theorem dX4_areReadingsSoOnTrial_31 : decode cX4_areReadingsSoOnTrial 31 = .ok (.iload_n 1, 1) := by decide +kernel
theorem dX4_areReadingsSoOnTrial_32 : decode cX4_areReadingsSoOnTrial 32 = .ok (.iaload, 1) := by decide +kernel
theorem dX4_areReadingsSoOnTrial_33 : decode cX4_areReadingsSoOnTrial 33 = .ok (.aload_n 0, 1) := by decide +kernel
theorem dX4_areReadingsSoOnTrial_34 : decode cX4_areReadingsSoOnTrial 34 = .ok (.getfield 18, 3) := by decide +kernel
theorem dX4_areReadingsSoOnTrial_37 : decode cX4_areReadingsSoOnTrial 37 = .ok (.invokevirtual 112, 3) := by decide +kernel
theorem dX4_areReadingsSoOnTrial_40 : decode cX4_areReadingsSoOnTrial 40 = .ok (.invokevirtual 116, 3) := by decide +kernel
theorem dX4_areReadingsSoOnTrial_43 : decode cX4_areReadingsSoOnTrial 43 = .ok (.aload_n 0, 1) := by decide +kernel
theorem dX4_areReadingsSoOnTrial_44 : decode cX4_areReadingsSoOnTrial 44 = .ok (.getfield 31, 3) := by decide +kernel
theorem dX4_areReadingsSoOnTrial_47 : decode cX4_areReadingsSoOnTrial 47 = .ok (.getfield 250, 3) := by decide +kernel
theorem dX4_areReadingsSoOnTrial_50 : decode cX4_areReadingsSoOnTrial 50 = .ok (.iload_n 1, 1) := by decide +kernel
theorem dX4_areReadingsSoOnTrial_51 : decode cX4_areReadingsSoOnTrial 51 = .ok (.iaload, 1) := by decide +kernel
theorem dX4_areReadingsSoOnTrial_52 : decode cX4_areReadingsSoOnTrial 52 = .ok (.if_icmp .eq 5, 3) := by decide +kernel
theorem dX4_areReadingsSoOnTrial_55 : decode cX4_areReadingsSoOnTrial 55 = .ok (.iconst 0, 1) := by decide +kernel
theorem dX4_areReadingsSoOnTrial_56 : decode cX4_areReadingsSoOnTrial 56 = .ok (.ireturn, 1) := by decide +kernel
theorem dX4_areReadingsSoOnTrial_57 : decode cX4_areReadingsSoOnTrial 57 = .ok (.iinc 1 1, 3) := by decide +kernel
theorem dX4_areReadingsSoOnTrial_60 : decode cX4_areReadingsSoOnTrial 60 = .ok (.goto (-58), 3) := by decide +kernel
theorem dX4_areReadingsSoOnTrial_63 : decode cX4_areReadingsSoOnTrial 63 = .ok (.iconst 1, 1) := by decide +kernel
theorem dX4_areReadingsSoOnTrial_64 : decode cX4_areReadingsSoOnTrial 64 = .ok (.ireturn, 1) := by decide +kernel
set_option maxRecDepth 20000 in
theorem ggX4_refusalOfPairs_X2_at : GoodIn wsX4_refusalOfPairs wsX2_at := goodIn_r _ [6, 7, 8, 9, 10, 5, 11, 12, 30, 31, 32, 33] (by decide +kernel) (by decide +kernel)
set_option maxRecDepth 20000 in
theorem gX4_refusalOfPairs_X2_at : GoodIn wsX4_refusalOfPairs (wsV RX4 202 RX2 yX2_at wsX2_at) := goodIn_app (goodIn_of _ (by decide +kernel)) ggX4_refusalOfPairs_X2_at
set_option maxRecDepth 20000 in
theorem ggX4_refusalOfPairs_X3_has : GoodIn wsX4_refusalOfPairs wsX3_has := goodIn_r _ [17, 18, 34, 35, 36, 37, 38, 39] (by decide +kernel) (by decide +kernel)
set_option maxRecDepth 20000 in
theorem gX4_refusalOfPairs_X3_has : GoodIn wsX4_refusalOfPairs (wsV RX4 76 RX3 yX3_has wsX3_has) := goodIn_app (goodIn_of _ (by decide +kernel)) ggX4_refusalOfPairs_X3_has
set_option maxRecDepth 20000 in
theorem ggX4_refusalOfPairs_X4_isDigit : GoodIn wsX4_refusalOfPairs wsX4_isDigit := goodIn_r _ [22] (by decide +kernel) (by decide +kernel)
set_option maxRecDepth 20000 in
theorem gX4_refusalOfPairs_X4_isDigit : GoodIn wsX4_refusalOfPairs (va_wsS RX4 89 yX4_isDigit wsX4_isDigit) := goodIn_app (goodIn_of _ (by decide +kernel)) ggX4_refusalOfPairs_X4_isDigit
theorem dX4_refusalOfPairs_0 : decode cX4_refusalOfPairs 0 = .ok (.iconst 0, 1) := by decide +kernel
theorem dX4_refusalOfPairs_1 : decode cX4_refusalOfPairs 1 = .ok (.istore 4, 2) := by decide +kernel
theorem dX4_refusalOfPairs_3 : decode cX4_refusalOfPairs 3 = .ok (.iload 4, 2) := by decide +kernel
theorem dX4_refusalOfPairs_5 : decode cX4_refusalOfPairs 5 = .ok (.iload_n 3, 1) := by decide +kernel
theorem dX4_refusalOfPairs_6 : decode cX4_refusalOfPairs 6 = .ok (.if_icmp .ge 52, 3) := by decide +kernel
theorem dX4_refusalOfPairs_9 : decode cX4_refusalOfPairs 9 = .ok (.aload_n 0, 1) := by decide +kernel
theorem dX4_refusalOfPairs_10 : decode cX4_refusalOfPairs 10 = .ok (.getfield 14, 3) := by decide +kernel
theorem dX4_refusalOfPairs_13 : decode cX4_refusalOfPairs 13 = .ok (.aload_n 1, 1) := by decide +kernel
theorem dX4_refusalOfPairs_14 : decode cX4_refusalOfPairs 14 = .ok (.iload_n 2, 1) := by decide +kernel
theorem dX4_refusalOfPairs_15 : decode cX4_refusalOfPairs 15 = .ok (.iconst 2, 1) := by decide +kernel
theorem dX4_refusalOfPairs_16 : decode cX4_refusalOfPairs 16 = .ok (.iload 4, 2) := by decide +kernel
theorem dX4_refusalOfPairs_18 : decode cX4_refusalOfPairs 18 = .ok (.imul, 1) := by decide +kernel
theorem dX4_refusalOfPairs_19 : decode cX4_refusalOfPairs 19 = .ok (.iadd, 1) := by decide +kernel
theorem dX4_refusalOfPairs_20 : decode cX4_refusalOfPairs 20 = .ok (.invokevirtual 202, 3) := by decide +kernel
theorem dX4_refusalOfPairs_23 : decode cX4_refusalOfPairs 23 = .ok (.invokevirtual 76, 3) := by decide +kernel
theorem dX4_refusalOfPairs_26 : decode cX4_refusalOfPairs 26 = .ok (.ifCond .ne 5, 3) := by decide +kernel
theorem dX4_refusalOfPairs_29 : decode cX4_refusalOfPairs 29 = .ok (.iconst (-1), 1) := by decide +kernel
theorem dX4_refusalOfPairs_30 : decode cX4_refusalOfPairs 30 = .ok (.ireturn, 1) := by decide +kernel
theorem dX4_refusalOfPairs_31 : decode cX4_refusalOfPairs 31 = .ok (.aload_n 1, 1) := by decide +kernel
theorem dX4_refusalOfPairs_32 : decode cX4_refusalOfPairs 32 = .ok (.iload_n 2, 1) := by decide +kernel
theorem dX4_refusalOfPairs_33 : decode cX4_refusalOfPairs 33 = .ok (.iconst 2, 1) := by decide +kernel
theorem dX4_refusalOfPairs_34 : decode cX4_refusalOfPairs 34 = .ok (.iload 4, 2) := by decide +kernel
theorem dX4_refusalOfPairs_36 : decode cX4_refusalOfPairs 36 = .ok (.imul, 1) := by decide +kernel
theorem dX4_refusalOfPairs_37 : decode cX4_refusalOfPairs 37 = .ok (.iadd, 1) := by decide +kernel
theorem dX4_refusalOfPairs_38 : decode cX4_refusalOfPairs 38 = .ok (.iconst 1, 1) := by decide +kernel
theorem dX4_refusalOfPairs_39 : decode cX4_refusalOfPairs 39 = .ok (.iadd, 1) := by decide +kernel
theorem dX4_refusalOfPairs_40 : decode cX4_refusalOfPairs 40 = .ok (.invokevirtual 202, 3) := by decide +kernel
theorem dX4_refusalOfPairs_43 : decode cX4_refusalOfPairs 43 = .ok (.invokestatic 89, 3) := by decide +kernel
theorem dX4_refusalOfPairs_46 : decode cX4_refusalOfPairs 46 = .ok (.ifCond .ne 6, 3) := by decide +kernel
theorem dX4_refusalOfPairs_49 : decode cX4_refusalOfPairs 49 = .ok (.bipush (-2), 2) := by decide +kernel
theorem dX4_refusalOfPairs_51 : decode cX4_refusalOfPairs 51 = .ok (.ireturn, 1) := by decide +kernel
theorem dX4_refusalOfPairs_52 : decode cX4_refusalOfPairs 52 = .ok (.iinc 4 1, 3) := by decide +kernel
theorem dX4_refusalOfPairs_55 : decode cX4_refusalOfPairs 55 = .ok (.goto (-52), 3) := by decide +kernel
theorem dX4_refusalOfPairs_58 : decode cX4_refusalOfPairs 58 = .ok (.iconst 0, 1) := by decide +kernel
theorem dX4_refusalOfPairs_59 : decode cX4_refusalOfPairs 59 = .ok (.ireturn, 1) := by decide +kernel
set_option maxRecDepth 20000 in
theorem ggX4_walkOnTrial_X3_becomeLike : GoodIn wsX4_walkOnTrial wsX3_becomeLike := goodIn_r _ [12, 13, 14, 15, 16, 17, 18, 46, 47, 48, 49, 50, 51] (by decide +kernel) (by decide +kernel)
set_option maxRecDepth 20000 in
theorem gX4_walkOnTrial_X3_becomeLike : GoodIn wsX4_walkOnTrial (wsV RX4 156 RX3 yX3_becomeLike wsX3_becomeLike) := goodIn_app (goodIn_of _ (by decide +kernel)) ggX4_walkOnTrial_X3_becomeLike
set_option maxRecDepth 20000 in
theorem ggX4_walkOnTrial_X2_at : GoodIn wsX4_walkOnTrial wsX2_at := goodIn_r _ [23, 24, 25, 26, 27, 22, 28, 29, 52, 53, 54, 55] (by decide +kernel) (by decide +kernel)
set_option maxRecDepth 20000 in
theorem gX4_walkOnTrial_X2_at : GoodIn wsX4_walkOnTrial (wsV RX4 202 RX2 yX2_at wsX2_at) := goodIn_app (goodIn_of _ (by decide +kernel)) ggX4_walkOnTrial_X2_at
set_option maxRecDepth 20000 in
theorem ggX4_walkOnTrial_X3_has : GoodIn wsX4_walkOnTrial wsX3_has := goodIn_r _ [33, 16, 46, 47, 48, 49, 50, 51] (by decide +kernel) (by decide +kernel)
set_option maxRecDepth 20000 in
theorem gX4_walkOnTrial_X3_has : GoodIn wsX4_walkOnTrial (wsV RX4 76 RX3 yX3_has wsX3_has) := goodIn_app (goodIn_of _ (by decide +kernel)) ggX4_walkOnTrial_X3_has
set_option maxRecDepth 20000 in
theorem ggX4_walkOnTrial_X3_isAnotherOn : GoodIn wsX4_walkOnTrial wsX3_isAnotherOn := goodIn_r _ [37, 14, 38, 31, 32, 11, 33, 16, 46, 47, 48, 49, 50, 51] (by decide +kernel) (by decide +kernel)
set_option maxRecDepth 20000 in
theorem gX4_walkOnTrial_X3_isAnotherOn : GoodIn wsX4_walkOnTrial (wsV RX4 252 RX3 yX3_isAnotherOn wsX3_isAnotherOn) := goodIn_app (goodIn_of _ (by decide +kernel)) ggX4_walkOnTrial_X3_isAnotherOn
theorem dX4_walkOnTrial_0 : decode cX4_walkOnTrial 0 = .ok (.aload_n 0, 1) := by decide +kernel
theorem dX4_walkOnTrial_1 : decode cX4_walkOnTrial 1 = .ok (.getfield 18, 3) := by decide +kernel
theorem dX4_walkOnTrial_4 : decode cX4_walkOnTrial 4 = .ok (.aload_n 0, 1) := by decide +kernel
theorem dX4_walkOnTrial_5 : decode cX4_walkOnTrial 5 = .ok (.getfield 14, 3) := by decide +kernel
theorem dX4_walkOnTrial_8 : decode cX4_walkOnTrial 8 = .ok (.invokevirtual 156, 3) := by decide +kernel
theorem dX4_walkOnTrial_11 : decode cX4_walkOnTrial 11 = .ok (.iconst 0, 1) := by decide +kernel
theorem dX4_walkOnTrial_12 : decode cX4_walkOnTrial 12 = .ok (.istore 4, 2) := by decide +kernel
theorem dX4_walkOnTrial_14 : decode cX4_walkOnTrial 14 = .ok (.iconst 0, 1) := by decide +kernel
theorem dX4_walkOnTrial_15 : decode cX4_walkOnTrial 15 = .ok (.istore 5, 2) := by decide +kernel
theorem dX4_walkOnTrial_17 : decode cX4_walkOnTrial 17 = .ok (.iload 5, 2) := by decide +kernel
theorem dX4_walkOnTrial_19 : decode cX4_walkOnTrial 19 = .ok (.iload_n 3, 1) := by decide +kernel
theorem dX4_walkOnTrial_20 : decode cX4_walkOnTrial 20 = .ok (.if_icmp .ge 100, 3) := by decide +kernel
theorem dX4_walkOnTrial_23 : decode cX4_walkOnTrial 23 = .ok (.aload_n 1, 1) := by decide +kernel
theorem dX4_walkOnTrial_24 : decode cX4_walkOnTrial 24 = .ok (.iload_n 2, 1) := by decide +kernel
theorem dX4_walkOnTrial_25 : decode cX4_walkOnTrial 25 = .ok (.iconst 2, 1) := by decide +kernel
theorem dX4_walkOnTrial_26 : decode cX4_walkOnTrial 26 = .ok (.iload 5, 2) := by decide +kernel
theorem dX4_walkOnTrial_28 : decode cX4_walkOnTrial 28 = .ok (.imul, 1) := by decide +kernel
theorem dX4_walkOnTrial_29 : decode cX4_walkOnTrial 29 = .ok (.iadd, 1) := by decide +kernel
theorem dX4_walkOnTrial_30 : decode cX4_walkOnTrial 30 = .ok (.invokevirtual 202, 3) := by decide +kernel
theorem dX4_walkOnTrial_33 : decode cX4_walkOnTrial 33 = .ok (.istore 6, 2) := by decide +kernel
theorem dX4_walkOnTrial_35 : decode cX4_walkOnTrial 35 = .ok (.aload_n 1, 1) := by decide +kernel
theorem dX4_walkOnTrial_36 : decode cX4_walkOnTrial 36 = .ok (.iload_n 2, 1) := by decide +kernel
theorem dX4_walkOnTrial_37 : decode cX4_walkOnTrial 37 = .ok (.iconst 2, 1) := by decide +kernel
theorem dX4_walkOnTrial_38 : decode cX4_walkOnTrial 38 = .ok (.iload 5, 2) := by decide +kernel
theorem dX4_walkOnTrial_40 : decode cX4_walkOnTrial 40 = .ok (.imul, 1) := by decide +kernel
theorem dX4_walkOnTrial_41 : decode cX4_walkOnTrial 41 = .ok (.iadd, 1) := by decide +kernel
theorem dX4_walkOnTrial_42 : decode cX4_walkOnTrial 42 = .ok (.iconst 1, 1) := by decide +kernel
theorem dX4_walkOnTrial_43 : decode cX4_walkOnTrial 43 = .ok (.iadd, 1) := by decide +kernel
theorem dX4_walkOnTrial_44 : decode cX4_walkOnTrial 44 = .ok (.invokevirtual 202, 3) := by decide +kernel
theorem dX4_walkOnTrial_47 : decode cX4_walkOnTrial 47 = .ok (.istore 7, 2) := by decide +kernel
theorem dX4_walkOnTrial_49 : decode cX4_walkOnTrial 49 = .ok (.aload_n 0, 1) := by decide +kernel
theorem dX4_walkOnTrial_50 : decode cX4_walkOnTrial 50 = .ok (.getfield 18, 3) := by decide +kernel
theorem dX4_walkOnTrial_53 : decode cX4_walkOnTrial 53 = .ok (.iload 6, 2) := by decide +kernel
theorem dX4_walkOnTrial_55 : decode cX4_walkOnTrial 55 = .ok (.invokevirtual 76, 3) := by decide +kernel
theorem dX4_walkOnTrial_58 : decode cX4_walkOnTrial 58 = .ok (.ifCond .eq 17, 3) := by decide +kernel
theorem dX4_walkOnTrial_61 : decode cX4_walkOnTrial 61 = .ok (.aload_n 0, 1) := by decide +kernel
theorem dX4_walkOnTrial_62 : decode cX4_walkOnTrial 62 = .ok (.getfield 18, 3) := by decide +kernel
theorem dX4_walkOnTrial_65 : decode cX4_walkOnTrial 65 = .ok (.iload 7, 2) := by decide +kernel
theorem dX4_walkOnTrial_67 : decode cX4_walkOnTrial 67 = .ok (.iload 6, 2) := by decide +kernel
theorem dX4_walkOnTrial_69 : decode cX4_walkOnTrial 69 = .ok (.invokevirtual 252, 3) := by decide +kernel
theorem dX4_walkOnTrial_72 : decode cX4_walkOnTrial 72 = .ok (.ifCond .eq 9, 3) := by decide +kernel
theorem dX4_walkOnTrial_75 : decode cX4_walkOnTrial 75 = .ok (.bipush (-100), 2) := by decide +kernel
theorem dX4_walkOnTrial_77 : decode cX4_walkOnTrial 77 = .ok (.iload 5, 2) := by decide +kernel
theorem dX4_walkOnTrial_79 : decode cX4_walkOnTrial 79 = .ok (.isub, 1) := by decide +kernel
theorem dX4_walkOnTrial_80 : decode cX4_walkOnTrial 80 = .ok (.ireturn, 1) := by decide +kernel
theorem dX4_walkOnTrial_81 : decode cX4_walkOnTrial 81 = .ok (.iload 4, 2) := by decide +kernel
theorem dX4_walkOnTrial_83 : decode cX4_walkOnTrial 83 = .ok (.iload 7, 2) := by decide +kernel
theorem dX4_walkOnTrial_85 : decode cX4_walkOnTrial 85 = .ok (.aload_n 0, 1) := by decide +kernel
theorem dX4_walkOnTrial_86 : decode cX4_walkOnTrial 86 = .ok (.getfield 18, 3) := by decide +kernel
theorem dX4_walkOnTrial_89 : decode cX4_walkOnTrial 89 = .ok (.getfield 83, 3) := by decide +kernel
theorem dX4_walkOnTrial_92 : decode cX4_walkOnTrial 92 = .ok (.iload 6, 2) := by decide +kernel
theorem dX4_walkOnTrial_94 : decode cX4_walkOnTrial 94 = .ok (.iaload, 1) := by decide +kernel
theorem dX4_walkOnTrial_95 : decode cX4_walkOnTrial 95 = .ok (.isub, 1) := by decide +kernel
theorem dX4_walkOnTrial_96 : decode cX4_walkOnTrial 96 = .ok (.invokestatic 242, 3) := by decide +kernel
theorem dX4_walkOnTrial_99 : decode cX4_walkOnTrial 99 = .ok (.iadd, 1) := by decide +kernel
theorem dX4_walkOnTrial_100 : decode cX4_walkOnTrial 100 = .ok (.istore 4, 2) := by decide +kernel
theorem dX4_walkOnTrial_102 : decode cX4_walkOnTrial 102 = .ok (.aload_n 0, 1) := by decide +kernel
theorem dX4_walkOnTrial_103 : decode cX4_walkOnTrial 103 = .ok (.getfield 18, 3) := by decide +kernel
theorem dX4_walkOnTrial_106 : decode cX4_walkOnTrial 106 = .ok (.getfield 83, 3) := by decide +kernel
theorem dX4_walkOnTrial_109 : decode cX4_walkOnTrial 109 = .ok (.iload 6, 2) := by decide +kernel
theorem dX4_walkOnTrial_111 : decode cX4_walkOnTrial 111 = .ok (.iload 7, 2) := by decide +kernel
theorem dX4_walkOnTrial_113 : decode cX4_walkOnTrial 113 = .ok (.iastore, 1) := by decide +kernel
theorem dX4_walkOnTrial_114 : decode cX4_walkOnTrial 114 = .ok (.iinc 5 1, 3) := by decide +kernel
theorem dX4_walkOnTrial_117 : decode cX4_walkOnTrial 117 = .ok (.goto (-100), 3) := by decide +kernel
theorem dX4_walkOnTrial_120 : decode cX4_walkOnTrial 120 = .ok (.iload 4, 2) := by decide +kernel
theorem dX4_walkOnTrial_122 : decode cX4_walkOnTrial 122 = .ok (.ireturn, 1) := by decide +kernel
set_option maxRecDepth 20000 in
theorem ggX4_behindWalks_X3_everyone : GoodIn wsX4_behindWalks wsX3_everyone := goodIn_r _ [7, 8, 68, 69, 70, 71, 72, 73] (by decide +kernel) (by decide +kernel)
set_option maxRecDepth 20000 in
theorem gX4_behindWalks_X3_everyone : GoodIn wsX4_behindWalks (wsV RX4 112 RX3 yX3_everyone wsX3_everyone) := goodIn_app (goodIn_of _ (by decide +kernel)) ggX4_behindWalks_X3_everyone
set_option maxRecDepth 20000 in
theorem ggX4_behindWalks_X4_countedOn : GoodIn wsX4_behindWalks wsX4_countedOn := goodIn_r _ [13, 14, 15, 16, 17, 18, 19, 6, 20, 21, 22, 23, 24, 25, 26, 27, 28, 29, 8, 30, 31, 32, 33, 34, 35, 36, 37, 38, 39, 40, 41, 42, 43, 44, 45, 46, 47, 48, 49, 50, 51, 52, 53, 54, 55, 56, 57, 58, 61, 62, 63, 64, 65, 66, 67, 68, 69, 70, 71, 72, 73, 74, 75, 76, 77] (by decide +kernel) (by decide +kernel)
set_option maxRecDepth 20000 in
theorem gX4_behindWalks_X4_countedOn : GoodIn wsX4_behindWalks (wsV RX4 116 RX4 yX4_countedOn wsX4_countedOn) := goodIn_app (goodIn_of _ (by decide +kernel)) ggX4_behindWalks_X4_countedOn
set_option maxRecDepth 20000 in
theorem ggX4_behindWalks_X3_hiddenSet : GoodIn wsX4_behindWalks wsX3_hiddenSet := goodIn_r _ [25, 21, 26, 27, 28, 6, 29, 8, 30, 31, 32, 33, 34, 68, 69, 70, 71, 72, 73] (by decide +kernel) (by decide +kernel)
set_option maxRecDepth 20000 in
theorem gX4_behindWalks_X3_hiddenSet : GoodIn wsX4_behindWalks (wsV RX4 109 RX3 yX3_hiddenSet wsX3_hiddenSet) := goodIn_app (goodIn_of _ (by decide +kernel)) ggX4_behindWalks_X3_hiddenSet
set_option maxRecDepth 20000 in
theorem ggX4_behindWalks_X3_has : GoodIn wsX4_behindWalks wsX3_has := goodIn_r _ [29, 8, 68, 69, 70, 71, 72, 73] (by decide +kernel) (by decide +kernel)
set_option maxRecDepth 20000 in
theorem gX4_behindWalks_X3_has : GoodIn wsX4_behindWalks (wsV RX4 76 RX3 yX3_has wsX3_has) := goodIn_app (goodIn_of _ (by decide +kernel)) ggX4_behindWalks_X3_has
theorem dX4_behindWalks_0 : decode cX4_behindWalks 0 = .ok (.iload_n 3, 1) := by decide +kernel
theorem dX4_behindWalks_1 : decode cX4_behindWalks 1 = .ok (.iconst 1, 1) := by decide +kernel
theorem dX4_behindWalks_2 : decode cX4_behindWalks 2 = .ok (.if_icmp .ne 17, 3) := by decide +kernel
theorem dX4_behindWalks_5 : decode cX4_behindWalks 5 = .ok (.iload_n 2, 1) := by decide +kernel
theorem dX4_behindWalks_6 : decode cX4_behindWalks 6 = .ok (.ifCond .ge 10, 3) := by decide +kernel
theorem dX4_behindWalks_9 : decode cX4_behindWalks 9 = .ok (.bipush (-100), 2) := by decide +kernel
theorem dX4_behindWalks_11 : decode cX4_behindWalks 11 = .ok (.iload_n 2, 1) := by decide +kernel
theorem dX4_behindWalks_12 : decode cX4_behindWalks 12 = .ok (.isub, 1) := by decide +kernel
theorem dX4_behindWalks_13 : decode cX4_behindWalks 13 = .ok (.goto 5, 3) := by decide +kernel
theorem dX4_behindWalks_16 : decode cX4_behindWalks 16 = .ok (.bipush (-9), 2) := by decide +kernel
theorem dX4_behindWalks_18 : decode cX4_behindWalks 18 = .ok (.ireturn, 1) := by decide +kernel
theorem dX4_behindWalks_19 : decode cX4_behindWalks 19 = .ok (.iload_n 2, 1) := by decide +kernel
theorem dX4_behindWalks_20 : decode cX4_behindWalks 20 = .ok (.ifCond .ge 5, 3) := by decide +kernel
theorem dX4_behindWalks_23 : decode cX4_behindWalks 23 = .ok (.iload_n 2, 1) := by decide +kernel
theorem dX4_behindWalks_24 : decode cX4_behindWalks 24 = .ok (.ireturn, 1) := by decide +kernel
theorem dX4_behindWalks_25 : decode cX4_behindWalks 25 = .ok (.iload_n 3, 1) := by decide +kernel
theorem dX4_behindWalks_26 : decode cX4_behindWalks 26 = .ok (.tableswitch 58 0 3 #[30, 58, 47, 49], 30) := by decide +kernel
theorem dX4_behindWalks_56 : decode cX4_behindWalks 56 = .ok (.aload_n 0, 1) := by decide +kernel
theorem dX4_behindWalks_57 : decode cX4_behindWalks 57 = .ok (.aload_n 0, 1) := by decide +kernel
theorem dX4_behindWalks_58 : decode cX4_behindWalks 58 = .ok (.getfield 18, 3) := by decide +kernel
theorem dX4_behindWalks_61 : decode cX4_behindWalks 61 = .ok (.iload_n 1, 1) := by decide +kernel
theorem dX4_behindWalks_62 : decode cX4_behindWalks 62 = .ok (.aload_n 0, 1) := by decide +kernel
theorem dX4_behindWalks_63 : decode cX4_behindWalks 63 = .ok (.getfield 18, 3) := by decide +kernel
theorem dX4_behindWalks_66 : decode cX4_behindWalks 66 = .ok (.invokevirtual 112, 3) := by decide +kernel
theorem dX4_behindWalks_69 : decode cX4_behindWalks 69 = .ok (.invokevirtual 116, 3) := by decide +kernel
theorem dX4_behindWalks_72 : decode cX4_behindWalks 72 = .ok (.ireturn, 1) := by decide +kernel
theorem dX4_behindWalks_73 : decode cX4_behindWalks 73 = .ok (.iload_n 2, 1) := by decide +kernel
theorem dX4_behindWalks_74 : decode cX4_behindWalks 74 = .ok (.ireturn, 1) := by decide +kernel
theorem dX4_behindWalks_75 : decode cX4_behindWalks 75 = .ok (.aload_n 0, 1) := by decide +kernel
theorem dX4_behindWalks_76 : decode cX4_behindWalks 76 = .ok (.getfield 18, 3) := by decide +kernel
theorem dX4_behindWalks_79 : decode cX4_behindWalks 79 = .ok (.iload_n 1, 1) := by decide +kernel
theorem dX4_behindWalks_80 : decode cX4_behindWalks 80 = .ok (.invokevirtual 109, 3) := by decide +kernel
theorem dX4_behindWalks_83 : decode cX4_behindWalks 83 = .ok (.ireturn, 1) := by decide +kernel
theorem dX4_behindWalks_84 : decode cX4_behindWalks 84 = .ok (.aload_n 0, 1) := by decide +kernel
theorem dX4_behindWalks_85 : decode cX4_behindWalks 85 = .ok (.getfield 18, 3) := by decide +kernel
theorem dX4_behindWalks_88 : decode cX4_behindWalks 88 = .ok (.iload_n 3, 1) := by decide +kernel
theorem dX4_behindWalks_89 : decode cX4_behindWalks 89 = .ok (.bipush 10, 2) := by decide +kernel
theorem dX4_behindWalks_91 : decode cX4_behindWalks 91 = .ok (.isub, 1) := by decide +kernel
theorem dX4_behindWalks_92 : decode cX4_behindWalks 92 = .ok (.invokevirtual 76, 3) := by decide +kernel
theorem dX4_behindWalks_95 : decode cX4_behindWalks 95 = .ok (.ifCond .eq 18, 3) := by decide +kernel
theorem dX4_behindWalks_98 : decode cX4_behindWalks 98 = .ok (.aload_n 0, 1) := by decide +kernel
theorem dX4_behindWalks_99 : decode cX4_behindWalks 99 = .ok (.getfield 18, 3) := by decide +kernel
theorem dX4_behindWalks_102 : decode cX4_behindWalks 102 = .ok (.getfield 83, 3) := by decide +kernel
theorem dX4_behindWalks_105 : decode cX4_behindWalks 105 = .ok (.iload_n 3, 1) := by decide +kernel
theorem dX4_behindWalks_106 : decode cX4_behindWalks 106 = .ok (.bipush 10, 2) := by decide +kernel
theorem dX4_behindWalks_108 : decode cX4_behindWalks 108 = .ok (.isub, 1) := by decide +kernel
theorem dX4_behindWalks_109 : decode cX4_behindWalks 109 = .ok (.iaload, 1) := by decide +kernel
theorem dX4_behindWalks_110 : decode cX4_behindWalks 110 = .ok (.goto 5, 3) := by decide +kernel
theorem dX4_behindWalks_113 : decode cX4_behindWalks 113 = .ok (.bipush (-9), 2) := by decide +kernel
theorem dX4_behindWalks_115 : decode cX4_behindWalks 115 = .ok (.ireturn, 1) := by decide +kernel
set_option maxRecDepth 20000 in
theorem ggX4_tellAsStander_X4_leaveInTrace : GoodIn wsX4_tellAsStander wsX4_leaveInTrace := goodIn_r _ [7, 8, 15, 16, 17, 18, 19, 20, 21] (by decide +kernel) (by decide +kernel)
set_option maxRecDepth 20000 in
theorem gX4_tellAsStander_X4_leaveInTrace : GoodIn wsX4_tellAsStander (wsV RX4 223 RX4 yX4_leaveInTrace wsX4_leaveInTrace) := goodIn_app (goodIn_of _ (by decide +kernel)) ggX4_tellAsStander_X4_leaveInTrace
set_option maxRecDepth 20000 in
theorem ggX4_tellAsStander_X3_has : GoodIn wsX4_tellAsStander wsX3_has := goodIn_r _ [13, 14, 22, 23, 24, 25, 26, 27] (by decide +kernel) (by decide +kernel)
set_option maxRecDepth 20000 in
theorem gX4_tellAsStander_X3_has : GoodIn wsX4_tellAsStander (wsV RX4 76 RX3 yX3_has wsX3_has) := goodIn_app (goodIn_of _ (by decide +kernel)) ggX4_tellAsStander_X3_has
theorem dX4_tellAsStander_0 : decode cX4_tellAsStander 0 = .ok (.aload_n 0, 1) := by decide +kernel
theorem dX4_tellAsStander_1 : decode cX4_tellAsStander 1 = .ok (.iconst 1, 1) := by decide +kernel
theorem dX4_tellAsStander_2 : decode cX4_tellAsStander 2 = .ok (.invokevirtual 223, 3) := by decide +kernel
theorem dX4_tellAsStander_5 : decode cX4_tellAsStander 5 = .ok (.aload_n 0, 1) := by decide +kernel
theorem dX4_tellAsStander_6 : decode cX4_tellAsStander 6 = .ok (.getfield 14, 3) := by decide +kernel
theorem dX4_tellAsStander_9 : decode cX4_tellAsStander 9 = .ok (.iload_n 1, 1) := by decide +kernel
theorem dX4_tellAsStander_10 : decode cX4_tellAsStander 10 = .ok (.invokevirtual 76, 3) := by decide +kernel
theorem dX4_tellAsStander_13 : decode cX4_tellAsStander 13 = .ok (.ifCond .eq 15, 3) := by decide +kernel
theorem dX4_tellAsStander_16 : decode cX4_tellAsStander 16 = .ok (.aload_n 0, 1) := by decide +kernel
theorem dX4_tellAsStander_17 : decode cX4_tellAsStander 17 = .ok (.getfield 14, 3) := by decide +kernel
theorem dX4_tellAsStander_20 : decode cX4_tellAsStander 20 = .ok (.getfield 86, 3) := by decide +kernel
theorem dX4_tellAsStander_23 : decode cX4_tellAsStander 23 = .ok (.iload_n 1, 1) := by decide +kernel
theorem dX4_tellAsStander_24 : decode cX4_tellAsStander 24 = .ok (.iaload, 1) := by decide +kernel
theorem dX4_tellAsStander_25 : decode cX4_tellAsStander 25 = .ok (.goto 4, 3) := by decide +kernel
theorem dX4_tellAsStander_28 : decode cX4_tellAsStander 28 = .ok (.iconst 0, 1) := by decide +kernel
theorem dX4_tellAsStander_29 : decode cX4_tellAsStander 29 = .ok (.ireturn, 1) := by decide +kernel
set_option maxRecDepth 20000 in
theorem ggX4_tellAsRider_X4_leaveInTrace : GoodIn wsX4_tellAsRider wsX4_leaveInTrace := goodIn_r _ [5, 6, 19, 20, 21, 22, 23, 24, 25] (by decide +kernel) (by decide +kernel)
set_option maxRecDepth 20000 in
theorem gX4_tellAsRider_X4_leaveInTrace : GoodIn wsX4_tellAsRider (wsV RX4 223 RX4 yX4_leaveInTrace wsX4_leaveInTrace) := goodIn_app (goodIn_of _ (by decide +kernel)) ggX4_tellAsRider_X4_leaveInTrace
set_option maxRecDepth 20000 in
theorem ggX4_tellAsRider_X4_tellAsStander : GoodIn wsX4_tellAsRider wsX4_tellAsStander := goodIn_r _ [10, 11, 12, 1, 2, 3, 4, 5, 6, 13, 14, 15, 16, 17, 18, 19, 20, 21, 22, 23, 24, 25, 26, 27, 28, 29, 30, 31] (by decide +kernel) (by decide +kernel)
set_option maxRecDepth 20000 in
theorem gX4_tellAsRider_X4_tellAsStander : GoodIn wsX4_tellAsRider (wsV RX4 220 RX4 yX4_tellAsStander wsX4_tellAsStander) := goodIn_app (goodIn_of _ (by decide +kernel)) ggX4_tellAsRider_X4_tellAsStander
theorem dX4_tellAsRider_0 : decode cX4_tellAsRider 0 = .ok (.aload_n 0, 1) := by decide +kernel
theorem dX4_tellAsRider_1 : decode cX4_tellAsRider 1 = .ok (.iconst 2, 1) := by decide +kernel
theorem dX4_tellAsRider_2 : decode cX4_tellAsRider 2 = .ok (.invokevirtual 223, 3) := by decide +kernel
theorem dX4_tellAsRider_5 : decode cX4_tellAsRider 5 = .ok (.aload_n 0, 1) := by decide +kernel
theorem dX4_tellAsRider_6 : decode cX4_tellAsRider 6 = .ok (.iload_n 1, 1) := by decide +kernel
theorem dX4_tellAsRider_7 : decode cX4_tellAsRider 7 = .ok (.invokevirtual 220, 3) := by decide +kernel
theorem dX4_tellAsRider_10 : decode cX4_tellAsRider 10 = .ok (.bipush 100, 2) := by decide +kernel
theorem dX4_tellAsRider_12 : decode cX4_tellAsRider 12 = .ok (.iadd, 1) := by decide +kernel
theorem dX4_tellAsRider_13 : decode cX4_tellAsRider 13 = .ok (.ireturn, 1) := by decide +kernel
set_option maxRecDepth 20000 in
theorem ggX4_tellAsPole_X4_leaveInTrace : GoodIn wsX4_tellAsPole wsX4_leaveInTrace := goodIn_r _ [5, 6, 23, 24, 25, 26, 27, 28, 29] (by decide +kernel) (by decide +kernel)
set_option maxRecDepth 20000 in
theorem gX4_tellAsPole_X4_leaveInTrace : GoodIn wsX4_tellAsPole (wsV RX4 223 RX4 yX4_leaveInTrace wsX4_leaveInTrace) := goodIn_app (goodIn_of _ (by decide +kernel)) ggX4_tellAsPole_X4_leaveInTrace
set_option maxRecDepth 20000 in
theorem ggX4_tellAsPole_X4_tellAsRider : GoodIn wsX4_tellAsPole wsX4_tellAsRider := goodIn_r _ [10, 1, 2, 3, 4, 5, 6, 11, 12, 13, 14, 15, 16, 17, 18, 19, 20, 21, 22, 23, 24, 25, 26, 27, 28, 29, 30, 31, 32, 33, 34, 35] (by decide +kernel) (by decide +kernel)
set_option maxRecDepth 20000 in
theorem gX4_tellAsPole_X4_tellAsRider : GoodIn wsX4_tellAsPole (wsV RX4 214 RX4 yX4_tellAsRider wsX4_tellAsRider) := goodIn_app (goodIn_of _ (by decide +kernel)) ggX4_tellAsPole_X4_tellAsRider
set_option maxRecDepth 20000 in
theorem ggX4_tellAsPole_X4_tellAsStander : GoodIn wsX4_tellAsPole wsX4_tellAsStander := goodIn_r _ [14, 15, 16, 1, 2, 3, 4, 5, 6, 17, 18, 19, 20, 21, 22, 23, 24, 25, 26, 27, 28, 29, 30, 31, 32, 33, 34, 35] (by decide +kernel) (by decide +kernel)
set_option maxRecDepth 20000 in
theorem gX4_tellAsPole_X4_tellAsStander : GoodIn wsX4_tellAsPole (wsV RX4 220 RX4 yX4_tellAsStander wsX4_tellAsStander) := goodIn_app (goodIn_of _ (by decide +kernel)) ggX4_tellAsPole_X4_tellAsStander
theorem dX4_tellAsPole_0 : decode cX4_tellAsPole 0 = .ok (.aload_n 0, 1) := by decide +kernel
theorem dX4_tellAsPole_1 : decode cX4_tellAsPole 1 = .ok (.iconst 3, 1) := by decide +kernel
theorem dX4_tellAsPole_2 : decode cX4_tellAsPole 2 = .ok (.invokevirtual 223, 3) := by decide +kernel
theorem dX4_tellAsPole_5 : decode cX4_tellAsPole 5 = .ok (.aload_n 0, 1) := by decide +kernel
theorem dX4_tellAsPole_6 : decode cX4_tellAsPole 6 = .ok (.iload_n 1, 1) := by decide +kernel
theorem dX4_tellAsPole_7 : decode cX4_tellAsPole 7 = .ok (.invokevirtual 214, 3) := by decide +kernel
theorem dX4_tellAsPole_10 : decode cX4_tellAsPole 10 = .ok (.istore_n 2, 1) := by decide +kernel
theorem dX4_tellAsPole_11 : decode cX4_tellAsPole 11 = .ok (.iload_n 2, 1) := by decide +kernel
theorem dX4_tellAsPole_12 : decode cX4_tellAsPole 12 = .ok (.aload_n 0, 1) := by decide +kernel
theorem dX4_tellAsPole_13 : decode cX4_tellAsPole 13 = .ok (.iload_n 1, 1) := by decide +kernel
theorem dX4_tellAsPole_14 : decode cX4_tellAsPole 14 = .ok (.invokevirtual 220, 3) := by decide +kernel
theorem dX4_tellAsPole_17 : decode cX4_tellAsPole 17 = .ok (.iadd, 1) := by decide +kernel
theorem dX4_tellAsPole_18 : decode cX4_tellAsPole 18 = .ok (.ireturn, 1) := by decide +kernel
theorem dX4_leaveInTrace_0 : decode cX4_leaveInTrace 0 = .ok (.aload_n 0, 1) := by decide +kernel
theorem dX4_leaveInTrace_1 : decode cX4_leaveInTrace 1 = .ok (.bipush 31, 2) := by decide +kernel
theorem dX4_leaveInTrace_3 : decode cX4_leaveInTrace 3 = .ok (.aload_n 0, 1) := by decide +kernel
theorem dX4_leaveInTrace_4 : decode cX4_leaveInTrace 4 = .ok (.getfield 227, 3) := by decide +kernel
theorem dX4_leaveInTrace_7 : decode cX4_leaveInTrace 7 = .ok (.imul, 1) := by decide +kernel
theorem dX4_leaveInTrace_8 : decode cX4_leaveInTrace 8 = .ok (.iload_n 1, 1) := by decide +kernel
theorem dX4_leaveInTrace_9 : decode cX4_leaveInTrace 9 = .ok (.iadd, 1) := by decide +kernel
theorem dX4_leaveInTrace_10 : decode cX4_leaveInTrace 10 = .ok (.putfield 227, 3) := by decide +kernel
theorem dX4_leaveInTrace_13 : decode cX4_leaveInTrace 13 = .ok (.return_, 1) := by decide +kernel
end
section
theorem dX5_init_0 : decode cX5_init 0 = .ok (.aload_n 0, 1) := by decide +kernel
theorem dX5_init_1 : decode cX5_init 1 = .ok (.invokespecial 1, 3) := by decide +kernel
theorem dX5_init_4 : decode cX5_init 4 = .ok (.aload_n 0, 1) := by decide +kernel
theorem dX5_init_5 : decode cX5_init 5 = .ok (.iconst 4, 1) := by decide +kernel
theorem dX5_init_6 : decode cX5_init 6 = .ok (.newarray .int, 2) := by decide +kernel
theorem dX5_init_8 : decode cX5_init 8 = .ok (.dup, 1) := by decide +kernel
theorem dX5_init_9 : decode cX5_init 9 = .ok (.iconst 0, 1) := by decide +kernel
theorem dX5_init_10 : decode cX5_init 10 = .ok (.bipush (-9), 2) := by decide +kernel
theorem dX5_init_12 : decode cX5_init 12 = .ok (.iastore, 1) := by decide +kernel
theorem dX5_init_13 : decode cX5_init 13 = .ok (.dup, 1) := by decide +kernel
theorem dX5_init_14 : decode cX5_init 14 = .ok (.iconst 1, 1) := by decide +kernel
theorem dX5_init_15 : decode cX5_init 15 = .ok (.bipush (-9), 2) := by decide +kernel
theorem dX5_init_17 : decode cX5_init 17 = .ok (.iastore, 1) := by decide +kernel
theorem dX5_init_18 : decode cX5_init 18 = .ok (.dup, 1) := by decide +kernel
theorem dX5_init_19 : decode cX5_init 19 = .ok (.iconst 2, 1) := by decide +kernel
theorem dX5_init_20 : decode cX5_init 20 = .ok (.bipush (-9), 2) := by decide +kernel
theorem dX5_init_22 : decode cX5_init 22 = .ok (.iastore, 1) := by decide +kernel
theorem dX5_init_23 : decode cX5_init 23 = .ok (.dup, 1) := by decide +kernel
theorem dX5_init_24 : decode cX5_init 24 = .ok (.iconst 3, 1) := by decide +kernel
theorem dX5_init_25 : decode cX5_init 25 = .ok (.bipush (-9), 2) := by decide +kernel
theorem dX5_init_27 : decode cX5_init 27 = .ok (.iastore, 1) := by decide +kernel
theorem dX5_init_28 : decode cX5_init 28 = .ok (.putfield 9, 3) := by decide +kernel
theorem dX5_init_31 : decode cX5_init 31 = .ok (.aload_n 0, 1) := by decide +kernel
theorem dX5_init_32 : decode cX5_init 32 = .ok (.iconst 4, 1) := by decide +kernel
theorem dX5_init_33 : decode cX5_init 33 = .ok (.newarray .int, 2) := by decide +kernel
theorem dX5_init_35 : decode cX5_init 35 = .ok (.putfield 13, 3) := by decide +kernel
theorem dX5_init_38 : decode cX5_init 38 = .ok (.aload_n 0, 1) := by decide +kernel
theorem dX5_init_39 : decode cX5_init 39 = .ok (.sipush 240, 3) := by decide +kernel
theorem dX5_init_42 : decode cX5_init 42 = .ok (.newarray .int, 2) := by decide +kernel
theorem dX5_init_44 : decode cX5_init 44 = .ok (.putfield 16, 3) := by decide +kernel
theorem dX5_init_47 : decode cX5_init 47 = .ok (.aload_n 0, 1) := by decide +kernel
theorem dX5_init_48 : decode cX5_init 48 = .ok (.iconst 5, 1) := by decide +kernel
theorem dX5_init_49 : decode cX5_init 49 = .ok (.newarray .int, 2) := by decide +kernel
theorem dX5_init_51 : decode cX5_init 51 = .ok (.putfield 19, 3) := by decide +kernel
theorem dX5_init_54 : decode cX5_init 54 = .ok (.aload_n 0, 1) := by decide +kernel
theorem dX5_init_55 : decode cX5_init 55 = .ok (.iconst 5, 1) := by decide +kernel
theorem dX5_init_56 : decode cX5_init 56 = .ok (.newarray .int, 2) := by decide +kernel
theorem dX5_init_58 : decode cX5_init 58 = .ok (.putfield 22, 3) := by decide +kernel
theorem dX5_init_61 : decode cX5_init 61 = .ok (.aload_n 0, 1) := by decide +kernel
theorem dX5_init_62 : decode cX5_init 62 = .ok (.iconst 5, 1) := by decide +kernel
theorem dX5_init_63 : decode cX5_init 63 = .ok (.newarray .int, 2) := by decide +kernel
theorem dX5_init_65 : decode cX5_init 65 = .ok (.putfield 25, 3) := by decide +kernel
theorem dX5_init_68 : decode cX5_init 68 = .ok (.aload_n 0, 1) := by decide +kernel
theorem dX5_init_69 : decode cX5_init 69 = .ok (.iconst 5, 1) := by decide +kernel
theorem dX5_init_70 : decode cX5_init 70 = .ok (.newarray .int, 2) := by decide +kernel
theorem dX5_init_72 : decode cX5_init 72 = .ok (.putfield 28, 3) := by decide +kernel
theorem dX5_init_75 : decode cX5_init 75 = .ok (.aload_n 0, 1) := by decide +kernel
theorem dX5_init_76 : decode cX5_init 76 = .ok (.iconst 5, 1) := by decide +kernel
theorem dX5_init_77 : decode cX5_init 77 = .ok (.newarray .int, 2) := by decide +kernel
theorem dX5_init_79 : decode cX5_init 79 = .ok (.putfield 31, 3) := by decide +kernel
theorem dX5_init_82 : decode cX5_init 82 = .ok (.aload_n 0, 1) := by decide +kernel
theorem dX5_init_83 : decode cX5_init 83 = .ok (.iconst 5, 1) := by decide +kernel
theorem dX5_init_84 : decode cX5_init 84 = .ok (.newarray .int, 2) := by decide +kernel
theorem dX5_init_86 : decode cX5_init 86 = .ok (.putfield 34, 3) := by decide +kernel
theorem dX5_init_89 : decode cX5_init 89 = .ok (.aload_n 0, 1) := by decide +kernel
theorem dX5_init_90 : decode cX5_init 90 = .ok (.bipush 40, 2) := by decide +kernel
theorem dX5_init_92 : decode cX5_init 92 = .ok (.newarray .boolean, 2) := by decide +kernel
theorem dX5_init_94 : decode cX5_init 94 = .ok (.putfield 37, 3) := by decide +kernel
theorem dX5_init_97 : decode cX5_init 97 = .ok (.aload_n 0, 1) := by decide +kernel
theorem dX5_init_98 : decode cX5_init 98 = .ok (.iconst 5, 1) := by decide +kernel
theorem dX5_init_99 : decode cX5_init 99 = .ok (.newarray .int, 2) := by decide +kernel
theorem dX5_init_101 : decode cX5_init 101 = .ok (.putfield 41, 3) := by decide +kernel
theorem dX5_init_104 : decode cX5_init 104 = .ok (.aload_n 0, 1) := by decide +kernel
theorem dX5_init_105 : decode cX5_init 105 = .ok (.bipush 8, 2) := by decide +kernel
theorem dX5_init_107 : decode cX5_init 107 = .ok (.newarray .int, 2) := by decide +kernel
theorem dX5_init_109 : decode cX5_init 109 = .ok (.putfield 44, 3) := by decide +kernel
theorem dX5_init_112 : decode cX5_init 112 = .ok (.aload_n 0, 1) := by decide +kernel
theorem dX5_init_113 : decode cX5_init 113 = .ok (.bipush 8, 2) := by decide +kernel
theorem dX5_init_115 : decode cX5_init 115 = .ok (.newarray .int, 2) := by decide +kernel
theorem dX5_init_117 : decode cX5_init 117 = .ok (.putfield 47, 3) := by decide +kernel
theorem dX5_init_120 : decode cX5_init 120 = .ok (.return_, 1) := by decide +kernel
theorem dX5_fails_0 : decode cX5_fails 0 = .ok (.aload_n 0, 1) := by decide +kernel
theorem dX5_fails_1 : decode cX5_fails 1 = .ok (.iload_n 1, 1) := by decide +kernel
theorem dX5_fails_2 : decode cX5_fails 2 = .ok (.putfield 50, 3) := by decide +kernel
theorem dX5_fails_5 : decode cX5_fails 5 = .ok (.bipush (-10), 2) := by decide +kernel
theorem dX5_fails_7 : decode cX5_fails 7 = .ok (.iload_n 1, 1) := by decide +kernel
theorem dX5_fails_8 : decode cX5_fails 8 = .ok (.isub, 1) := by decide +kernel
theorem dX5_fails_9 : decode cX5_fails 9 = .ok (.ireturn, 1) := by decide +kernel
theorem dX5_lost_0 : decode cX5_lost 0 = .ok (.aload_n 0, 1) := by decide +kernel
theorem dX5_lost_1 : decode cX5_lost 1 = .ok (.iload_n 1, 1) := by decide +kernel
theorem dX5_lost_2 : decode cX5_lost 2 = .ok (.putfield 50, 3) := by decide +kernel
theorem dX5_lost_5 : decode cX5_lost 5 = .ok (.ldc2_w 54, 3) := by decide +kernel
theorem dX5_lost_8 : decode cX5_lost 8 = .ok (.lreturn, 1) := by decide +kernel
theorem dX5_within_0 : decode cX5_within 0 = .ok (.iload_n 0, 1) := by decide +kernel
theorem dX5_within_1 : decode cX5_within 1 = .ok (.iload_n 1, 1) := by decide +kernel
theorem dX5_within_2 : decode cX5_within 2 = .ok (.if_icmp .lt 12, 3) := by decide +kernel
theorem dX5_within_5 : decode cX5_within 5 = .ok (.iload_n 0, 1) := by decide +kernel
theorem dX5_within_6 : decode cX5_within 6 = .ok (.iload_n 2, 1) := by decide +kernel
theorem dX5_within_7 : decode cX5_within 7 = .ok (.if_icmp .gt 7, 3) := by decide +kernel
theorem dX5_within_10 : decode cX5_within 10 = .ok (.iconst 1, 1) := by decide +kernel
theorem dX5_within_11 : decode cX5_within 11 = .ok (.goto 4, 3) := by decide +kernel
theorem dX5_within_14 : decode cX5_within 14 = .ok (.iconst 0, 1) := by decide +kernel
theorem dX5_within_15 : decode cX5_within 15 = .ok (.ireturn, 1) := by decide +kernel
set_option maxRecDepth 20000 in
theorem ggX5_isSheet_X5_within : GoodIn wsX5_isSheet wsX5_within := goodIn_r _ [4] (by decide +kernel) (by decide +kernel)
set_option maxRecDepth 20000 in
theorem gX5_isSheet_X5_within : GoodIn wsX5_isSheet (va_wsS RX5 56 yX5_within wsX5_within) := goodIn_app (goodIn_of _ (by decide +kernel)) ggX5_isSheet_X5_within
theorem dX5_isSheet_0 : decode cX5_isSheet 0 = .ok (.iload_n 0, 1) := by decide +kernel
theorem dX5_isSheet_1 : decode cX5_isSheet 1 = .ok (.iconst 0, 1) := by decide +kernel
theorem dX5_isSheet_2 : decode cX5_isSheet 2 = .ok (.iconst 3, 1) := by decide +kernel
theorem dX5_isSheet_3 : decode cX5_isSheet 3 = .ok (.invokestatic 56, 3) := by decide +kernel
theorem dX5_isSheet_6 : decode cX5_isSheet 6 = .ok (.ireturn, 1) := by decide +kernel
set_option maxRecDepth 20000 in
theorem ggX5_isSort_X5_within : GoodIn wsX5_isSort wsX5_within := goodIn_r _ [4] (by decide +kernel) (by decide +kernel)
set_option maxRecDepth 20000 in
theorem gX5_isSort_X5_within : GoodIn wsX5_isSort (va_wsS RX5 56 yX5_within wsX5_within) := goodIn_app (goodIn_of _ (by decide +kernel)) ggX5_isSort_X5_within
theorem dX5_isSort_0 : decode cX5_isSort 0 = .ok (.iload_n 0, 1) := by decide +kernel
theorem dX5_isSort_1 : decode cX5_isSort 1 = .ok (.iconst 0, 1) := by decide +kernel
theorem dX5_isSort_2 : decode cX5_isSort 2 = .ok (.iconst 2, 1) := by decide +kernel
theorem dX5_isSort_3 : decode cX5_isSort 3 = .ok (.invokestatic 56, 3) := by decide +kernel
theorem dX5_isSort_6 : decode cX5_isSort 6 = .ok (.ireturn, 1) := by decide +kernel
theorem dX5_against_0 : decode cX5_against 0 = .ok (.aload_n 0, 1) := by decide +kernel
theorem dX5_against_1 : decode cX5_against 1 = .ok (.getfield 9, 3) := by decide +kernel
theorem dX5_against_4 : decode cX5_against 4 = .ok (.iload_n 1, 1) := by decide +kernel
theorem dX5_against_5 : decode cX5_against 5 = .ok (.iaload, 1) := by decide +kernel
theorem dX5_against_6 : decode cX5_against 6 = .ok (.bipush (-9), 2) := by decide +kernel
theorem dX5_against_8 : decode cX5_against 8 = .ok (.if_icmp .eq 15, 3) := by decide +kernel
theorem dX5_against_11 : decode cX5_against 11 = .ok (.aload_n 0, 1) := by decide +kernel
theorem dX5_against_12 : decode cX5_against 12 = .ok (.getfield 9, 3) := by decide +kernel
theorem dX5_against_15 : decode cX5_against 15 = .ok (.iload_n 1, 1) := by decide +kernel
theorem dX5_against_16 : decode cX5_against 16 = .ok (.iaload, 1) := by decide +kernel
theorem dX5_against_17 : decode cX5_against 17 = .ok (.iload_n 2, 1) := by decide +kernel
theorem dX5_against_18 : decode cX5_against 18 = .ok (.if_icmp .eq 5, 3) := by decide +kernel
theorem dX5_against_21 : decode cX5_against 21 = .ok (.iconst 2, 1) := by decide +kernel
theorem dX5_against_22 : decode cX5_against 22 = .ok (.ireturn, 1) := by decide +kernel
theorem dX5_against_23 : decode cX5_against 23 = .ok (.aload_n 0, 1) := by decide +kernel
theorem dX5_against_24 : decode cX5_against 24 = .ok (.getfield 9, 3) := by decide +kernel
theorem dX5_against_27 : decode cX5_against 27 = .ok (.iload_n 1, 1) := by decide +kernel
theorem dX5_against_28 : decode cX5_against 28 = .ok (.iaload, 1) := by decide +kernel
theorem dX5_against_29 : decode cX5_against 29 = .ok (.bipush (-9), 2) := by decide +kernel
theorem dX5_against_31 : decode cX5_against 31 = .ok (.if_icmp .ne 5, 3) := by decide +kernel
theorem dX5_against_34 : decode cX5_against 34 = .ok (.iconst 1, 1) := by decide +kernel
theorem dX5_against_35 : decode cX5_against 35 = .ok (.ireturn, 1) := by decide +kernel
theorem dX5_against_36 : decode cX5_against 36 = .ok (.iload 4, 2) := by decide +kernel
theorem dX5_against_38 : decode cX5_against 38 = .ok (.ifCond .ge 5, 3) := by decide +kernel
theorem dX5_against_41 : decode cX5_against 41 = .ok (.iconst 4, 1) := by decide +kernel
theorem dX5_against_42 : decode cX5_against 42 = .ok (.ireturn, 1) := by decide +kernel
theorem dX5_against_43 : decode cX5_against 43 = .ok (.iload_n 3, 1) := by decide +kernel
theorem dX5_against_44 : decode cX5_against 44 = .ok (.ifCond .lt 26, 3) := by decide +kernel
theorem dX5_against_47 : decode cX5_against 47 = .ok (.iload_n 3, 1) := by decide +kernel
theorem dX5_against_48 : decode cX5_against 48 = .ok (.aload_n 0, 1) := by decide +kernel
theorem dX5_against_49 : decode cX5_against 49 = .ok (.getfield 13, 3) := by decide +kernel
theorem dX5_against_52 : decode cX5_against 52 = .ok (.iload_n 1, 1) := by decide +kernel
theorem dX5_against_53 : decode cX5_against 53 = .ok (.iaload, 1) := by decide +kernel
theorem dX5_against_54 : decode cX5_against 54 = .ok (.if_icmp .gt 16, 3) := by decide +kernel
theorem dX5_against_57 : decode cX5_against 57 = .ok (.iload 4, 2) := by decide +kernel
theorem dX5_against_59 : decode cX5_against 59 = .ok (.aload_n 0, 1) := by decide +kernel
theorem dX5_against_60 : decode cX5_against 60 = .ok (.getfield 13, 3) := by decide +kernel
theorem dX5_against_63 : decode cX5_against 63 = .ok (.iload_n 1, 1) := by decide +kernel
theorem dX5_against_64 : decode cX5_against 64 = .ok (.iaload, 1) := by decide +kernel
theorem dX5_against_65 : decode cX5_against 65 = .ok (.iload_n 3, 1) := by decide +kernel
theorem dX5_against_66 : decode cX5_against 66 = .ok (.isub, 1) := by decide +kernel
theorem dX5_against_67 : decode cX5_against 67 = .ok (.if_icmp .le 7, 3) := by decide +kernel
theorem dX5_against_70 : decode cX5_against 70 = .ok (.iconst 3, 1) := by decide +kernel
theorem dX5_against_71 : decode cX5_against 71 = .ok (.goto 4, 3) := by decide +kernel
theorem dX5_against_74 : decode cX5_against 74 = .ok (.iconst 0, 1) := by decide +kernel
theorem dX5_against_75 : decode cX5_against 75 = .ok (.ireturn, 1) := by decide +kernel
theorem dX5_isStander_0 : decode cX5_isStander 0 = .ok (.iload_n 1, 1) := by decide +kernel
theorem dX5_isStander_1 : decode cX5_isStander 1 = .ok (.ifCond .lt 15, 3) := by decide +kernel
theorem dX5_isStander_4 : decode cX5_isStander 4 = .ok (.iload_n 1, 1) := by decide +kernel
theorem dX5_isStander_5 : decode cX5_isStander 5 = .ok (.aload_n 0, 1) := by decide +kernel
theorem dX5_isStander_6 : decode cX5_isStander 6 = .ok (.getfield 60, 3) := by decide +kernel
theorem dX5_isStander_9 : decode cX5_isStander 9 = .ok (.if_icmp .ge 7, 3) := by decide +kernel
theorem dX5_isStander_12 : decode cX5_isStander 12 = .ok (.iconst 1, 1) := by decide +kernel
theorem dX5_isStander_13 : decode cX5_isStander 13 = .ok (.goto 4, 3) := by decide +kernel
theorem dX5_isStander_16 : decode cX5_isStander 16 = .ok (.iconst 0, 1) := by decide +kernel
theorem dX5_isStander_17 : decode cX5_isStander 17 = .ok (.ireturn, 1) := by decide +kernel
set_option maxRecDepth 20000 in
theorem ggX5_isDigit_X5_within : GoodIn wsX5_isDigit wsX5_within := goodIn_r _ [4] (by decide +kernel) (by decide +kernel)
set_option maxRecDepth 20000 in
theorem gX5_isDigit_X5_within : GoodIn wsX5_isDigit (va_wsS RX5 56 yX5_within wsX5_within) := goodIn_app (goodIn_of _ (by decide +kernel)) ggX5_isDigit_X5_within
theorem dX5_isDigit_0 : decode cX5_isDigit 0 = .ok (.iload_n 0, 1) := by decide +kernel
theorem dX5_isDigit_1 : decode cX5_isDigit 1 = .ok (.iconst 0, 1) := by decide +kernel
theorem dX5_isDigit_2 : decode cX5_isDigit 2 = .ok (.bipush 9, 2) := by decide +kernel
theorem dX5_isDigit_4 : decode cX5_isDigit 4 = .ok (.invokestatic 56, 3) := by decide +kernel
theorem dX5_isDigit_7 : decode cX5_isDigit 7 = .ok (.ireturn, 1) := by decide +kernel
set_option maxRecDepth 20000 in
theorem ggX5_isSun_X5_within : GoodIn wsX5_isSun wsX5_within := goodIn_r _ [4] (by decide +kernel) (by decide +kernel)
set_option maxRecDepth 20000 in
theorem gX5_isSun_X5_within : GoodIn wsX5_isSun (va_wsS RX5 56 yX5_within wsX5_within) := goodIn_app (goodIn_of _ (by decide +kernel)) ggX5_isSun_X5_within
theorem dX5_isSun_0 : decode cX5_isSun 0 = .ok (.iload_n 0, 1) := by decide +kernel
theorem dX5_isSun_1 : decode cX5_isSun 1 = .ok (.iconst 1, 1) := by decide +kernel
theorem dX5_isSun_2 : decode cX5_isSun 2 = .ok (.iconst 3, 1) := by decide +kernel
theorem dX5_isSun_3 : decode cX5_isSun 3 = .ok (.invokestatic 56, 3) := by decide +kernel
theorem dX5_isSun_6 : decode cX5_isSun 6 = .ok (.ireturn, 1) := by decide +kernel
set_option maxRecDepth 20000 in
theorem ggX5_digit_X5_within : GoodIn wsX5_digit wsX5_within := goodIn_r _ [6] (by decide +kernel) (by decide +kernel)
set_option maxRecDepth 20000 in
theorem gX5_digit_X5_within : GoodIn wsX5_digit (va_wsS RX5 56 yX5_within wsX5_within) := goodIn_app (goodIn_of _ (by decide +kernel)) ggX5_digit_X5_within
theorem dX5_digit_0 : decode cX5_digit 0 = .ok (.aload_n 0, 1) := by decide +kernel
theorem dX5_digit_1 : decode cX5_digit 1 = .ok (.getfield 63, 3) := by decide +kernel
theorem dX5_digit_4 : decode cX5_digit 4 = .ok (.iload_n 1, 1) := by decide +kernel
theorem dX5_digit_5 : decode cX5_digit 5 = .ok (.if_icmp .ge 24, 3) := by decide +kernel
theorem dX5_digit_8 : decode cX5_digit 8 = .ok (.aload_n 0, 1) := by decide +kernel
theorem dX5_digit_9 : decode cX5_digit 9 = .ok (.getfield 16, 3) := by decide +kernel
theorem dX5_digit_12 : decode cX5_digit 12 = .ok (.aload_n 0, 1) := by decide +kernel
theorem dX5_digit_13 : decode cX5_digit 13 = .ok (.getfield 63, 3) := by decide +kernel
theorem dX5_digit_16 : decode cX5_digit 16 = .ok (.iaload, 1) := by decide +kernel
theorem dX5_digit_17 : decode cX5_digit 17 = .ok (.bipush 48, 2) := by decide +kernel
theorem dX5_digit_19 : decode cX5_digit 19 = .ok (.iload_n 2, 1) := by decide +kernel
theorem dX5_digit_20 : decode cX5_digit 20 = .ok (.iadd, 1) := by decide +kernel
theorem dX5_digit_21 : decode cX5_digit 21 = .ok (.bipush 57, 2) := by decide +kernel
theorem dX5_digit_23 : decode cX5_digit 23 = .ok (.invokestatic 56, 3) := by decide +kernel
theorem dX5_digit_26 : decode cX5_digit 26 = .ok (.ifCond .ne 6, 3) := by decide +kernel
theorem dX5_digit_29 : decode cX5_digit 29 = .ok (.bipush (-9), 2) := by decide +kernel
theorem dX5_digit_31 : decode cX5_digit 31 = .ok (.ireturn, 1) := by decide +kernel
theorem dX5_digit_32 : decode cX5_digit 32 = .ok (.aload_n 0, 1) := by decide +kernel
theorem dX5_digit_33 : decode cX5_digit 33 = .ok (.dup, 1) := by decide +kernel
theorem dX5_digit_34 : decode cX5_digit 34 = .ok (.getfield 63, 3) := by decide +kernel
theorem dX5_digit_37 : decode cX5_digit 37 = .ok (.iconst 1, 1) := by decide +kernel
theorem dX5_digit_38 : decode cX5_digit 38 = .ok (.iadd, 1) := by decide +kernel
theorem dX5_digit_39 : decode cX5_digit 39 = .ok (.putfield 63, 3) := by decide +kernel
theorem dX5_digit_42 : decode cX5_digit 42 = .ok (.aload_n 0, 1) := by decide +kernel
theorem dX5_digit_43 : decode cX5_digit 43 = .ok (.getfield 16, 3) := by decide +kernel
theorem dX5_digit_46 : decode cX5_digit 46 = .ok (.aload_n 0, 1) := by decide +kernel
theorem dX5_digit_47 : decode cX5_digit 47 = .ok (.getfield 63, 3) := by decide +kernel
theorem dX5_digit_50 : decode cX5_digit 50 = .ok (.iconst 1, 1) := by decide +kernel
theorem dX5_digit_51 : decode cX5_digit 51 = .ok (.isub, 1) := by decide +kernel
theorem dX5_digit_52 : decode cX5_digit 52 = .ok (.iaload, 1) := by decide +kernel
theorem dX5_digit_53 : decode cX5_digit 53 = .ok (.bipush 48, 2) := by decide +kernel
theorem dX5_digit_55 : decode cX5_digit 55 = .ok (.isub, 1) := by decide +kernel
theorem dX5_digit_56 : decode cX5_digit 56 = .ok (.ireturn, 1) := by decide +kernel
theorem dX5_isSign_0 : decode cX5_isSign 0 = .ok (.aload_n 0, 1) := by decide +kernel
theorem dX5_isSign_1 : decode cX5_isSign 1 = .ok (.getfield 63, 3) := by decide +kernel
theorem dX5_isSign_4 : decode cX5_isSign 4 = .ok (.iload_n 1, 1) := by decide +kernel
theorem dX5_isSign_5 : decode cX5_isSign 5 = .ok (.if_icmp .ge 16, 3) := by decide +kernel
theorem dX5_isSign_8 : decode cX5_isSign 8 = .ok (.aload_n 0, 1) := by decide +kernel
theorem dX5_isSign_9 : decode cX5_isSign 9 = .ok (.getfield 16, 3) := by decide +kernel
theorem dX5_isSign_12 : decode cX5_isSign 12 = .ok (.aload_n 0, 1) := by decide +kernel
theorem dX5_isSign_13 : decode cX5_isSign 13 = .ok (.getfield 63, 3) := by decide +kernel
theorem dX5_isSign_16 : decode cX5_isSign 16 = .ok (.iaload, 1) := by decide +kernel
theorem dX5_isSign_17 : decode cX5_isSign 17 = .ok (.iload_n 2, 1) := by decide +kernel
theorem dX5_isSign_18 : decode cX5_isSign 18 = .ok (.if_icmp .eq 5, 3) := by decide +kernel
theorem dX5_isSign_21 : decode cX5_isSign 21 = .ok (.iconst 0, 1) := by decide +kernel
theorem dX5_isSign_22 : decode cX5_isSign 22 = .ok (.ireturn, 1) := by decide +kernel
theorem dX5_isSign_23 : decode cX5_isSign 23 = .ok (.aload_n 0, 1) := by decide +kernel
theorem dX5_isSign_24 : decode cX5_isSign 24 = .ok (.dup, 1) := by decide +kernel
theorem dX5_isSign_25 : decode cX5_isSign 25 = .ok (.getfield 63, 3) := by decide +kernel
theorem dX5_isSign_28 : decode cX5_isSign 28 = .ok (.iconst 1, 1) := by decide +kernel
theorem dX5_isSign_29 : decode cX5_isSign 29 = .ok (.iadd, 1) := by decide +kernel
theorem dX5_isSign_30 : decode cX5_isSign 30 = .ok (.putfield 63, 3) := by decide +kernel
theorem dX5_isSign_33 : decode cX5_isSign 33 = .ok (.iconst 1, 1) := by decide +kernel
theorem dX5_isSign_34 : decode cX5_isSign 34 = .ok (.ireturn, 1) := by decide +kernel
set_option maxRecDepth 20000 in
theorem ggX5_field_X5_isSheet : GoodIn wsX5_field wsX5_isSheet := goodIn_r _ [19, 20, 21, 18, 22] (by decide +kernel) (by decide +kernel)
set_option maxRecDepth 20000 in
theorem gX5_field_X5_isSheet : GoodIn wsX5_field (va_wsS RX5 66 yX5_isSheet wsX5_isSheet) := goodIn_app (goodIn_of _ (by decide +kernel)) ggX5_field_X5_isSheet
set_option maxRecDepth 20000 in
theorem ggX5_field_X5_isSort : GoodIn wsX5_field wsX5_isSort := goodIn_r _ [25, 20, 21, 18, 22] (by decide +kernel) (by decide +kernel)
set_option maxRecDepth 20000 in
theorem gX5_field_X5_isSort : GoodIn wsX5_field (va_wsS RX5 70 yX5_isSort wsX5_isSort) := goodIn_app (goodIn_of _ (by decide +kernel)) ggX5_field_X5_isSort
set_option maxRecDepth 20000 in
theorem ggX5_field_X5_against : GoodIn wsX5_field wsX5_against := goodIn_r _ [29, 30, 31, 53, 54, 55, 56, 57, 58, 59, 60, 61, 62, 63, 64, 65, 66, 67, 68, 69, 70, 71, 72, 73, 74, 75, 76, 77, 78, 79, 80, 81] (by decide +kernel) (by decide +kernel)
set_option maxRecDepth 20000 in
theorem gX5_field_X5_against : GoodIn wsX5_field (wsV RX5 73 RX5 yX5_against wsX5_against) := goodIn_app (goodIn_of _ (by decide +kernel)) ggX5_field_X5_against
set_option maxRecDepth 20000 in
theorem ggX5_field_X5_fails : GoodIn wsX5_field wsX5_fails := goodIn_r _ [35, 1, 53, 54, 55, 56, 57, 58, 59, 60, 61, 62, 63, 64, 65, 66, 67, 68, 69, 70, 71, 72, 73, 74, 75, 76, 77, 78, 79, 80, 81] (by decide +kernel) (by decide +kernel)
set_option maxRecDepth 20000 in
theorem gX5_field_X5_fails : GoodIn wsX5_field (wsV RX5 77 RX5 yX5_fails wsX5_fails) := goodIn_app (goodIn_of _ (by decide +kernel)) ggX5_field_X5_fails
set_option maxRecDepth 20000 in
theorem ggX5_field_X5_readField : GoodIn wsX5_field wsX5_readField := goodIn_r _ [39, 7, 3, 5, 2, 40, 41, 42, 18, 43, 44, 45, 46, 47, 48, 20, 21, 22, 49, 50, 51, 52, 10, 12, 14, 53, 54, 55, 56, 57, 58, 59, 60, 61, 62, 63, 64, 65, 66, 67, 68, 69, 70, 71, 72, 73, 74, 75, 76, 77, 78, 79, 80, 81] (by decide +kernel) (by decide +kernel)
set_option maxRecDepth 20000 in
theorem gX5_field_X5_readField : GoodIn wsX5_field (wsV RX5 81 RX5 yX5_readField wsX5_readField) := goodIn_app (goodIn_of _ (by decide +kernel)) ggX5_field_X5_readField
theorem dX5_field_0 : decode cX5_field 0 = .ok (.aload_n 0, 1) := by decide +kernel
theorem dX5_field_1 : decode cX5_field 1 = .ok (.iconst 0, 1) := by decide +kernel
theorem dX5_field_2 : decode cX5_field 2 = .ok (.putfield 50, 3) := by decide +kernel
theorem dX5_field_5 : decode cX5_field 5 = .ok (.iload_n 1, 1) := by decide +kernel
theorem dX5_field_6 : decode cX5_field 6 = .ok (.invokestatic 66, 3) := by decide +kernel
theorem dX5_field_9 : decode cX5_field 9 = .ok (.ifCond .ne 5, 3) := by decide +kernel
theorem dX5_field_12 : decode cX5_field 12 = .ok (.iconst (-1), 1) := by decide +kernel
theorem dX5_field_13 : decode cX5_field 13 = .ok (.ireturn, 1) := by decide +kernel
theorem dX5_field_14 : decode cX5_field 14 = .ok (.iload_n 2, 1) := by decide +kernel
theorem dX5_field_15 : decode cX5_field 15 = .ok (.invokestatic 70, 3) := by decide +kernel
theorem dX5_field_18 : decode cX5_field 18 = .ok (.ifCond .ne 6, 3) := by decide +kernel
theorem dX5_field_21 : decode cX5_field 21 = .ok (.bipush (-2), 2) := by decide +kernel
theorem dX5_field_23 : decode cX5_field 23 = .ok (.ireturn, 1) := by decide +kernel
theorem dX5_field_24 : decode cX5_field 24 = .ok (.aload_n 0, 1) := by decide +kernel
theorem dX5_field_25 : decode cX5_field 25 = .ok (.iload_n 1, 1) := by decide +kernel
theorem dX5_field_26 : decode cX5_field 26 = .ok (.iload_n 2, 1) := by decide +kernel
theorem dX5_field_27 : decode cX5_field 27 = .ok (.iload_n 3, 1) := by decide +kernel
theorem dX5_field_28 : decode cX5_field 28 = .ok (.iload 4, 2) := by decide +kernel
theorem dX5_field_30 : decode cX5_field 30 = .ok (.invokevirtual 73, 3) := by decide +kernel
theorem dX5_field_33 : decode cX5_field 33 = .ok (.istore 5, 2) := by decide +kernel
theorem dX5_field_35 : decode cX5_field 35 = .ok (.iload 5, 2) := by decide +kernel
theorem dX5_field_37 : decode cX5_field 37 = .ok (.ifCond .eq 10, 3) := by decide +kernel
theorem dX5_field_40 : decode cX5_field 40 = .ok (.aload_n 0, 1) := by decide +kernel
theorem dX5_field_41 : decode cX5_field 41 = .ok (.iload 5, 2) := by decide +kernel
theorem dX5_field_43 : decode cX5_field 43 = .ok (.invokevirtual 77, 3) := by decide +kernel
theorem dX5_field_46 : decode cX5_field 46 = .ok (.ireturn, 1) := by decide +kernel
theorem dX5_field_47 : decode cX5_field 47 = .ok (.bipush 60, 2) := by decide +kernel
theorem dX5_field_49 : decode cX5_field 49 = .ok (.iload_n 1, 1) := by decide +kernel
theorem dX5_field_50 : decode cX5_field 50 = .ok (.imul, 1) := by decide +kernel
theorem dX5_field_51 : decode cX5_field 51 = .ok (.iload_n 3, 1) := by decide +kernel
theorem dX5_field_52 : decode cX5_field 52 = .ok (.iadd, 1) := by decide +kernel
theorem dX5_field_53 : decode cX5_field 53 = .ok (.istore 6, 2) := by decide +kernel
theorem dX5_field_55 : decode cX5_field 55 = .ok (.aload_n 0, 1) := by decide +kernel
theorem dX5_field_56 : decode cX5_field 56 = .ok (.iload 6, 2) := by decide +kernel
theorem dX5_field_58 : decode cX5_field 58 = .ok (.putfield 63, 3) := by decide +kernel
theorem dX5_field_61 : decode cX5_field 61 = .ok (.aload_n 0, 1) := by decide +kernel
theorem dX5_field_62 : decode cX5_field 62 = .ok (.iload 6, 2) := by decide +kernel
theorem dX5_field_64 : decode cX5_field 64 = .ok (.iload 4, 2) := by decide +kernel
theorem dX5_field_66 : decode cX5_field 66 = .ok (.iadd, 1) := by decide +kernel
theorem dX5_field_67 : decode cX5_field 67 = .ok (.invokevirtual 81, 3) := by decide +kernel
theorem dX5_field_70 : decode cX5_field 70 = .ok (.ifCond .ne 14, 3) := by decide +kernel
theorem dX5_field_73 : decode cX5_field 73 = .ok (.bipush (-100), 2) := by decide +kernel
theorem dX5_field_75 : decode cX5_field 75 = .ok (.aload_n 0, 1) := by decide +kernel
theorem dX5_field_76 : decode cX5_field 76 = .ok (.getfield 63, 3) := by decide +kernel
theorem dX5_field_79 : decode cX5_field 79 = .ok (.iload 6, 2) := by decide +kernel
theorem dX5_field_81 : decode cX5_field 81 = .ok (.isub, 1) := by decide +kernel
theorem dX5_field_82 : decode cX5_field 82 = .ok (.isub, 1) := by decide +kernel
theorem dX5_field_83 : decode cX5_field 83 = .ok (.ireturn, 1) := by decide +kernel
theorem dX5_field_84 : decode cX5_field 84 = .ok (.aload_n 0, 1) := by decide +kernel
theorem dX5_field_85 : decode cX5_field 85 = .ok (.aload_n 0, 1) := by decide +kernel
theorem dX5_field_86 : decode cX5_field 86 = .ok (.getfield 84, 3) := by decide +kernel
theorem dX5_field_89 : decode cX5_field 89 = .ok (.putfield 87, 3) := by decide +kernel
theorem dX5_field_92 : decode cX5_field 92 = .ok (.aload_n 0, 1) := by decide +kernel
theorem dX5_field_93 : decode cX5_field 93 = .ok (.aload_n 0, 1) := by decide +kernel
theorem dX5_field_94 : decode cX5_field 94 = .ok (.getfield 90, 3) := by decide +kernel
theorem dX5_field_97 : decode cX5_field 97 = .ok (.putfield 93, 3) := by decide +kernel
theorem dX5_field_100 : decode cX5_field 100 = .ok (.aload_n 0, 1) := by decide +kernel
theorem dX5_field_101 : decode cX5_field 101 = .ok (.aload_n 0, 1) := by decide +kernel
theorem dX5_field_102 : decode cX5_field 102 = .ok (.getfield 96, 3) := by decide +kernel
theorem dX5_field_105 : decode cX5_field 105 = .ok (.putfield 60, 3) := by decide +kernel
theorem dX5_field_108 : decode cX5_field 108 = .ok (.iconst 0, 1) := by decide +kernel
theorem dX5_field_109 : decode cX5_field 109 = .ok (.istore 7, 2) := by decide +kernel
theorem dX5_field_111 : decode cX5_field 111 = .ok (.iload 7, 2) := by decide +kernel
theorem dX5_field_113 : decode cX5_field 113 = .ok (.aload_n 0, 1) := by decide +kernel
theorem dX5_field_114 : decode cX5_field 114 = .ok (.getfield 60, 3) := by decide +kernel
theorem dX5_field_117 : decode cX5_field 117 = .ok (.if_icmp .ge 51, 3) := by decide +kernel
theorem dX5_field_120 : decode cX5_field 120 = .ok (.aload_n 0, 1) := by decide +kernel
theorem dX5_field_121 : decode cX5_field 121 = .ok (.getfield 19, 3) := by decide +kernel
theorem dX5_field_124 : decode cX5_field 124 = .ok (.iload 7, 2) := by decide +kernel
theorem dX5_field_126 : decode cX5_field 126 = .ok (.aload_n 0, 1) := by decide +kernel
theorem dX5_field_127 : decode cX5_field 127 = .ok (.getfield 28, 3) := by decide +kernel
theorem dX5_field_130 : decode cX5_field 130 = .ok (.iload 7, 2) := by decide +kernel
theorem dX5_field_132 : decode cX5_field 132 = .ok (.iaload, 1) := by decide +kernel
theorem dX5_field_133 : decode cX5_field 133 = .ok (.iastore, 1) := by decide +kernel
theorem dX5_field_134 : decode cX5_field 134 = .ok (.aload_n 0, 1) := by decide +kernel
theorem dX5_field_135 : decode cX5_field 135 = .ok (.getfield 22, 3) := by decide +kernel
theorem dX5_field_138 : decode cX5_field 138 = .ok (.iload 7, 2) := by decide +kernel
theorem dX5_field_140 : decode cX5_field 140 = .ok (.aload_n 0, 1) := by decide +kernel
theorem dX5_field_141 : decode cX5_field 141 = .ok (.getfield 31, 3) := by decide +kernel
theorem dX5_field_144 : decode cX5_field 144 = .ok (.iload 7, 2) := by decide +kernel
theorem dX5_field_146 : decode cX5_field 146 = .ok (.iaload, 1) := by decide +kernel
theorem dX5_field_147 : decode cX5_field 147 = .ok (.iastore, 1) := by decide +kernel
theorem dX5_field_148 : decode cX5_field 148 = .ok (.aload_n 0, 1) := by decide +kernel
theorem dX5_field_149 : decode cX5_field 149 = .ok (.getfield 25, 3) := by decide +kernel
theorem dX5_field_152 : decode cX5_field 152 = .ok (.iload 7, 2) := by decide +kernel
theorem dX5_field_154 : decode cX5_field 154 = .ok (.aload_n 0, 1) := by decide +kernel
theorem dX5_field_155 : decode cX5_field 155 = .ok (.getfield 34, 3) := by decide +kernel
theorem dX5_field_158 : decode cX5_field 158 = .ok (.iload 7, 2) := by decide +kernel
theorem dX5_field_160 : decode cX5_field 160 = .ok (.iaload, 1) := by decide +kernel
theorem dX5_field_161 : decode cX5_field 161 = .ok (.iastore, 1) := by decide +kernel
theorem dX5_field_162 : decode cX5_field 162 = .ok (.iinc 7 1, 3) := by decide +kernel
theorem dX5_field_165 : decode cX5_field 165 = .ok (.goto (-54), 3) := by decide +kernel
theorem dX5_field_168 : decode cX5_field 168 = .ok (.aload_n 0, 1) := by decide +kernel
theorem dX5_field_169 : decode cX5_field 169 = .ok (.iconst 0, 1) := by decide +kernel
theorem dX5_field_170 : decode cX5_field 170 = .ok (.putfield 99, 3) := by decide +kernel
theorem dX5_field_173 : decode cX5_field 173 = .ok (.aload_n 0, 1) := by decide +kernel
theorem dX5_field_174 : decode cX5_field 174 = .ok (.getfield 60, 3) := by decide +kernel
theorem dX5_field_177 : decode cX5_field 177 = .ok (.ireturn, 1) := by decide +kernel
set_option maxRecDepth 20000 in
theorem ggX5_readField_X5_isSign : GoodIn wsX5_readField wsX5_isSign := goodIn_r _ [9, 4, 10, 25, 26, 27, 28, 29, 30, 31, 32, 33, 34, 35, 36, 37, 38, 39, 40, 41, 42, 43, 44, 45, 46, 47, 48, 49, 50, 51, 52, 53] (by decide +kernel) (by decide +kernel)
set_option maxRecDepth 20000 in
theorem gX5_readField_X5_isSign : GoodIn wsX5_readField (wsV RX5 102 RX5 yX5_isSign wsX5_isSign) := goodIn_app (goodIn_of _ (by decide +kernel)) ggX5_readField_X5_isSign
set_option maxRecDepth 20000 in
theorem ggX5_readField_X5_digit : GoodIn wsX5_readField wsX5_digit := goodIn_r _ [14, 4, 10, 15, 16, 8, 17, 25, 26, 27, 28, 29, 30, 31, 32, 33, 34, 35, 36, 37, 38, 39, 40, 41, 42, 43, 44, 45, 46, 47, 48, 49, 50, 51, 52, 53] (by decide +kernel) (by decide +kernel)
set_option maxRecDepth 20000 in
theorem gX5_readField_X5_digit : GoodIn wsX5_readField (wsV RX5 106 RX5 yX5_digit wsX5_digit) := goodIn_app (goodIn_of _ (by decide +kernel)) ggX5_readField_X5_digit
set_option maxRecDepth 20000 in
theorem ggX5_readField_X5_readStander : GoodIn wsX5_readField wsX5_readStander := goodIn_r _ [21, 4, 10, 22, 1, 23, 24, 11, 12, 13, 8, 14, 15, 16, 17, 25, 26, 27, 28, 29, 30, 31, 32, 33, 34, 35, 36, 37, 38, 39, 40, 41, 42, 43, 44, 45, 46, 47, 48, 49, 50, 51, 52, 53] (by decide +kernel) (by decide +kernel)
set_option maxRecDepth 20000 in
theorem gX5_readField_X5_readStander : GoodIn wsX5_readField (wsV RX5 110 RX5 yX5_readStander wsX5_readStander) := goodIn_app (goodIn_of _ (by decide +kernel)) ggX5_readField_X5_readStander
theorem dX5_readField_0 : decode cX5_readField 0 = .ok (.aload_n 0, 1) := by decide +kernel
theorem dX5_readField_1 : decode cX5_readField 1 = .ok (.iconst 0, 1) := by decide +kernel
theorem dX5_readField_2 : decode cX5_readField 2 = .ok (.putfield 96, 3) := by decide +kernel
theorem dX5_readField_5 : decode cX5_readField 5 = .ok (.aload_n 0, 1) := by decide +kernel
theorem dX5_readField_6 : decode cX5_readField 6 = .ok (.iload_n 1, 1) := by decide +kernel
theorem dX5_readField_7 : decode cX5_readField 7 = .ok (.bipush 102, 2) := by decide +kernel
theorem dX5_readField_9 : decode cX5_readField 9 = .ok (.invokevirtual 102, 3) := by decide +kernel
theorem dX5_readField_12 : decode cX5_readField 12 = .ok (.ifCond .ne 5, 3) := by decide +kernel
theorem dX5_readField_15 : decode cX5_readField 15 = .ok (.iconst 0, 1) := by decide +kernel
theorem dX5_readField_16 : decode cX5_readField 16 = .ok (.ireturn, 1) := by decide +kernel
theorem dX5_readField_17 : decode cX5_readField 17 = .ok (.aload_n 0, 1) := by decide +kernel
theorem dX5_readField_18 : decode cX5_readField 18 = .ok (.aload_n 0, 1) := by decide +kernel
theorem dX5_readField_19 : decode cX5_readField 19 = .ok (.iload_n 1, 1) := by decide +kernel
theorem dX5_readField_20 : decode cX5_readField 20 = .ok (.iconst 1, 1) := by decide +kernel
theorem dX5_readField_21 : decode cX5_readField 21 = .ok (.invokevirtual 106, 3) := by decide +kernel
theorem dX5_readField_24 : decode cX5_readField 24 = .ok (.putfield 84, 3) := by decide +kernel
theorem dX5_readField_27 : decode cX5_readField 27 = .ok (.aload_n 0, 1) := by decide +kernel
theorem dX5_readField_28 : decode cX5_readField 28 = .ok (.getfield 84, 3) := by decide +kernel
theorem dX5_readField_31 : decode cX5_readField 31 = .ok (.bipush (-9), 2) := by decide +kernel
theorem dX5_readField_33 : decode cX5_readField 33 = .ok (.if_icmp .ne 5, 3) := by decide +kernel
theorem dX5_readField_36 : decode cX5_readField 36 = .ok (.iconst 0, 1) := by decide +kernel
theorem dX5_readField_37 : decode cX5_readField 37 = .ok (.ireturn, 1) := by decide +kernel
theorem dX5_readField_38 : decode cX5_readField 38 = .ok (.aload_n 0, 1) := by decide +kernel
theorem dX5_readField_39 : decode cX5_readField 39 = .ok (.aload_n 0, 1) := by decide +kernel
theorem dX5_readField_40 : decode cX5_readField 40 = .ok (.iload_n 1, 1) := by decide +kernel
theorem dX5_readField_41 : decode cX5_readField 41 = .ok (.iconst 0, 1) := by decide +kernel
theorem dX5_readField_42 : decode cX5_readField 42 = .ok (.invokevirtual 106, 3) := by decide +kernel
theorem dX5_readField_45 : decode cX5_readField 45 = .ok (.putfield 90, 3) := by decide +kernel
theorem dX5_readField_48 : decode cX5_readField 48 = .ok (.aload_n 0, 1) := by decide +kernel
theorem dX5_readField_49 : decode cX5_readField 49 = .ok (.getfield 90, 3) := by decide +kernel
theorem dX5_readField_52 : decode cX5_readField 52 = .ok (.bipush (-9), 2) := by decide +kernel
theorem dX5_readField_54 : decode cX5_readField 54 = .ok (.if_icmp .ne 5, 3) := by decide +kernel
theorem dX5_readField_57 : decode cX5_readField 57 = .ok (.iconst 0, 1) := by decide +kernel
theorem dX5_readField_58 : decode cX5_readField 58 = .ok (.ireturn, 1) := by decide +kernel
theorem dX5_readField_59 : decode cX5_readField 59 = .ok (.aload_n 0, 1) := by decide +kernel
theorem dX5_readField_60 : decode cX5_readField 60 = .ok (.getfield 96, 3) := by decide +kernel
theorem dX5_readField_63 : decode cX5_readField 63 = .ok (.ifCond .eq 19, 3) := by decide +kernel
theorem dX5_readField_66 : decode cX5_readField 66 = .ok (.aload_n 0, 1) := by decide +kernel
theorem dX5_readField_67 : decode cX5_readField 67 = .ok (.getfield 96, 3) := by decide +kernel
theorem dX5_readField_70 : decode cX5_readField 70 = .ok (.iconst 5, 1) := by decide +kernel
theorem dX5_readField_71 : decode cX5_readField 71 = .ok (.if_icmp .ge 31, 3) := by decide +kernel
theorem dX5_readField_74 : decode cX5_readField 74 = .ok (.aload_n 0, 1) := by decide +kernel
theorem dX5_readField_75 : decode cX5_readField 75 = .ok (.getfield 63, 3) := by decide +kernel
theorem dX5_readField_78 : decode cX5_readField 78 = .ok (.iload_n 1, 1) := by decide +kernel
theorem dX5_readField_79 : decode cX5_readField 79 = .ok (.if_icmp .ge 23, 3) := by decide +kernel
theorem dX5_readField_82 : decode cX5_readField 82 = .ok (.aload_n 0, 1) := by decide +kernel
theorem dX5_readField_83 : decode cX5_readField 83 = .ok (.iload_n 1, 1) := by decide +kernel
theorem dX5_readField_84 : decode cX5_readField 84 = .ok (.bipush 59, 2) := by decide +kernel
theorem dX5_readField_86 : decode cX5_readField 86 = .ok (.invokevirtual 102, 3) := by decide +kernel
theorem dX5_readField_89 : decode cX5_readField 89 = .ok (.ifCond .eq 11, 3) := by decide +kernel
theorem dX5_readField_92 : decode cX5_readField 92 = .ok (.aload_n 0, 1) := by decide +kernel
theorem dX5_readField_93 : decode cX5_readField 93 = .ok (.iload_n 1, 1) := by decide +kernel
theorem dX5_readField_94 : decode cX5_readField 94 = .ok (.invokevirtual 110, 3) := by decide +kernel
theorem dX5_readField_97 : decode cX5_readField 97 = .ok (.ifCond .ne (-38), 3) := by decide +kernel
theorem dX5_readField_100 : decode cX5_readField 100 = .ok (.iconst 0, 1) := by decide +kernel
theorem dX5_readField_101 : decode cX5_readField 101 = .ok (.ireturn, 1) := by decide +kernel
theorem dX5_readField_102 : decode cX5_readField 102 = .ok (.aload_n 0, 1) := by decide +kernel
theorem dX5_readField_103 : decode cX5_readField 103 = .ok (.getfield 63, 3) := by decide +kernel
theorem dX5_readField_106 : decode cX5_readField 106 = .ok (.iload_n 1, 1) := by decide +kernel
theorem dX5_readField_107 : decode cX5_readField 107 = .ok (.if_icmp .ne 7, 3) := by decide +kernel
theorem dX5_readField_110 : decode cX5_readField 110 = .ok (.iconst 1, 1) := by decide +kernel
theorem dX5_readField_111 : decode cX5_readField 111 = .ok (.goto 4, 3) := by decide +kernel
theorem dX5_readField_114 : decode cX5_readField 114 = .ok (.iconst 0, 1) := by decide +kernel
theorem dX5_readField_115 : decode cX5_readField 115 = .ok (.ireturn, 1) := by decide +kernel
set_option maxRecDepth 20000 in
theorem ggX5_readStander_X5_digit : GoodIn wsX5_readStander wsX5_digit := goodIn_r _ [11, 1, 2, 12, 13, 10, 14, 15, 16, 17, 18, 19, 20, 21, 22, 23, 24, 25, 26, 27, 28, 29, 30, 31, 32, 33, 34, 35, 36, 37, 38, 39, 40, 41, 42, 43] (by decide +kernel) (by decide +kernel)
set_option maxRecDepth 20000 in
theorem gX5_readStander_X5_digit : GoodIn wsX5_readStander (wsV RX5 106 RX5 yX5_digit wsX5_digit) := goodIn_app (goodIn_of _ (by decide +kernel)) ggX5_readStander_X5_digit
theorem dX5_readStander_0 : decode cX5_readStander 0 = .ok (.aload_n 0, 1) := by decide +kernel
theorem dX5_readStander_1 : decode cX5_readStander 1 = .ok (.getfield 63, 3) := by decide +kernel
theorem dX5_readStander_4 : decode cX5_readStander 4 = .ok (.iload_n 1, 1) := by decide +kernel
theorem dX5_readStander_5 : decode cX5_readStander 5 = .ok (.if_icmp .ge 15, 3) := by decide +kernel
theorem dX5_readStander_8 : decode cX5_readStander 8 = .ok (.aload_n 0, 1) := by decide +kernel
theorem dX5_readStander_9 : decode cX5_readStander 9 = .ok (.getfield 16, 3) := by decide +kernel
theorem dX5_readStander_12 : decode cX5_readStander 12 = .ok (.aload_n 0, 1) := by decide +kernel
theorem dX5_readStander_13 : decode cX5_readStander 13 = .ok (.getfield 63, 3) := by decide +kernel
theorem dX5_readStander_16 : decode cX5_readStander 16 = .ok (.iaload, 1) := by decide +kernel
theorem dX5_readStander_17 : decode cX5_readStander 17 = .ok (.goto 4, 3) := by decide +kernel
theorem dX5_readStander_20 : decode cX5_readStander 20 = .ok (.iconst 0, 1) := by decide +kernel
theorem dX5_readStander_21 : decode cX5_readStander 21 = .ok (.istore_n 2, 1) := by decide +kernel
theorem dX5_readStander_22 : decode cX5_readStander 22 = .ok (.aload_n 0, 1) := by decide +kernel
theorem dX5_readStander_23 : decode cX5_readStander 23 = .ok (.getfield 28, 3) := by decide +kernel
theorem dX5_readStander_26 : decode cX5_readStander 26 = .ok (.aload_n 0, 1) := by decide +kernel
theorem dX5_readStander_27 : decode cX5_readStander 27 = .ok (.getfield 96, 3) := by decide +kernel
theorem dX5_readStander_30 : decode cX5_readStander 30 = .ok (.iload_n 2, 1) := by decide +kernel
theorem dX5_readStander_31 : decode cX5_readStander 31 = .ok (.bipush 115, 2) := by decide +kernel
theorem dX5_readStander_33 : decode cX5_readStander 33 = .ok (.if_icmp .ne 7, 3) := by decide +kernel
theorem dX5_readStander_36 : decode cX5_readStander 36 = .ok (.iconst 0, 1) := by decide +kernel
theorem dX5_readStander_37 : decode cX5_readStander 37 = .ok (.goto 25, 3) := by decide +kernel
theorem dX5_readStander_40 : decode cX5_readStander 40 = .ok (.iload_n 2, 1) := by decide +kernel
theorem dX5_readStander_41 : decode cX5_readStander 41 = .ok (.bipush 114, 2) := by decide +kernel
theorem dX5_readStander_43 : decode cX5_readStander 43 = .ok (.if_icmp .ne 7, 3) := by decide +kernel
theorem dX5_readStander_46 : decode cX5_readStander 46 = .ok (.iconst 1, 1) := by decide +kernel
theorem dX5_readStander_47 : decode cX5_readStander 47 = .ok (.goto 15, 3) := by decide +kernel
theorem dX5_readStander_50 : decode cX5_readStander 50 = .ok (.iload_n 2, 1) := by decide +kernel
theorem dX5_readStander_51 : decode cX5_readStander 51 = .ok (.bipush 112, 2) := by decide +kernel
theorem dX5_readStander_53 : decode cX5_readStander 53 = .ok (.if_icmp .ne 7, 3) := by decide +kernel
theorem dX5_readStander_56 : decode cX5_readStander 56 = .ok (.iconst 2, 1) := by decide +kernel
theorem dX5_readStander_57 : decode cX5_readStander 57 = .ok (.goto 5, 3) := by decide +kernel
theorem dX5_readStander_60 : decode cX5_readStander 60 = .ok (.bipush (-9), 2) := by decide +kernel
theorem dX5_readStander_62 : decode cX5_readStander 62 = .ok (.iastore, 1) := by decide +kernel
theorem dX5_readStander_63 : decode cX5_readStander 63 = .ok (.aload_n 0, 1) := by decide +kernel
theorem dX5_readStander_64 : decode cX5_readStander 64 = .ok (.getfield 28, 3) := by decide +kernel
theorem dX5_readStander_67 : decode cX5_readStander 67 = .ok (.aload_n 0, 1) := by decide +kernel
theorem dX5_readStander_68 : decode cX5_readStander 68 = .ok (.getfield 96, 3) := by decide +kernel
theorem dX5_readStander_71 : decode cX5_readStander 71 = .ok (.iaload, 1) := by decide +kernel
theorem dX5_readStander_72 : decode cX5_readStander 72 = .ok (.bipush (-9), 2) := by decide +kernel
theorem dX5_readStander_74 : decode cX5_readStander 74 = .ok (.if_icmp .ne 5, 3) := by decide +kernel
theorem dX5_readStander_77 : decode cX5_readStander 77 = .ok (.iconst 0, 1) := by decide +kernel
theorem dX5_readStander_78 : decode cX5_readStander 78 = .ok (.ireturn, 1) := by decide +kernel
theorem dX5_readStander_79 : decode cX5_readStander 79 = .ok (.aload_n 0, 1) := by decide +kernel
theorem dX5_readStander_80 : decode cX5_readStander 80 = .ok (.dup, 1) := by decide +kernel
theorem dX5_readStander_81 : decode cX5_readStander 81 = .ok (.getfield 63, 3) := by decide +kernel
theorem dX5_readStander_84 : decode cX5_readStander 84 = .ok (.iconst 1, 1) := by decide +kernel
theorem dX5_readStander_85 : decode cX5_readStander 85 = .ok (.iadd, 1) := by decide +kernel
theorem dX5_readStander_86 : decode cX5_readStander 86 = .ok (.putfield 63, 3) := by decide +kernel
theorem dX5_readStander_89 : decode cX5_readStander 89 = .ok (.aload_n 0, 1) := by decide +kernel
theorem dX5_readStander_90 : decode cX5_readStander 90 = .ok (.getfield 31, 3) := by decide +kernel
theorem dX5_readStander_93 : decode cX5_readStander 93 = .ok (.aload_n 0, 1) := by decide +kernel
theorem dX5_readStander_94 : decode cX5_readStander 94 = .ok (.getfield 96, 3) := by decide +kernel
theorem dX5_readStander_97 : decode cX5_readStander 97 = .ok (.aload_n 0, 1) := by decide +kernel
theorem dX5_readStander_98 : decode cX5_readStander 98 = .ok (.iload_n 1, 1) := by decide +kernel
theorem dX5_readStander_99 : decode cX5_readStander 99 = .ok (.iconst 0, 1) := by decide +kernel
theorem dX5_readStander_100 : decode cX5_readStander 100 = .ok (.invokevirtual 106, 3) := by decide +kernel
theorem dX5_readStander_103 : decode cX5_readStander 103 = .ok (.iastore, 1) := by decide +kernel
theorem dX5_readStander_104 : decode cX5_readStander 104 = .ok (.aload_n 0, 1) := by decide +kernel
theorem dX5_readStander_105 : decode cX5_readStander 105 = .ok (.getfield 31, 3) := by decide +kernel
theorem dX5_readStander_108 : decode cX5_readStander 108 = .ok (.aload_n 0, 1) := by decide +kernel
theorem dX5_readStander_109 : decode cX5_readStander 109 = .ok (.getfield 96, 3) := by decide +kernel
theorem dX5_readStander_112 : decode cX5_readStander 112 = .ok (.iaload, 1) := by decide +kernel
theorem dX5_readStander_113 : decode cX5_readStander 113 = .ok (.bipush (-9), 2) := by decide +kernel
theorem dX5_readStander_115 : decode cX5_readStander 115 = .ok (.if_icmp .ne 5, 3) := by decide +kernel
theorem dX5_readStander_118 : decode cX5_readStander 118 = .ok (.iconst 0, 1) := by decide +kernel
theorem dX5_readStander_119 : decode cX5_readStander 119 = .ok (.ireturn, 1) := by decide +kernel
theorem dX5_readStander_120 : decode cX5_readStander 120 = .ok (.aload_n 0, 1) := by decide +kernel
theorem dX5_readStander_121 : decode cX5_readStander 121 = .ok (.getfield 34, 3) := by decide +kernel
theorem dX5_readStander_124 : decode cX5_readStander 124 = .ok (.aload_n 0, 1) := by decide +kernel
theorem dX5_readStander_125 : decode cX5_readStander 125 = .ok (.getfield 96, 3) := by decide +kernel
theorem dX5_readStander_128 : decode cX5_readStander 128 = .ok (.aload_n 0, 1) := by decide +kernel
theorem dX5_readStander_129 : decode cX5_readStander 129 = .ok (.iload_n 1, 1) := by decide +kernel
theorem dX5_readStander_130 : decode cX5_readStander 130 = .ok (.iconst 0, 1) := by decide +kernel
theorem dX5_readStander_131 : decode cX5_readStander 131 = .ok (.invokevirtual 106, 3) := by decide +kernel
theorem dX5_readStander_134 : decode cX5_readStander 134 = .ok (.iastore, 1) := by decide +kernel
theorem dX5_readStander_135 : decode cX5_readStander 135 = .ok (.aload_n 0, 1) := by decide +kernel
theorem dX5_readStander_136 : decode cX5_readStander 136 = .ok (.dup, 1) := by decide +kernel
theorem dX5_readStander_137 : decode cX5_readStander 137 = .ok (.getfield 96, 3) := by decide +kernel
theorem dX5_readStander_140 : decode cX5_readStander 140 = .ok (.iconst 1, 1) := by decide +kernel
theorem dX5_readStander_141 : decode cX5_readStander 141 = .ok (.iadd, 1) := by decide +kernel
theorem dX5_readStander_142 : decode cX5_readStander 142 = .ok (.putfield 96, 3) := by decide +kernel
theorem dX5_readStander_145 : decode cX5_readStander 145 = .ok (.aload_n 0, 1) := by decide +kernel
theorem dX5_readStander_146 : decode cX5_readStander 146 = .ok (.getfield 34, 3) := by decide +kernel
theorem dX5_readStander_149 : decode cX5_readStander 149 = .ok (.aload_n 0, 1) := by decide +kernel
theorem dX5_readStander_150 : decode cX5_readStander 150 = .ok (.getfield 96, 3) := by decide +kernel
theorem dX5_readStander_153 : decode cX5_readStander 153 = .ok (.iconst 1, 1) := by decide +kernel
theorem dX5_readStander_154 : decode cX5_readStander 154 = .ok (.isub, 1) := by decide +kernel
theorem dX5_readStander_155 : decode cX5_readStander 155 = .ok (.iaload, 1) := by decide +kernel
theorem dX5_readStander_156 : decode cX5_readStander 156 = .ok (.bipush (-9), 2) := by decide +kernel
theorem dX5_readStander_158 : decode cX5_readStander 158 = .ok (.if_icmp .eq 7, 3) := by decide +kernel
theorem dX5_readStander_161 : decode cX5_readStander 161 = .ok (.iconst 1, 1) := by decide +kernel
theorem dX5_readStander_162 : decode cX5_readStander 162 = .ok (.goto 4, 3) := by decide +kernel
theorem dX5_readStander_165 : decode cX5_readStander 165 = .ok (.iconst 0, 1) := by decide +kernel
theorem dX5_readStander_166 : decode cX5_readStander 166 = .ok (.ireturn, 1) := by decide +kernel
theorem dX5_shadeOf_0 : decode cX5_shadeOf 0 = .ok (.aload_n 0, 1) := by decide +kernel
theorem dX5_shadeOf_1 : decode cX5_shadeOf 1 = .ok (.getfield 25, 3) := by decide +kernel
theorem dX5_shadeOf_4 : decode cX5_shadeOf 4 = .ok (.iload_n 1, 1) := by decide +kernel
theorem dX5_shadeOf_5 : decode cX5_shadeOf 5 = .ok (.iaload, 1) := by decide +kernel
theorem dX5_shadeOf_6 : decode cX5_shadeOf 6 = .ok (.iload_n 2, 1) := by decide +kernel
theorem dX5_shadeOf_7 : decode cX5_shadeOf 7 = .ok (.imul, 1) := by decide +kernel
theorem dX5_shadeOf_8 : decode cX5_shadeOf 8 = .ok (.istore_n 3, 1) := by decide +kernel
theorem dX5_shadeOf_9 : decode cX5_shadeOf 9 = .ok (.aload_n 0, 1) := by decide +kernel
theorem dX5_shadeOf_10 : decode cX5_shadeOf 10 = .ok (.getfield 19, 3) := by decide +kernel
theorem dX5_shadeOf_13 : decode cX5_shadeOf 13 = .ok (.iload_n 1, 1) := by decide +kernel
theorem dX5_shadeOf_14 : decode cX5_shadeOf 14 = .ok (.iaload, 1) := by decide +kernel
theorem dX5_shadeOf_15 : decode cX5_shadeOf 15 = .ok (.iconst 1, 1) := by decide +kernel
theorem dX5_shadeOf_16 : decode cX5_shadeOf 16 = .ok (.if_icmp .ne 15, 3) := by decide +kernel
theorem dX5_shadeOf_19 : decode cX5_shadeOf 19 = .ok (.iload_n 3, 1) := by decide +kernel
theorem dX5_shadeOf_20 : decode cX5_shadeOf 20 = .ok (.ifCond .le 9, 3) := by decide +kernel
theorem dX5_shadeOf_23 : decode cX5_shadeOf 23 = .ok (.iload_n 3, 1) := by decide +kernel
theorem dX5_shadeOf_24 : decode cX5_shadeOf 24 = .ok (.iconst 1, 1) := by decide +kernel
theorem dX5_shadeOf_25 : decode cX5_shadeOf 25 = .ok (.isub, 1) := by decide +kernel
theorem dX5_shadeOf_26 : decode cX5_shadeOf 26 = .ok (.goto 4, 3) := by decide +kernel
theorem dX5_shadeOf_29 : decode cX5_shadeOf 29 = .ok (.iconst 0, 1) := by decide +kernel
theorem dX5_shadeOf_30 : decode cX5_shadeOf 30 = .ok (.ireturn, 1) := by decide +kernel
theorem dX5_shadeOf_31 : decode cX5_shadeOf 31 = .ok (.aload_n 0, 1) := by decide +kernel
theorem dX5_shadeOf_32 : decode cX5_shadeOf 32 = .ok (.getfield 19, 3) := by decide +kernel
theorem dX5_shadeOf_35 : decode cX5_shadeOf 35 = .ok (.iload_n 1, 1) := by decide +kernel
theorem dX5_shadeOf_36 : decode cX5_shadeOf 36 = .ok (.iaload, 1) := by decide +kernel
theorem dX5_shadeOf_37 : decode cX5_shadeOf 37 = .ok (.ifCond .ne 7, 3) := by decide +kernel
theorem dX5_shadeOf_40 : decode cX5_shadeOf 40 = .ok (.iload_n 3, 1) := by decide +kernel
theorem dX5_shadeOf_41 : decode cX5_shadeOf 41 = .ok (.goto 6, 3) := by decide +kernel
theorem dX5_shadeOf_44 : decode cX5_shadeOf 44 = .ok (.iload_n 3, 1) := by decide +kernel
theorem dX5_shadeOf_45 : decode cX5_shadeOf 45 = .ok (.iconst 2, 1) := by decide +kernel
theorem dX5_shadeOf_46 : decode cX5_shadeOf 46 = .ok (.idiv, 1) := by decide +kernel
theorem dX5_shadeOf_47 : decode cX5_shadeOf 47 = .ok (.ireturn, 1) := by decide +kernel
set_option maxRecDepth 20000 in
theorem ggX5_ofStander_X5_isStander : GoodIn wsX5_ofStander wsX5_isStander := goodIn_r _ [8, 9, 10, 11, 12, 13, 14, 15, 16, 17, 18, 19, 20, 21, 22, 23, 24, 25, 26, 27, 28, 29, 30, 31, 32, 33, 34, 35, 36, 37, 38] (by decide +kernel) (by decide +kernel)
set_option maxRecDepth 20000 in
theorem gX5_ofStander_X5_isStander : GoodIn wsX5_ofStander (wsV RX5 113 RX5 yX5_isStander wsX5_isStander) := goodIn_app (goodIn_of _ (by decide +kernel)) ggX5_ofStander_X5_isStander
theorem dX5_ofStander_0 : decode cX5_ofStander 0 = .ok (.aload_n 0, 1) := by decide +kernel
theorem dX5_ofStander_1 : decode cX5_ofStander 1 = .ok (.iload_n 1, 1) := by decide +kernel
theorem dX5_ofStander_2 : decode cX5_ofStander 2 = .ok (.invokevirtual 113, 3) := by decide +kernel
theorem dX5_ofStander_5 : decode cX5_ofStander 5 = .ok (.ifCond .ne 5, 3) := by decide +kernel
theorem dX5_ofStander_8 : decode cX5_ofStander 8 = .ok (.iconst (-1), 1) := by decide +kernel
theorem dX5_ofStander_9 : decode cX5_ofStander 9 = .ok (.ireturn, 1) := by decide +kernel
theorem dX5_ofStander_10 : decode cX5_ofStander 10 = .ok (.iload_n 2, 1) := by decide +kernel
theorem dX5_ofStander_11 : decode cX5_ofStander 11 = .ok (.ifCond .ne 12, 3) := by decide +kernel
theorem dX5_ofStander_14 : decode cX5_ofStander 14 = .ok (.aload_n 0, 1) := by decide +kernel
theorem dX5_ofStander_15 : decode cX5_ofStander 15 = .ok (.getfield 19, 3) := by decide +kernel
theorem dX5_ofStander_18 : decode cX5_ofStander 18 = .ok (.iload_n 1, 1) := by decide +kernel
theorem dX5_ofStander_19 : decode cX5_ofStander 19 = .ok (.iaload, 1) := by decide +kernel
theorem dX5_ofStander_20 : decode cX5_ofStander 20 = .ok (.goto 33, 3) := by decide +kernel
theorem dX5_ofStander_23 : decode cX5_ofStander 23 = .ok (.iload_n 2, 1) := by decide +kernel
theorem dX5_ofStander_24 : decode cX5_ofStander 24 = .ok (.iconst 1, 1) := by decide +kernel
theorem dX5_ofStander_25 : decode cX5_ofStander 25 = .ok (.if_icmp .ne 12, 3) := by decide +kernel
theorem dX5_ofStander_28 : decode cX5_ofStander 28 = .ok (.aload_n 0, 1) := by decide +kernel
theorem dX5_ofStander_29 : decode cX5_ofStander 29 = .ok (.getfield 22, 3) := by decide +kernel
theorem dX5_ofStander_32 : decode cX5_ofStander 32 = .ok (.iload_n 1, 1) := by decide +kernel
theorem dX5_ofStander_33 : decode cX5_ofStander 33 = .ok (.iaload, 1) := by decide +kernel
theorem dX5_ofStander_34 : decode cX5_ofStander 34 = .ok (.goto 19, 3) := by decide +kernel
theorem dX5_ofStander_37 : decode cX5_ofStander 37 = .ok (.iload_n 2, 1) := by decide +kernel
theorem dX5_ofStander_38 : decode cX5_ofStander 38 = .ok (.iconst 2, 1) := by decide +kernel
theorem dX5_ofStander_39 : decode cX5_ofStander 39 = .ok (.if_icmp .ne 12, 3) := by decide +kernel
theorem dX5_ofStander_42 : decode cX5_ofStander 42 = .ok (.aload_n 0, 1) := by decide +kernel
theorem dX5_ofStander_43 : decode cX5_ofStander 43 = .ok (.getfield 25, 3) := by decide +kernel
theorem dX5_ofStander_46 : decode cX5_ofStander 46 = .ok (.iload_n 1, 1) := by decide +kernel
theorem dX5_ofStander_47 : decode cX5_ofStander 47 = .ok (.iaload, 1) := by decide +kernel
theorem dX5_ofStander_48 : decode cX5_ofStander 48 = .ok (.goto 5, 3) := by decide +kernel
theorem dX5_ofStander_51 : decode cX5_ofStander 51 = .ok (.bipush (-2), 2) := by decide +kernel
theorem dX5_ofStander_53 : decode cX5_ofStander 53 = .ok (.ireturn, 1) := by decide +kernel
set_option maxRecDepth 20000 in
theorem ggX5_walk_X5_isStander : GoodIn wsX5_walk wsX5_isStander := goodIn_r _ [6, 7, 14, 15, 16, 17, 18, 19, 20, 21, 22, 23, 24, 25, 26, 27, 28, 29, 30, 31, 32, 33, 34, 35, 36, 37, 38, 39, 40, 41, 42] (by decide +kernel) (by decide +kernel)
set_option maxRecDepth 20000 in
theorem gX5_walk_X5_isStander : GoodIn wsX5_walk (wsV RX5 113 RX5 yX5_isStander wsX5_isStander) := goodIn_app (goodIn_of _ (by decide +kernel)) ggX5_walk_X5_isStander
set_option maxRecDepth 20000 in
theorem ggX5_walk_X5_isDigit : GoodIn wsX5_walk wsX5_isDigit := goodIn_r _ [10, 11, 12, 5, 13] (by decide +kernel) (by decide +kernel)
set_option maxRecDepth 20000 in
theorem gX5_walk_X5_isDigit : GoodIn wsX5_walk (va_wsS RX5 116 yX5_isDigit wsX5_isDigit) := goodIn_app (goodIn_of _ (by decide +kernel)) ggX5_walk_X5_isDigit
theorem dX5_walk_0 : decode cX5_walk 0 = .ok (.aload_n 0, 1) := by decide +kernel
theorem dX5_walk_1 : decode cX5_walk 1 = .ok (.iload_n 1, 1) := by decide +kernel
theorem dX5_walk_2 : decode cX5_walk 2 = .ok (.invokevirtual 113, 3) := by decide +kernel
theorem dX5_walk_5 : decode cX5_walk 5 = .ok (.ifCond .ne 5, 3) := by decide +kernel
theorem dX5_walk_8 : decode cX5_walk 8 = .ok (.iconst (-1), 1) := by decide +kernel
theorem dX5_walk_9 : decode cX5_walk 9 = .ok (.ireturn, 1) := by decide +kernel
theorem dX5_walk_10 : decode cX5_walk 10 = .ok (.iload_n 2, 1) := by decide +kernel
theorem dX5_walk_11 : decode cX5_walk 11 = .ok (.invokestatic 116, 3) := by decide +kernel
theorem dX5_walk_14 : decode cX5_walk 14 = .ok (.ifCond .ne 6, 3) := by decide +kernel
theorem dX5_walk_17 : decode cX5_walk 17 = .ok (.bipush (-2), 2) := by decide +kernel
theorem dX5_walk_19 : decode cX5_walk 19 = .ok (.ireturn, 1) := by decide +kernel
theorem dX5_walk_20 : decode cX5_walk 20 = .ok (.aload_n 0, 1) := by decide +kernel
theorem dX5_walk_21 : decode cX5_walk 21 = .ok (.getfield 22, 3) := by decide +kernel
theorem dX5_walk_24 : decode cX5_walk 24 = .ok (.iload_n 1, 1) := by decide +kernel
theorem dX5_walk_25 : decode cX5_walk 25 = .ok (.iaload, 1) := by decide +kernel
theorem dX5_walk_26 : decode cX5_walk 26 = .ok (.istore_n 3, 1) := by decide +kernel
theorem dX5_walk_27 : decode cX5_walk 27 = .ok (.aload_n 0, 1) := by decide +kernel
theorem dX5_walk_28 : decode cX5_walk 28 = .ok (.getfield 22, 3) := by decide +kernel
theorem dX5_walk_31 : decode cX5_walk 31 = .ok (.iload_n 1, 1) := by decide +kernel
theorem dX5_walk_32 : decode cX5_walk 32 = .ok (.iload_n 2, 1) := by decide +kernel
theorem dX5_walk_33 : decode cX5_walk 33 = .ok (.iastore, 1) := by decide +kernel
theorem dX5_walk_34 : decode cX5_walk 34 = .ok (.iload_n 3, 1) := by decide +kernel
theorem dX5_walk_35 : decode cX5_walk 35 = .ok (.ireturn, 1) := by decide +kernel
set_option maxRecDepth 20000 in
theorem ggX5_grow_X5_isStander : GoodIn wsX5_grow wsX5_isStander := goodIn_r _ [6, 7, 14, 15, 16, 17, 18, 19, 20, 21, 22, 23, 24, 25, 26, 27, 28, 29, 30, 31, 32, 33, 34, 35, 36, 37, 38, 39, 40, 41, 42] (by decide +kernel) (by decide +kernel)
set_option maxRecDepth 20000 in
theorem gX5_grow_X5_isStander : GoodIn wsX5_grow (wsV RX5 113 RX5 yX5_isStander wsX5_isStander) := goodIn_app (goodIn_of _ (by decide +kernel)) ggX5_grow_X5_isStander
set_option maxRecDepth 20000 in
theorem ggX5_grow_X5_isDigit : GoodIn wsX5_grow wsX5_isDigit := goodIn_r _ [10, 11, 12, 5, 13] (by decide +kernel) (by decide +kernel)
set_option maxRecDepth 20000 in
theorem gX5_grow_X5_isDigit : GoodIn wsX5_grow (va_wsS RX5 116 yX5_isDigit wsX5_isDigit) := goodIn_app (goodIn_of _ (by decide +kernel)) ggX5_grow_X5_isDigit
theorem dX5_grow_0 : decode cX5_grow 0 = .ok (.aload_n 0, 1) := by decide +kernel
theorem dX5_grow_1 : decode cX5_grow 1 = .ok (.iload_n 1, 1) := by decide +kernel
theorem dX5_grow_2 : decode cX5_grow 2 = .ok (.invokevirtual 113, 3) := by decide +kernel
theorem dX5_grow_5 : decode cX5_grow 5 = .ok (.ifCond .ne 5, 3) := by decide +kernel
theorem dX5_grow_8 : decode cX5_grow 8 = .ok (.iconst (-1), 1) := by decide +kernel
theorem dX5_grow_9 : decode cX5_grow 9 = .ok (.ireturn, 1) := by decide +kernel
theorem dX5_grow_10 : decode cX5_grow 10 = .ok (.iload_n 2, 1) := by decide +kernel
theorem dX5_grow_11 : decode cX5_grow 11 = .ok (.invokestatic 116, 3) := by decide +kernel
theorem dX5_grow_14 : decode cX5_grow 14 = .ok (.ifCond .ne 6, 3) := by decide +kernel
theorem dX5_grow_17 : decode cX5_grow 17 = .ok (.bipush (-2), 2) := by decide +kernel
theorem dX5_grow_19 : decode cX5_grow 19 = .ok (.ireturn, 1) := by decide +kernel
theorem dX5_grow_20 : decode cX5_grow 20 = .ok (.aload_n 0, 1) := by decide +kernel
theorem dX5_grow_21 : decode cX5_grow 21 = .ok (.getfield 25, 3) := by decide +kernel
theorem dX5_grow_24 : decode cX5_grow 24 = .ok (.iload_n 1, 1) := by decide +kernel
theorem dX5_grow_25 : decode cX5_grow 25 = .ok (.iaload, 1) := by decide +kernel
theorem dX5_grow_26 : decode cX5_grow 26 = .ok (.istore_n 3, 1) := by decide +kernel
theorem dX5_grow_27 : decode cX5_grow 27 = .ok (.aload_n 0, 1) := by decide +kernel
theorem dX5_grow_28 : decode cX5_grow 28 = .ok (.getfield 25, 3) := by decide +kernel
theorem dX5_grow_31 : decode cX5_grow 31 = .ok (.iload_n 1, 1) := by decide +kernel
theorem dX5_grow_32 : decode cX5_grow 32 = .ok (.iload_n 2, 1) := by decide +kernel
theorem dX5_grow_33 : decode cX5_grow 33 = .ok (.iastore, 1) := by decide +kernel
theorem dX5_grow_34 : decode cX5_grow 34 = .ok (.iload_n 3, 1) := by decide +kernel
theorem dX5_grow_35 : decode cX5_grow 35 = .ok (.ireturn, 1) := by decide +kernel
set_option maxRecDepth 20000 in
theorem ggX5_build_X5_isDigit : GoodIn wsX5_build wsX5_isDigit := goodIn_r _ [6, 7, 8, 5, 9] (by decide +kernel) (by decide +kernel)
set_option maxRecDepth 20000 in
theorem gX5_build_X5_isDigit : GoodIn wsX5_build (va_wsS RX5 116 yX5_isDigit wsX5_isDigit) := goodIn_app (goodIn_of _ (by decide +kernel)) ggX5_build_X5_isDigit
theorem dX5_build_0 : decode cX5_build 0 = .ok (.iload_n 1, 1) := by decide +kernel
theorem dX5_build_1 : decode cX5_build 1 = .ok (.invokestatic 116, 3) := by decide +kernel
theorem dX5_build_4 : decode cX5_build 4 = .ok (.ifCond .ne 6, 3) := by decide +kernel
theorem dX5_build_7 : decode cX5_build 7 = .ok (.bipush (-2), 2) := by decide +kernel
theorem dX5_build_9 : decode cX5_build 9 = .ok (.ireturn, 1) := by decide +kernel
theorem dX5_build_10 : decode cX5_build 10 = .ok (.aload_n 0, 1) := by decide +kernel
theorem dX5_build_11 : decode cX5_build 11 = .ok (.getfield 60, 3) := by decide +kernel
theorem dX5_build_14 : decode cX5_build 14 = .ok (.ifCond .ne 6, 3) := by decide +kernel
theorem dX5_build_17 : decode cX5_build 17 = .ok (.bipush (-3), 2) := by decide +kernel
theorem dX5_build_19 : decode cX5_build 19 = .ok (.ireturn, 1) := by decide +kernel
theorem dX5_build_20 : decode cX5_build 20 = .ok (.aload_n 0, 1) := by decide +kernel
theorem dX5_build_21 : decode cX5_build 21 = .ok (.getfield 93, 3) := by decide +kernel
theorem dX5_build_24 : decode cX5_build 24 = .ok (.istore_n 2, 1) := by decide +kernel
theorem dX5_build_25 : decode cX5_build 25 = .ok (.aload_n 0, 1) := by decide +kernel
theorem dX5_build_26 : decode cX5_build 26 = .ok (.iload_n 1, 1) := by decide +kernel
theorem dX5_build_27 : decode cX5_build 27 = .ok (.putfield 93, 3) := by decide +kernel
theorem dX5_build_30 : decode cX5_build 30 = .ok (.iload_n 2, 1) := by decide +kernel
theorem dX5_build_31 : decode cX5_build 31 = .ok (.ireturn, 1) := by decide +kernel
set_option maxRecDepth 20000 in
theorem ggX5_shade_X5_isStander : GoodIn wsX5_shade wsX5_isStander := goodIn_r _ [5, 6, 19, 20, 21, 22, 23, 24, 25, 26, 27, 28, 29, 30, 31, 32, 33, 34, 35, 36, 37, 38, 39, 40, 41, 42, 43, 44, 45, 46, 47] (by decide +kernel) (by decide +kernel)
set_option maxRecDepth 20000 in
theorem gX5_shade_X5_isStander : GoodIn wsX5_shade (wsV RX5 113 RX5 yX5_isStander wsX5_isStander) := goodIn_app (goodIn_of _ (by decide +kernel)) ggX5_shade_X5_isStander
set_option maxRecDepth 20000 in
theorem ggX5_shade_X5_isSun : GoodIn wsX5_shade wsX5_isSun := goodIn_r _ [9, 10, 11, 4, 12] (by decide +kernel) (by decide +kernel)
set_option maxRecDepth 20000 in
theorem gX5_shade_X5_isSun : GoodIn wsX5_shade (va_wsS RX5 119 yX5_isSun wsX5_isSun) := goodIn_app (goodIn_of _ (by decide +kernel)) ggX5_shade_X5_isSun
set_option maxRecDepth 20000 in
theorem ggX5_shade_X5_shadeOf : GoodIn wsX5_shade wsX5_shadeOf := goodIn_r _ [16, 17, 18, 19, 20, 21, 22, 23, 24, 25, 26, 27, 28, 29, 30, 31, 32, 33, 34, 35, 36, 37, 38, 39, 40, 41, 42, 43, 44, 45, 46, 47] (by decide +kernel) (by decide +kernel)
set_option maxRecDepth 20000 in
theorem gX5_shade_X5_shadeOf : GoodIn wsX5_shade (wsV RX5 122 RX5 yX5_shadeOf wsX5_shadeOf) := goodIn_app (goodIn_of _ (by decide +kernel)) ggX5_shade_X5_shadeOf
theorem dX5_shade_0 : decode cX5_shade 0 = .ok (.aload_n 0, 1) := by decide +kernel
theorem dX5_shade_1 : decode cX5_shade 1 = .ok (.iload_n 1, 1) := by decide +kernel
theorem dX5_shade_2 : decode cX5_shade 2 = .ok (.invokevirtual 113, 3) := by decide +kernel
theorem dX5_shade_5 : decode cX5_shade 5 = .ok (.ifCond .ne 5, 3) := by decide +kernel
theorem dX5_shade_8 : decode cX5_shade 8 = .ok (.iconst (-1), 1) := by decide +kernel
theorem dX5_shade_9 : decode cX5_shade 9 = .ok (.ireturn, 1) := by decide +kernel
theorem dX5_shade_10 : decode cX5_shade 10 = .ok (.iload_n 2, 1) := by decide +kernel
theorem dX5_shade_11 : decode cX5_shade 11 = .ok (.invokestatic 119, 3) := by decide +kernel
theorem dX5_shade_14 : decode cX5_shade 14 = .ok (.ifCond .eq 12, 3) := by decide +kernel
theorem dX5_shade_17 : decode cX5_shade 17 = .ok (.aload_n 0, 1) := by decide +kernel
theorem dX5_shade_18 : decode cX5_shade 18 = .ok (.iload_n 1, 1) := by decide +kernel
theorem dX5_shade_19 : decode cX5_shade 19 = .ok (.iload_n 2, 1) := by decide +kernel
theorem dX5_shade_20 : decode cX5_shade 20 = .ok (.invokevirtual 122, 3) := by decide +kernel
theorem dX5_shade_23 : decode cX5_shade 23 = .ok (.goto 5, 3) := by decide +kernel
theorem dX5_shade_26 : decode cX5_shade 26 = .ok (.bipush (-2), 2) := by decide +kernel
theorem dX5_shade_28 : decode cX5_shade 28 = .ok (.ireturn, 1) := by decide +kernel
theorem dX5_isHidden_0 : decode cX5_isHidden 0 = .ok (.aload_n 0, 1) := by decide +kernel
theorem dX5_isHidden_1 : decode cX5_isHidden 1 = .ok (.getfield 22, 3) := by decide +kernel
theorem dX5_isHidden_4 : decode cX5_isHidden 4 = .ok (.iload_n 1, 1) := by decide +kernel
theorem dX5_isHidden_5 : decode cX5_isHidden 5 = .ok (.iaload, 1) := by decide +kernel
theorem dX5_isHidden_6 : decode cX5_isHidden 6 = .ok (.aload_n 0, 1) := by decide +kernel
theorem dX5_isHidden_7 : decode cX5_isHidden 7 = .ok (.getfield 93, 3) := by decide +kernel
theorem dX5_isHidden_10 : decode cX5_isHidden 10 = .ok (.iload_n 2, 1) := by decide +kernel
theorem dX5_isHidden_11 : decode cX5_isHidden 11 = .ok (.imul, 1) := by decide +kernel
theorem dX5_isHidden_12 : decode cX5_isHidden 12 = .ok (.if_icmp .ge 7, 3) := by decide +kernel
theorem dX5_isHidden_15 : decode cX5_isHidden 15 = .ok (.iconst 1, 1) := by decide +kernel
theorem dX5_isHidden_16 : decode cX5_isHidden 16 = .ok (.goto 4, 3) := by decide +kernel
theorem dX5_isHidden_19 : decode cX5_isHidden 19 = .ok (.iconst 0, 1) := by decide +kernel
theorem dX5_isHidden_20 : decode cX5_isHidden 20 = .ok (.ireturn, 1) := by decide +kernel
set_option maxRecDepth 20000 in
theorem ggX5_darken_X5_isHidden : GoodIn wsX5_darken wsX5_isHidden := goodIn_r _ [9, 4, 10, 17, 18, 19, 20, 21, 22, 23, 24, 25, 26, 27, 28, 29, 30, 31, 32, 33, 34, 35, 36, 37, 38, 39, 40, 41, 42, 43, 44, 45] (by decide +kernel) (by decide +kernel)
set_option maxRecDepth 20000 in
theorem gX5_darken_X5_isHidden : GoodIn wsX5_darken (wsV RX5 128 RX5 yX5_isHidden wsX5_isHidden) := goodIn_app (goodIn_of _ (by decide +kernel)) ggX5_darken_X5_isHidden
set_option maxRecDepth 20000 in
theorem ggX5_darken_X5_shadeOf : GoodIn wsX5_darken wsX5_shadeOf := goodIn_r _ [14, 15, 16, 17, 18, 19, 20, 21, 22, 23, 24, 25, 26, 27, 28, 29, 30, 31, 32, 33, 34, 35, 36, 37, 38, 39, 40, 41, 42, 43, 44, 45] (by decide +kernel) (by decide +kernel)
set_option maxRecDepth 20000 in
theorem gX5_darken_X5_shadeOf : GoodIn wsX5_darken (wsV RX5 122 RX5 yX5_shadeOf wsX5_shadeOf) := goodIn_app (goodIn_of _ (by decide +kernel)) ggX5_darken_X5_shadeOf
theorem dX5_darken_0 : decode cX5_darken 0 = .ok (.iconst 0, 1) := by decide +kernel
theorem dX5_darken_1 : decode cX5_darken 1 = .ok (.istore_n 2, 1) := by decide +kernel
theorem dX5_darken_2 : decode cX5_darken 2 = .ok (.iload_n 2, 1) := by decide +kernel
theorem dX5_darken_3 : decode cX5_darken 3 = .ok (.bipush 40, 2) := by decide +kernel
theorem dX5_darken_5 : decode cX5_darken 5 = .ok (.if_icmp .ge 16, 3) := by decide +kernel
theorem dX5_darken_8 : decode cX5_darken 8 = .ok (.aload_n 0, 1) := by decide +kernel
theorem dX5_darken_9 : decode cX5_darken 9 = .ok (.getfield 37, 3) := by decide +kernel
theorem dX5_darken_12 : decode cX5_darken 12 = .ok (.iload_n 2, 1) := by decide +kernel
theorem dX5_darken_13 : decode cX5_darken 13 = .ok (.iconst 0, 1) := by decide +kernel
theorem dX5_darken_14 : decode cX5_darken 14 = .ok (.bastore, 1) := by decide +kernel
theorem dX5_darken_15 : decode cX5_darken 15 = .ok (.iinc 2 1, 3) := by decide +kernel
theorem dX5_darken_18 : decode cX5_darken 18 = .ok (.goto (-16), 3) := by decide +kernel
theorem dX5_darken_21 : decode cX5_darken 21 = .ok (.iconst 0, 1) := by decide +kernel
theorem dX5_darken_22 : decode cX5_darken 22 = .ok (.istore_n 2, 1) := by decide +kernel
theorem dX5_darken_23 : decode cX5_darken 23 = .ok (.iload_n 2, 1) := by decide +kernel
theorem dX5_darken_24 : decode cX5_darken 24 = .ok (.aload_n 0, 1) := by decide +kernel
theorem dX5_darken_25 : decode cX5_darken 25 = .ok (.getfield 60, 3) := by decide +kernel
theorem dX5_darken_28 : decode cX5_darken 28 = .ok (.if_icmp .ge 79, 3) := by decide +kernel
theorem dX5_darken_31 : decode cX5_darken 31 = .ok (.aload_n 0, 1) := by decide +kernel
theorem dX5_darken_32 : decode cX5_darken 32 = .ok (.getfield 125, 3) := by decide +kernel
theorem dX5_darken_35 : decode cX5_darken 35 = .ok (.iload_n 2, 1) := by decide +kernel
theorem dX5_darken_36 : decode cX5_darken 36 = .ok (.ishr, 1) := by decide +kernel
theorem dX5_darken_37 : decode cX5_darken 37 = .ok (.iconst 1, 1) := by decide +kernel
theorem dX5_darken_38 : decode cX5_darken 38 = .ok (.iand, 1) := by decide +kernel
theorem dX5_darken_39 : decode cX5_darken 39 = .ok (.ifCond .ne 16, 3) := by decide +kernel
theorem dX5_darken_42 : decode cX5_darken 42 = .ok (.aload_n 0, 1) := by decide +kernel
theorem dX5_darken_43 : decode cX5_darken 43 = .ok (.iload_n 2, 1) := by decide +kernel
theorem dX5_darken_44 : decode cX5_darken 44 = .ok (.iload_n 1, 1) := by decide +kernel
theorem dX5_darken_45 : decode cX5_darken 45 = .ok (.invokevirtual 128, 3) := by decide +kernel
theorem dX5_darken_48 : decode cX5_darken 48 = .ok (.ifCond .ne 7, 3) := by decide +kernel
theorem dX5_darken_51 : decode cX5_darken 51 = .ok (.iconst 1, 1) := by decide +kernel
theorem dX5_darken_52 : decode cX5_darken 52 = .ok (.goto 4, 3) := by decide +kernel
theorem dX5_darken_55 : decode cX5_darken 55 = .ok (.iconst 0, 1) := by decide +kernel
theorem dX5_darken_56 : decode cX5_darken 56 = .ok (.istore_n 3, 1) := by decide +kernel
theorem dX5_darken_57 : decode cX5_darken 57 = .ok (.aload_n 0, 1) := by decide +kernel
theorem dX5_darken_58 : decode cX5_darken 58 = .ok (.getfield 22, 3) := by decide +kernel
theorem dX5_darken_61 : decode cX5_darken 61 = .ok (.iload_n 2, 1) := by decide +kernel
theorem dX5_darken_62 : decode cX5_darken 62 = .ok (.iaload, 1) := by decide +kernel
theorem dX5_darken_63 : decode cX5_darken 63 = .ok (.istore 4, 2) := by decide +kernel
theorem dX5_darken_65 : decode cX5_darken 65 = .ok (.iload_n 3, 1) := by decide +kernel
theorem dX5_darken_66 : decode cX5_darken 66 = .ok (.ifCond .eq 35, 3) := by decide +kernel
theorem dX5_darken_69 : decode cX5_darken 69 = .ok (.iload 4, 2) := by decide +kernel
theorem dX5_darken_71 : decode cX5_darken 71 = .ok (.aload_n 0, 1) := by decide +kernel
theorem dX5_darken_72 : decode cX5_darken 72 = .ok (.getfield 22, 3) := by decide +kernel
theorem dX5_darken_75 : decode cX5_darken 75 = .ok (.iload_n 2, 1) := by decide +kernel
theorem dX5_darken_76 : decode cX5_darken 76 = .ok (.iaload, 1) := by decide +kernel
theorem dX5_darken_77 : decode cX5_darken 77 = .ok (.aload_n 0, 1) := by decide +kernel
theorem dX5_darken_78 : decode cX5_darken 78 = .ok (.iload_n 2, 1) := by decide +kernel
theorem dX5_darken_79 : decode cX5_darken 79 = .ok (.iload_n 1, 1) := by decide +kernel
theorem dX5_darken_80 : decode cX5_darken 80 = .ok (.invokevirtual 122, 3) := by decide +kernel
theorem dX5_darken_83 : decode cX5_darken 83 = .ok (.iadd, 1) := by decide +kernel
theorem dX5_darken_84 : decode cX5_darken 84 = .ok (.if_icmp .gt 17, 3) := by decide +kernel
theorem dX5_darken_87 : decode cX5_darken 87 = .ok (.aload_n 0, 1) := by decide +kernel
theorem dX5_darken_88 : decode cX5_darken 88 = .ok (.getfield 37, 3) := by decide +kernel
theorem dX5_darken_91 : decode cX5_darken 91 = .ok (.iload 4, 2) := by decide +kernel
theorem dX5_darken_93 : decode cX5_darken 93 = .ok (.iconst 1, 1) := by decide +kernel
theorem dX5_darken_94 : decode cX5_darken 94 = .ok (.bastore, 1) := by decide +kernel
theorem dX5_darken_95 : decode cX5_darken 95 = .ok (.iinc 4 1, 3) := by decide +kernel
theorem dX5_darken_98 : decode cX5_darken 98 = .ok (.goto (-33), 3) := by decide +kernel
theorem dX5_darken_101 : decode cX5_darken 101 = .ok (.iinc 2 1, 3) := by decide +kernel
theorem dX5_darken_104 : decode cX5_darken 104 = .ok (.goto (-81), 3) := by decide +kernel
theorem dX5_darken_107 : decode cX5_darken 107 = .ok (.return_, 1) := by decide +kernel
theorem dX5_endRun_0 : decode cX5_endRun 0 = .ok (.iload_n 1, 1) := by decide +kernel
theorem dX5_endRun_1 : decode cX5_endRun 1 = .ok (.ifCond .ne 4, 3) := by decide +kernel
theorem dX5_endRun_4 : decode cX5_endRun 4 = .ok (.return_, 1) := by decide +kernel
theorem dX5_endRun_5 : decode cX5_endRun 5 = .ok (.aload_n 0, 1) := by decide +kernel
theorem dX5_endRun_6 : decode cX5_endRun 6 = .ok (.dup, 1) := by decide +kernel
theorem dX5_endRun_7 : decode cX5_endRun 7 = .ok (.getfield 131, 3) := by decide +kernel
theorem dX5_endRun_10 : decode cX5_endRun 10 = .ok (.iload_n 1, 1) := by decide +kernel
theorem dX5_endRun_11 : decode cX5_endRun 11 = .ok (.aload_n 0, 1) := by decide +kernel
theorem dX5_endRun_12 : decode cX5_endRun 12 = .ok (.getfield 87, 3) := by decide +kernel
theorem dX5_endRun_15 : decode cX5_endRun 15 = .ok (.idiv, 1) := by decide +kernel
theorem dX5_endRun_16 : decode cX5_endRun 16 = .ok (.iload_n 1, 1) := by decide +kernel
theorem dX5_endRun_17 : decode cX5_endRun 17 = .ok (.aload_n 0, 1) := by decide +kernel
theorem dX5_endRun_18 : decode cX5_endRun 18 = .ok (.getfield 87, 3) := by decide +kernel
theorem dX5_endRun_21 : decode cX5_endRun 21 = .ok (.irem, 1) := by decide +kernel
theorem dX5_endRun_22 : decode cX5_endRun 22 = .ok (.ifCond .le 7, 3) := by decide +kernel
theorem dX5_endRun_25 : decode cX5_endRun 25 = .ok (.iconst 1, 1) := by decide +kernel
theorem dX5_endRun_26 : decode cX5_endRun 26 = .ok (.goto 4, 3) := by decide +kernel
theorem dX5_endRun_29 : decode cX5_endRun 29 = .ok (.iconst 0, 1) := by decide +kernel
theorem dX5_endRun_30 : decode cX5_endRun 30 = .ok (.iadd, 1) := by decide +kernel
theorem dX5_endRun_31 : decode cX5_endRun 31 = .ok (.iadd, 1) := by decide +kernel
theorem dX5_endRun_32 : decode cX5_endRun 32 = .ok (.putfield 131, 3) := by decide +kernel
theorem dX5_endRun_35 : decode cX5_endRun 35 = .ok (.aload_n 0, 1) := by decide +kernel
theorem dX5_endRun_36 : decode cX5_endRun 36 = .ok (.dup, 1) := by decide +kernel
theorem dX5_endRun_37 : decode cX5_endRun 37 = .ok (.getfield 134, 3) := by decide +kernel
theorem dX5_endRun_40 : decode cX5_endRun 40 = .ok (.iconst 1, 1) := by decide +kernel
theorem dX5_endRun_41 : decode cX5_endRun 41 = .ok (.iadd, 1) := by decide +kernel
theorem dX5_endRun_42 : decode cX5_endRun 42 = .ok (.putfield 134, 3) := by decide +kernel
theorem dX5_endRun_45 : decode cX5_endRun 45 = .ok (.aload_n 0, 1) := by decide +kernel
theorem dX5_endRun_46 : decode cX5_endRun 46 = .ok (.iload_n 1, 1) := by decide +kernel
theorem dX5_endRun_47 : decode cX5_endRun 47 = .ok (.aload_n 0, 1) := by decide +kernel
theorem dX5_endRun_48 : decode cX5_endRun 48 = .ok (.getfield 137, 3) := by decide +kernel
theorem dX5_endRun_51 : decode cX5_endRun 51 = .ok (.if_icmp .le 7, 3) := by decide +kernel
theorem dX5_endRun_54 : decode cX5_endRun 54 = .ok (.iload_n 1, 1) := by decide +kernel
theorem dX5_endRun_55 : decode cX5_endRun 55 = .ok (.goto 7, 3) := by decide +kernel
theorem dX5_endRun_58 : decode cX5_endRun 58 = .ok (.aload_n 0, 1) := by decide +kernel
theorem dX5_endRun_59 : decode cX5_endRun 59 = .ok (.getfield 137, 3) := by decide +kernel
theorem dX5_endRun_62 : decode cX5_endRun 62 = .ok (.putfield 137, 3) := by decide +kernel
theorem dX5_endRun_65 : decode cX5_endRun 65 = .ok (.return_, 1) := by decide +kernel
set_option maxRecDepth 20000 in
theorem ggX5_count_X5_darken : GoodIn wsX5_count wsX5_darken := goodIn_r _ [10, 5, 11, 12, 13, 14, 15, 16, 9, 17, 18, 19, 20, 21, 22, 23, 24, 30, 31, 32, 33, 34, 35, 36, 37, 38, 39, 40, 41, 42, 43, 44, 45, 46, 47, 48, 49, 50, 51, 52, 53, 54, 55, 56, 57, 58] (by decide +kernel) (by decide +kernel)
set_option maxRecDepth 20000 in
theorem gX5_count_X5_darken : GoodIn wsX5_count (wsV RX5 140 RX5 yX5_darken wsX5_darken) := goodIn_app (goodIn_of _ (by decide +kernel)) ggX5_count_X5_darken
set_option maxRecDepth 20000 in
theorem ggX5_count_X5_endRun : GoodIn wsX5_count wsX5_endRun := goodIn_r _ [28, 1, 29, 2, 3, 30, 31, 32, 33, 34, 35, 36, 37, 38, 39, 40, 41, 42, 43, 44, 45, 46, 47, 48, 49, 50, 51, 52, 53, 54, 55, 56, 57, 58] (by decide +kernel) (by decide +kernel)
set_option maxRecDepth 20000 in
theorem gX5_count_X5_endRun : GoodIn wsX5_count (wsV RX5 147 RX5 yX5_endRun wsX5_endRun) := goodIn_app (goodIn_of _ (by decide +kernel)) ggX5_count_X5_endRun
theorem dX5_count_0 : decode cX5_count 0 = .ok (.aload_n 0, 1) := by decide +kernel
theorem dX5_count_1 : decode cX5_count 1 = .ok (.iload_n 1, 1) := by decide +kernel
theorem dX5_count_2 : decode cX5_count 2 = .ok (.invokevirtual 140, 3) := by decide +kernel
theorem dX5_count_5 : decode cX5_count 5 = .ok (.aload_n 0, 1) := by decide +kernel
theorem dX5_count_6 : decode cX5_count 6 = .ok (.iconst 0, 1) := by decide +kernel
theorem dX5_count_7 : decode cX5_count 7 = .ok (.putfield 131, 3) := by decide +kernel
theorem dX5_count_10 : decode cX5_count 10 = .ok (.aload_n 0, 1) := by decide +kernel
theorem dX5_count_11 : decode cX5_count 11 = .ok (.iconst 0, 1) := by decide +kernel
theorem dX5_count_12 : decode cX5_count 12 = .ok (.putfield 134, 3) := by decide +kernel
theorem dX5_count_15 : decode cX5_count 15 = .ok (.aload_n 0, 1) := by decide +kernel
theorem dX5_count_16 : decode cX5_count 16 = .ok (.iconst 0, 1) := by decide +kernel
theorem dX5_count_17 : decode cX5_count 17 = .ok (.putfield 137, 3) := by decide +kernel
theorem dX5_count_20 : decode cX5_count 20 = .ok (.aload_n 0, 1) := by decide +kernel
theorem dX5_count_21 : decode cX5_count 21 = .ok (.iconst 0, 1) := by decide +kernel
theorem dX5_count_22 : decode cX5_count 22 = .ok (.putfield 144, 3) := by decide +kernel
theorem dX5_count_25 : decode cX5_count 25 = .ok (.iconst 0, 1) := by decide +kernel
theorem dX5_count_26 : decode cX5_count 26 = .ok (.istore_n 2, 1) := by decide +kernel
theorem dX5_count_27 : decode cX5_count 27 = .ok (.iconst 0, 1) := by decide +kernel
theorem dX5_count_28 : decode cX5_count 28 = .ok (.istore_n 3, 1) := by decide +kernel
theorem dX5_count_29 : decode cX5_count 29 = .ok (.iload_n 3, 1) := by decide +kernel
theorem dX5_count_30 : decode cX5_count 30 = .ok (.bipush 40, 2) := by decide +kernel
theorem dX5_count_32 : decode cX5_count 32 = .ok (.if_icmp .ge 38, 3) := by decide +kernel
theorem dX5_count_35 : decode cX5_count 35 = .ok (.aload_n 0, 1) := by decide +kernel
theorem dX5_count_36 : decode cX5_count 36 = .ok (.getfield 37, 3) := by decide +kernel
theorem dX5_count_39 : decode cX5_count 39 = .ok (.iload_n 3, 1) := by decide +kernel
theorem dX5_count_40 : decode cX5_count 40 = .ok (.baload, 1) := by decide +kernel
theorem dX5_count_41 : decode cX5_count 41 = .ok (.ifCond .eq 16, 3) := by decide +kernel
theorem dX5_count_44 : decode cX5_count 44 = .ok (.iinc 2 1, 3) := by decide +kernel
theorem dX5_count_47 : decode cX5_count 47 = .ok (.aload_n 0, 1) := by decide +kernel
theorem dX5_count_48 : decode cX5_count 48 = .ok (.iload_n 3, 1) := by decide +kernel
theorem dX5_count_49 : decode cX5_count 49 = .ok (.iconst 1, 1) := by decide +kernel
theorem dX5_count_50 : decode cX5_count 50 = .ok (.iadd, 1) := by decide +kernel
theorem dX5_count_51 : decode cX5_count 51 = .ok (.putfield 144, 3) := by decide +kernel
theorem dX5_count_54 : decode cX5_count 54 = .ok (.goto 10, 3) := by decide +kernel
theorem dX5_count_57 : decode cX5_count 57 = .ok (.aload_n 0, 1) := by decide +kernel
theorem dX5_count_58 : decode cX5_count 58 = .ok (.iload_n 2, 1) := by decide +kernel
theorem dX5_count_59 : decode cX5_count 59 = .ok (.invokevirtual 147, 3) := by decide +kernel
theorem dX5_count_62 : decode cX5_count 62 = .ok (.iconst 0, 1) := by decide +kernel
theorem dX5_count_63 : decode cX5_count 63 = .ok (.istore_n 2, 1) := by decide +kernel
theorem dX5_count_64 : decode cX5_count 64 = .ok (.iinc 3 1, 3) := by decide +kernel
theorem dX5_count_67 : decode cX5_count 67 = .ok (.goto (-38), 3) := by decide +kernel
theorem dX5_count_70 : decode cX5_count 70 = .ok (.aload_n 0, 1) := by decide +kernel
theorem dX5_count_71 : decode cX5_count 71 = .ok (.iload_n 2, 1) := by decide +kernel
theorem dX5_count_72 : decode cX5_count 72 = .ok (.invokevirtual 147, 3) := by decide +kernel
theorem dX5_count_75 : decode cX5_count 75 = .ok (.return_, 1) := by decide +kernel
set_option maxRecDepth 20000 in
theorem ggX5_censusOf_X5_count : GoodIn wsX5_censusOf wsX5_count := goodIn_r _ [6, 1, 7, 8, 9, 10, 11, 12, 13, 5, 14, 15, 16, 17, 18, 19, 20, 21, 22, 23, 24, 25, 26, 27, 28, 29, 30, 31, 32, 33, 34, 35, 36, 37, 38, 39, 40, 41, 42, 43, 44, 45, 46, 47, 48, 49, 50, 51, 52, 53, 54, 55, 56, 57, 58, 59, 60, 61, 62] (by decide +kernel) (by decide +kernel)
set_option maxRecDepth 20000 in
theorem gX5_censusOf_X5_count : GoodIn wsX5_censusOf (wsV RX5 150 RX5 yX5_count wsX5_count) := goodIn_app (goodIn_of _ (by decide +kernel)) ggX5_censusOf_X5_count
theorem dX5_censusOf_0 : decode cX5_censusOf 0 = .ok (.aload_n 0, 1) := by decide +kernel
theorem dX5_censusOf_1 : decode cX5_censusOf 1 = .ok (.iload_n 1, 1) := by decide +kernel
theorem dX5_censusOf_2 : decode cX5_censusOf 2 = .ok (.invokevirtual 150, 3) := by decide +kernel
theorem dX5_censusOf_5 : decode cX5_censusOf 5 = .ok (.aload_n 0, 1) := by decide +kernel
theorem dX5_censusOf_6 : decode cX5_censusOf 6 = .ok (.getfield 131, 3) := by decide +kernel
theorem dX5_censusOf_9 : decode cX5_censusOf 9 = .ok (.ireturn, 1) := by decide +kernel
set_option maxRecDepth 20000 in
theorem ggX5_hiddenOf_X5_isHidden : GoodIn wsX5_hiddenOf wsX5_isHidden := goodIn_r _ [6, 7, 8, 9, 10, 11, 12, 13, 14, 15, 16, 17, 18, 19, 20, 21, 22, 23, 24, 25, 26, 27, 28, 29, 30, 31, 32, 33, 34, 35, 36, 37] (by decide +kernel) (by decide +kernel)
set_option maxRecDepth 20000 in
theorem gX5_hiddenOf_X5_isHidden : GoodIn wsX5_hiddenOf (wsV RX5 128 RX5 yX5_isHidden wsX5_isHidden) := goodIn_app (goodIn_of _ (by decide +kernel)) ggX5_hiddenOf_X5_isHidden
theorem dX5_hiddenOf_0 : decode cX5_hiddenOf 0 = .ok (.iconst 0, 1) := by decide +kernel
theorem dX5_hiddenOf_1 : decode cX5_hiddenOf 1 = .ok (.istore_n 2, 1) := by decide +kernel
theorem dX5_hiddenOf_2 : decode cX5_hiddenOf 2 = .ok (.iconst 0, 1) := by decide +kernel
theorem dX5_hiddenOf_3 : decode cX5_hiddenOf 3 = .ok (.istore_n 3, 1) := by decide +kernel
theorem dX5_hiddenOf_4 : decode cX5_hiddenOf 4 = .ok (.iload_n 3, 1) := by decide +kernel
theorem dX5_hiddenOf_5 : decode cX5_hiddenOf 5 = .ok (.aload_n 0, 1) := by decide +kernel
theorem dX5_hiddenOf_6 : decode cX5_hiddenOf 6 = .ok (.getfield 60, 3) := by decide +kernel
theorem dX5_hiddenOf_9 : decode cX5_hiddenOf 9 = .ok (.if_icmp .ge 28, 3) := by decide +kernel
theorem dX5_hiddenOf_12 : decode cX5_hiddenOf 12 = .ok (.iload_n 2, 1) := by decide +kernel
theorem dX5_hiddenOf_13 : decode cX5_hiddenOf 13 = .ok (.aload_n 0, 1) := by decide +kernel
theorem dX5_hiddenOf_14 : decode cX5_hiddenOf 14 = .ok (.iload_n 3, 1) := by decide +kernel
theorem dX5_hiddenOf_15 : decode cX5_hiddenOf 15 = .ok (.iload_n 1, 1) := by decide +kernel
theorem dX5_hiddenOf_16 : decode cX5_hiddenOf 16 = .ok (.invokevirtual 128, 3) := by decide +kernel
theorem dX5_hiddenOf_19 : decode cX5_hiddenOf 19 = .ok (.ifCond .eq 9, 3) := by decide +kernel
theorem dX5_hiddenOf_22 : decode cX5_hiddenOf 22 = .ok (.iconst 1, 1) := by decide +kernel
theorem dX5_hiddenOf_23 : decode cX5_hiddenOf 23 = .ok (.iload_n 3, 1) := by decide +kernel
theorem dX5_hiddenOf_24 : decode cX5_hiddenOf 24 = .ok (.ishl, 1) := by decide +kernel
theorem dX5_hiddenOf_25 : decode cX5_hiddenOf 25 = .ok (.goto 4, 3) := by decide +kernel
theorem dX5_hiddenOf_28 : decode cX5_hiddenOf 28 = .ok (.iconst 0, 1) := by decide +kernel
theorem dX5_hiddenOf_29 : decode cX5_hiddenOf 29 = .ok (.ior, 1) := by decide +kernel
theorem dX5_hiddenOf_30 : decode cX5_hiddenOf 30 = .ok (.istore_n 2, 1) := by decide +kernel
theorem dX5_hiddenOf_31 : decode cX5_hiddenOf 31 = .ok (.iinc 3 1, 3) := by decide +kernel
theorem dX5_hiddenOf_34 : decode cX5_hiddenOf 34 = .ok (.goto (-30), 3) := by decide +kernel
theorem dX5_hiddenOf_37 : decode cX5_hiddenOf 37 = .ok (.iload_n 2, 1) := by decide +kernel
theorem dX5_hiddenOf_38 : decode cX5_hiddenOf 38 = .ok (.ireturn, 1) := by decide +kernel
set_option maxRecDepth 20000 in
theorem ggX5_hidden_X5_isSun : GoodIn wsX5_hidden wsX5_isSun := goodIn_r _ [5, 6, 7, 4, 8] (by decide +kernel) (by decide +kernel)
set_option maxRecDepth 20000 in
theorem gX5_hidden_X5_isSun : GoodIn wsX5_hidden (va_wsS RX5 119 yX5_isSun wsX5_isSun) := goodIn_app (goodIn_of _ (by decide +kernel)) ggX5_hidden_X5_isSun
set_option maxRecDepth 20000 in
theorem ggX5_hidden_X5_hiddenOf : GoodIn wsX5_hidden wsX5_hiddenOf := goodIn_r _ [12, 1, 13, 14, 15, 4, 16, 17, 18, 19, 20, 21, 22, 23, 24, 25, 26, 27, 28, 29, 30, 31, 32, 33, 34, 35, 36, 37, 38, 39, 40, 41, 42, 43, 44, 45, 46, 47] (by decide +kernel) (by decide +kernel)
set_option maxRecDepth 20000 in
theorem gX5_hidden_X5_hiddenOf : GoodIn wsX5_hidden (wsV RX5 153 RX5 yX5_hiddenOf wsX5_hiddenOf) := goodIn_app (goodIn_of _ (by decide +kernel)) ggX5_hidden_X5_hiddenOf
theorem dX5_hidden_0 : decode cX5_hidden 0 = .ok (.iload_n 1, 1) := by decide +kernel
theorem dX5_hidden_1 : decode cX5_hidden 1 = .ok (.invokestatic 119, 3) := by decide +kernel
theorem dX5_hidden_4 : decode cX5_hidden 4 = .ok (.ifCond .ne 6, 3) := by decide +kernel
theorem dX5_hidden_7 : decode cX5_hidden 7 = .ok (.bipush (-2), 2) := by decide +kernel
theorem dX5_hidden_9 : decode cX5_hidden 9 = .ok (.ireturn, 1) := by decide +kernel
theorem dX5_hidden_10 : decode cX5_hidden 10 = .ok (.aload_n 0, 1) := by decide +kernel
theorem dX5_hidden_11 : decode cX5_hidden 11 = .ok (.getfield 60, 3) := by decide +kernel
theorem dX5_hidden_14 : decode cX5_hidden 14 = .ok (.ifCond .ne 8, 3) := by decide +kernel
theorem dX5_hidden_17 : decode cX5_hidden 17 = .ok (.bipush (-3), 2) := by decide +kernel
theorem dX5_hidden_19 : decode cX5_hidden 19 = .ok (.goto 8, 3) := by decide +kernel
theorem dX5_hidden_22 : decode cX5_hidden 22 = .ok (.aload_n 0, 1) := by decide +kernel
theorem dX5_hidden_23 : decode cX5_hidden 23 = .ok (.iload_n 1, 1) := by decide +kernel
theorem dX5_hidden_24 : decode cX5_hidden 24 = .ok (.invokevirtual 153, 3) := by decide +kernel
theorem dX5_hidden_27 : decode cX5_hidden 27 = .ok (.ireturn, 1) := by decide +kernel
set_option maxRecDepth 20000 in
theorem ggX5_census_X5_isSun : GoodIn wsX5_census wsX5_isSun := goodIn_r _ [5, 6, 7, 4, 8] (by decide +kernel) (by decide +kernel)
set_option maxRecDepth 20000 in
theorem gX5_census_X5_isSun : GoodIn wsX5_census (va_wsS RX5 119 yX5_isSun wsX5_isSun) := goodIn_app (goodIn_of _ (by decide +kernel)) ggX5_census_X5_isSun
set_option maxRecDepth 20000 in
theorem ggX5_census_X5_censusOf : GoodIn wsX5_census wsX5_censusOf := goodIn_r _ [12, 13, 14, 15, 16, 4, 17, 18, 19, 20, 21, 22, 23, 24, 25, 1, 26, 27, 28, 29, 30, 31, 32, 33, 34, 35, 36, 37, 38, 39, 40, 41, 42, 43, 44, 45, 46, 47, 48, 49, 50, 51, 52, 53, 54, 55, 56, 57, 58, 59, 60, 61, 62, 63, 64, 65, 66, 67, 68, 69, 70, 71, 72] (by decide +kernel) (by decide +kernel)
set_option maxRecDepth 20000 in
theorem gX5_census_X5_censusOf : GoodIn wsX5_census (wsV RX5 156 RX5 yX5_censusOf wsX5_censusOf) := goodIn_app (goodIn_of _ (by decide +kernel)) ggX5_census_X5_censusOf
theorem dX5_census_0 : decode cX5_census 0 = .ok (.iload_n 1, 1) := by decide +kernel
theorem dX5_census_1 : decode cX5_census 1 = .ok (.invokestatic 119, 3) := by decide +kernel
theorem dX5_census_4 : decode cX5_census 4 = .ok (.ifCond .ne 6, 3) := by decide +kernel
theorem dX5_census_7 : decode cX5_census 7 = .ok (.bipush (-2), 2) := by decide +kernel
theorem dX5_census_9 : decode cX5_census 9 = .ok (.ireturn, 1) := by decide +kernel
theorem dX5_census_10 : decode cX5_census 10 = .ok (.aload_n 0, 1) := by decide +kernel
theorem dX5_census_11 : decode cX5_census 11 = .ok (.getfield 60, 3) := by decide +kernel
theorem dX5_census_14 : decode cX5_census 14 = .ok (.ifCond .ne 8, 3) := by decide +kernel
theorem dX5_census_17 : decode cX5_census 17 = .ok (.bipush (-3), 2) := by decide +kernel
theorem dX5_census_19 : decode cX5_census 19 = .ok (.goto 8, 3) := by decide +kernel
theorem dX5_census_22 : decode cX5_census 22 = .ok (.aload_n 0, 1) := by decide +kernel
theorem dX5_census_23 : decode cX5_census 23 = .ok (.iload_n 1, 1) := by decide +kernel
theorem dX5_census_24 : decode cX5_census 24 = .ok (.invokevirtual 156, 3) := by decide +kernel
theorem dX5_census_27 : decode cX5_census 27 = .ok (.ireturn, 1) := by decide +kernel
set_option maxRecDepth 20000 in
theorem ggX5_runs_X5_isSun : GoodIn wsX5_runs wsX5_isSun := goodIn_r _ [8, 9, 10, 7, 11] (by decide +kernel) (by decide +kernel)
set_option maxRecDepth 20000 in
theorem gX5_runs_X5_isSun : GoodIn wsX5_runs (va_wsS RX5 119 yX5_isSun wsX5_isSun) := goodIn_app (goodIn_of _ (by decide +kernel)) ggX5_runs_X5_isSun
set_option maxRecDepth 20000 in
theorem ggX5_runs_X5_within : GoodIn wsX5_runs wsX5_within := goodIn_r _ [11] (by decide +kernel) (by decide +kernel)
set_option maxRecDepth 20000 in
theorem gX5_runs_X5_within : GoodIn wsX5_runs (va_wsS RX5 56 yX5_within wsX5_within) := goodIn_app (goodIn_of _ (by decide +kernel)) ggX5_runs_X5_within
set_option maxRecDepth 20000 in
theorem ggX5_runs_X5_count : GoodIn wsX5_runs wsX5_count := goodIn_r _ [15, 16, 2, 3, 4, 17, 18, 19, 20, 7, 21, 1, 22, 23, 24, 25, 26, 27, 28, 29, 30, 31, 32, 33, 34, 35, 36, 37, 38, 39, 40, 41, 42, 43, 44, 45, 46, 47, 48, 49, 50, 51, 52, 53, 54, 55, 56, 57, 58, 59, 60, 61, 62, 63, 64, 65, 66, 67, 68] (by decide +kernel) (by decide +kernel)
set_option maxRecDepth 20000 in
theorem gX5_runs_X5_count : GoodIn wsX5_runs (wsV RX5 150 RX5 yX5_count wsX5_count) := goodIn_app (goodIn_of _ (by decide +kernel)) ggX5_runs_X5_count
theorem dX5_runs_0 : decode cX5_runs 0 = .ok (.iload_n 1, 1) := by decide +kernel
theorem dX5_runs_1 : decode cX5_runs 1 = .ok (.invokestatic 119, 3) := by decide +kernel
theorem dX5_runs_4 : decode cX5_runs 4 = .ok (.ifCond .eq 12, 3) := by decide +kernel
theorem dX5_runs_7 : decode cX5_runs 7 = .ok (.iload_n 2, 1) := by decide +kernel
theorem dX5_runs_8 : decode cX5_runs 8 = .ok (.iconst 0, 1) := by decide +kernel
theorem dX5_runs_9 : decode cX5_runs 9 = .ok (.iconst 2, 1) := by decide +kernel
theorem dX5_runs_10 : decode cX5_runs 10 = .ok (.invokestatic 56, 3) := by decide +kernel
theorem dX5_runs_13 : decode cX5_runs 13 = .ok (.ifCond .ne 6, 3) := by decide +kernel
theorem dX5_runs_16 : decode cX5_runs 16 = .ok (.bipush (-2), 2) := by decide +kernel
theorem dX5_runs_18 : decode cX5_runs 18 = .ok (.ireturn, 1) := by decide +kernel
theorem dX5_runs_19 : decode cX5_runs 19 = .ok (.aload_n 0, 1) := by decide +kernel
theorem dX5_runs_20 : decode cX5_runs 20 = .ok (.getfield 60, 3) := by decide +kernel
theorem dX5_runs_23 : decode cX5_runs 23 = .ok (.ifCond .ne 6, 3) := by decide +kernel
theorem dX5_runs_26 : decode cX5_runs 26 = .ok (.bipush (-3), 2) := by decide +kernel
theorem dX5_runs_28 : decode cX5_runs 28 = .ok (.ireturn, 1) := by decide +kernel
theorem dX5_runs_29 : decode cX5_runs 29 = .ok (.aload_n 0, 1) := by decide +kernel
theorem dX5_runs_30 : decode cX5_runs 30 = .ok (.iload_n 1, 1) := by decide +kernel
theorem dX5_runs_31 : decode cX5_runs 31 = .ok (.invokevirtual 150, 3) := by decide +kernel
theorem dX5_runs_34 : decode cX5_runs 34 = .ok (.iload_n 2, 1) := by decide +kernel
theorem dX5_runs_35 : decode cX5_runs 35 = .ok (.ifCond .ne 10, 3) := by decide +kernel
theorem dX5_runs_38 : decode cX5_runs 38 = .ok (.aload_n 0, 1) := by decide +kernel
theorem dX5_runs_39 : decode cX5_runs 39 = .ok (.getfield 134, 3) := by decide +kernel
theorem dX5_runs_42 : decode cX5_runs 42 = .ok (.goto 19, 3) := by decide +kernel
theorem dX5_runs_45 : decode cX5_runs 45 = .ok (.iload_n 2, 1) := by decide +kernel
theorem dX5_runs_46 : decode cX5_runs 46 = .ok (.iconst 1, 1) := by decide +kernel
theorem dX5_runs_47 : decode cX5_runs 47 = .ok (.if_icmp .ne 10, 3) := by decide +kernel
theorem dX5_runs_50 : decode cX5_runs 50 = .ok (.aload_n 0, 1) := by decide +kernel
theorem dX5_runs_51 : decode cX5_runs 51 = .ok (.getfield 137, 3) := by decide +kernel
theorem dX5_runs_54 : decode cX5_runs 54 = .ok (.goto 7, 3) := by decide +kernel
theorem dX5_runs_57 : decode cX5_runs 57 = .ok (.aload_n 0, 1) := by decide +kernel
theorem dX5_runs_58 : decode cX5_runs 58 = .ok (.getfield 144, 3) := by decide +kernel
theorem dX5_runs_61 : decode cX5_runs 61 = .ok (.ireturn, 1) := by decide +kernel
theorem dX5_apart_0 : decode cX5_apart 0 = .ok (.iload_n 0, 1) := by decide +kernel
theorem dX5_apart_1 : decode cX5_apart 1 = .ok (.iload_n 1, 1) := by decide +kernel
theorem dX5_apart_2 : decode cX5_apart 2 = .ok (.if_icmp .ge 9, 3) := by decide +kernel
theorem dX5_apart_5 : decode cX5_apart 5 = .ok (.iload_n 1, 1) := by decide +kernel
theorem dX5_apart_6 : decode cX5_apart 6 = .ok (.iload_n 0, 1) := by decide +kernel
theorem dX5_apart_7 : decode cX5_apart 7 = .ok (.isub, 1) := by decide +kernel
theorem dX5_apart_8 : decode cX5_apart 8 = .ok (.goto 6, 3) := by decide +kernel
theorem dX5_apart_11 : decode cX5_apart 11 = .ok (.iload_n 0, 1) := by decide +kernel
theorem dX5_apart_12 : decode cX5_apart 12 = .ok (.iload_n 1, 1) := by decide +kernel
theorem dX5_apart_13 : decode cX5_apart 13 = .ok (.isub, 1) := by decide +kernel
theorem dX5_apart_14 : decode cX5_apart 14 = .ok (.ireturn, 1) := by decide +kernel
set_option maxRecDepth 20000 in
theorem ggX5_fair_X5_censusOf : GoodIn wsX5_fair wsX5_censusOf := goodIn_r _ [6, 7, 8, 9, 10, 5, 11, 12, 13, 14, 15, 16, 17, 18, 19, 1, 20, 21, 22, 23, 24, 25, 26, 27, 28, 29, 30, 31, 32, 33, 34, 35, 36, 37, 41, 42, 43, 44, 45, 46, 47, 48, 49, 50, 51, 52, 53, 54, 55, 56, 57, 58, 59, 60, 61, 62, 63, 64, 65, 66, 67, 68, 69] (by decide +kernel) (by decide +kernel)
set_option maxRecDepth 20000 in
theorem gX5_fair_X5_censusOf : GoodIn wsX5_fair (wsV RX5 156 RX5 yX5_censusOf wsX5_censusOf) := goodIn_app (goodIn_of _ (by decide +kernel)) ggX5_fair_X5_censusOf
set_option maxRecDepth 20000 in
theorem ggX5_fair_X5_apart : GoodIn wsX5_fair wsX5_apart := goodIn_r _ [40] (by decide +kernel) (by decide +kernel)
set_option maxRecDepth 20000 in
theorem gX5_fair_X5_apart : GoodIn wsX5_fair (va_wsS RX5 159 yX5_apart wsX5_apart) := goodIn_app (goodIn_of _ (by decide +kernel)) ggX5_fair_X5_apart
theorem dX5_fair_0 : decode cX5_fair 0 = .ok (.aload_n 0, 1) := by decide +kernel
theorem dX5_fair_1 : decode cX5_fair 1 = .ok (.getfield 60, 3) := by decide +kernel
theorem dX5_fair_4 : decode cX5_fair 4 = .ok (.ifCond .ne 6, 3) := by decide +kernel
theorem dX5_fair_7 : decode cX5_fair 7 = .ok (.bipush (-3), 2) := by decide +kernel
theorem dX5_fair_9 : decode cX5_fair 9 = .ok (.ireturn, 1) := by decide +kernel
theorem dX5_fair_10 : decode cX5_fair 10 = .ok (.iconst 1, 1) := by decide +kernel
theorem dX5_fair_11 : decode cX5_fair 11 = .ok (.istore_n 1, 1) := by decide +kernel
theorem dX5_fair_12 : decode cX5_fair 12 = .ok (.iconst 2, 1) := by decide +kernel
theorem dX5_fair_13 : decode cX5_fair 13 = .ok (.istore_n 2, 1) := by decide +kernel
theorem dX5_fair_14 : decode cX5_fair 14 = .ok (.iload_n 2, 1) := by decide +kernel
theorem dX5_fair_15 : decode cX5_fair 15 = .ok (.iconst 3, 1) := by decide +kernel
theorem dX5_fair_16 : decode cX5_fair 16 = .ok (.if_icmp .gt 42, 3) := by decide +kernel
theorem dX5_fair_19 : decode cX5_fair 19 = .ok (.aload_n 0, 1) := by decide +kernel
theorem dX5_fair_20 : decode cX5_fair 20 = .ok (.iload_n 2, 1) := by decide +kernel
theorem dX5_fair_21 : decode cX5_fair 21 = .ok (.invokevirtual 156, 3) := by decide +kernel
theorem dX5_fair_24 : decode cX5_fair 24 = .ok (.aload_n 0, 1) := by decide +kernel
theorem dX5_fair_25 : decode cX5_fair 25 = .ok (.getfield 60, 3) := by decide +kernel
theorem dX5_fair_28 : decode cX5_fair 28 = .ok (.invokestatic 159, 3) := by decide +kernel
theorem dX5_fair_31 : decode cX5_fair 31 = .ok (.aload_n 0, 1) := by decide +kernel
theorem dX5_fair_32 : decode cX5_fair 32 = .ok (.iload_n 1, 1) := by decide +kernel
theorem dX5_fair_33 : decode cX5_fair 33 = .ok (.invokevirtual 156, 3) := by decide +kernel
theorem dX5_fair_36 : decode cX5_fair 36 = .ok (.aload_n 0, 1) := by decide +kernel
theorem dX5_fair_37 : decode cX5_fair 37 = .ok (.getfield 60, 3) := by decide +kernel
theorem dX5_fair_40 : decode cX5_fair 40 = .ok (.invokestatic 159, 3) := by decide +kernel
theorem dX5_fair_43 : decode cX5_fair 43 = .ok (.if_icmp .ge 7, 3) := by decide +kernel
theorem dX5_fair_46 : decode cX5_fair 46 = .ok (.iload_n 2, 1) := by decide +kernel
theorem dX5_fair_47 : decode cX5_fair 47 = .ok (.goto 4, 3) := by decide +kernel
theorem dX5_fair_50 : decode cX5_fair 50 = .ok (.iload_n 1, 1) := by decide +kernel
theorem dX5_fair_51 : decode cX5_fair 51 = .ok (.istore_n 1, 1) := by decide +kernel
theorem dX5_fair_52 : decode cX5_fair 52 = .ok (.iinc 2 1, 3) := by decide +kernel
theorem dX5_fair_55 : decode cX5_fair 55 = .ok (.goto (-41), 3) := by decide +kernel
theorem dX5_fair_58 : decode cX5_fair 58 = .ok (.iload_n 1, 1) := by decide +kernel
theorem dX5_fair_59 : decode cX5_fair 59 = .ok (.ireturn, 1) := by decide +kernel
theorem dX5_isTaken_0 : decode cX5_isTaken 0 = .ok (.iconst 0, 1) := by decide +kernel
theorem dX5_isTaken_1 : decode cX5_isTaken 1 = .ok (.istore_n 3, 1) := by decide +kernel
theorem dX5_isTaken_2 : decode cX5_isTaken 2 = .ok (.iload_n 3, 1) := by decide +kernel
theorem dX5_isTaken_3 : decode cX5_isTaken 3 = .ok (.aload_n 0, 1) := by decide +kernel
theorem dX5_isTaken_4 : decode cX5_isTaken 4 = .ok (.getfield 60, 3) := by decide +kernel
theorem dX5_isTaken_7 : decode cX5_isTaken 7 = .ok (.if_icmp .ge 26, 3) := by decide +kernel
theorem dX5_isTaken_10 : decode cX5_isTaken 10 = .ok (.iload_n 3, 1) := by decide +kernel
theorem dX5_isTaken_11 : decode cX5_isTaken 11 = .ok (.iload_n 1, 1) := by decide +kernel
theorem dX5_isTaken_12 : decode cX5_isTaken 12 = .ok (.if_icmp .eq 15, 3) := by decide +kernel
theorem dX5_isTaken_15 : decode cX5_isTaken 15 = .ok (.aload_n 0, 1) := by decide +kernel
theorem dX5_isTaken_16 : decode cX5_isTaken 16 = .ok (.getfield 22, 3) := by decide +kernel
theorem dX5_isTaken_19 : decode cX5_isTaken 19 = .ok (.iload_n 3, 1) := by decide +kernel
theorem dX5_isTaken_20 : decode cX5_isTaken 20 = .ok (.iaload, 1) := by decide +kernel
theorem dX5_isTaken_21 : decode cX5_isTaken 21 = .ok (.iload_n 2, 1) := by decide +kernel
theorem dX5_isTaken_22 : decode cX5_isTaken 22 = .ok (.if_icmp .ne 5, 3) := by decide +kernel
theorem dX5_isTaken_25 : decode cX5_isTaken 25 = .ok (.iconst 1, 1) := by decide +kernel
theorem dX5_isTaken_26 : decode cX5_isTaken 26 = .ok (.ireturn, 1) := by decide +kernel
theorem dX5_isTaken_27 : decode cX5_isTaken 27 = .ok (.iinc 3 1, 3) := by decide +kernel
theorem dX5_isTaken_30 : decode cX5_isTaken 30 = .ok (.goto (-28), 3) := by decide +kernel
theorem dX5_isTaken_33 : decode cX5_isTaken 33 = .ok (.iconst 0, 1) := by decide +kernel
theorem dX5_isTaken_34 : decode cX5_isTaken 34 = .ok (.ireturn, 1) := by decide +kernel
set_option maxRecDepth 20000 in
theorem ggX5_goWalks_X5_isTaken : GoodIn wsX5_goWalks wsX5_isTaken := goodIn_r _ [8, 9, 3, 13, 14, 15, 16, 17, 18, 19, 20, 21, 22, 23, 24, 25, 26, 27, 28, 29, 30, 31, 32, 33, 34, 35, 36, 37, 38, 39, 40, 41] (by decide +kernel) (by decide +kernel)
set_option maxRecDepth 20000 in
theorem gX5_goWalks_X5_isTaken : GoodIn wsX5_goWalks (wsV RX5 165 RX5 yX5_isTaken wsX5_isTaken) := goodIn_app (goodIn_of _ (by decide +kernel)) ggX5_goWalks_X5_isTaken
set_option maxRecDepth 20000 in
theorem ggX5_goWalks_X5_apart : GoodIn wsX5_goWalks wsX5_apart := goodIn_r _ [12] (by decide +kernel) (by decide +kernel)
set_option maxRecDepth 20000 in
theorem gX5_goWalks_X5_apart : GoodIn wsX5_goWalks (va_wsS RX5 159 yX5_apart wsX5_apart) := goodIn_app (goodIn_of _ (by decide +kernel)) ggX5_goWalks_X5_apart
theorem dX5_goWalks_0 : decode cX5_goWalks 0 = .ok (.aload_n 0, 1) := by decide +kernel
theorem dX5_goWalks_1 : decode cX5_goWalks 1 = .ok (.iconst 0, 1) := by decide +kernel
theorem dX5_goWalks_2 : decode cX5_goWalks 2 = .ok (.putfield 162, 3) := by decide +kernel
theorem dX5_goWalks_5 : decode cX5_goWalks 5 = .ok (.iconst 0, 1) := by decide +kernel
theorem dX5_goWalks_6 : decode cX5_goWalks 6 = .ok (.istore_n 3, 1) := by decide +kernel
theorem dX5_goWalks_7 : decode cX5_goWalks 7 = .ok (.iload_n 3, 1) := by decide +kernel
theorem dX5_goWalks_8 : decode cX5_goWalks 8 = .ok (.iload_n 2, 1) := by decide +kernel
theorem dX5_goWalks_9 : decode cX5_goWalks 9 = .ok (.if_icmp .ge 78, 3) := by decide +kernel
theorem dX5_goWalks_12 : decode cX5_goWalks 12 = .ok (.aload_n 0, 1) := by decide +kernel
theorem dX5_goWalks_13 : decode cX5_goWalks 13 = .ok (.getfield 16, 3) := by decide +kernel
theorem dX5_goWalks_16 : decode cX5_goWalks 16 = .ok (.iload_n 1, 1) := by decide +kernel
theorem dX5_goWalks_17 : decode cX5_goWalks 17 = .ok (.iconst 2, 1) := by decide +kernel
theorem dX5_goWalks_18 : decode cX5_goWalks 18 = .ok (.iload_n 3, 1) := by decide +kernel
theorem dX5_goWalks_19 : decode cX5_goWalks 19 = .ok (.imul, 1) := by decide +kernel
theorem dX5_goWalks_20 : decode cX5_goWalks 20 = .ok (.iadd, 1) := by decide +kernel
theorem dX5_goWalks_21 : decode cX5_goWalks 21 = .ok (.iaload, 1) := by decide +kernel
theorem dX5_goWalks_22 : decode cX5_goWalks 22 = .ok (.istore 4, 2) := by decide +kernel
theorem dX5_goWalks_24 : decode cX5_goWalks 24 = .ok (.aload_n 0, 1) := by decide +kernel
theorem dX5_goWalks_25 : decode cX5_goWalks 25 = .ok (.getfield 16, 3) := by decide +kernel
theorem dX5_goWalks_28 : decode cX5_goWalks 28 = .ok (.iload_n 1, 1) := by decide +kernel
theorem dX5_goWalks_29 : decode cX5_goWalks 29 = .ok (.iconst 2, 1) := by decide +kernel
theorem dX5_goWalks_30 : decode cX5_goWalks 30 = .ok (.iload_n 3, 1) := by decide +kernel
theorem dX5_goWalks_31 : decode cX5_goWalks 31 = .ok (.imul, 1) := by decide +kernel
theorem dX5_goWalks_32 : decode cX5_goWalks 32 = .ok (.iadd, 1) := by decide +kernel
theorem dX5_goWalks_33 : decode cX5_goWalks 33 = .ok (.iconst 1, 1) := by decide +kernel
theorem dX5_goWalks_34 : decode cX5_goWalks 34 = .ok (.iadd, 1) := by decide +kernel
theorem dX5_goWalks_35 : decode cX5_goWalks 35 = .ok (.iaload, 1) := by decide +kernel
theorem dX5_goWalks_36 : decode cX5_goWalks 36 = .ok (.istore 5, 2) := by decide +kernel
theorem dX5_goWalks_38 : decode cX5_goWalks 38 = .ok (.aload_n 0, 1) := by decide +kernel
theorem dX5_goWalks_39 : decode cX5_goWalks 39 = .ok (.iload 4, 2) := by decide +kernel
theorem dX5_goWalks_41 : decode cX5_goWalks 41 = .ok (.iload 5, 2) := by decide +kernel
theorem dX5_goWalks_43 : decode cX5_goWalks 43 = .ok (.invokevirtual 165, 3) := by decide +kernel
theorem dX5_goWalks_46 : decode cX5_goWalks 46 = .ok (.ifCond .eq 5, 3) := by decide +kernel
theorem dX5_goWalks_49 : decode cX5_goWalks 49 = .ok (.iload_n 3, 1) := by decide +kernel
theorem dX5_goWalks_50 : decode cX5_goWalks 50 = .ok (.ireturn, 1) := by decide +kernel
theorem dX5_goWalks_51 : decode cX5_goWalks 51 = .ok (.aload_n 0, 1) := by decide +kernel
theorem dX5_goWalks_52 : decode cX5_goWalks 52 = .ok (.dup, 1) := by decide +kernel
theorem dX5_goWalks_53 : decode cX5_goWalks 53 = .ok (.getfield 162, 3) := by decide +kernel
theorem dX5_goWalks_56 : decode cX5_goWalks 56 = .ok (.aload_n 0, 1) := by decide +kernel
theorem dX5_goWalks_57 : decode cX5_goWalks 57 = .ok (.getfield 22, 3) := by decide +kernel
theorem dX5_goWalks_60 : decode cX5_goWalks 60 = .ok (.iload 4, 2) := by decide +kernel
theorem dX5_goWalks_62 : decode cX5_goWalks 62 = .ok (.iaload, 1) := by decide +kernel
theorem dX5_goWalks_63 : decode cX5_goWalks 63 = .ok (.iload 5, 2) := by decide +kernel
theorem dX5_goWalks_65 : decode cX5_goWalks 65 = .ok (.invokestatic 159, 3) := by decide +kernel
theorem dX5_goWalks_68 : decode cX5_goWalks 68 = .ok (.iadd, 1) := by decide +kernel
theorem dX5_goWalks_69 : decode cX5_goWalks 69 = .ok (.putfield 162, 3) := by decide +kernel
theorem dX5_goWalks_72 : decode cX5_goWalks 72 = .ok (.aload_n 0, 1) := by decide +kernel
theorem dX5_goWalks_73 : decode cX5_goWalks 73 = .ok (.getfield 22, 3) := by decide +kernel
theorem dX5_goWalks_76 : decode cX5_goWalks 76 = .ok (.iload 4, 2) := by decide +kernel
theorem dX5_goWalks_78 : decode cX5_goWalks 78 = .ok (.iload 5, 2) := by decide +kernel
theorem dX5_goWalks_80 : decode cX5_goWalks 80 = .ok (.iastore, 1) := by decide +kernel
theorem dX5_goWalks_81 : decode cX5_goWalks 81 = .ok (.iinc 3 1, 3) := by decide +kernel
theorem dX5_goWalks_84 : decode cX5_goWalks 84 = .ok (.goto (-77), 3) := by decide +kernel
theorem dX5_goWalks_87 : decode cX5_goWalks 87 = .ok (.bipush (-9), 2) := by decide +kernel
theorem dX5_goWalks_89 : decode cX5_goWalks 89 = .ok (.ireturn, 1) := by decide +kernel
set_option maxRecDepth 20000 in
theorem ggX5_walks_X5_isSheet : GoodIn wsX5_walks wsX5_isSheet := goodIn_r _ [9, 10, 11, 8, 12] (by decide +kernel) (by decide +kernel)
set_option maxRecDepth 20000 in
theorem gX5_walks_X5_isSheet : GoodIn wsX5_walks (va_wsS RX5 66 yX5_isSheet wsX5_isSheet) := goodIn_app (goodIn_of _ (by decide +kernel)) ggX5_walks_X5_isSheet
set_option maxRecDepth 20000 in
theorem ggX5_walks_X5_isSun : GoodIn wsX5_walks wsX5_isSun := goodIn_r _ [15, 10, 11, 8, 12] (by decide +kernel) (by decide +kernel)
set_option maxRecDepth 20000 in
theorem gX5_walks_X5_isSun : GoodIn wsX5_walks (va_wsS RX5 119 yX5_isSun wsX5_isSun) := goodIn_app (goodIn_of _ (by decide +kernel)) ggX5_walks_X5_isSun
set_option maxRecDepth 20000 in
theorem ggX5_walks_X5_isSort : GoodIn wsX5_walks wsX5_isSort := goodIn_r _ [18, 10, 11, 8, 12] (by decide +kernel) (by decide +kernel)
set_option maxRecDepth 20000 in
theorem gX5_walks_X5_isSort : GoodIn wsX5_walks (va_wsS RX5 70 yX5_isSort wsX5_isSort) := goodIn_app (goodIn_of _ (by decide +kernel)) ggX5_walks_X5_isSort
set_option maxRecDepth 20000 in
theorem ggX5_walks_X5_within : GoodIn wsX5_walks wsX5_within := goodIn_r _ [12] (by decide +kernel) (by decide +kernel)
set_option maxRecDepth 20000 in
theorem gX5_walks_X5_within : GoodIn wsX5_walks (va_wsS RX5 56 yX5_within wsX5_within) := goodIn_app (goodIn_of _ (by decide +kernel)) ggX5_walks_X5_within
set_option maxRecDepth 20000 in
theorem ggX5_walks_X5_against : GoodIn wsX5_walks wsX5_against := goodIn_r _ [22, 23, 24, 90, 91, 92, 93, 94, 95, 96, 97, 98, 99, 100, 101, 102, 103, 104, 105, 106, 107, 108, 109, 110, 111, 112, 113, 114, 115, 116, 117, 118] (by decide +kernel) (by decide +kernel)
set_option maxRecDepth 20000 in
theorem gX5_walks_X5_against : GoodIn wsX5_walks (wsV RX5 73 RX5 yX5_against wsX5_against) := goodIn_app (goodIn_of _ (by decide +kernel)) ggX5_walks_X5_against
set_option maxRecDepth 20000 in
theorem ggX5_walks_X5_fails : GoodIn wsX5_walks wsX5_fails := goodIn_r _ [28, 1, 90, 91, 92, 93, 94, 95, 96, 97, 98, 99, 100, 101, 102, 103, 104, 105, 106, 107, 108, 109, 110, 111, 112, 113, 114, 115, 116, 117, 118] (by decide +kernel) (by decide +kernel)
set_option maxRecDepth 20000 in
theorem gX5_walks_X5_fails : GoodIn wsX5_walks (wsV RX5 77 RX5 yX5_fails wsX5_fails) := goodIn_app (goodIn_of _ (by decide +kernel)) ggX5_walks_X5_fails
set_option maxRecDepth 20000 in
theorem ggX5_walks_X5_isStander : GoodIn wsX5_walks wsX5_isStander := goodIn_r _ [32, 2, 90, 91, 92, 93, 94, 95, 96, 97, 98, 99, 100, 101, 102, 103, 104, 105, 106, 107, 108, 109, 110, 111, 112, 113, 114, 115, 116, 117, 118] (by decide +kernel) (by decide +kernel)
set_option maxRecDepth 20000 in
theorem gX5_walks_X5_isStander : GoodIn wsX5_walks (wsV RX5 113 RX5 yX5_isStander wsX5_isStander) := goodIn_app (goodIn_of _ (by decide +kernel)) ggX5_walks_X5_isStander
set_option maxRecDepth 20000 in
theorem ggX5_walks_X5_isDigit : GoodIn wsX5_walks wsX5_isDigit := goodIn_r _ [35, 10, 11, 8, 12] (by decide +kernel) (by decide +kernel)
set_option maxRecDepth 20000 in
theorem gX5_walks_X5_isDigit : GoodIn wsX5_walks (va_wsS RX5 116 yX5_isDigit wsX5_isDigit) := goodIn_app (goodIn_of _ (by decide +kernel)) ggX5_walks_X5_isDigit
set_option maxRecDepth 20000 in
theorem ggX5_walks_X5_goWalks : GoodIn wsX5_walks wsX5_goWalks := goodIn_r _ [39, 40, 3, 5, 41, 42, 43, 8, 44, 2, 45, 46, 47, 90, 91, 92, 93, 94, 95, 96, 97, 98, 99, 100, 101, 102, 103, 104, 105, 106, 107, 108, 109, 110, 111, 112, 113, 114, 115, 116, 117, 118] (by decide +kernel) (by decide +kernel)
set_option maxRecDepth 20000 in
theorem gX5_walks_X5_goWalks : GoodIn wsX5_walks (wsV RX5 168 RX5 yX5_goWalks wsX5_goWalks) := goodIn_app (goodIn_of _ (by decide +kernel)) ggX5_walks_X5_goWalks
set_option maxRecDepth 20000 in
theorem ggX5_walks_X5_tellWalks : GoodIn wsX5_walks wsX5_tellWalks := goodIn_r _ [51, 5, 40, 29, 30, 31, 8, 32, 2, 52, 53, 54, 55, 56, 57, 58, 59, 60, 61, 62, 63, 64, 65, 66, 67, 68, 69, 70, 71, 72, 73, 74, 75, 76, 77, 78, 79, 80, 81, 82, 83, 84, 85, 86, 87, 88, 89, 90, 91, 92, 93, 94, 95, 96, 97, 98, 99, 100, 101, 102, 103, 104, 105, 106, 107, 108, 109, 110, 111, 112, 113, 114, 115, 116, 117, 118] (by decide +kernel) (by decide +kernel)
set_option maxRecDepth 20000 in
theorem gX5_walks_X5_tellWalks : GoodIn wsX5_walks (wsV RX5 171 RX5 yX5_tellWalks wsX5_tellWalks) := goodIn_app (goodIn_of _ (by decide +kernel)) ggX5_walks_X5_tellWalks
theorem dX5_walks_0 : decode cX5_walks 0 = .ok (.aload_n 0, 1) := by decide +kernel
theorem dX5_walks_1 : decode cX5_walks 1 = .ok (.iconst 0, 1) := by decide +kernel
theorem dX5_walks_2 : decode cX5_walks 2 = .ok (.putfield 50, 3) := by decide +kernel
theorem dX5_walks_5 : decode cX5_walks 5 = .ok (.iload_n 2, 1) := by decide +kernel
theorem dX5_walks_6 : decode cX5_walks 6 = .ok (.invokestatic 66, 3) := by decide +kernel
theorem dX5_walks_9 : decode cX5_walks 9 = .ok (.ifCond .ne 5, 3) := by decide +kernel
theorem dX5_walks_12 : decode cX5_walks 12 = .ok (.iconst (-1), 1) := by decide +kernel
theorem dX5_walks_13 : decode cX5_walks 13 = .ok (.ireturn, 1) := by decide +kernel
theorem dX5_walks_14 : decode cX5_walks 14 = .ok (.iload_n 1, 1) := by decide +kernel
theorem dX5_walks_15 : decode cX5_walks 15 = .ok (.invokestatic 119, 3) := by decide +kernel
theorem dX5_walks_18 : decode cX5_walks 18 = .ok (.ifCond .eq 43, 3) := by decide +kernel
theorem dX5_walks_21 : decode cX5_walks 21 = .ok (.iload_n 3, 1) := by decide +kernel
theorem dX5_walks_22 : decode cX5_walks 22 = .ok (.invokestatic 70, 3) := by decide +kernel
theorem dX5_walks_25 : decode cX5_walks 25 = .ok (.ifCond .eq 36, 3) := by decide +kernel
theorem dX5_walks_28 : decode cX5_walks 28 = .ok (.iload 5, 2) := by decide +kernel
theorem dX5_walks_30 : decode cX5_walks 30 = .ok (.iconst 0, 1) := by decide +kernel
theorem dX5_walks_31 : decode cX5_walks 31 = .ok (.bipush 20, 2) := by decide +kernel
theorem dX5_walks_33 : decode cX5_walks 33 = .ok (.invokestatic 56, 3) := by decide +kernel
theorem dX5_walks_36 : decode cX5_walks 36 = .ok (.ifCond .eq 25, 3) := by decide +kernel
theorem dX5_walks_39 : decode cX5_walks 39 = .ok (.iload 6, 2) := by decide +kernel
theorem dX5_walks_41 : decode cX5_walks 41 = .ok (.iconst 0, 1) := by decide +kernel
theorem dX5_walks_42 : decode cX5_walks 42 = .ok (.iconst 3, 1) := by decide +kernel
theorem dX5_walks_43 : decode cX5_walks 43 = .ok (.invokestatic 56, 3) := by decide +kernel
theorem dX5_walks_46 : decode cX5_walks 46 = .ok (.ifCond .ne 18, 3) := by decide +kernel
theorem dX5_walks_49 : decode cX5_walks 49 = .ok (.iload 6, 2) := by decide +kernel
theorem dX5_walks_51 : decode cX5_walks 51 = .ok (.bipush 10, 2) := by decide +kernel
theorem dX5_walks_53 : decode cX5_walks 53 = .ok (.bipush 14, 2) := by decide +kernel
theorem dX5_walks_55 : decode cX5_walks 55 = .ok (.invokestatic 56, 3) := by decide +kernel
theorem dX5_walks_58 : decode cX5_walks 58 = .ok (.ifCond .ne 6, 3) := by decide +kernel
theorem dX5_walks_61 : decode cX5_walks 61 = .ok (.bipush (-2), 2) := by decide +kernel
theorem dX5_walks_63 : decode cX5_walks 63 = .ok (.ireturn, 1) := by decide +kernel
theorem dX5_walks_64 : decode cX5_walks 64 = .ok (.aload_n 0, 1) := by decide +kernel
theorem dX5_walks_65 : decode cX5_walks 65 = .ok (.iload_n 2, 1) := by decide +kernel
theorem dX5_walks_66 : decode cX5_walks 66 = .ok (.iload_n 3, 1) := by decide +kernel
theorem dX5_walks_67 : decode cX5_walks 67 = .ok (.iload 4, 2) := by decide +kernel
theorem dX5_walks_69 : decode cX5_walks 69 = .ok (.iconst 2, 1) := by decide +kernel
theorem dX5_walks_70 : decode cX5_walks 70 = .ok (.iload 5, 2) := by decide +kernel
theorem dX5_walks_72 : decode cX5_walks 72 = .ok (.imul, 1) := by decide +kernel
theorem dX5_walks_73 : decode cX5_walks 73 = .ok (.invokevirtual 73, 3) := by decide +kernel
theorem dX5_walks_76 : decode cX5_walks 76 = .ok (.istore 7, 2) := by decide +kernel
theorem dX5_walks_78 : decode cX5_walks 78 = .ok (.iload 7, 2) := by decide +kernel
theorem dX5_walks_80 : decode cX5_walks 80 = .ok (.ifCond .eq 10, 3) := by decide +kernel
theorem dX5_walks_83 : decode cX5_walks 83 = .ok (.aload_n 0, 1) := by decide +kernel
theorem dX5_walks_84 : decode cX5_walks 84 = .ok (.iload 7, 2) := by decide +kernel
theorem dX5_walks_86 : decode cX5_walks 86 = .ok (.invokevirtual 77, 3) := by decide +kernel
theorem dX5_walks_89 : decode cX5_walks 89 = .ok (.ireturn, 1) := by decide +kernel
theorem dX5_walks_90 : decode cX5_walks 90 = .ok (.aload_n 0, 1) := by decide +kernel
theorem dX5_walks_91 : decode cX5_walks 91 = .ok (.getfield 60, 3) := by decide +kernel
theorem dX5_walks_94 : decode cX5_walks 94 = .ok (.ifCond .ne 6, 3) := by decide +kernel
theorem dX5_walks_97 : decode cX5_walks 97 = .ok (.bipush (-3), 2) := by decide +kernel
theorem dX5_walks_99 : decode cX5_walks 99 = .ok (.ireturn, 1) := by decide +kernel
theorem dX5_walks_100 : decode cX5_walks 100 = .ok (.bipush 60, 2) := by decide +kernel
theorem dX5_walks_102 : decode cX5_walks 102 = .ok (.iload_n 2, 1) := by decide +kernel
theorem dX5_walks_103 : decode cX5_walks 103 = .ok (.imul, 1) := by decide +kernel
theorem dX5_walks_104 : decode cX5_walks 104 = .ok (.iload 4, 2) := by decide +kernel
theorem dX5_walks_106 : decode cX5_walks 106 = .ok (.iadd, 1) := by decide +kernel
theorem dX5_walks_107 : decode cX5_walks 107 = .ok (.istore 8, 2) := by decide +kernel
theorem dX5_walks_109 : decode cX5_walks 109 = .ok (.iconst 0, 1) := by decide +kernel
theorem dX5_walks_110 : decode cX5_walks 110 = .ok (.istore 9, 2) := by decide +kernel
theorem dX5_walks_112 : decode cX5_walks 112 = .ok (.iload 9, 2) := by decide +kernel
theorem dX5_walks_114 : decode cX5_walks 114 = .ok (.iload 5, 2) := by decide +kernel
theorem dX5_walks_116 : decode cX5_walks 116 = .ok (.if_icmp .ge 53, 3) := by decide +kernel
theorem dX5_walks_119 : decode cX5_walks 119 = .ok (.aload_n 0, 1) := by decide +kernel
theorem dX5_walks_120 : decode cX5_walks 120 = .ok (.aload_n 0, 1) := by decide +kernel
theorem dX5_walks_121 : decode cX5_walks 121 = .ok (.getfield 16, 3) := by decide +kernel
theorem dX5_walks_124 : decode cX5_walks 124 = .ok (.iload 8, 2) := by decide +kernel
theorem dX5_walks_126 : decode cX5_walks 126 = .ok (.iconst 2, 1) := by decide +kernel
theorem dX5_walks_127 : decode cX5_walks 127 = .ok (.iload 9, 2) := by decide +kernel
theorem dX5_walks_129 : decode cX5_walks 129 = .ok (.imul, 1) := by decide +kernel
theorem dX5_walks_130 : decode cX5_walks 130 = .ok (.iadd, 1) := by decide +kernel
theorem dX5_walks_131 : decode cX5_walks 131 = .ok (.iaload, 1) := by decide +kernel
theorem dX5_walks_132 : decode cX5_walks 132 = .ok (.invokevirtual 113, 3) := by decide +kernel
theorem dX5_walks_135 : decode cX5_walks 135 = .ok (.ifCond .ne 5, 3) := by decide +kernel
theorem dX5_walks_138 : decode cX5_walks 138 = .ok (.iconst (-1), 1) := by decide +kernel
theorem dX5_walks_139 : decode cX5_walks 139 = .ok (.ireturn, 1) := by decide +kernel
theorem dX5_walks_140 : decode cX5_walks 140 = .ok (.aload_n 0, 1) := by decide +kernel
theorem dX5_walks_141 : decode cX5_walks 141 = .ok (.getfield 16, 3) := by decide +kernel
theorem dX5_walks_144 : decode cX5_walks 144 = .ok (.iload 8, 2) := by decide +kernel
theorem dX5_walks_146 : decode cX5_walks 146 = .ok (.iconst 2, 1) := by decide +kernel
theorem dX5_walks_147 : decode cX5_walks 147 = .ok (.iload 9, 2) := by decide +kernel
theorem dX5_walks_149 : decode cX5_walks 149 = .ok (.imul, 1) := by decide +kernel
theorem dX5_walks_150 : decode cX5_walks 150 = .ok (.iadd, 1) := by decide +kernel
theorem dX5_walks_151 : decode cX5_walks 151 = .ok (.iconst 1, 1) := by decide +kernel
theorem dX5_walks_152 : decode cX5_walks 152 = .ok (.iadd, 1) := by decide +kernel
theorem dX5_walks_153 : decode cX5_walks 153 = .ok (.iaload, 1) := by decide +kernel
theorem dX5_walks_154 : decode cX5_walks 154 = .ok (.invokestatic 116, 3) := by decide +kernel
theorem dX5_walks_157 : decode cX5_walks 157 = .ok (.ifCond .ne 6, 3) := by decide +kernel
theorem dX5_walks_160 : decode cX5_walks 160 = .ok (.bipush (-2), 2) := by decide +kernel
theorem dX5_walks_162 : decode cX5_walks 162 = .ok (.ireturn, 1) := by decide +kernel
theorem dX5_walks_163 : decode cX5_walks 163 = .ok (.iinc 9 1, 3) := by decide +kernel
theorem dX5_walks_166 : decode cX5_walks 166 = .ok (.goto (-54), 3) := by decide +kernel
theorem dX5_walks_169 : decode cX5_walks 169 = .ok (.iconst 0, 1) := by decide +kernel
theorem dX5_walks_170 : decode cX5_walks 170 = .ok (.istore 9, 2) := by decide +kernel
theorem dX5_walks_172 : decode cX5_walks 172 = .ok (.iload 9, 2) := by decide +kernel
theorem dX5_walks_174 : decode cX5_walks 174 = .ok (.aload_n 0, 1) := by decide +kernel
theorem dX5_walks_175 : decode cX5_walks 175 = .ok (.getfield 60, 3) := by decide +kernel
theorem dX5_walks_178 : decode cX5_walks 178 = .ok (.if_icmp .ge 23, 3) := by decide +kernel
theorem dX5_walks_181 : decode cX5_walks 181 = .ok (.aload_n 0, 1) := by decide +kernel
theorem dX5_walks_182 : decode cX5_walks 182 = .ok (.getfield 41, 3) := by decide +kernel
theorem dX5_walks_185 : decode cX5_walks 185 = .ok (.iload 9, 2) := by decide +kernel
theorem dX5_walks_187 : decode cX5_walks 187 = .ok (.aload_n 0, 1) := by decide +kernel
theorem dX5_walks_188 : decode cX5_walks 188 = .ok (.getfield 22, 3) := by decide +kernel
theorem dX5_walks_191 : decode cX5_walks 191 = .ok (.iload 9, 2) := by decide +kernel
theorem dX5_walks_193 : decode cX5_walks 193 = .ok (.iaload, 1) := by decide +kernel
theorem dX5_walks_194 : decode cX5_walks 194 = .ok (.iastore, 1) := by decide +kernel
theorem dX5_walks_195 : decode cX5_walks 195 = .ok (.iinc 9 1, 3) := by decide +kernel
theorem dX5_walks_198 : decode cX5_walks 198 = .ok (.goto (-26), 3) := by decide +kernel
theorem dX5_walks_201 : decode cX5_walks 201 = .ok (.aload_n 0, 1) := by decide +kernel
theorem dX5_walks_202 : decode cX5_walks 202 = .ok (.iload 8, 2) := by decide +kernel
theorem dX5_walks_204 : decode cX5_walks 204 = .ok (.iload 5, 2) := by decide +kernel
theorem dX5_walks_206 : decode cX5_walks 206 = .ok (.invokevirtual 168, 3) := by decide +kernel
theorem dX5_walks_209 : decode cX5_walks 209 = .ok (.istore 9, 2) := by decide +kernel
theorem dX5_walks_211 : decode cX5_walks 211 = .ok (.aload_n 0, 1) := by decide +kernel
theorem dX5_walks_212 : decode cX5_walks 212 = .ok (.iload_n 1, 1) := by decide +kernel
theorem dX5_walks_213 : decode cX5_walks 213 = .ok (.iload 6, 2) := by decide +kernel
theorem dX5_walks_215 : decode cX5_walks 215 = .ok (.invokevirtual 171, 3) := by decide +kernel
theorem dX5_walks_218 : decode cX5_walks 218 = .ok (.istore 10, 2) := by decide +kernel
theorem dX5_walks_220 : decode cX5_walks 220 = .ok (.iconst 0, 1) := by decide +kernel
theorem dX5_walks_221 : decode cX5_walks 221 = .ok (.istore 11, 2) := by decide +kernel
theorem dX5_walks_223 : decode cX5_walks 223 = .ok (.iload 11, 2) := by decide +kernel
theorem dX5_walks_225 : decode cX5_walks 225 = .ok (.aload_n 0, 1) := by decide +kernel
theorem dX5_walks_226 : decode cX5_walks 226 = .ok (.getfield 60, 3) := by decide +kernel
theorem dX5_walks_229 : decode cX5_walks 229 = .ok (.if_icmp .ge 23, 3) := by decide +kernel
theorem dX5_walks_232 : decode cX5_walks 232 = .ok (.aload_n 0, 1) := by decide +kernel
theorem dX5_walks_233 : decode cX5_walks 233 = .ok (.getfield 22, 3) := by decide +kernel
theorem dX5_walks_236 : decode cX5_walks 236 = .ok (.iload 11, 2) := by decide +kernel
theorem dX5_walks_238 : decode cX5_walks 238 = .ok (.aload_n 0, 1) := by decide +kernel
theorem dX5_walks_239 : decode cX5_walks 239 = .ok (.getfield 41, 3) := by decide +kernel
theorem dX5_walks_242 : decode cX5_walks 242 = .ok (.iload 11, 2) := by decide +kernel
theorem dX5_walks_244 : decode cX5_walks 244 = .ok (.iaload, 1) := by decide +kernel
theorem dX5_walks_245 : decode cX5_walks 245 = .ok (.iastore, 1) := by decide +kernel
theorem dX5_walks_246 : decode cX5_walks 246 = .ok (.iinc 11 1, 3) := by decide +kernel
theorem dX5_walks_249 : decode cX5_walks 249 = .ok (.goto (-26), 3) := by decide +kernel
theorem dX5_walks_252 : decode cX5_walks 252 = .ok (.iload 6, 2) := by decide +kernel
theorem dX5_walks_254 : decode cX5_walks 254 = .ok (.iconst 1, 1) := by decide +kernel
theorem dX5_walks_255 : decode cX5_walks 255 = .ok (.if_icmp .ne 8, 3) := by decide +kernel
theorem dX5_walks_258 : decode cX5_walks 258 = .ok (.iload 9, 2) := by decide +kernel
theorem dX5_walks_260 : decode cX5_walks 260 = .ok (.goto 20, 3) := by decide +kernel
theorem dX5_walks_263 : decode cX5_walks 263 = .ok (.iload 9, 2) := by decide +kernel
theorem dX5_walks_265 : decode cX5_walks 265 = .ok (.bipush (-9), 2) := by decide +kernel
theorem dX5_walks_267 : decode cX5_walks 267 = .ok (.if_icmp .ne 8, 3) := by decide +kernel
theorem dX5_walks_270 : decode cX5_walks 270 = .ok (.iload 10, 2) := by decide +kernel
theorem dX5_walks_272 : decode cX5_walks 272 = .ok (.goto 8, 3) := by decide +kernel
theorem dX5_walks_275 : decode cX5_walks 275 = .ok (.bipush (-100), 2) := by decide +kernel
theorem dX5_walks_277 : decode cX5_walks 277 = .ok (.iload 9, 2) := by decide +kernel
theorem dX5_walks_279 : decode cX5_walks 279 = .ok (.isub, 1) := by decide +kernel
theorem dX5_walks_280 : decode cX5_walks 280 = .ok (.ireturn, 1) := by decide +kernel
set_option maxRecDepth 20000 in
theorem ggX5_tellWalks_X5_isStander : GoodIn wsX5_tellWalks wsX5_isStander := goodIn_r _ [7, 8, 47, 48, 49, 50, 51, 52, 53, 54, 55, 56, 57, 58, 59, 60, 61, 62, 63, 64, 65, 66, 67, 68, 69, 70, 71, 72, 73, 74, 75] (by decide +kernel) (by decide +kernel)
set_option maxRecDepth 20000 in
theorem gX5_tellWalks_X5_isStander : GoodIn wsX5_tellWalks (wsV RX5 113 RX5 yX5_isStander wsX5_isStander) := goodIn_app (goodIn_of _ (by decide +kernel)) ggX5_tellWalks_X5_isStander
set_option maxRecDepth 20000 in
theorem ggX5_tellWalks_X5_censusOf : GoodIn wsX5_tellWalks wsX5_censusOf := goodIn_r _ [12, 13, 14, 15, 16, 6, 17, 18, 19, 20, 21, 22, 23, 24, 25, 8, 26, 1, 27, 28, 29, 30, 31, 32, 33, 34, 35, 36, 37, 38, 39, 40, 41, 42, 47, 48, 49, 50, 51, 52, 53, 54, 55, 56, 57, 58, 59, 60, 61, 62, 63, 64, 65, 66, 67, 68, 69, 70, 71, 72, 73, 74, 75] (by decide +kernel) (by decide +kernel)
set_option maxRecDepth 20000 in
theorem gX5_tellWalks_X5_censusOf : GoodIn wsX5_tellWalks (wsV RX5 156 RX5 yX5_censusOf wsX5_censusOf) := goodIn_app (goodIn_of _ (by decide +kernel)) ggX5_tellWalks_X5_censusOf
set_option maxRecDepth 20000 in
theorem ggX5_tellWalks_X5_hiddenOf : GoodIn wsX5_tellWalks wsX5_hiddenOf := goodIn_r _ [46, 8, 27, 28, 29, 6, 30, 1, 31, 47, 48, 49, 50, 51, 52, 53, 54, 55, 56, 57, 58, 59, 60, 61, 62, 63, 64, 65, 66, 67, 68, 69, 70, 71, 72, 73, 74, 75] (by decide +kernel) (by decide +kernel)
set_option maxRecDepth 20000 in
theorem gX5_tellWalks_X5_hiddenOf : GoodIn wsX5_tellWalks (wsV RX5 153 RX5 yX5_hiddenOf wsX5_hiddenOf) := goodIn_app (goodIn_of _ (by decide +kernel)) ggX5_tellWalks_X5_hiddenOf
theorem dX5_tellWalks_0 : decode cX5_tellWalks 0 = .ok (.iload_n 2, 1) := by decide +kernel
theorem dX5_tellWalks_1 : decode cX5_tellWalks 1 = .ok (.bipush 10, 2) := by decide +kernel
theorem dX5_tellWalks_3 : decode cX5_tellWalks 3 = .ok (.if_icmp .lt 29, 3) := by decide +kernel
theorem dX5_tellWalks_6 : decode cX5_tellWalks 6 = .ok (.aload_n 0, 1) := by decide +kernel
theorem dX5_tellWalks_7 : decode cX5_tellWalks 7 = .ok (.iload_n 2, 1) := by decide +kernel
theorem dX5_tellWalks_8 : decode cX5_tellWalks 8 = .ok (.bipush 10, 2) := by decide +kernel
theorem dX5_tellWalks_10 : decode cX5_tellWalks 10 = .ok (.isub, 1) := by decide +kernel
theorem dX5_tellWalks_11 : decode cX5_tellWalks 11 = .ok (.invokevirtual 113, 3) := by decide +kernel
theorem dX5_tellWalks_14 : decode cX5_tellWalks 14 = .ok (.ifCond .eq 15, 3) := by decide +kernel
theorem dX5_tellWalks_17 : decode cX5_tellWalks 17 = .ok (.aload_n 0, 1) := by decide +kernel
theorem dX5_tellWalks_18 : decode cX5_tellWalks 18 = .ok (.getfield 22, 3) := by decide +kernel
theorem dX5_tellWalks_21 : decode cX5_tellWalks 21 = .ok (.iload_n 2, 1) := by decide +kernel
theorem dX5_tellWalks_22 : decode cX5_tellWalks 22 = .ok (.bipush 10, 2) := by decide +kernel
theorem dX5_tellWalks_24 : decode cX5_tellWalks 24 = .ok (.isub, 1) := by decide +kernel
theorem dX5_tellWalks_25 : decode cX5_tellWalks 25 = .ok (.iaload, 1) := by decide +kernel
theorem dX5_tellWalks_26 : decode cX5_tellWalks 26 = .ok (.goto 5, 3) := by decide +kernel
theorem dX5_tellWalks_29 : decode cX5_tellWalks 29 = .ok (.bipush (-9), 2) := by decide +kernel
theorem dX5_tellWalks_31 : decode cX5_tellWalks 31 = .ok (.ireturn, 1) := by decide +kernel
theorem dX5_tellWalks_32 : decode cX5_tellWalks 32 = .ok (.iload_n 2, 1) := by decide +kernel
theorem dX5_tellWalks_33 : decode cX5_tellWalks 33 = .ok (.ifCond .ne 11, 3) := by decide +kernel
theorem dX5_tellWalks_36 : decode cX5_tellWalks 36 = .ok (.aload_n 0, 1) := by decide +kernel
theorem dX5_tellWalks_37 : decode cX5_tellWalks 37 = .ok (.iload_n 1, 1) := by decide +kernel
theorem dX5_tellWalks_38 : decode cX5_tellWalks 38 = .ok (.invokevirtual 156, 3) := by decide +kernel
theorem dX5_tellWalks_41 : decode cX5_tellWalks 41 = .ok (.goto 20, 3) := by decide +kernel
theorem dX5_tellWalks_44 : decode cX5_tellWalks 44 = .ok (.iload_n 2, 1) := by decide +kernel
theorem dX5_tellWalks_45 : decode cX5_tellWalks 45 = .ok (.iconst 2, 1) := by decide +kernel
theorem dX5_tellWalks_46 : decode cX5_tellWalks 46 = .ok (.if_icmp .ne 10, 3) := by decide +kernel
theorem dX5_tellWalks_49 : decode cX5_tellWalks 49 = .ok (.aload_n 0, 1) := by decide +kernel
theorem dX5_tellWalks_50 : decode cX5_tellWalks 50 = .ok (.getfield 162, 3) := by decide +kernel
theorem dX5_tellWalks_53 : decode cX5_tellWalks 53 = .ok (.goto 8, 3) := by decide +kernel
theorem dX5_tellWalks_56 : decode cX5_tellWalks 56 = .ok (.aload_n 0, 1) := by decide +kernel
theorem dX5_tellWalks_57 : decode cX5_tellWalks 57 = .ok (.iload_n 1, 1) := by decide +kernel
theorem dX5_tellWalks_58 : decode cX5_tellWalks 58 = .ok (.invokevirtual 153, 3) := by decide +kernel
theorem dX5_tellWalks_61 : decode cX5_tellWalks 61 = .ok (.ireturn, 1) := by decide +kernel
set_option maxRecDepth 20000 in
theorem ggX5_pair_X5_isStander : GoodIn wsX5_pair wsX5_isStander := goodIn_r _ [6, 7, 48, 49, 50, 51, 52, 53, 54, 55, 56, 57, 58, 59, 60, 61, 62, 63, 64, 65, 66, 67, 68, 69, 70, 71, 72, 73, 74, 75, 76] (by decide +kernel) (by decide +kernel)
set_option maxRecDepth 20000 in
theorem gX5_pair_X5_isStander : GoodIn wsX5_pair (wsV RX5 113 RX5 yX5_isStander wsX5_isStander) := goodIn_app (goodIn_of _ (by decide +kernel)) ggX5_pair_X5_isStander
set_option maxRecDepth 20000 in
theorem ggX5_pair_X5_isSun : GoodIn wsX5_pair wsX5_isSun := goodIn_r _ [10, 11, 12, 5, 13] (by decide +kernel) (by decide +kernel)
set_option maxRecDepth 20000 in
theorem gX5_pair_X5_isSun : GoodIn wsX5_pair (va_wsS RX5 119 yX5_isSun wsX5_isSun) := goodIn_app (goodIn_of _ (by decide +kernel)) ggX5_pair_X5_isSun
set_option maxRecDepth 20000 in
theorem ggX5_pair_X5_within : GoodIn wsX5_pair wsX5_within := goodIn_r _ [13] (by decide +kernel) (by decide +kernel)
set_option maxRecDepth 20000 in
theorem gX5_pair_X5_within : GoodIn wsX5_pair (va_wsS RX5 56 yX5_within wsX5_within) := goodIn_app (goodIn_of _ (by decide +kernel)) ggX5_pair_X5_within
set_option maxRecDepth 20000 in
theorem ggX5_pair_X5_isHidden : GoodIn wsX5_pair wsX5_isHidden := goodIn_r _ [17, 1, 18, 48, 49, 50, 51, 52, 53, 54, 55, 56, 57, 58, 59, 60, 61, 62, 63, 64, 65, 66, 67, 68, 69, 70, 71, 72, 73, 74, 75, 76] (by decide +kernel) (by decide +kernel)
set_option maxRecDepth 20000 in
theorem gX5_pair_X5_isHidden : GoodIn wsX5_pair (wsV RX5 128 RX5 yX5_isHidden wsX5_isHidden) := goodIn_app (goodIn_of _ (by decide +kernel)) ggX5_pair_X5_isHidden
set_option maxRecDepth 20000 in
theorem ggX5_pair_X5_censusOf : GoodIn wsX5_pair wsX5_censusOf := goodIn_r _ [22, 23, 24, 25, 26, 5, 27, 28, 29, 30, 31, 32, 33, 34, 35, 7, 36, 1, 14, 15, 16, 17, 18, 37, 38, 39, 40, 41, 42, 43, 44, 45, 46, 47, 48, 49, 50, 51, 52, 53, 54, 55, 56, 57, 58, 59, 60, 61, 62, 63, 64, 65, 66, 67, 68, 69, 70, 71, 72, 73, 74, 75, 76] (by decide +kernel) (by decide +kernel)
set_option maxRecDepth 20000 in
theorem gX5_pair_X5_censusOf : GoodIn wsX5_pair (wsV RX5 156 RX5 yX5_censusOf wsX5_censusOf) := goodIn_app (goodIn_of _ (by decide +kernel)) ggX5_pair_X5_censusOf
theorem dX5_pair_0 : decode cX5_pair 0 = .ok (.aload_n 0, 1) := by decide +kernel
theorem dX5_pair_1 : decode cX5_pair 1 = .ok (.iload_n 1, 1) := by decide +kernel
theorem dX5_pair_2 : decode cX5_pair 2 = .ok (.invokevirtual 113, 3) := by decide +kernel
theorem dX5_pair_5 : decode cX5_pair 5 = .ok (.ifCond .eq 16, 3) := by decide +kernel
theorem dX5_pair_8 : decode cX5_pair 8 = .ok (.aload_n 0, 1) := by decide +kernel
theorem dX5_pair_9 : decode cX5_pair 9 = .ok (.iload_n 2, 1) := by decide +kernel
theorem dX5_pair_10 : decode cX5_pair 10 = .ok (.invokevirtual 113, 3) := by decide +kernel
theorem dX5_pair_13 : decode cX5_pair 13 = .ok (.ifCond .eq 8, 3) := by decide +kernel
theorem dX5_pair_16 : decode cX5_pair 16 = .ok (.iload_n 1, 1) := by decide +kernel
theorem dX5_pair_17 : decode cX5_pair 17 = .ok (.iload_n 2, 1) := by decide +kernel
theorem dX5_pair_18 : decode cX5_pair 18 = .ok (.if_icmp .ne 5, 3) := by decide +kernel
theorem dX5_pair_21 : decode cX5_pair 21 = .ok (.iconst (-1), 1) := by decide +kernel
theorem dX5_pair_22 : decode cX5_pair 22 = .ok (.ireturn, 1) := by decide +kernel
theorem dX5_pair_23 : decode cX5_pair 23 = .ok (.iload_n 3, 1) := by decide +kernel
theorem dX5_pair_24 : decode cX5_pair 24 = .ok (.invokestatic 119, 3) := by decide +kernel
theorem dX5_pair_27 : decode cX5_pair 27 = .ok (.ifCond .eq 13, 3) := by decide +kernel
theorem dX5_pair_30 : decode cX5_pair 30 = .ok (.iload 4, 2) := by decide +kernel
theorem dX5_pair_32 : decode cX5_pair 32 = .ok (.iconst 0, 1) := by decide +kernel
theorem dX5_pair_33 : decode cX5_pair 33 = .ok (.iconst 2, 1) := by decide +kernel
theorem dX5_pair_34 : decode cX5_pair 34 = .ok (.invokestatic 56, 3) := by decide +kernel
theorem dX5_pair_37 : decode cX5_pair 37 = .ok (.ifCond .ne 6, 3) := by decide +kernel
theorem dX5_pair_40 : decode cX5_pair 40 = .ok (.bipush (-2), 2) := by decide +kernel
theorem dX5_pair_42 : decode cX5_pair 42 = .ok (.ireturn, 1) := by decide +kernel
theorem dX5_pair_43 : decode cX5_pair 43 = .ok (.aload_n 0, 1) := by decide +kernel
theorem dX5_pair_44 : decode cX5_pair 44 = .ok (.getfield 22, 3) := by decide +kernel
theorem dX5_pair_47 : decode cX5_pair 47 = .ok (.iload_n 1, 1) := by decide +kernel
theorem dX5_pair_48 : decode cX5_pair 48 = .ok (.iaload, 1) := by decide +kernel
theorem dX5_pair_49 : decode cX5_pair 49 = .ok (.istore 5, 2) := by decide +kernel
theorem dX5_pair_51 : decode cX5_pair 51 = .ok (.aload_n 0, 1) := by decide +kernel
theorem dX5_pair_52 : decode cX5_pair 52 = .ok (.getfield 22, 3) := by decide +kernel
theorem dX5_pair_55 : decode cX5_pair 55 = .ok (.iload_n 2, 1) := by decide +kernel
theorem dX5_pair_56 : decode cX5_pair 56 = .ok (.iaload, 1) := by decide +kernel
theorem dX5_pair_57 : decode cX5_pair 57 = .ok (.istore 6, 2) := by decide +kernel
theorem dX5_pair_59 : decode cX5_pair 59 = .ok (.bipush (-9), 2) := by decide +kernel
theorem dX5_pair_61 : decode cX5_pair 61 = .ok (.istore 7, 2) := by decide +kernel
theorem dX5_pair_63 : decode cX5_pair 63 = .ok (.iconst 0, 1) := by decide +kernel
theorem dX5_pair_64 : decode cX5_pair 64 = .ok (.istore 8, 2) := by decide +kernel
theorem dX5_pair_66 : decode cX5_pair 66 = .ok (.iconst 0, 1) := by decide +kernel
theorem dX5_pair_67 : decode cX5_pair 67 = .ok (.istore 9, 2) := by decide +kernel
theorem dX5_pair_69 : decode cX5_pair 69 = .ok (.iload 9, 2) := by decide +kernel
theorem dX5_pair_71 : decode cX5_pair 71 = .ok (.bipush 100, 2) := by decide +kernel
theorem dX5_pair_73 : decode cX5_pair 73 = .ok (.if_icmp .ge 89, 3) := by decide +kernel
theorem dX5_pair_76 : decode cX5_pair 76 = .ok (.aload_n 0, 1) := by decide +kernel
theorem dX5_pair_77 : decode cX5_pair 77 = .ok (.getfield 22, 3) := by decide +kernel
theorem dX5_pair_80 : decode cX5_pair 80 = .ok (.iload_n 1, 1) := by decide +kernel
theorem dX5_pair_81 : decode cX5_pair 81 = .ok (.iload 9, 2) := by decide +kernel
theorem dX5_pair_83 : decode cX5_pair 83 = .ok (.bipush 10, 2) := by decide +kernel
theorem dX5_pair_85 : decode cX5_pair 85 = .ok (.idiv, 1) := by decide +kernel
theorem dX5_pair_86 : decode cX5_pair 86 = .ok (.iastore, 1) := by decide +kernel
theorem dX5_pair_87 : decode cX5_pair 87 = .ok (.aload_n 0, 1) := by decide +kernel
theorem dX5_pair_88 : decode cX5_pair 88 = .ok (.getfield 22, 3) := by decide +kernel
theorem dX5_pair_91 : decode cX5_pair 91 = .ok (.iload_n 2, 1) := by decide +kernel
theorem dX5_pair_92 : decode cX5_pair 92 = .ok (.iload 9, 2) := by decide +kernel
theorem dX5_pair_94 : decode cX5_pair 94 = .ok (.bipush 10, 2) := by decide +kernel
theorem dX5_pair_96 : decode cX5_pair 96 = .ok (.irem, 1) := by decide +kernel
theorem dX5_pair_97 : decode cX5_pair 97 = .ok (.iastore, 1) := by decide +kernel
theorem dX5_pair_98 : decode cX5_pair 98 = .ok (.aload_n 0, 1) := by decide +kernel
theorem dX5_pair_99 : decode cX5_pair 99 = .ok (.iload_n 1, 1) := by decide +kernel
theorem dX5_pair_100 : decode cX5_pair 100 = .ok (.iload_n 3, 1) := by decide +kernel
theorem dX5_pair_101 : decode cX5_pair 101 = .ok (.invokevirtual 128, 3) := by decide +kernel
theorem dX5_pair_104 : decode cX5_pair 104 = .ok (.ifCond .ne 16, 3) := by decide +kernel
theorem dX5_pair_107 : decode cX5_pair 107 = .ok (.aload_n 0, 1) := by decide +kernel
theorem dX5_pair_108 : decode cX5_pair 108 = .ok (.iload_n 2, 1) := by decide +kernel
theorem dX5_pair_109 : decode cX5_pair 109 = .ok (.iload_n 3, 1) := by decide +kernel
theorem dX5_pair_110 : decode cX5_pair 110 = .ok (.invokevirtual 128, 3) := by decide +kernel
theorem dX5_pair_113 : decode cX5_pair 113 = .ok (.ifCond .ne 7, 3) := by decide +kernel
theorem dX5_pair_116 : decode cX5_pair 116 = .ok (.iconst 1, 1) := by decide +kernel
theorem dX5_pair_117 : decode cX5_pair 117 = .ok (.goto 4, 3) := by decide +kernel
theorem dX5_pair_120 : decode cX5_pair 120 = .ok (.iconst 0, 1) := by decide +kernel
theorem dX5_pair_121 : decode cX5_pair 121 = .ok (.istore 10, 2) := by decide +kernel
theorem dX5_pair_123 : decode cX5_pair 123 = .ok (.iload 10, 2) := by decide +kernel
theorem dX5_pair_125 : decode cX5_pair 125 = .ok (.ifCond .eq 31, 3) := by decide +kernel
theorem dX5_pair_128 : decode cX5_pair 128 = .ok (.iload 7, 2) := by decide +kernel
theorem dX5_pair_130 : decode cX5_pair 130 = .ok (.bipush (-9), 2) := by decide +kernel
theorem dX5_pair_132 : decode cX5_pair 132 = .ok (.if_icmp .eq 13, 3) := by decide +kernel
theorem dX5_pair_135 : decode cX5_pair 135 = .ok (.aload_n 0, 1) := by decide +kernel
theorem dX5_pair_136 : decode cX5_pair 136 = .ok (.iload_n 3, 1) := by decide +kernel
theorem dX5_pair_137 : decode cX5_pair 137 = .ok (.invokevirtual 156, 3) := by decide +kernel
theorem dX5_pair_140 : decode cX5_pair 140 = .ok (.iload 8, 2) := by decide +kernel
theorem dX5_pair_142 : decode cX5_pair 142 = .ok (.if_icmp .ge 14, 3) := by decide +kernel
theorem dX5_pair_145 : decode cX5_pair 145 = .ok (.iload 9, 2) := by decide +kernel
theorem dX5_pair_147 : decode cX5_pair 147 = .ok (.istore 7, 2) := by decide +kernel
theorem dX5_pair_149 : decode cX5_pair 149 = .ok (.aload_n 0, 1) := by decide +kernel
theorem dX5_pair_150 : decode cX5_pair 150 = .ok (.iload_n 3, 1) := by decide +kernel
theorem dX5_pair_151 : decode cX5_pair 151 = .ok (.invokevirtual 156, 3) := by decide +kernel
theorem dX5_pair_154 : decode cX5_pair 154 = .ok (.istore 8, 2) := by decide +kernel
theorem dX5_pair_156 : decode cX5_pair 156 = .ok (.iinc 9 1, 3) := by decide +kernel
theorem dX5_pair_159 : decode cX5_pair 159 = .ok (.goto (-90), 3) := by decide +kernel
theorem dX5_pair_162 : decode cX5_pair 162 = .ok (.aload_n 0, 1) := by decide +kernel
theorem dX5_pair_163 : decode cX5_pair 163 = .ok (.getfield 22, 3) := by decide +kernel
theorem dX5_pair_166 : decode cX5_pair 166 = .ok (.iload_n 1, 1) := by decide +kernel
theorem dX5_pair_167 : decode cX5_pair 167 = .ok (.iload 5, 2) := by decide +kernel
theorem dX5_pair_169 : decode cX5_pair 169 = .ok (.iastore, 1) := by decide +kernel
theorem dX5_pair_170 : decode cX5_pair 170 = .ok (.aload_n 0, 1) := by decide +kernel
theorem dX5_pair_171 : decode cX5_pair 171 = .ok (.getfield 22, 3) := by decide +kernel
theorem dX5_pair_174 : decode cX5_pair 174 = .ok (.iload_n 2, 1) := by decide +kernel
theorem dX5_pair_175 : decode cX5_pair 175 = .ok (.iload 6, 2) := by decide +kernel
theorem dX5_pair_177 : decode cX5_pair 177 = .ok (.iastore, 1) := by decide +kernel
theorem dX5_pair_178 : decode cX5_pair 178 = .ok (.iload 7, 2) := by decide +kernel
theorem dX5_pair_180 : decode cX5_pair 180 = .ok (.bipush (-9), 2) := by decide +kernel
theorem dX5_pair_182 : decode cX5_pair 182 = .ok (.if_icmp .ne 6, 3) := by decide +kernel
theorem dX5_pair_185 : decode cX5_pair 185 = .ok (.bipush (-9), 2) := by decide +kernel
theorem dX5_pair_187 : decode cX5_pair 187 = .ok (.ireturn, 1) := by decide +kernel
theorem dX5_pair_188 : decode cX5_pair 188 = .ok (.iload 4, 2) := by decide +kernel
theorem dX5_pair_190 : decode cX5_pair 190 = .ok (.ifCond .ne 8, 3) := by decide +kernel
theorem dX5_pair_193 : decode cX5_pair 193 = .ok (.iload 8, 2) := by decide +kernel
theorem dX5_pair_195 : decode cX5_pair 195 = .ok (.goto 22, 3) := by decide +kernel
theorem dX5_pair_198 : decode cX5_pair 198 = .ok (.iload 4, 2) := by decide +kernel
theorem dX5_pair_200 : decode cX5_pair 200 = .ok (.iconst 1, 1) := by decide +kernel
theorem dX5_pair_201 : decode cX5_pair 201 = .ok (.if_icmp .ne 11, 3) := by decide +kernel
theorem dX5_pair_204 : decode cX5_pair 204 = .ok (.iload 7, 2) := by decide +kernel
theorem dX5_pair_206 : decode cX5_pair 206 = .ok (.bipush 10, 2) := by decide +kernel
theorem dX5_pair_208 : decode cX5_pair 208 = .ok (.idiv, 1) := by decide +kernel
theorem dX5_pair_209 : decode cX5_pair 209 = .ok (.goto 8, 3) := by decide +kernel
theorem dX5_pair_212 : decode cX5_pair 212 = .ok (.iload 7, 2) := by decide +kernel
theorem dX5_pair_214 : decode cX5_pair 214 = .ok (.bipush 10, 2) := by decide +kernel
theorem dX5_pair_216 : decode cX5_pair 216 = .ok (.irem, 1) := by decide +kernel
theorem dX5_pair_217 : decode cX5_pair 217 = .ok (.ireturn, 1) := by decide +kernel
theorem dX5_size_0 : decode cX5_size 0 = .ok (.iconst 0, 1) := by decide +kernel
theorem dX5_size_1 : decode cX5_size 1 = .ok (.istore_n 1, 1) := by decide +kernel
theorem dX5_size_2 : decode cX5_size 2 = .ok (.iload_n 0, 1) := by decide +kernel
theorem dX5_size_3 : decode cX5_size 3 = .ok (.istore_n 2, 1) := by decide +kernel
theorem dX5_size_4 : decode cX5_size 4 = .ok (.iload_n 2, 1) := by decide +kernel
theorem dX5_size_5 : decode cX5_size 5 = .ok (.ifCond .le 16, 3) := by decide +kernel
theorem dX5_size_8 : decode cX5_size 8 = .ok (.iload_n 1, 1) := by decide +kernel
theorem dX5_size_9 : decode cX5_size 9 = .ok (.iload_n 2, 1) := by decide +kernel
theorem dX5_size_10 : decode cX5_size 10 = .ok (.iconst 1, 1) := by decide +kernel
theorem dX5_size_11 : decode cX5_size 11 = .ok (.iand, 1) := by decide +kernel
theorem dX5_size_12 : decode cX5_size 12 = .ok (.iadd, 1) := by decide +kernel
theorem dX5_size_13 : decode cX5_size 13 = .ok (.istore_n 1, 1) := by decide +kernel
theorem dX5_size_14 : decode cX5_size 14 = .ok (.iload_n 2, 1) := by decide +kernel
theorem dX5_size_15 : decode cX5_size 15 = .ok (.iconst 1, 1) := by decide +kernel
theorem dX5_size_16 : decode cX5_size 16 = .ok (.ishr, 1) := by decide +kernel
theorem dX5_size_17 : decode cX5_size 17 = .ok (.istore_n 2, 1) := by decide +kernel
theorem dX5_size_18 : decode cX5_size 18 = .ok (.goto (-14), 3) := by decide +kernel
theorem dX5_size_21 : decode cX5_size 21 = .ok (.iload_n 1, 1) := by decide +kernel
theorem dX5_size_22 : decode cX5_size 22 = .ok (.ireturn, 1) := by decide +kernel
set_option maxRecDepth 20000 in
theorem ggX5_send_X5_isSun : GoodIn wsX5_send wsX5_isSun := goodIn_r _ [6, 7, 8, 5, 9] (by decide +kernel) (by decide +kernel)
set_option maxRecDepth 20000 in
theorem gX5_send_X5_isSun : GoodIn wsX5_send (va_wsS RX5 119 yX5_isSun wsX5_isSun) := goodIn_app (goodIn_of _ (by decide +kernel)) ggX5_send_X5_isSun
set_option maxRecDepth 20000 in
theorem ggX5_send_X5_within : GoodIn wsX5_send wsX5_within := goodIn_r _ [9] (by decide +kernel) (by decide +kernel)
set_option maxRecDepth 20000 in
theorem gX5_send_X5_within : GoodIn wsX5_send (va_wsS RX5 56 yX5_within wsX5_within) := goodIn_app (goodIn_of _ (by decide +kernel)) ggX5_send_X5_within
set_option maxRecDepth 20000 in
theorem ggX5_send_X5_size : GoodIn wsX5_send wsX5_size := goodIn_r _ [12] (by decide +kernel) (by decide +kernel)
set_option maxRecDepth 20000 in
theorem gX5_send_X5_size : GoodIn wsX5_send (va_wsS RX5 174 yX5_size wsX5_size) := goodIn_app (goodIn_of _ (by decide +kernel)) ggX5_send_X5_size
set_option maxRecDepth 20000 in
theorem ggX5_send_X5_censusOf : GoodIn wsX5_send wsX5_censusOf := goodIn_r _ [16, 17, 18, 19, 20, 5, 21, 22, 23, 24, 25, 26, 27, 28, 29, 1, 2, 30, 31, 32, 33, 34, 35, 36, 37, 38, 39, 40, 41, 42, 43, 44, 45, 46, 47, 48, 49, 50, 51, 52, 53, 54, 55, 56, 57, 58, 59, 60, 61, 62, 63, 64, 65, 66, 67, 68, 69, 70, 71, 72, 73, 74, 75] (by decide +kernel) (by decide +kernel)
set_option maxRecDepth 20000 in
theorem gX5_send_X5_censusOf : GoodIn wsX5_send (wsV RX5 156 RX5 yX5_censusOf wsX5_censusOf) := goodIn_app (goodIn_of _ (by decide +kernel)) ggX5_send_X5_censusOf
theorem dX5_send_0 : decode cX5_send 0 = .ok (.iload_n 1, 1) := by decide +kernel
theorem dX5_send_1 : decode cX5_send 1 = .ok (.invokestatic 119, 3) := by decide +kernel
theorem dX5_send_4 : decode cX5_send 4 = .ok (.ifCond .eq 13, 3) := by decide +kernel
theorem dX5_send_7 : decode cX5_send 7 = .ok (.iload_n 2, 1) := by decide +kernel
theorem dX5_send_8 : decode cX5_send 8 = .ok (.iconst 0, 1) := by decide +kernel
theorem dX5_send_9 : decode cX5_send 9 = .ok (.bipush 99, 2) := by decide +kernel
theorem dX5_send_11 : decode cX5_send 11 = .ok (.invokestatic 56, 3) := by decide +kernel
theorem dX5_send_14 : decode cX5_send 14 = .ok (.ifCond .ne 6, 3) := by decide +kernel
theorem dX5_send_17 : decode cX5_send 17 = .ok (.bipush (-2), 2) := by decide +kernel
theorem dX5_send_19 : decode cX5_send 19 = .ok (.ireturn, 1) := by decide +kernel
theorem dX5_send_20 : decode cX5_send 20 = .ok (.aload_n 0, 1) := by decide +kernel
theorem dX5_send_21 : decode cX5_send 21 = .ok (.getfield 60, 3) := by decide +kernel
theorem dX5_send_24 : decode cX5_send 24 = .ok (.ifCond .ne 6, 3) := by decide +kernel
theorem dX5_send_27 : decode cX5_send 27 = .ok (.bipush (-3), 2) := by decide +kernel
theorem dX5_send_29 : decode cX5_send 29 = .ok (.ireturn, 1) := by decide +kernel
theorem dX5_send_30 : decode cX5_send 30 = .ok (.bipush (-9), 2) := by decide +kernel
theorem dX5_send_32 : decode cX5_send 32 = .ok (.istore_n 3, 1) := by decide +kernel
theorem dX5_send_33 : decode cX5_send 33 = .ok (.aload_n 0, 1) := by decide +kernel
theorem dX5_send_34 : decode cX5_send 34 = .ok (.iconst 0, 1) := by decide +kernel
theorem dX5_send_35 : decode cX5_send 35 = .ok (.putfield 125, 3) := by decide +kernel
theorem dX5_send_38 : decode cX5_send 38 = .ok (.aload_n 0, 1) := by decide +kernel
theorem dX5_send_39 : decode cX5_send 39 = .ok (.getfield 125, 3) := by decide +kernel
theorem dX5_send_42 : decode cX5_send 42 = .ok (.iconst 1, 1) := by decide +kernel
theorem dX5_send_43 : decode cX5_send 43 = .ok (.aload_n 0, 1) := by decide +kernel
theorem dX5_send_44 : decode cX5_send 44 = .ok (.getfield 60, 3) := by decide +kernel
theorem dX5_send_47 : decode cX5_send 47 = .ok (.ishl, 1) := by decide +kernel
theorem dX5_send_48 : decode cX5_send 48 = .ok (.if_icmp .ge 50, 3) := by decide +kernel
theorem dX5_send_51 : decode cX5_send 51 = .ok (.iload_n 3, 1) := by decide +kernel
theorem dX5_send_52 : decode cX5_send 52 = .ok (.bipush (-9), 2) := by decide +kernel
theorem dX5_send_54 : decode cX5_send 54 = .ok (.if_icmp .eq 17, 3) := by decide +kernel
theorem dX5_send_57 : decode cX5_send 57 = .ok (.aload_n 0, 1) := by decide +kernel
theorem dX5_send_58 : decode cX5_send 58 = .ok (.getfield 125, 3) := by decide +kernel
theorem dX5_send_61 : decode cX5_send 61 = .ok (.invokestatic 174, 3) := by decide +kernel
theorem dX5_send_64 : decode cX5_send 64 = .ok (.iload_n 3, 1) := by decide +kernel
theorem dX5_send_65 : decode cX5_send 65 = .ok (.invokestatic 174, 3) := by decide +kernel
theorem dX5_send_68 : decode cX5_send 68 = .ok (.if_icmp .ge 17, 3) := by decide +kernel
theorem dX5_send_71 : decode cX5_send 71 = .ok (.aload_n 0, 1) := by decide +kernel
theorem dX5_send_72 : decode cX5_send 72 = .ok (.iload_n 1, 1) := by decide +kernel
theorem dX5_send_73 : decode cX5_send 73 = .ok (.invokevirtual 156, 3) := by decide +kernel
theorem dX5_send_76 : decode cX5_send 76 = .ok (.iload_n 2, 1) := by decide +kernel
theorem dX5_send_77 : decode cX5_send 77 = .ok (.if_icmp .ne 8, 3) := by decide +kernel
theorem dX5_send_80 : decode cX5_send 80 = .ok (.aload_n 0, 1) := by decide +kernel
theorem dX5_send_81 : decode cX5_send 81 = .ok (.getfield 125, 3) := by decide +kernel
theorem dX5_send_84 : decode cX5_send 84 = .ok (.istore_n 3, 1) := by decide +kernel
theorem dX5_send_85 : decode cX5_send 85 = .ok (.aload_n 0, 1) := by decide +kernel
theorem dX5_send_86 : decode cX5_send 86 = .ok (.dup, 1) := by decide +kernel
theorem dX5_send_87 : decode cX5_send 87 = .ok (.getfield 125, 3) := by decide +kernel
theorem dX5_send_90 : decode cX5_send 90 = .ok (.iconst 1, 1) := by decide +kernel
theorem dX5_send_91 : decode cX5_send 91 = .ok (.iadd, 1) := by decide +kernel
theorem dX5_send_92 : decode cX5_send 92 = .ok (.putfield 125, 3) := by decide +kernel
theorem dX5_send_95 : decode cX5_send 95 = .ok (.goto (-57), 3) := by decide +kernel
theorem dX5_send_98 : decode cX5_send 98 = .ok (.aload_n 0, 1) := by decide +kernel
theorem dX5_send_99 : decode cX5_send 99 = .ok (.iconst 0, 1) := by decide +kernel
theorem dX5_send_100 : decode cX5_send 100 = .ok (.putfield 125, 3) := by decide +kernel
theorem dX5_send_103 : decode cX5_send 103 = .ok (.iload_n 3, 1) := by decide +kernel
theorem dX5_send_104 : decode cX5_send 104 = .ok (.ireturn, 1) := by decide +kernel
set_option maxRecDepth 20000 in
theorem ggX5_reading_X5_isSun : GoodIn wsX5_reading wsX5_isSun := goodIn_r _ [8, 9, 10, 7, 11] (by decide +kernel) (by decide +kernel)
set_option maxRecDepth 20000 in
theorem gX5_reading_X5_isSun : GoodIn wsX5_reading (va_wsS RX5 119 yX5_isSun wsX5_isSun) := goodIn_app (goodIn_of _ (by decide +kernel)) ggX5_reading_X5_isSun
set_option maxRecDepth 20000 in
theorem ggX5_reading_X5_within : GoodIn wsX5_reading wsX5_within := goodIn_r _ [11] (by decide +kernel) (by decide +kernel)
set_option maxRecDepth 20000 in
theorem gX5_reading_X5_within : GoodIn wsX5_reading (va_wsS RX5 56 yX5_within wsX5_within) := goodIn_app (goodIn_of _ (by decide +kernel)) ggX5_reading_X5_within
theorem dX5_reading_0 : decode cX5_reading 0 = .ok (.iload_n 1, 1) := by decide +kernel
theorem dX5_reading_1 : decode cX5_reading 1 = .ok (.invokestatic 119, 3) := by decide +kernel
theorem dX5_reading_4 : decode cX5_reading 4 = .ok (.ifCond .eq 13, 3) := by decide +kernel
theorem dX5_reading_7 : decode cX5_reading 7 = .ok (.iload_n 2, 1) := by decide +kernel
theorem dX5_reading_8 : decode cX5_reading 8 = .ok (.iconst 0, 1) := by decide +kernel
theorem dX5_reading_9 : decode cX5_reading 9 = .ok (.bipush 99, 2) := by decide +kernel
theorem dX5_reading_11 : decode cX5_reading 11 = .ok (.invokestatic 56, 3) := by decide +kernel
theorem dX5_reading_14 : decode cX5_reading 14 = .ok (.ifCond .ne 6, 3) := by decide +kernel
theorem dX5_reading_17 : decode cX5_reading 17 = .ok (.bipush (-2), 2) := by decide +kernel
theorem dX5_reading_19 : decode cX5_reading 19 = .ok (.ireturn, 1) := by decide +kernel
theorem dX5_reading_20 : decode cX5_reading 20 = .ok (.aload_n 0, 1) := by decide +kernel
theorem dX5_reading_21 : decode cX5_reading 21 = .ok (.getfield 60, 3) := by decide +kernel
theorem dX5_reading_24 : decode cX5_reading 24 = .ok (.ifCond .ne 6, 3) := by decide +kernel
theorem dX5_reading_27 : decode cX5_reading 27 = .ok (.bipush (-3), 2) := by decide +kernel
theorem dX5_reading_29 : decode cX5_reading 29 = .ok (.ireturn, 1) := by decide +kernel
theorem dX5_reading_30 : decode cX5_reading 30 = .ok (.aload_n 0, 1) := by decide +kernel
theorem dX5_reading_31 : decode cX5_reading 31 = .ok (.getfield 99, 3) := by decide +kernel
theorem dX5_reading_34 : decode cX5_reading 34 = .ok (.bipush 8, 2) := by decide +kernel
theorem dX5_reading_36 : decode cX5_reading 36 = .ok (.if_icmp .ne 6, 3) := by decide +kernel
theorem dX5_reading_39 : decode cX5_reading 39 = .ok (.bipush (-4), 2) := by decide +kernel
theorem dX5_reading_41 : decode cX5_reading 41 = .ok (.ireturn, 1) := by decide +kernel
theorem dX5_reading_42 : decode cX5_reading 42 = .ok (.aload_n 0, 1) := by decide +kernel
theorem dX5_reading_43 : decode cX5_reading 43 = .ok (.getfield 44, 3) := by decide +kernel
theorem dX5_reading_46 : decode cX5_reading 46 = .ok (.aload_n 0, 1) := by decide +kernel
theorem dX5_reading_47 : decode cX5_reading 47 = .ok (.getfield 99, 3) := by decide +kernel
theorem dX5_reading_50 : decode cX5_reading 50 = .ok (.iload_n 1, 1) := by decide +kernel
theorem dX5_reading_51 : decode cX5_reading 51 = .ok (.iastore, 1) := by decide +kernel
theorem dX5_reading_52 : decode cX5_reading 52 = .ok (.aload_n 0, 1) := by decide +kernel
theorem dX5_reading_53 : decode cX5_reading 53 = .ok (.getfield 47, 3) := by decide +kernel
theorem dX5_reading_56 : decode cX5_reading 56 = .ok (.aload_n 0, 1) := by decide +kernel
theorem dX5_reading_57 : decode cX5_reading 57 = .ok (.getfield 99, 3) := by decide +kernel
theorem dX5_reading_60 : decode cX5_reading 60 = .ok (.iload_n 2, 1) := by decide +kernel
theorem dX5_reading_61 : decode cX5_reading 61 = .ok (.iastore, 1) := by decide +kernel
theorem dX5_reading_62 : decode cX5_reading 62 = .ok (.aload_n 0, 1) := by decide +kernel
theorem dX5_reading_63 : decode cX5_reading 63 = .ok (.dup, 1) := by decide +kernel
theorem dX5_reading_64 : decode cX5_reading 64 = .ok (.getfield 99, 3) := by decide +kernel
theorem dX5_reading_67 : decode cX5_reading 67 = .ok (.iconst 1, 1) := by decide +kernel
theorem dX5_reading_68 : decode cX5_reading 68 = .ok (.iadd, 1) := by decide +kernel
theorem dX5_reading_69 : decode cX5_reading 69 = .ok (.putfield 99, 3) := by decide +kernel
theorem dX5_reading_72 : decode cX5_reading 72 = .ok (.aload_n 0, 1) := by decide +kernel
theorem dX5_reading_73 : decode cX5_reading 73 = .ok (.getfield 99, 3) := by decide +kernel
theorem dX5_reading_76 : decode cX5_reading 76 = .ok (.iconst 1, 1) := by decide +kernel
theorem dX5_reading_77 : decode cX5_reading 77 = .ok (.isub, 1) := by decide +kernel
theorem dX5_reading_78 : decode cX5_reading 78 = .ok (.ireturn, 1) := by decide +kernel
set_option maxRecDepth 20000 in
theorem ggX5_back_X5_within : GoodIn wsX5_back wsX5_within := goodIn_r _ [5] (by decide +kernel) (by decide +kernel)
set_option maxRecDepth 20000 in
theorem gX5_back_X5_within : GoodIn wsX5_back (va_wsS RX5 56 yX5_within wsX5_within) := goodIn_app (goodIn_of _ (by decide +kernel)) ggX5_back_X5_within
theorem dX5_back_0 : decode cX5_back 0 = .ok (.iload_n 1, 1) := by decide +kernel
theorem dX5_back_1 : decode cX5_back 1 = .ok (.iconst 0, 1) := by decide +kernel
theorem dX5_back_2 : decode cX5_back 2 = .ok (.aload_n 0, 1) := by decide +kernel
theorem dX5_back_3 : decode cX5_back 3 = .ok (.getfield 99, 3) := by decide +kernel
theorem dX5_back_6 : decode cX5_back 6 = .ok (.invokestatic 56, 3) := by decide +kernel
theorem dX5_back_9 : decode cX5_back 9 = .ok (.ifCond .ne 6, 3) := by decide +kernel
theorem dX5_back_12 : decode cX5_back 12 = .ok (.bipush (-2), 2) := by decide +kernel
theorem dX5_back_14 : decode cX5_back 14 = .ok (.ireturn, 1) := by decide +kernel
theorem dX5_back_15 : decode cX5_back 15 = .ok (.aload_n 0, 1) := by decide +kernel
theorem dX5_back_16 : decode cX5_back 16 = .ok (.dup, 1) := by decide +kernel
theorem dX5_back_17 : decode cX5_back 17 = .ok (.getfield 99, 3) := by decide +kernel
theorem dX5_back_20 : decode cX5_back 20 = .ok (.iload_n 1, 1) := by decide +kernel
theorem dX5_back_21 : decode cX5_back 21 = .ok (.isub, 1) := by decide +kernel
theorem dX5_back_22 : decode cX5_back 22 = .ok (.putfield 99, 3) := by decide +kernel
theorem dX5_back_25 : decode cX5_back 25 = .ok (.aload_n 0, 1) := by decide +kernel
theorem dX5_back_26 : decode cX5_back 26 = .ok (.getfield 99, 3) := by decide +kernel
theorem dX5_back_29 : decode cX5_back 29 = .ok (.ireturn, 1) := by decide +kernel
set_option maxRecDepth 20000 in
theorem ggX5_areSo_X5_censusOf : GoodIn wsX5_areSo wsX5_censusOf := goodIn_r _ [8, 9, 10, 11, 12, 7, 13, 14, 15, 16, 17, 18, 19, 20, 21, 22, 23, 24, 25, 26, 27, 28, 29, 30, 31, 32, 33, 34, 35, 36, 37, 38, 39, 40, 41, 42, 43, 44, 45, 46, 47, 48, 49, 50, 51, 52, 53, 54, 55, 56, 57, 58, 59, 60, 61, 62, 63, 64, 65, 66, 67, 68, 69] (by decide +kernel) (by decide +kernel)
set_option maxRecDepth 20000 in
theorem gX5_areSo_X5_censusOf : GoodIn wsX5_areSo (wsV RX5 156 RX5 yX5_censusOf wsX5_censusOf) := goodIn_app (goodIn_of _ (by decide +kernel)) ggX5_areSo_X5_censusOf
theorem dX5_areSo_0 : decode cX5_areSo 0 = .ok (.iconst 0, 1) := by decide +kernel
theorem dX5_areSo_1 : decode cX5_areSo 1 = .ok (.istore_n 1, 1) := by decide +kernel
theorem dX5_areSo_2 : decode cX5_areSo 2 = .ok (.iload_n 1, 1) := by decide +kernel
theorem dX5_areSo_3 : decode cX5_areSo 3 = .ok (.aload_n 0, 1) := by decide +kernel
theorem dX5_areSo_4 : decode cX5_areSo 4 = .ok (.getfield 99, 3) := by decide +kernel
theorem dX5_areSo_7 : decode cX5_areSo 7 = .ok (.if_icmp .ge 30, 3) := by decide +kernel
theorem dX5_areSo_10 : decode cX5_areSo 10 = .ok (.aload_n 0, 1) := by decide +kernel
theorem dX5_areSo_11 : decode cX5_areSo 11 = .ok (.aload_n 0, 1) := by decide +kernel
theorem dX5_areSo_12 : decode cX5_areSo 12 = .ok (.getfield 44, 3) := by decide +kernel
theorem dX5_areSo_15 : decode cX5_areSo 15 = .ok (.iload_n 1, 1) := by decide +kernel
theorem dX5_areSo_16 : decode cX5_areSo 16 = .ok (.iaload, 1) := by decide +kernel
theorem dX5_areSo_17 : decode cX5_areSo 17 = .ok (.invokevirtual 156, 3) := by decide +kernel
theorem dX5_areSo_20 : decode cX5_areSo 20 = .ok (.aload_n 0, 1) := by decide +kernel
theorem dX5_areSo_21 : decode cX5_areSo 21 = .ok (.getfield 47, 3) := by decide +kernel
theorem dX5_areSo_24 : decode cX5_areSo 24 = .ok (.iload_n 1, 1) := by decide +kernel
theorem dX5_areSo_25 : decode cX5_areSo 25 = .ok (.iaload, 1) := by decide +kernel
theorem dX5_areSo_26 : decode cX5_areSo 26 = .ok (.if_icmp .eq 5, 3) := by decide +kernel
theorem dX5_areSo_29 : decode cX5_areSo 29 = .ok (.iconst 0, 1) := by decide +kernel
theorem dX5_areSo_30 : decode cX5_areSo 30 = .ok (.ireturn, 1) := by decide +kernel
theorem dX5_areSo_31 : decode cX5_areSo 31 = .ok (.iinc 1 1, 3) := by decide +kernel
theorem dX5_areSo_34 : decode cX5_areSo 34 = .ok (.goto (-32), 3) := by decide +kernel
theorem dX5_areSo_37 : decode cX5_areSo 37 = .ok (.iconst 1, 1) := by decide +kernel
theorem dX5_areSo_38 : decode cX5_areSo 38 = .ok (.ireturn, 1) := by decide +kernel
set_option maxRecDepth 20000 in
theorem ggX5_heights_X5_isStander : GoodIn wsX5_heights wsX5_isStander := goodIn_r _ [6, 7, 49, 50, 51, 52, 53, 54, 55, 56, 57, 58, 59, 60, 61, 62, 63, 64, 65, 66, 67, 68, 69, 70, 71, 72, 73, 74, 75, 76, 77] (by decide +kernel) (by decide +kernel)
set_option maxRecDepth 20000 in
theorem gX5_heights_X5_isStander : GoodIn wsX5_heights (wsV RX5 113 RX5 yX5_isStander wsX5_isStander) := goodIn_app (goodIn_of _ (by decide +kernel)) ggX5_heights_X5_isStander
set_option maxRecDepth 20000 in
theorem ggX5_heights_X5_areSo : GoodIn wsX5_heights wsX5_areSo := goodIn_r _ [11, 12, 13, 14, 15, 16, 17, 5, 18, 19, 20, 21, 22, 23, 24, 25, 26, 27, 28, 29, 30, 31, 7, 32, 33, 34, 35, 36, 37, 38, 39, 40, 41, 42, 1, 43, 44, 45, 46, 47, 48, 49, 50, 51, 52, 53, 54, 55, 56, 57, 58, 59, 60, 61, 62, 63, 64, 65, 66, 67, 68, 69, 70, 71, 72, 73, 74, 75, 76, 77] (by decide +kernel) (by decide +kernel)
set_option maxRecDepth 20000 in
theorem gX5_heights_X5_areSo : GoodIn wsX5_heights (wsV RX5 177 RX5 yX5_areSo wsX5_areSo) := goodIn_app (goodIn_of _ (by decide +kernel)) ggX5_heights_X5_areSo
theorem dX5_heights_0 : decode cX5_heights 0 = .ok (.aload_n 0, 1) := by decide +kernel
theorem dX5_heights_1 : decode cX5_heights 1 = .ok (.iload_n 1, 1) := by decide +kernel
theorem dX5_heights_2 : decode cX5_heights 2 = .ok (.invokevirtual 113, 3) := by decide +kernel
theorem dX5_heights_5 : decode cX5_heights 5 = .ok (.ifCond .ne 5, 3) := by decide +kernel
theorem dX5_heights_8 : decode cX5_heights 8 = .ok (.iconst (-1), 1) := by decide +kernel
theorem dX5_heights_9 : decode cX5_heights 9 = .ok (.ireturn, 1) := by decide +kernel
theorem dX5_heights_10 : decode cX5_heights 10 = .ok (.aload_n 0, 1) := by decide +kernel
theorem dX5_heights_11 : decode cX5_heights 11 = .ok (.getfield 25, 3) := by decide +kernel
theorem dX5_heights_14 : decode cX5_heights 14 = .ok (.iload_n 1, 1) := by decide +kernel
theorem dX5_heights_15 : decode cX5_heights 15 = .ok (.iaload, 1) := by decide +kernel
theorem dX5_heights_16 : decode cX5_heights 16 = .ok (.istore_n 2, 1) := by decide +kernel
theorem dX5_heights_17 : decode cX5_heights 17 = .ok (.iconst 0, 1) := by decide +kernel
theorem dX5_heights_18 : decode cX5_heights 18 = .ok (.istore_n 3, 1) := by decide +kernel
theorem dX5_heights_19 : decode cX5_heights 19 = .ok (.iconst 0, 1) := by decide +kernel
theorem dX5_heights_20 : decode cX5_heights 20 = .ok (.istore 4, 2) := by decide +kernel
theorem dX5_heights_22 : decode cX5_heights 22 = .ok (.iload 4, 2) := by decide +kernel
theorem dX5_heights_24 : decode cX5_heights 24 = .ok (.bipush 9, 2) := by decide +kernel
theorem dX5_heights_26 : decode cX5_heights 26 = .ok (.if_icmp .gt 35, 3) := by decide +kernel
theorem dX5_heights_29 : decode cX5_heights 29 = .ok (.aload_n 0, 1) := by decide +kernel
theorem dX5_heights_30 : decode cX5_heights 30 = .ok (.getfield 25, 3) := by decide +kernel
theorem dX5_heights_33 : decode cX5_heights 33 = .ok (.iload_n 1, 1) := by decide +kernel
theorem dX5_heights_34 : decode cX5_heights 34 = .ok (.iload 4, 2) := by decide +kernel
theorem dX5_heights_36 : decode cX5_heights 36 = .ok (.iastore, 1) := by decide +kernel
theorem dX5_heights_37 : decode cX5_heights 37 = .ok (.iload_n 3, 1) := by decide +kernel
theorem dX5_heights_38 : decode cX5_heights 38 = .ok (.aload_n 0, 1) := by decide +kernel
theorem dX5_heights_39 : decode cX5_heights 39 = .ok (.invokevirtual 177, 3) := by decide +kernel
theorem dX5_heights_42 : decode cX5_heights 42 = .ok (.ifCond .eq 10, 3) := by decide +kernel
theorem dX5_heights_45 : decode cX5_heights 45 = .ok (.iconst 1, 1) := by decide +kernel
theorem dX5_heights_46 : decode cX5_heights 46 = .ok (.iload 4, 2) := by decide +kernel
theorem dX5_heights_48 : decode cX5_heights 48 = .ok (.ishl, 1) := by decide +kernel
theorem dX5_heights_49 : decode cX5_heights 49 = .ok (.goto 4, 3) := by decide +kernel
theorem dX5_heights_52 : decode cX5_heights 52 = .ok (.iconst 0, 1) := by decide +kernel
theorem dX5_heights_53 : decode cX5_heights 53 = .ok (.ior, 1) := by decide +kernel
theorem dX5_heights_54 : decode cX5_heights 54 = .ok (.istore_n 3, 1) := by decide +kernel
theorem dX5_heights_55 : decode cX5_heights 55 = .ok (.iinc 4 1, 3) := by decide +kernel
theorem dX5_heights_58 : decode cX5_heights 58 = .ok (.goto (-36), 3) := by decide +kernel
theorem dX5_heights_61 : decode cX5_heights 61 = .ok (.aload_n 0, 1) := by decide +kernel
theorem dX5_heights_62 : decode cX5_heights 62 = .ok (.getfield 25, 3) := by decide +kernel
theorem dX5_heights_65 : decode cX5_heights 65 = .ok (.iload_n 1, 1) := by decide +kernel
theorem dX5_heights_66 : decode cX5_heights 66 = .ok (.iload_n 2, 1) := by decide +kernel
theorem dX5_heights_67 : decode cX5_heights 67 = .ok (.iastore, 1) := by decide +kernel
theorem dX5_heights_68 : decode cX5_heights 68 = .ok (.iload_n 3, 1) := by decide +kernel
theorem dX5_heights_69 : decode cX5_heights 69 = .ok (.ireturn, 1) := by decide +kernel
set_option maxRecDepth 20000 in
theorem ggX5_kinds_X5_isStander : GoodIn wsX5_kinds wsX5_isStander := goodIn_r _ [6, 7, 49, 50, 51, 52, 53, 54, 55, 56, 57, 58, 59, 60, 61, 62, 63, 64, 65, 66, 67, 68, 69, 70, 71, 72, 73, 74, 75, 76, 77] (by decide +kernel) (by decide +kernel)
set_option maxRecDepth 20000 in
theorem gX5_kinds_X5_isStander : GoodIn wsX5_kinds (wsV RX5 113 RX5 yX5_isStander wsX5_isStander) := goodIn_app (goodIn_of _ (by decide +kernel)) ggX5_kinds_X5_isStander
set_option maxRecDepth 20000 in
theorem ggX5_kinds_X5_areSo : GoodIn wsX5_kinds wsX5_areSo := goodIn_r _ [11, 12, 13, 14, 15, 16, 17, 5, 18, 19, 20, 21, 22, 23, 24, 25, 26, 27, 28, 29, 30, 31, 7, 32, 33, 34, 35, 36, 37, 38, 39, 40, 41, 42, 43, 1, 44, 45, 46, 47, 48, 49, 50, 51, 52, 53, 54, 55, 56, 57, 58, 59, 60, 61, 62, 63, 64, 65, 66, 67, 68, 69, 70, 71, 72, 73, 74, 75, 76, 77] (by decide +kernel) (by decide +kernel)
set_option maxRecDepth 20000 in
theorem gX5_kinds_X5_areSo : GoodIn wsX5_kinds (wsV RX5 177 RX5 yX5_areSo wsX5_areSo) := goodIn_app (goodIn_of _ (by decide +kernel)) ggX5_kinds_X5_areSo
theorem dX5_kinds_0 : decode cX5_kinds 0 = .ok (.aload_n 0, 1) := by decide +kernel
theorem dX5_kinds_1 : decode cX5_kinds 1 = .ok (.iload_n 1, 1) := by decide +kernel
theorem dX5_kinds_2 : decode cX5_kinds 2 = .ok (.invokevirtual 113, 3) := by decide +kernel
theorem dX5_kinds_5 : decode cX5_kinds 5 = .ok (.ifCond .ne 5, 3) := by decide +kernel
theorem dX5_kinds_8 : decode cX5_kinds 8 = .ok (.iconst (-1), 1) := by decide +kernel
theorem dX5_kinds_9 : decode cX5_kinds 9 = .ok (.ireturn, 1) := by decide +kernel
theorem dX5_kinds_10 : decode cX5_kinds 10 = .ok (.aload_n 0, 1) := by decide +kernel
theorem dX5_kinds_11 : decode cX5_kinds 11 = .ok (.getfield 19, 3) := by decide +kernel
theorem dX5_kinds_14 : decode cX5_kinds 14 = .ok (.iload_n 1, 1) := by decide +kernel
theorem dX5_kinds_15 : decode cX5_kinds 15 = .ok (.iaload, 1) := by decide +kernel
theorem dX5_kinds_16 : decode cX5_kinds 16 = .ok (.istore_n 2, 1) := by decide +kernel
theorem dX5_kinds_17 : decode cX5_kinds 17 = .ok (.iconst 0, 1) := by decide +kernel
theorem dX5_kinds_18 : decode cX5_kinds 18 = .ok (.istore_n 3, 1) := by decide +kernel
theorem dX5_kinds_19 : decode cX5_kinds 19 = .ok (.iconst 0, 1) := by decide +kernel
theorem dX5_kinds_20 : decode cX5_kinds 20 = .ok (.istore 4, 2) := by decide +kernel
theorem dX5_kinds_22 : decode cX5_kinds 22 = .ok (.iload 4, 2) := by decide +kernel
theorem dX5_kinds_24 : decode cX5_kinds 24 = .ok (.iconst 3, 1) := by decide +kernel
theorem dX5_kinds_25 : decode cX5_kinds 25 = .ok (.if_icmp .ge 35, 3) := by decide +kernel
theorem dX5_kinds_28 : decode cX5_kinds 28 = .ok (.aload_n 0, 1) := by decide +kernel
theorem dX5_kinds_29 : decode cX5_kinds 29 = .ok (.getfield 19, 3) := by decide +kernel
theorem dX5_kinds_32 : decode cX5_kinds 32 = .ok (.iload_n 1, 1) := by decide +kernel
theorem dX5_kinds_33 : decode cX5_kinds 33 = .ok (.iload 4, 2) := by decide +kernel
theorem dX5_kinds_35 : decode cX5_kinds 35 = .ok (.iastore, 1) := by decide +kernel
theorem dX5_kinds_36 : decode cX5_kinds 36 = .ok (.iload_n 3, 1) := by decide +kernel
theorem dX5_kinds_37 : decode cX5_kinds 37 = .ok (.aload_n 0, 1) := by decide +kernel
theorem dX5_kinds_38 : decode cX5_kinds 38 = .ok (.invokevirtual 177, 3) := by decide +kernel
theorem dX5_kinds_41 : decode cX5_kinds 41 = .ok (.ifCond .eq 10, 3) := by decide +kernel
theorem dX5_kinds_44 : decode cX5_kinds 44 = .ok (.iconst 1, 1) := by decide +kernel
theorem dX5_kinds_45 : decode cX5_kinds 45 = .ok (.iload 4, 2) := by decide +kernel
theorem dX5_kinds_47 : decode cX5_kinds 47 = .ok (.ishl, 1) := by decide +kernel
theorem dX5_kinds_48 : decode cX5_kinds 48 = .ok (.goto 4, 3) := by decide +kernel
theorem dX5_kinds_51 : decode cX5_kinds 51 = .ok (.iconst 0, 1) := by decide +kernel
theorem dX5_kinds_52 : decode cX5_kinds 52 = .ok (.ior, 1) := by decide +kernel
theorem dX5_kinds_53 : decode cX5_kinds 53 = .ok (.istore_n 3, 1) := by decide +kernel
theorem dX5_kinds_54 : decode cX5_kinds 54 = .ok (.iinc 4 1, 3) := by decide +kernel
theorem dX5_kinds_57 : decode cX5_kinds 57 = .ok (.goto (-35), 3) := by decide +kernel
theorem dX5_kinds_60 : decode cX5_kinds 60 = .ok (.aload_n 0, 1) := by decide +kernel
theorem dX5_kinds_61 : decode cX5_kinds 61 = .ok (.getfield 19, 3) := by decide +kernel
theorem dX5_kinds_64 : decode cX5_kinds 64 = .ok (.iload_n 1, 1) := by decide +kernel
theorem dX5_kinds_65 : decode cX5_kinds 65 = .ok (.iload_n 2, 1) := by decide +kernel
theorem dX5_kinds_66 : decode cX5_kinds 66 = .ok (.iastore, 1) := by decide +kernel
theorem dX5_kinds_67 : decode cX5_kinds 67 = .ok (.iload_n 3, 1) := by decide +kernel
theorem dX5_kinds_68 : decode cX5_kinds 68 = .ok (.ireturn, 1) := by decide +kernel
set_option maxRecDepth 20000 in
theorem ggX5_spans_X5_areSo : GoodIn wsX5_spans wsX5_areSo := goodIn_r _ [7, 8, 9, 10, 11, 12, 13, 6, 14, 15, 16, 17, 18, 19, 20, 21, 22, 23, 24, 25, 26, 27, 1, 28, 29, 30, 31, 32, 33, 34, 35, 36, 37, 38, 39, 40, 41, 42, 43, 44, 2, 45, 46, 47, 48, 49, 50, 51, 52, 53, 54, 55, 56, 57, 58, 59, 60, 61, 62, 63, 64, 65, 66, 67, 68, 69, 70, 71, 72, 73] (by decide +kernel) (by decide +kernel)
set_option maxRecDepth 20000 in
theorem gX5_spans_X5_areSo : GoodIn wsX5_spans (wsV RX5 177 RX5 yX5_areSo wsX5_areSo) := goodIn_app (goodIn_of _ (by decide +kernel)) ggX5_spans_X5_areSo
theorem dX5_spans_0 : decode cX5_spans 0 = .ok (.aload_n 0, 1) := by decide +kernel
theorem dX5_spans_1 : decode cX5_spans 1 = .ok (.getfield 60, 3) := by decide +kernel
theorem dX5_spans_4 : decode cX5_spans 4 = .ok (.ifCond .ne 6, 3) := by decide +kernel
theorem dX5_spans_7 : decode cX5_spans 7 = .ok (.bipush (-3), 2) := by decide +kernel
theorem dX5_spans_9 : decode cX5_spans 9 = .ok (.ireturn, 1) := by decide +kernel
theorem dX5_spans_10 : decode cX5_spans 10 = .ok (.aload_n 0, 1) := by decide +kernel
theorem dX5_spans_11 : decode cX5_spans 11 = .ok (.getfield 87, 3) := by decide +kernel
theorem dX5_spans_14 : decode cX5_spans 14 = .ok (.istore_n 1, 1) := by decide +kernel
theorem dX5_spans_15 : decode cX5_spans 15 = .ok (.iconst 0, 1) := by decide +kernel
theorem dX5_spans_16 : decode cX5_spans 16 = .ok (.istore_n 2, 1) := by decide +kernel
theorem dX5_spans_17 : decode cX5_spans 17 = .ok (.iconst 1, 1) := by decide +kernel
theorem dX5_spans_18 : decode cX5_spans 18 = .ok (.istore_n 3, 1) := by decide +kernel
theorem dX5_spans_19 : decode cX5_spans 19 = .ok (.iload_n 3, 1) := by decide +kernel
theorem dX5_spans_20 : decode cX5_spans 20 = .ok (.bipush 9, 2) := by decide +kernel
theorem dX5_spans_22 : decode cX5_spans 22 = .ok (.if_icmp .gt 31, 3) := by decide +kernel
theorem dX5_spans_25 : decode cX5_spans 25 = .ok (.aload_n 0, 1) := by decide +kernel
theorem dX5_spans_26 : decode cX5_spans 26 = .ok (.iload_n 3, 1) := by decide +kernel
theorem dX5_spans_27 : decode cX5_spans 27 = .ok (.putfield 87, 3) := by decide +kernel
theorem dX5_spans_30 : decode cX5_spans 30 = .ok (.iload_n 2, 1) := by decide +kernel
theorem dX5_spans_31 : decode cX5_spans 31 = .ok (.aload_n 0, 1) := by decide +kernel
theorem dX5_spans_32 : decode cX5_spans 32 = .ok (.invokevirtual 177, 3) := by decide +kernel
theorem dX5_spans_35 : decode cX5_spans 35 = .ok (.ifCond .eq 9, 3) := by decide +kernel
theorem dX5_spans_38 : decode cX5_spans 38 = .ok (.iconst 1, 1) := by decide +kernel
theorem dX5_spans_39 : decode cX5_spans 39 = .ok (.iload_n 3, 1) := by decide +kernel
theorem dX5_spans_40 : decode cX5_spans 40 = .ok (.ishl, 1) := by decide +kernel
theorem dX5_spans_41 : decode cX5_spans 41 = .ok (.goto 4, 3) := by decide +kernel
theorem dX5_spans_44 : decode cX5_spans 44 = .ok (.iconst 0, 1) := by decide +kernel
theorem dX5_spans_45 : decode cX5_spans 45 = .ok (.ior, 1) := by decide +kernel
theorem dX5_spans_46 : decode cX5_spans 46 = .ok (.istore_n 2, 1) := by decide +kernel
theorem dX5_spans_47 : decode cX5_spans 47 = .ok (.iinc 3 1, 3) := by decide +kernel
theorem dX5_spans_50 : decode cX5_spans 50 = .ok (.goto (-31), 3) := by decide +kernel
theorem dX5_spans_53 : decode cX5_spans 53 = .ok (.aload_n 0, 1) := by decide +kernel
theorem dX5_spans_54 : decode cX5_spans 54 = .ok (.iload_n 1, 1) := by decide +kernel
theorem dX5_spans_55 : decode cX5_spans 55 = .ok (.putfield 87, 3) := by decide +kernel
theorem dX5_spans_58 : decode cX5_spans 58 = .ok (.iload_n 2, 1) := by decide +kernel
theorem dX5_spans_59 : decode cX5_spans 59 = .ok (.ireturn, 1) := by decide +kernel
theorem dX5_inLeastTerms_0 : decode cX5_inLeastTerms 0 = .ok (.lload_n 0, 1) := by decide +kernel
theorem dX5_inLeastTerms_1 : decode cX5_inLeastTerms 1 = .ok (.lstore 5, 2) := by decide +kernel
theorem dX5_inLeastTerms_3 : decode cX5_inLeastTerms 3 = .ok (.lload_n 2, 1) := by decide +kernel
theorem dX5_inLeastTerms_4 : decode cX5_inLeastTerms 4 = .ok (.lstore 7, 2) := by decide +kernel
theorem dX5_inLeastTerms_6 : decode cX5_inLeastTerms 6 = .ok (.lload 7, 2) := by decide +kernel
theorem dX5_inLeastTerms_8 : decode cX5_inLeastTerms 8 = .ok (.lconst 0, 1) := by decide +kernel
theorem dX5_inLeastTerms_9 : decode cX5_inLeastTerms 9 = .ok (.lcmp, 1) := by decide +kernel
theorem dX5_inLeastTerms_10 : decode cX5_inLeastTerms 10 = .ok (.ifCond .eq 21, 3) := by decide +kernel
theorem dX5_inLeastTerms_13 : decode cX5_inLeastTerms 13 = .ok (.lload 5, 2) := by decide +kernel
theorem dX5_inLeastTerms_15 : decode cX5_inLeastTerms 15 = .ok (.lload 7, 2) := by decide +kernel
theorem dX5_inLeastTerms_17 : decode cX5_inLeastTerms 17 = .ok (.lrem, 1) := by decide +kernel
theorem dX5_inLeastTerms_18 : decode cX5_inLeastTerms 18 = .ok (.lstore 9, 2) := by decide +kernel
theorem dX5_inLeastTerms_20 : decode cX5_inLeastTerms 20 = .ok (.lload 7, 2) := by decide +kernel
theorem dX5_inLeastTerms_22 : decode cX5_inLeastTerms 22 = .ok (.lstore 5, 2) := by decide +kernel
theorem dX5_inLeastTerms_24 : decode cX5_inLeastTerms 24 = .ok (.lload 9, 2) := by decide +kernel
theorem dX5_inLeastTerms_26 : decode cX5_inLeastTerms 26 = .ok (.lstore 7, 2) := by decide +kernel
theorem dX5_inLeastTerms_28 : decode cX5_inLeastTerms 28 = .ok (.goto (-22), 3) := by decide +kernel
theorem dX5_inLeastTerms_31 : decode cX5_inLeastTerms 31 = .ok (.iload 4, 2) := by decide +kernel
theorem dX5_inLeastTerms_33 : decode cX5_inLeastTerms 33 = .ok (.ifCond .ne 10, 3) := by decide +kernel
theorem dX5_inLeastTerms_36 : decode cX5_inLeastTerms 36 = .ok (.lload_n 0, 1) := by decide +kernel
theorem dX5_inLeastTerms_37 : decode cX5_inLeastTerms 37 = .ok (.lload 5, 2) := by decide +kernel
theorem dX5_inLeastTerms_39 : decode cX5_inLeastTerms 39 = .ok (.ldiv, 1) := by decide +kernel
theorem dX5_inLeastTerms_40 : decode cX5_inLeastTerms 40 = .ok (.goto 7, 3) := by decide +kernel
theorem dX5_inLeastTerms_43 : decode cX5_inLeastTerms 43 = .ok (.lload_n 2, 1) := by decide +kernel
theorem dX5_inLeastTerms_44 : decode cX5_inLeastTerms 44 = .ok (.lload 5, 2) := by decide +kernel
theorem dX5_inLeastTerms_46 : decode cX5_inLeastTerms 46 = .ok (.ldiv, 1) := by decide +kernel
theorem dX5_inLeastTerms_47 : decode cX5_inLeastTerms 47 = .ok (.lreturn, 1) := by decide +kernel
set_option maxRecDepth 20000 in
theorem ggX5_odds_X5_isSun : GoodIn wsX5_odds wsX5_isSun := goodIn_r _ [7, 8, 9, 6, 10] (by decide +kernel) (by decide +kernel)
set_option maxRecDepth 20000 in
theorem gX5_odds_X5_isSun : GoodIn wsX5_odds (va_wsS RX5 119 yX5_isSun wsX5_isSun) := goodIn_app (goodIn_of _ (by decide +kernel)) ggX5_odds_X5_isSun
set_option maxRecDepth 20000 in
theorem ggX5_odds_X5_within : GoodIn wsX5_odds wsX5_within := goodIn_r _ [10] (by decide +kernel) (by decide +kernel)
set_option maxRecDepth 20000 in
theorem gX5_odds_X5_within : GoodIn wsX5_odds (va_wsS RX5 56 yX5_within wsX5_within) := goodIn_app (goodIn_of _ (by decide +kernel)) ggX5_odds_X5_within
set_option maxRecDepth 20000 in
theorem ggX5_odds_X5_censusOf : GoodIn wsX5_odds wsX5_censusOf := goodIn_r _ [14, 15, 16, 17, 18, 6, 19, 20, 21, 22, 23, 24, 25, 26, 27, 1, 3, 28, 29, 30, 31, 32, 33, 34, 35, 36, 37, 38, 39, 40, 41, 42, 43, 44, 48, 49, 50, 51, 52, 53, 54, 55, 56, 57, 58, 59, 60, 61, 62, 63, 64, 65, 66, 67, 68, 69, 70, 71, 72, 73, 74, 75, 76] (by decide +kernel) (by decide +kernel)
set_option maxRecDepth 20000 in
theorem gX5_odds_X5_censusOf : GoodIn wsX5_odds (wsV RX5 156 RX5 yX5_censusOf wsX5_censusOf) := goodIn_app (goodIn_of _ (by decide +kernel)) ggX5_odds_X5_censusOf
set_option maxRecDepth 20000 in
theorem ggX5_odds_X5_inLeastTerms : GoodIn wsX5_odds wsX5_inLeastTerms := goodIn_r _ [47] (by decide +kernel) (by decide +kernel)
set_option maxRecDepth 20000 in
theorem gX5_odds_X5_inLeastTerms : GoodIn wsX5_odds (va_wsS RX5 181 yX5_inLeastTerms wsX5_inLeastTerms) := goodIn_app (goodIn_of _ (by decide +kernel)) ggX5_odds_X5_inLeastTerms
theorem dX5_odds_0 : decode cX5_odds 0 = .ok (.iload_n 1, 1) := by decide +kernel
theorem dX5_odds_1 : decode cX5_odds 1 = .ok (.invokestatic 119, 3) := by decide +kernel
theorem dX5_odds_4 : decode cX5_odds 4 = .ok (.ifCond .eq 29, 3) := by decide +kernel
theorem dX5_odds_7 : decode cX5_odds 7 = .ok (.iload_n 2, 1) := by decide +kernel
theorem dX5_odds_8 : decode cX5_odds 8 = .ok (.iconst 0, 1) := by decide +kernel
theorem dX5_odds_9 : decode cX5_odds 9 = .ok (.bipush 99, 2) := by decide +kernel
theorem dX5_odds_11 : decode cX5_odds 11 = .ok (.invokestatic 56, 3) := by decide +kernel
theorem dX5_odds_14 : decode cX5_odds 14 = .ok (.ifCond .eq 19, 3) := by decide +kernel
theorem dX5_odds_17 : decode cX5_odds 17 = .ok (.iload_n 3, 1) := by decide +kernel
theorem dX5_odds_18 : decode cX5_odds 18 = .ok (.iconst 0, 1) := by decide +kernel
theorem dX5_odds_19 : decode cX5_odds 19 = .ok (.iconst 1, 1) := by decide +kernel
theorem dX5_odds_20 : decode cX5_odds 20 = .ok (.invokestatic 56, 3) := by decide +kernel
theorem dX5_odds_23 : decode cX5_odds 23 = .ok (.ifCond .eq 10, 3) := by decide +kernel
theorem dX5_odds_26 : decode cX5_odds 26 = .ok (.aload_n 0, 1) := by decide +kernel
theorem dX5_odds_27 : decode cX5_odds 27 = .ok (.getfield 60, 3) := by decide +kernel
theorem dX5_odds_30 : decode cX5_odds 30 = .ok (.ifCond .ne 7, 3) := by decide +kernel
theorem dX5_odds_33 : decode cX5_odds 33 = .ok (.ldc2_w 54, 3) := by decide +kernel
theorem dX5_odds_36 : decode cX5_odds 36 = .ok (.lreturn, 1) := by decide +kernel
theorem dX5_odds_37 : decode cX5_odds 37 = .ok (.iconst 0, 1) := by decide +kernel
theorem dX5_odds_38 : decode cX5_odds 38 = .ok (.istore 4, 2) := by decide +kernel
theorem dX5_odds_40 : decode cX5_odds 40 = .ok (.iconst 1, 1) := by decide +kernel
theorem dX5_odds_41 : decode cX5_odds 41 = .ok (.aload_n 0, 1) := by decide +kernel
theorem dX5_odds_42 : decode cX5_odds 42 = .ok (.getfield 60, 3) := by decide +kernel
theorem dX5_odds_45 : decode cX5_odds 45 = .ok (.ishl, 1) := by decide +kernel
theorem dX5_odds_46 : decode cX5_odds 46 = .ok (.istore 5, 2) := by decide +kernel
theorem dX5_odds_48 : decode cX5_odds 48 = .ok (.aload_n 0, 1) := by decide +kernel
theorem dX5_odds_49 : decode cX5_odds 49 = .ok (.iconst 0, 1) := by decide +kernel
theorem dX5_odds_50 : decode cX5_odds 50 = .ok (.putfield 125, 3) := by decide +kernel
theorem dX5_odds_53 : decode cX5_odds 53 = .ok (.aload_n 0, 1) := by decide +kernel
theorem dX5_odds_54 : decode cX5_odds 54 = .ok (.getfield 125, 3) := by decide +kernel
theorem dX5_odds_57 : decode cX5_odds 57 = .ok (.iload 5, 2) := by decide +kernel
theorem dX5_odds_59 : decode cX5_odds 59 = .ok (.if_icmp .ge 35, 3) := by decide +kernel
theorem dX5_odds_62 : decode cX5_odds 62 = .ok (.iload 4, 2) := by decide +kernel
theorem dX5_odds_64 : decode cX5_odds 64 = .ok (.aload_n 0, 1) := by decide +kernel
theorem dX5_odds_65 : decode cX5_odds 65 = .ok (.iload_n 1, 1) := by decide +kernel
theorem dX5_odds_66 : decode cX5_odds 66 = .ok (.invokevirtual 156, 3) := by decide +kernel
theorem dX5_odds_69 : decode cX5_odds 69 = .ok (.iload_n 2, 1) := by decide +kernel
theorem dX5_odds_70 : decode cX5_odds 70 = .ok (.if_icmp .ne 7, 3) := by decide +kernel
theorem dX5_odds_73 : decode cX5_odds 73 = .ok (.iconst 1, 1) := by decide +kernel
theorem dX5_odds_74 : decode cX5_odds 74 = .ok (.goto 4, 3) := by decide +kernel
theorem dX5_odds_77 : decode cX5_odds 77 = .ok (.iconst 0, 1) := by decide +kernel
theorem dX5_odds_78 : decode cX5_odds 78 = .ok (.iadd, 1) := by decide +kernel
theorem dX5_odds_79 : decode cX5_odds 79 = .ok (.istore 4, 2) := by decide +kernel
theorem dX5_odds_81 : decode cX5_odds 81 = .ok (.aload_n 0, 1) := by decide +kernel
theorem dX5_odds_82 : decode cX5_odds 82 = .ok (.dup, 1) := by decide +kernel
theorem dX5_odds_83 : decode cX5_odds 83 = .ok (.getfield 125, 3) := by decide +kernel
theorem dX5_odds_86 : decode cX5_odds 86 = .ok (.iconst 1, 1) := by decide +kernel
theorem dX5_odds_87 : decode cX5_odds 87 = .ok (.iadd, 1) := by decide +kernel
theorem dX5_odds_88 : decode cX5_odds 88 = .ok (.putfield 125, 3) := by decide +kernel
theorem dX5_odds_91 : decode cX5_odds 91 = .ok (.goto (-38), 3) := by decide +kernel
theorem dX5_odds_94 : decode cX5_odds 94 = .ok (.aload_n 0, 1) := by decide +kernel
theorem dX5_odds_95 : decode cX5_odds 95 = .ok (.iconst 0, 1) := by decide +kernel
theorem dX5_odds_96 : decode cX5_odds 96 = .ok (.putfield 125, 3) := by decide +kernel
theorem dX5_odds_99 : decode cX5_odds 99 = .ok (.iload 4, 2) := by decide +kernel
theorem dX5_odds_101 : decode cX5_odds 101 = .ok (.i2l, 1) := by decide +kernel
theorem dX5_odds_102 : decode cX5_odds 102 = .ok (.iload 5, 2) := by decide +kernel
theorem dX5_odds_104 : decode cX5_odds 104 = .ok (.i2l, 1) := by decide +kernel
theorem dX5_odds_105 : decode cX5_odds 105 = .ok (.iload_n 3, 1) := by decide +kernel
theorem dX5_odds_106 : decode cX5_odds 106 = .ok (.invokestatic 181, 3) := by decide +kernel
theorem dX5_odds_109 : decode cX5_odds 109 = .ok (.lreturn, 1) := by decide +kernel
set_option maxRecDepth 20000 in
theorem ggX5_sheet_X5_isSheet : GoodIn wsX5_sheet wsX5_isSheet := goodIn_r _ [8, 9, 10, 7, 11] (by decide +kernel) (by decide +kernel)
set_option maxRecDepth 20000 in
theorem gX5_sheet_X5_isSheet : GoodIn wsX5_sheet (va_wsS RX5 66 yX5_isSheet wsX5_isSheet) := goodIn_app (goodIn_of _ (by decide +kernel)) ggX5_sheet_X5_isSheet
set_option maxRecDepth 20000 in
theorem ggX5_sheet_X5_isSort : GoodIn wsX5_sheet wsX5_isSort := goodIn_r _ [14, 9, 10, 7, 11] (by decide +kernel) (by decide +kernel)
set_option maxRecDepth 20000 in
theorem gX5_sheet_X5_isSort : GoodIn wsX5_sheet (va_wsS RX5 70 yX5_isSort wsX5_isSort) := goodIn_app (goodIn_of _ (by decide +kernel)) ggX5_sheet_X5_isSort
set_option maxRecDepth 20000 in
theorem ggX5_sheet_X5_fails : GoodIn wsX5_sheet wsX5_fails := goodIn_r _ [18, 1, 19, 20, 21, 22, 23, 24, 25, 26, 27, 28, 29, 30, 31, 32, 33, 34, 35, 36, 37, 38, 39, 40, 41, 42, 43, 44, 45, 46, 47] (by decide +kernel) (by decide +kernel)
set_option maxRecDepth 20000 in
theorem gX5_sheet_X5_fails : GoodIn wsX5_sheet (wsV RX5 77 RX5 yX5_fails wsX5_fails) := goodIn_app (goodIn_of _ (by decide +kernel)) ggX5_sheet_X5_fails
theorem dX5_sheet_0 : decode cX5_sheet 0 = .ok (.aload_n 0, 1) := by decide +kernel
theorem dX5_sheet_1 : decode cX5_sheet 1 = .ok (.iconst 0, 1) := by decide +kernel
theorem dX5_sheet_2 : decode cX5_sheet 2 = .ok (.putfield 50, 3) := by decide +kernel
theorem dX5_sheet_5 : decode cX5_sheet 5 = .ok (.iload_n 1, 1) := by decide +kernel
theorem dX5_sheet_6 : decode cX5_sheet 6 = .ok (.invokestatic 66, 3) := by decide +kernel
theorem dX5_sheet_9 : decode cX5_sheet 9 = .ok (.ifCond .ne 5, 3) := by decide +kernel
theorem dX5_sheet_12 : decode cX5_sheet 12 = .ok (.iconst (-1), 1) := by decide +kernel
theorem dX5_sheet_13 : decode cX5_sheet 13 = .ok (.ireturn, 1) := by decide +kernel
theorem dX5_sheet_14 : decode cX5_sheet 14 = .ok (.iload_n 2, 1) := by decide +kernel
theorem dX5_sheet_15 : decode cX5_sheet 15 = .ok (.invokestatic 70, 3) := by decide +kernel
theorem dX5_sheet_18 : decode cX5_sheet 18 = .ok (.ifCond .eq 9, 3) := by decide +kernel
theorem dX5_sheet_21 : decode cX5_sheet 21 = .ok (.iload_n 3, 1) := by decide +kernel
theorem dX5_sheet_22 : decode cX5_sheet 22 = .ok (.bipush 60, 2) := by decide +kernel
theorem dX5_sheet_24 : decode cX5_sheet 24 = .ok (.if_icmp .le 6, 3) := by decide +kernel
theorem dX5_sheet_27 : decode cX5_sheet 27 = .ok (.bipush (-2), 2) := by decide +kernel
theorem dX5_sheet_29 : decode cX5_sheet 29 = .ok (.ireturn, 1) := by decide +kernel
theorem dX5_sheet_30 : decode cX5_sheet 30 = .ok (.iload_n 3, 1) := by decide +kernel
theorem dX5_sheet_31 : decode cX5_sheet 31 = .ok (.ifCond .ge 9, 3) := by decide +kernel
theorem dX5_sheet_34 : decode cX5_sheet 34 = .ok (.aload_n 0, 1) := by decide +kernel
theorem dX5_sheet_35 : decode cX5_sheet 35 = .ok (.iconst 4, 1) := by decide +kernel
theorem dX5_sheet_36 : decode cX5_sheet 36 = .ok (.invokevirtual 77, 3) := by decide +kernel
theorem dX5_sheet_39 : decode cX5_sheet 39 = .ok (.ireturn, 1) := by decide +kernel
theorem dX5_sheet_40 : decode cX5_sheet 40 = .ok (.aload_n 0, 1) := by decide +kernel
theorem dX5_sheet_41 : decode cX5_sheet 41 = .ok (.getfield 9, 3) := by decide +kernel
theorem dX5_sheet_44 : decode cX5_sheet 44 = .ok (.iload_n 1, 1) := by decide +kernel
theorem dX5_sheet_45 : decode cX5_sheet 45 = .ok (.iload_n 2, 1) := by decide +kernel
theorem dX5_sheet_46 : decode cX5_sheet 46 = .ok (.iastore, 1) := by decide +kernel
theorem dX5_sheet_47 : decode cX5_sheet 47 = .ok (.aload_n 0, 1) := by decide +kernel
theorem dX5_sheet_48 : decode cX5_sheet 48 = .ok (.getfield 13, 3) := by decide +kernel
theorem dX5_sheet_51 : decode cX5_sheet 51 = .ok (.iload_n 1, 1) := by decide +kernel
theorem dX5_sheet_52 : decode cX5_sheet 52 = .ok (.iload_n 3, 1) := by decide +kernel
theorem dX5_sheet_53 : decode cX5_sheet 53 = .ok (.iastore, 1) := by decide +kernel
theorem dX5_sheet_54 : decode cX5_sheet 54 = .ok (.iconst 0, 1) := by decide +kernel
theorem dX5_sheet_55 : decode cX5_sheet 55 = .ok (.istore 4, 2) := by decide +kernel
theorem dX5_sheet_57 : decode cX5_sheet 57 = .ok (.iload 4, 2) := by decide +kernel
theorem dX5_sheet_59 : decode cX5_sheet 59 = .ok (.bipush 60, 2) := by decide +kernel
theorem dX5_sheet_61 : decode cX5_sheet 61 = .ok (.if_icmp .ge 22, 3) := by decide +kernel
theorem dX5_sheet_64 : decode cX5_sheet 64 = .ok (.aload_n 0, 1) := by decide +kernel
theorem dX5_sheet_65 : decode cX5_sheet 65 = .ok (.getfield 16, 3) := by decide +kernel
theorem dX5_sheet_68 : decode cX5_sheet 68 = .ok (.bipush 60, 2) := by decide +kernel
theorem dX5_sheet_70 : decode cX5_sheet 70 = .ok (.iload_n 1, 1) := by decide +kernel
theorem dX5_sheet_71 : decode cX5_sheet 71 = .ok (.imul, 1) := by decide +kernel
theorem dX5_sheet_72 : decode cX5_sheet 72 = .ok (.iload 4, 2) := by decide +kernel
theorem dX5_sheet_74 : decode cX5_sheet 74 = .ok (.iadd, 1) := by decide +kernel
theorem dX5_sheet_75 : decode cX5_sheet 75 = .ok (.iconst 0, 1) := by decide +kernel
theorem dX5_sheet_76 : decode cX5_sheet 76 = .ok (.iastore, 1) := by decide +kernel
theorem dX5_sheet_77 : decode cX5_sheet 77 = .ok (.iinc 4 1, 3) := by decide +kernel
theorem dX5_sheet_80 : decode cX5_sheet 80 = .ok (.goto (-23), 3) := by decide +kernel
theorem dX5_sheet_83 : decode cX5_sheet 83 = .ok (.iconst 1, 1) := by decide +kernel
theorem dX5_sheet_84 : decode cX5_sheet 84 = .ok (.ireturn, 1) := by decide +kernel
set_option maxRecDepth 20000 in
theorem ggX5_lose_X5_isSheet : GoodIn wsX5_lose wsX5_isSheet := goodIn_r _ [5, 6, 7, 4, 8] (by decide +kernel) (by decide +kernel)
set_option maxRecDepth 20000 in
theorem gX5_lose_X5_isSheet : GoodIn wsX5_lose (va_wsS RX5 66 yX5_isSheet wsX5_isSheet) := goodIn_app (goodIn_of _ (by decide +kernel)) ggX5_lose_X5_isSheet
theorem dX5_lose_0 : decode cX5_lose 0 = .ok (.iload_n 1, 1) := by decide +kernel
theorem dX5_lose_1 : decode cX5_lose 1 = .ok (.invokestatic 66, 3) := by decide +kernel
theorem dX5_lose_4 : decode cX5_lose 4 = .ok (.ifCond .ne 5, 3) := by decide +kernel
theorem dX5_lose_7 : decode cX5_lose 7 = .ok (.iconst (-1), 1) := by decide +kernel
theorem dX5_lose_8 : decode cX5_lose 8 = .ok (.ireturn, 1) := by decide +kernel
theorem dX5_lose_9 : decode cX5_lose 9 = .ok (.aload_n 0, 1) := by decide +kernel
theorem dX5_lose_10 : decode cX5_lose 10 = .ok (.getfield 9, 3) := by decide +kernel
theorem dX5_lose_13 : decode cX5_lose 13 = .ok (.iload_n 1, 1) := by decide +kernel
theorem dX5_lose_14 : decode cX5_lose 14 = .ok (.iaload, 1) := by decide +kernel
theorem dX5_lose_15 : decode cX5_lose 15 = .ok (.bipush (-9), 2) := by decide +kernel
theorem dX5_lose_17 : decode cX5_lose 17 = .ok (.if_icmp .ne 7, 3) := by decide +kernel
theorem dX5_lose_20 : decode cX5_lose 20 = .ok (.iconst 0, 1) := by decide +kernel
theorem dX5_lose_21 : decode cX5_lose 21 = .ok (.goto 4, 3) := by decide +kernel
theorem dX5_lose_24 : decode cX5_lose 24 = .ok (.iconst 1, 1) := by decide +kernel
theorem dX5_lose_25 : decode cX5_lose 25 = .ok (.istore_n 2, 1) := by decide +kernel
theorem dX5_lose_26 : decode cX5_lose 26 = .ok (.aload_n 0, 1) := by decide +kernel
theorem dX5_lose_27 : decode cX5_lose 27 = .ok (.getfield 9, 3) := by decide +kernel
theorem dX5_lose_30 : decode cX5_lose 30 = .ok (.iload_n 1, 1) := by decide +kernel
theorem dX5_lose_31 : decode cX5_lose 31 = .ok (.bipush (-9), 2) := by decide +kernel
theorem dX5_lose_33 : decode cX5_lose 33 = .ok (.iastore, 1) := by decide +kernel
theorem dX5_lose_34 : decode cX5_lose 34 = .ok (.iload_n 2, 1) := by decide +kernel
theorem dX5_lose_35 : decode cX5_lose 35 = .ok (.ireturn, 1) := by decide +kernel
set_option maxRecDepth 20000 in
theorem ggX5_put_X5_isSheet : GoodIn wsX5_put wsX5_isSheet := goodIn_r _ [8, 9, 10, 7, 11] (by decide +kernel) (by decide +kernel)
set_option maxRecDepth 20000 in
theorem gX5_put_X5_isSheet : GoodIn wsX5_put (va_wsS RX5 66 yX5_isSheet wsX5_isSheet) := goodIn_app (goodIn_of _ (by decide +kernel)) ggX5_put_X5_isSheet
set_option maxRecDepth 20000 in
theorem ggX5_put_X5_fails : GoodIn wsX5_put wsX5_fails := goodIn_r _ [15, 1, 16, 17, 18, 19, 20, 21, 22, 23, 24, 25, 26, 27, 28, 29, 30, 31, 32, 33, 34, 35, 36, 37, 38, 39, 40, 41, 42, 43, 44] (by decide +kernel) (by decide +kernel)
set_option maxRecDepth 20000 in
theorem gX5_put_X5_fails : GoodIn wsX5_put (wsV RX5 77 RX5 yX5_fails wsX5_fails) := goodIn_app (goodIn_of _ (by decide +kernel)) ggX5_put_X5_fails
set_option maxRecDepth 20000 in
theorem ggX5_put_X5_within : GoodIn wsX5_put wsX5_within := goodIn_r _ [11] (by decide +kernel) (by decide +kernel)
set_option maxRecDepth 20000 in
theorem gX5_put_X5_within : GoodIn wsX5_put (va_wsS RX5 56 yX5_within wsX5_within) := goodIn_app (goodIn_of _ (by decide +kernel)) ggX5_put_X5_within
theorem dX5_put_0 : decode cX5_put 0 = .ok (.aload_n 0, 1) := by decide +kernel
theorem dX5_put_1 : decode cX5_put 1 = .ok (.iconst 0, 1) := by decide +kernel
theorem dX5_put_2 : decode cX5_put 2 = .ok (.putfield 50, 3) := by decide +kernel
theorem dX5_put_5 : decode cX5_put 5 = .ok (.iload_n 1, 1) := by decide +kernel
theorem dX5_put_6 : decode cX5_put 6 = .ok (.invokestatic 66, 3) := by decide +kernel
theorem dX5_put_9 : decode cX5_put 9 = .ok (.ifCond .ne 5, 3) := by decide +kernel
theorem dX5_put_12 : decode cX5_put 12 = .ok (.iconst (-1), 1) := by decide +kernel
theorem dX5_put_13 : decode cX5_put 13 = .ok (.ireturn, 1) := by decide +kernel
theorem dX5_put_14 : decode cX5_put 14 = .ok (.aload_n 0, 1) := by decide +kernel
theorem dX5_put_15 : decode cX5_put 15 = .ok (.getfield 9, 3) := by decide +kernel
theorem dX5_put_18 : decode cX5_put 18 = .ok (.iload_n 1, 1) := by decide +kernel
theorem dX5_put_19 : decode cX5_put 19 = .ok (.iaload, 1) := by decide +kernel
theorem dX5_put_20 : decode cX5_put 20 = .ok (.bipush (-9), 2) := by decide +kernel
theorem dX5_put_22 : decode cX5_put 22 = .ok (.if_icmp .ne 9, 3) := by decide +kernel
theorem dX5_put_25 : decode cX5_put 25 = .ok (.aload_n 0, 1) := by decide +kernel
theorem dX5_put_26 : decode cX5_put 26 = .ok (.iconst 1, 1) := by decide +kernel
theorem dX5_put_27 : decode cX5_put 27 = .ok (.invokevirtual 77, 3) := by decide +kernel
theorem dX5_put_30 : decode cX5_put 30 = .ok (.ireturn, 1) := by decide +kernel
theorem dX5_put_31 : decode cX5_put 31 = .ok (.iload_n 2, 1) := by decide +kernel
theorem dX5_put_32 : decode cX5_put 32 = .ok (.iconst 0, 1) := by decide +kernel
theorem dX5_put_33 : decode cX5_put 33 = .ok (.aload_n 0, 1) := by decide +kernel
theorem dX5_put_34 : decode cX5_put 34 = .ok (.getfield 13, 3) := by decide +kernel
theorem dX5_put_37 : decode cX5_put 37 = .ok (.iload_n 1, 1) := by decide +kernel
theorem dX5_put_38 : decode cX5_put 38 = .ok (.iaload, 1) := by decide +kernel
theorem dX5_put_39 : decode cX5_put 39 = .ok (.iconst 1, 1) := by decide +kernel
theorem dX5_put_40 : decode cX5_put 40 = .ok (.isub, 1) := by decide +kernel
theorem dX5_put_41 : decode cX5_put 41 = .ok (.invokestatic 56, 3) := by decide +kernel
theorem dX5_put_44 : decode cX5_put 44 = .ok (.ifCond .ne 9, 3) := by decide +kernel
theorem dX5_put_47 : decode cX5_put 47 = .ok (.aload_n 0, 1) := by decide +kernel
theorem dX5_put_48 : decode cX5_put 48 = .ok (.iconst 3, 1) := by decide +kernel
theorem dX5_put_49 : decode cX5_put 49 = .ok (.invokevirtual 77, 3) := by decide +kernel
theorem dX5_put_52 : decode cX5_put 52 = .ok (.ireturn, 1) := by decide +kernel
theorem dX5_put_53 : decode cX5_put 53 = .ok (.aload_n 0, 1) := by decide +kernel
theorem dX5_put_54 : decode cX5_put 54 = .ok (.getfield 16, 3) := by decide +kernel
theorem dX5_put_57 : decode cX5_put 57 = .ok (.bipush 60, 2) := by decide +kernel
theorem dX5_put_59 : decode cX5_put 59 = .ok (.iload_n 1, 1) := by decide +kernel
theorem dX5_put_60 : decode cX5_put 60 = .ok (.imul, 1) := by decide +kernel
theorem dX5_put_61 : decode cX5_put 61 = .ok (.iload_n 2, 1) := by decide +kernel
theorem dX5_put_62 : decode cX5_put 62 = .ok (.iadd, 1) := by decide +kernel
theorem dX5_put_63 : decode cX5_put 63 = .ok (.aload_n 0, 1) := by decide +kernel
theorem dX5_put_64 : decode cX5_put 64 = .ok (.getfield 9, 3) := by decide +kernel
theorem dX5_put_67 : decode cX5_put 67 = .ok (.iload_n 1, 1) := by decide +kernel
theorem dX5_put_68 : decode cX5_put 68 = .ok (.iaload, 1) := by decide +kernel
theorem dX5_put_69 : decode cX5_put 69 = .ok (.ifCond .ne 8, 3) := by decide +kernel
theorem dX5_put_72 : decode cX5_put 72 = .ok (.iload_n 3, 1) := by decide +kernel
theorem dX5_put_73 : decode cX5_put 73 = .ok (.i2b, 1) := by decide +kernel
theorem dX5_put_74 : decode cX5_put 74 = .ok (.goto 19, 3) := by decide +kernel
theorem dX5_put_77 : decode cX5_put 77 = .ok (.aload_n 0, 1) := by decide +kernel
theorem dX5_put_78 : decode cX5_put 78 = .ok (.getfield 9, 3) := by decide +kernel
theorem dX5_put_81 : decode cX5_put 81 = .ok (.iload_n 1, 1) := by decide +kernel
theorem dX5_put_82 : decode cX5_put 82 = .ok (.iaload, 1) := by decide +kernel
theorem dX5_put_83 : decode cX5_put 83 = .ok (.iconst 1, 1) := by decide +kernel
theorem dX5_put_84 : decode cX5_put 84 = .ok (.if_icmp .ne 8, 3) := by decide +kernel
theorem dX5_put_87 : decode cX5_put 87 = .ok (.iload_n 3, 1) := by decide +kernel
theorem dX5_put_88 : decode cX5_put 88 = .ok (.i2s, 1) := by decide +kernel
theorem dX5_put_89 : decode cX5_put 89 = .ok (.goto 4, 3) := by decide +kernel
theorem dX5_put_92 : decode cX5_put 92 = .ok (.iload_n 3, 1) := by decide +kernel
theorem dX5_put_93 : decode cX5_put 93 = .ok (.iastore, 1) := by decide +kernel
theorem dX5_put_94 : decode cX5_put 94 = .ok (.iconst 1, 1) := by decide +kernel
theorem dX5_put_95 : decode cX5_put 95 = .ok (.ireturn, 1) := by decide +kernel
set_option maxRecDepth 20000 in
theorem ggX5_cell_X5_isSheet : GoodIn wsX5_cell wsX5_isSheet := goodIn_r _ [9, 10, 11, 8, 12] (by decide +kernel) (by decide +kernel)
set_option maxRecDepth 20000 in
theorem gX5_cell_X5_isSheet : GoodIn wsX5_cell (va_wsS RX5 66 yX5_isSheet wsX5_isSheet) := goodIn_app (goodIn_of _ (by decide +kernel)) ggX5_cell_X5_isSheet
set_option maxRecDepth 20000 in
theorem ggX5_cell_X5_isSort : GoodIn wsX5_cell wsX5_isSort := goodIn_r _ [15, 10, 11, 8, 12] (by decide +kernel) (by decide +kernel)
set_option maxRecDepth 20000 in
theorem gX5_cell_X5_isSort : GoodIn wsX5_cell (va_wsS RX5 70 yX5_isSort wsX5_isSort) := goodIn_app (goodIn_of _ (by decide +kernel)) ggX5_cell_X5_isSort
set_option maxRecDepth 20000 in
theorem ggX5_cell_X5_lost : GoodIn wsX5_cell wsX5_lost := goodIn_r _ [19, 1, 2, 20, 21, 22, 23, 24, 25, 26, 27, 28, 29, 30, 31, 32, 33, 34, 35, 36, 37, 38, 39, 40, 41, 42, 43, 44, 45, 46, 47, 48] (by decide +kernel) (by decide +kernel)
set_option maxRecDepth 20000 in
theorem gX5_cell_X5_lost : GoodIn wsX5_cell (wsV RX5 185 RX5 yX5_lost wsX5_lost) := goodIn_app (goodIn_of _ (by decide +kernel)) ggX5_cell_X5_lost
set_option maxRecDepth 20000 in
theorem ggX5_cell_X5_within : GoodIn wsX5_cell wsX5_within := goodIn_r _ [12] (by decide +kernel) (by decide +kernel)
set_option maxRecDepth 20000 in
theorem gX5_cell_X5_within : GoodIn wsX5_cell (va_wsS RX5 56 yX5_within wsX5_within) := goodIn_app (goodIn_of _ (by decide +kernel)) ggX5_cell_X5_within
theorem dX5_cell_0 : decode cX5_cell 0 = .ok (.aload_n 0, 1) := by decide +kernel
theorem dX5_cell_1 : decode cX5_cell 1 = .ok (.iconst 0, 1) := by decide +kernel
theorem dX5_cell_2 : decode cX5_cell 2 = .ok (.putfield 50, 3) := by decide +kernel
theorem dX5_cell_5 : decode cX5_cell 5 = .ok (.iload_n 1, 1) := by decide +kernel
theorem dX5_cell_6 : decode cX5_cell 6 = .ok (.invokestatic 66, 3) := by decide +kernel
theorem dX5_cell_9 : decode cX5_cell 9 = .ok (.ifCond .eq 10, 3) := by decide +kernel
theorem dX5_cell_12 : decode cX5_cell 12 = .ok (.iload_n 3, 1) := by decide +kernel
theorem dX5_cell_13 : decode cX5_cell 13 = .ok (.invokestatic 70, 3) := by decide +kernel
theorem dX5_cell_16 : decode cX5_cell 16 = .ok (.ifCond .ne 7, 3) := by decide +kernel
theorem dX5_cell_19 : decode cX5_cell 19 = .ok (.ldc2_w 54, 3) := by decide +kernel
theorem dX5_cell_22 : decode cX5_cell 22 = .ok (.lreturn, 1) := by decide +kernel
theorem dX5_cell_23 : decode cX5_cell 23 = .ok (.aload_n 0, 1) := by decide +kernel
theorem dX5_cell_24 : decode cX5_cell 24 = .ok (.getfield 9, 3) := by decide +kernel
theorem dX5_cell_27 : decode cX5_cell 27 = .ok (.iload_n 1, 1) := by decide +kernel
theorem dX5_cell_28 : decode cX5_cell 28 = .ok (.iaload, 1) := by decide +kernel
theorem dX5_cell_29 : decode cX5_cell 29 = .ok (.bipush (-9), 2) := by decide +kernel
theorem dX5_cell_31 : decode cX5_cell 31 = .ok (.if_icmp .eq 19, 3) := by decide +kernel
theorem dX5_cell_34 : decode cX5_cell 34 = .ok (.aload_n 0, 1) := by decide +kernel
theorem dX5_cell_35 : decode cX5_cell 35 = .ok (.getfield 9, 3) := by decide +kernel
theorem dX5_cell_38 : decode cX5_cell 38 = .ok (.iload_n 1, 1) := by decide +kernel
theorem dX5_cell_39 : decode cX5_cell 39 = .ok (.iaload, 1) := by decide +kernel
theorem dX5_cell_40 : decode cX5_cell 40 = .ok (.iload_n 3, 1) := by decide +kernel
theorem dX5_cell_41 : decode cX5_cell 41 = .ok (.if_icmp .eq 9, 3) := by decide +kernel
theorem dX5_cell_44 : decode cX5_cell 44 = .ok (.aload_n 0, 1) := by decide +kernel
theorem dX5_cell_45 : decode cX5_cell 45 = .ok (.iconst 2, 1) := by decide +kernel
theorem dX5_cell_46 : decode cX5_cell 46 = .ok (.invokevirtual 185, 3) := by decide +kernel
theorem dX5_cell_49 : decode cX5_cell 49 = .ok (.lreturn, 1) := by decide +kernel
theorem dX5_cell_50 : decode cX5_cell 50 = .ok (.aload_n 0, 1) := by decide +kernel
theorem dX5_cell_51 : decode cX5_cell 51 = .ok (.getfield 9, 3) := by decide +kernel
theorem dX5_cell_54 : decode cX5_cell 54 = .ok (.iload_n 1, 1) := by decide +kernel
theorem dX5_cell_55 : decode cX5_cell 55 = .ok (.iaload, 1) := by decide +kernel
theorem dX5_cell_56 : decode cX5_cell 56 = .ok (.bipush (-9), 2) := by decide +kernel
theorem dX5_cell_58 : decode cX5_cell 58 = .ok (.if_icmp .ne 9, 3) := by decide +kernel
theorem dX5_cell_61 : decode cX5_cell 61 = .ok (.aload_n 0, 1) := by decide +kernel
theorem dX5_cell_62 : decode cX5_cell 62 = .ok (.iconst 1, 1) := by decide +kernel
theorem dX5_cell_63 : decode cX5_cell 63 = .ok (.invokevirtual 185, 3) := by decide +kernel
theorem dX5_cell_66 : decode cX5_cell 66 = .ok (.lreturn, 1) := by decide +kernel
theorem dX5_cell_67 : decode cX5_cell 67 = .ok (.iload_n 2, 1) := by decide +kernel
theorem dX5_cell_68 : decode cX5_cell 68 = .ok (.iconst 0, 1) := by decide +kernel
theorem dX5_cell_69 : decode cX5_cell 69 = .ok (.aload_n 0, 1) := by decide +kernel
theorem dX5_cell_70 : decode cX5_cell 70 = .ok (.getfield 13, 3) := by decide +kernel
theorem dX5_cell_73 : decode cX5_cell 73 = .ok (.iload_n 1, 1) := by decide +kernel
theorem dX5_cell_74 : decode cX5_cell 74 = .ok (.iaload, 1) := by decide +kernel
theorem dX5_cell_75 : decode cX5_cell 75 = .ok (.iconst 1, 1) := by decide +kernel
theorem dX5_cell_76 : decode cX5_cell 76 = .ok (.isub, 1) := by decide +kernel
theorem dX5_cell_77 : decode cX5_cell 77 = .ok (.invokestatic 56, 3) := by decide +kernel
theorem dX5_cell_80 : decode cX5_cell 80 = .ok (.ifCond .ne 9, 3) := by decide +kernel
theorem dX5_cell_83 : decode cX5_cell 83 = .ok (.aload_n 0, 1) := by decide +kernel
theorem dX5_cell_84 : decode cX5_cell 84 = .ok (.iconst 3, 1) := by decide +kernel
theorem dX5_cell_85 : decode cX5_cell 85 = .ok (.invokevirtual 185, 3) := by decide +kernel
theorem dX5_cell_88 : decode cX5_cell 88 = .ok (.lreturn, 1) := by decide +kernel
theorem dX5_cell_89 : decode cX5_cell 89 = .ok (.aload_n 0, 1) := by decide +kernel
theorem dX5_cell_90 : decode cX5_cell 90 = .ok (.getfield 16, 3) := by decide +kernel
theorem dX5_cell_93 : decode cX5_cell 93 = .ok (.bipush 60, 2) := by decide +kernel
theorem dX5_cell_95 : decode cX5_cell 95 = .ok (.iload_n 1, 1) := by decide +kernel
theorem dX5_cell_96 : decode cX5_cell 96 = .ok (.imul, 1) := by decide +kernel
theorem dX5_cell_97 : decode cX5_cell 97 = .ok (.iload_n 2, 1) := by decide +kernel
theorem dX5_cell_98 : decode cX5_cell 98 = .ok (.iadd, 1) := by decide +kernel
theorem dX5_cell_99 : decode cX5_cell 99 = .ok (.iaload, 1) := by decide +kernel
theorem dX5_cell_100 : decode cX5_cell 100 = .ok (.i2l, 1) := by decide +kernel
theorem dX5_cell_101 : decode cX5_cell 101 = .ok (.lreturn, 1) := by decide +kernel
set_option maxRecDepth 20000 in
theorem ggX5_copy_X5_isSheet : GoodIn wsX5_copy wsX5_isSheet := goodIn_r _ [8, 9, 10, 7, 11] (by decide +kernel) (by decide +kernel)
set_option maxRecDepth 20000 in
theorem gX5_copy_X5_isSheet : GoodIn wsX5_copy (va_wsS RX5 66 yX5_isSheet wsX5_isSheet) := goodIn_app (goodIn_of _ (by decide +kernel)) ggX5_copy_X5_isSheet
set_option maxRecDepth 20000 in
theorem ggX5_copy_X5_fails : GoodIn wsX5_copy wsX5_fails := goodIn_r _ [15, 1, 16, 17, 18, 19, 20, 21, 22, 23, 24, 25, 26, 27, 28, 29, 30, 31, 32, 33, 34, 35, 36, 37, 38, 39, 40, 41, 42, 43, 44] (by decide +kernel) (by decide +kernel)
set_option maxRecDepth 20000 in
theorem gX5_copy_X5_fails : GoodIn wsX5_copy (wsV RX5 77 RX5 yX5_fails wsX5_fails) := goodIn_app (goodIn_of _ (by decide +kernel)) ggX5_copy_X5_fails
theorem dX5_copy_0 : decode cX5_copy 0 = .ok (.aload_n 0, 1) := by decide +kernel
theorem dX5_copy_1 : decode cX5_copy 1 = .ok (.iconst 0, 1) := by decide +kernel
theorem dX5_copy_2 : decode cX5_copy 2 = .ok (.putfield 50, 3) := by decide +kernel
theorem dX5_copy_5 : decode cX5_copy 5 = .ok (.iload_n 1, 1) := by decide +kernel
theorem dX5_copy_6 : decode cX5_copy 6 = .ok (.invokestatic 66, 3) := by decide +kernel
theorem dX5_copy_9 : decode cX5_copy 9 = .ok (.ifCond .eq 10, 3) := by decide +kernel
theorem dX5_copy_12 : decode cX5_copy 12 = .ok (.iload_n 3, 1) := by decide +kernel
theorem dX5_copy_13 : decode cX5_copy 13 = .ok (.invokestatic 66, 3) := by decide +kernel
theorem dX5_copy_16 : decode cX5_copy 16 = .ok (.ifCond .ne 5, 3) := by decide +kernel
theorem dX5_copy_19 : decode cX5_copy 19 = .ok (.iconst (-1), 1) := by decide +kernel
theorem dX5_copy_20 : decode cX5_copy 20 = .ok (.ireturn, 1) := by decide +kernel
theorem dX5_copy_21 : decode cX5_copy 21 = .ok (.aload_n 0, 1) := by decide +kernel
theorem dX5_copy_22 : decode cX5_copy 22 = .ok (.getfield 9, 3) := by decide +kernel
theorem dX5_copy_25 : decode cX5_copy 25 = .ok (.iload_n 1, 1) := by decide +kernel
theorem dX5_copy_26 : decode cX5_copy 26 = .ok (.iaload, 1) := by decide +kernel
theorem dX5_copy_27 : decode cX5_copy 27 = .ok (.bipush (-9), 2) := by decide +kernel
theorem dX5_copy_29 : decode cX5_copy 29 = .ok (.if_icmp .eq 14, 3) := by decide +kernel
theorem dX5_copy_32 : decode cX5_copy 32 = .ok (.aload_n 0, 1) := by decide +kernel
theorem dX5_copy_33 : decode cX5_copy 33 = .ok (.getfield 9, 3) := by decide +kernel
theorem dX5_copy_36 : decode cX5_copy 36 = .ok (.iload_n 3, 1) := by decide +kernel
theorem dX5_copy_37 : decode cX5_copy 37 = .ok (.iaload, 1) := by decide +kernel
theorem dX5_copy_38 : decode cX5_copy 38 = .ok (.bipush (-9), 2) := by decide +kernel
theorem dX5_copy_40 : decode cX5_copy 40 = .ok (.if_icmp .ne 9, 3) := by decide +kernel
theorem dX5_copy_43 : decode cX5_copy 43 = .ok (.aload_n 0, 1) := by decide +kernel
theorem dX5_copy_44 : decode cX5_copy 44 = .ok (.iconst 1, 1) := by decide +kernel
theorem dX5_copy_45 : decode cX5_copy 45 = .ok (.invokevirtual 77, 3) := by decide +kernel
theorem dX5_copy_48 : decode cX5_copy 48 = .ok (.ireturn, 1) := by decide +kernel
theorem dX5_copy_49 : decode cX5_copy 49 = .ok (.aload_n 0, 1) := by decide +kernel
theorem dX5_copy_50 : decode cX5_copy 50 = .ok (.getfield 9, 3) := by decide +kernel
theorem dX5_copy_53 : decode cX5_copy 53 = .ok (.iload_n 1, 1) := by decide +kernel
theorem dX5_copy_54 : decode cX5_copy 54 = .ok (.iaload, 1) := by decide +kernel
theorem dX5_copy_55 : decode cX5_copy 55 = .ok (.aload_n 0, 1) := by decide +kernel
theorem dX5_copy_56 : decode cX5_copy 56 = .ok (.getfield 9, 3) := by decide +kernel
theorem dX5_copy_59 : decode cX5_copy 59 = .ok (.iload_n 3, 1) := by decide +kernel
theorem dX5_copy_60 : decode cX5_copy 60 = .ok (.iaload, 1) := by decide +kernel
theorem dX5_copy_61 : decode cX5_copy 61 = .ok (.if_icmp .eq 9, 3) := by decide +kernel
theorem dX5_copy_64 : decode cX5_copy 64 = .ok (.aload_n 0, 1) := by decide +kernel
theorem dX5_copy_65 : decode cX5_copy 65 = .ok (.iconst 2, 1) := by decide +kernel
theorem dX5_copy_66 : decode cX5_copy 66 = .ok (.invokevirtual 77, 3) := by decide +kernel
theorem dX5_copy_69 : decode cX5_copy 69 = .ok (.ireturn, 1) := by decide +kernel
theorem dX5_copy_70 : decode cX5_copy 70 = .ok (.iload_n 2, 1) := by decide +kernel
theorem dX5_copy_71 : decode cX5_copy 71 = .ok (.ifCond .lt 38, 3) := by decide +kernel
theorem dX5_copy_74 : decode cX5_copy 74 = .ok (.iload 4, 2) := by decide +kernel
theorem dX5_copy_76 : decode cX5_copy 76 = .ok (.ifCond .lt 33, 3) := by decide +kernel
theorem dX5_copy_79 : decode cX5_copy 79 = .ok (.iload 5, 2) := by decide +kernel
theorem dX5_copy_81 : decode cX5_copy 81 = .ok (.ifCond .lt 28, 3) := by decide +kernel
theorem dX5_copy_84 : decode cX5_copy 84 = .ok (.iload_n 2, 1) := by decide +kernel
theorem dX5_copy_85 : decode cX5_copy 85 = .ok (.aload_n 0, 1) := by decide +kernel
theorem dX5_copy_86 : decode cX5_copy 86 = .ok (.getfield 13, 3) := by decide +kernel
theorem dX5_copy_89 : decode cX5_copy 89 = .ok (.iload_n 1, 1) := by decide +kernel
theorem dX5_copy_90 : decode cX5_copy 90 = .ok (.iaload, 1) := by decide +kernel
theorem dX5_copy_91 : decode cX5_copy 91 = .ok (.if_icmp .gt 18, 3) := by decide +kernel
theorem dX5_copy_94 : decode cX5_copy 94 = .ok (.iload 4, 2) := by decide +kernel
theorem dX5_copy_96 : decode cX5_copy 96 = .ok (.aload_n 0, 1) := by decide +kernel
theorem dX5_copy_97 : decode cX5_copy 97 = .ok (.getfield 13, 3) := by decide +kernel
theorem dX5_copy_100 : decode cX5_copy 100 = .ok (.iload_n 3, 1) := by decide +kernel
theorem dX5_copy_101 : decode cX5_copy 101 = .ok (.iaload, 1) := by decide +kernel
theorem dX5_copy_102 : decode cX5_copy 102 = .ok (.if_icmp .gt 7, 3) := by decide +kernel
theorem dX5_copy_105 : decode cX5_copy 105 = .ok (.iconst 1, 1) := by decide +kernel
theorem dX5_copy_106 : decode cX5_copy 106 = .ok (.goto 4, 3) := by decide +kernel
theorem dX5_copy_109 : decode cX5_copy 109 = .ok (.iconst 0, 1) := by decide +kernel
theorem dX5_copy_110 : decode cX5_copy 110 = .ok (.istore 6, 2) := by decide +kernel
theorem dX5_copy_112 : decode cX5_copy 112 = .ok (.iload 6, 2) := by decide +kernel
theorem dX5_copy_114 : decode cX5_copy 114 = .ok (.ifCond .eq 30, 3) := by decide +kernel
theorem dX5_copy_117 : decode cX5_copy 117 = .ok (.iload 5, 2) := by decide +kernel
theorem dX5_copy_119 : decode cX5_copy 119 = .ok (.aload_n 0, 1) := by decide +kernel
theorem dX5_copy_120 : decode cX5_copy 120 = .ok (.getfield 13, 3) := by decide +kernel
theorem dX5_copy_123 : decode cX5_copy 123 = .ok (.iload_n 1, 1) := by decide +kernel
theorem dX5_copy_124 : decode cX5_copy 124 = .ok (.iaload, 1) := by decide +kernel
theorem dX5_copy_125 : decode cX5_copy 125 = .ok (.iload_n 2, 1) := by decide +kernel
theorem dX5_copy_126 : decode cX5_copy 126 = .ok (.isub, 1) := by decide +kernel
theorem dX5_copy_127 : decode cX5_copy 127 = .ok (.if_icmp .gt 17, 3) := by decide +kernel
theorem dX5_copy_130 : decode cX5_copy 130 = .ok (.iload 5, 2) := by decide +kernel
theorem dX5_copy_132 : decode cX5_copy 132 = .ok (.aload_n 0, 1) := by decide +kernel
theorem dX5_copy_133 : decode cX5_copy 133 = .ok (.getfield 13, 3) := by decide +kernel
theorem dX5_copy_136 : decode cX5_copy 136 = .ok (.iload_n 3, 1) := by decide +kernel
theorem dX5_copy_137 : decode cX5_copy 137 = .ok (.iaload, 1) := by decide +kernel
theorem dX5_copy_138 : decode cX5_copy 138 = .ok (.iload 4, 2) := by decide +kernel
theorem dX5_copy_140 : decode cX5_copy 140 = .ok (.isub, 1) := by decide +kernel
theorem dX5_copy_141 : decode cX5_copy 141 = .ok (.if_icmp .le 9, 3) := by decide +kernel
theorem dX5_copy_144 : decode cX5_copy 144 = .ok (.aload_n 0, 1) := by decide +kernel
theorem dX5_copy_145 : decode cX5_copy 145 = .ok (.iconst 3, 1) := by decide +kernel
theorem dX5_copy_146 : decode cX5_copy 146 = .ok (.invokevirtual 77, 3) := by decide +kernel
theorem dX5_copy_149 : decode cX5_copy 149 = .ok (.ireturn, 1) := by decide +kernel
theorem dX5_copy_150 : decode cX5_copy 150 = .ok (.iload_n 2, 1) := by decide +kernel
theorem dX5_copy_151 : decode cX5_copy 151 = .ok (.iload 4, 2) := by decide +kernel
theorem dX5_copy_153 : decode cX5_copy 153 = .ok (.if_icmp .ge 7, 3) := by decide +kernel
theorem dX5_copy_156 : decode cX5_copy 156 = .ok (.iconst 1, 1) := by decide +kernel
theorem dX5_copy_157 : decode cX5_copy 157 = .ok (.goto 4, 3) := by decide +kernel
theorem dX5_copy_160 : decode cX5_copy 160 = .ok (.iconst 0, 1) := by decide +kernel
theorem dX5_copy_161 : decode cX5_copy 161 = .ok (.istore 7, 2) := by decide +kernel
theorem dX5_copy_163 : decode cX5_copy 163 = .ok (.iconst 0, 1) := by decide +kernel
theorem dX5_copy_164 : decode cX5_copy 164 = .ok (.istore 8, 2) := by decide +kernel
theorem dX5_copy_166 : decode cX5_copy 166 = .ok (.iload 8, 2) := by decide +kernel
theorem dX5_copy_168 : decode cX5_copy 168 = .ok (.iload 5, 2) := by decide +kernel
theorem dX5_copy_170 : decode cX5_copy 170 = .ok (.if_icmp .ge 57, 3) := by decide +kernel
theorem dX5_copy_173 : decode cX5_copy 173 = .ok (.iload 7, 2) := by decide +kernel
theorem dX5_copy_175 : decode cX5_copy 175 = .ok (.ifCond .eq 13, 3) := by decide +kernel
theorem dX5_copy_178 : decode cX5_copy 178 = .ok (.iload 5, 2) := by decide +kernel
theorem dX5_copy_180 : decode cX5_copy 180 = .ok (.iconst 1, 1) := by decide +kernel
theorem dX5_copy_181 : decode cX5_copy 181 = .ok (.isub, 1) := by decide +kernel
theorem dX5_copy_182 : decode cX5_copy 182 = .ok (.iload 8, 2) := by decide +kernel
theorem dX5_copy_184 : decode cX5_copy 184 = .ok (.isub, 1) := by decide +kernel
theorem dX5_copy_185 : decode cX5_copy 185 = .ok (.goto 5, 3) := by decide +kernel
theorem dX5_copy_188 : decode cX5_copy 188 = .ok (.iload 8, 2) := by decide +kernel
theorem dX5_copy_190 : decode cX5_copy 190 = .ok (.istore 9, 2) := by decide +kernel
theorem dX5_copy_192 : decode cX5_copy 192 = .ok (.aload_n 0, 1) := by decide +kernel
theorem dX5_copy_193 : decode cX5_copy 193 = .ok (.getfield 16, 3) := by decide +kernel
theorem dX5_copy_196 : decode cX5_copy 196 = .ok (.bipush 60, 2) := by decide +kernel
theorem dX5_copy_198 : decode cX5_copy 198 = .ok (.iload_n 3, 1) := by decide +kernel
theorem dX5_copy_199 : decode cX5_copy 199 = .ok (.imul, 1) := by decide +kernel
theorem dX5_copy_200 : decode cX5_copy 200 = .ok (.iload 4, 2) := by decide +kernel
theorem dX5_copy_202 : decode cX5_copy 202 = .ok (.iadd, 1) := by decide +kernel
theorem dX5_copy_203 : decode cX5_copy 203 = .ok (.iload 9, 2) := by decide +kernel
theorem dX5_copy_205 : decode cX5_copy 205 = .ok (.iadd, 1) := by decide +kernel
theorem dX5_copy_206 : decode cX5_copy 206 = .ok (.aload_n 0, 1) := by decide +kernel
theorem dX5_copy_207 : decode cX5_copy 207 = .ok (.getfield 16, 3) := by decide +kernel
theorem dX5_copy_210 : decode cX5_copy 210 = .ok (.bipush 60, 2) := by decide +kernel
theorem dX5_copy_212 : decode cX5_copy 212 = .ok (.iload_n 1, 1) := by decide +kernel
theorem dX5_copy_213 : decode cX5_copy 213 = .ok (.imul, 1) := by decide +kernel
theorem dX5_copy_214 : decode cX5_copy 214 = .ok (.iload_n 2, 1) := by decide +kernel
theorem dX5_copy_215 : decode cX5_copy 215 = .ok (.iadd, 1) := by decide +kernel
theorem dX5_copy_216 : decode cX5_copy 216 = .ok (.iload 9, 2) := by decide +kernel
theorem dX5_copy_218 : decode cX5_copy 218 = .ok (.iadd, 1) := by decide +kernel
theorem dX5_copy_219 : decode cX5_copy 219 = .ok (.iaload, 1) := by decide +kernel
theorem dX5_copy_220 : decode cX5_copy 220 = .ok (.iastore, 1) := by decide +kernel
theorem dX5_copy_221 : decode cX5_copy 221 = .ok (.iinc 8 1, 3) := by decide +kernel
theorem dX5_copy_224 : decode cX5_copy 224 = .ok (.goto (-58), 3) := by decide +kernel
theorem dX5_copy_227 : decode cX5_copy 227 = .ok (.iload 5, 2) := by decide +kernel
theorem dX5_copy_229 : decode cX5_copy 229 = .ok (.ireturn, 1) := by decide +kernel
theorem dX5_begins_0 : decode cX5_begins 0 = .ok (.aload_n 0, 1) := by decide +kernel
theorem dX5_begins_1 : decode cX5_begins 1 = .ok (.bipush 31, 2) := by decide +kernel
theorem dX5_begins_3 : decode cX5_begins 3 = .ok (.aload_n 0, 1) := by decide +kernel
theorem dX5_begins_4 : decode cX5_begins 4 = .ok (.getfield 189, 3) := by decide +kernel
theorem dX5_begins_7 : decode cX5_begins 7 = .ok (.imul, 1) := by decide +kernel
theorem dX5_begins_8 : decode cX5_begins 8 = .ok (.iload_n 1, 1) := by decide +kernel
theorem dX5_begins_9 : decode cX5_begins 9 = .ok (.iadd, 1) := by decide +kernel
theorem dX5_begins_10 : decode cX5_begins 10 = .ok (.putfield 189, 3) := by decide +kernel
theorem dX5_begins_13 : decode cX5_begins 13 = .ok (.return_, 1) := by decide +kernel
set_option maxRecDepth 20000 in
theorem ggX5_tell_X5_isStander : GoodIn wsX5_tell wsX5_isStander := goodIn_r _ [7, 8, 14, 15, 16, 17, 18, 19, 20, 21, 22, 23, 24, 25, 26, 27, 28, 29, 30, 31, 32, 33, 34, 35, 36, 37, 38, 39, 40, 41, 42] (by decide +kernel) (by decide +kernel)
set_option maxRecDepth 20000 in
theorem gX5_tell_X5_isStander : GoodIn wsX5_tell (wsV RX5 113 RX5 yX5_isStander wsX5_isStander) := goodIn_app (goodIn_of _ (by decide +kernel)) ggX5_tell_X5_isStander
set_option maxRecDepth 20000 in
theorem ggX5_tell_X5_begins : GoodIn wsX5_tell wsX5_begins := goodIn_r _ [12, 13, 14, 15, 16, 17, 18, 19, 20, 21, 22, 23, 24, 25, 26, 27, 28, 29, 30, 31, 32, 33, 34, 35, 36, 37, 38, 39, 40, 41, 42] (by decide +kernel) (by decide +kernel)
set_option maxRecDepth 20000 in
theorem gX5_tell_X5_begins : GoodIn wsX5_tell (wsV RX5 192 RX5 yX5_begins wsX5_begins) := goodIn_app (goodIn_of _ (by decide +kernel)) ggX5_tell_X5_begins
theorem dX5_tell_0 : decode cX5_tell 0 = .ok (.aload_n 0, 1) := by decide +kernel
theorem dX5_tell_1 : decode cX5_tell 1 = .ok (.iload_n 1, 1) := by decide +kernel
theorem dX5_tell_2 : decode cX5_tell 2 = .ok (.invokevirtual 113, 3) := by decide +kernel
theorem dX5_tell_5 : decode cX5_tell 5 = .ok (.ifCond .ne 5, 3) := by decide +kernel
theorem dX5_tell_8 : decode cX5_tell 8 = .ok (.iconst (-1), 1) := by decide +kernel
theorem dX5_tell_9 : decode cX5_tell 9 = .ok (.ireturn, 1) := by decide +kernel
theorem dX5_tell_10 : decode cX5_tell 10 = .ok (.aload_n 0, 1) := by decide +kernel
theorem dX5_tell_11 : decode cX5_tell 11 = .ok (.getfield 25, 3) := by decide +kernel
theorem dX5_tell_14 : decode cX5_tell 14 = .ok (.iload_n 1, 1) := by decide +kernel
theorem dX5_tell_15 : decode cX5_tell 15 = .ok (.iaload, 1) := by decide +kernel
theorem dX5_tell_16 : decode cX5_tell 16 = .ok (.istore_n 2, 1) := by decide +kernel
theorem dX5_tell_17 : decode cX5_tell 17 = .ok (.aload_n 0, 1) := by decide +kernel
theorem dX5_tell_18 : decode cX5_tell 18 = .ok (.getfield 19, 3) := by decide +kernel
theorem dX5_tell_21 : decode cX5_tell 21 = .ok (.iload_n 1, 1) := by decide +kernel
theorem dX5_tell_22 : decode cX5_tell 22 = .ok (.iaload, 1) := by decide +kernel
theorem dX5_tell_23 : decode cX5_tell 23 = .ok (.lookupswitch 67 #[(1, 25), (2, 40)], 25) := by decide +kernel
theorem dX5_tell_48 : decode cX5_tell 48 = .ok (.aload_n 0, 1) := by decide +kernel
theorem dX5_tell_49 : decode cX5_tell 49 = .ok (.iconst 2, 1) := by decide +kernel
theorem dX5_tell_50 : decode cX5_tell 50 = .ok (.invokevirtual 192, 3) := by decide +kernel
theorem dX5_tell_53 : decode cX5_tell 53 = .ok (.aload_n 0, 1) := by decide +kernel
theorem dX5_tell_54 : decode cX5_tell 54 = .ok (.iconst 1, 1) := by decide +kernel
theorem dX5_tell_55 : decode cX5_tell 55 = .ok (.invokevirtual 192, 3) := by decide +kernel
theorem dX5_tell_58 : decode cX5_tell 58 = .ok (.iload_n 2, 1) := by decide +kernel
theorem dX5_tell_59 : decode cX5_tell 59 = .ok (.bipush 100, 2) := by decide +kernel
theorem dX5_tell_61 : decode cX5_tell 61 = .ok (.iadd, 1) := by decide +kernel
theorem dX5_tell_62 : decode cX5_tell 62 = .ok (.ireturn, 1) := by decide +kernel
theorem dX5_tell_63 : decode cX5_tell 63 = .ok (.aload_n 0, 1) := by decide +kernel
theorem dX5_tell_64 : decode cX5_tell 64 = .ok (.iconst 3, 1) := by decide +kernel
theorem dX5_tell_65 : decode cX5_tell 65 = .ok (.invokevirtual 192, 3) := by decide +kernel
theorem dX5_tell_68 : decode cX5_tell 68 = .ok (.aload_n 0, 1) := by decide +kernel
theorem dX5_tell_69 : decode cX5_tell 69 = .ok (.iconst 2, 1) := by decide +kernel
theorem dX5_tell_70 : decode cX5_tell 70 = .ok (.invokevirtual 192, 3) := by decide +kernel
theorem dX5_tell_73 : decode cX5_tell 73 = .ok (.aload_n 0, 1) := by decide +kernel
theorem dX5_tell_74 : decode cX5_tell 74 = .ok (.iconst 1, 1) := by decide +kernel
theorem dX5_tell_75 : decode cX5_tell 75 = .ok (.invokevirtual 192, 3) := by decide +kernel
theorem dX5_tell_78 : decode cX5_tell 78 = .ok (.aload_n 0, 1) := by decide +kernel
theorem dX5_tell_79 : decode cX5_tell 79 = .ok (.iconst 1, 1) := by decide +kernel
theorem dX5_tell_80 : decode cX5_tell 80 = .ok (.invokevirtual 192, 3) := by decide +kernel
theorem dX5_tell_83 : decode cX5_tell 83 = .ok (.iconst 2, 1) := by decide +kernel
theorem dX5_tell_84 : decode cX5_tell 84 = .ok (.iload_n 2, 1) := by decide +kernel
theorem dX5_tell_85 : decode cX5_tell 85 = .ok (.imul, 1) := by decide +kernel
theorem dX5_tell_86 : decode cX5_tell 86 = .ok (.bipush 100, 2) := by decide +kernel
theorem dX5_tell_88 : decode cX5_tell 88 = .ok (.iadd, 1) := by decide +kernel
theorem dX5_tell_89 : decode cX5_tell 89 = .ok (.ireturn, 1) := by decide +kernel
theorem dX5_tell_90 : decode cX5_tell 90 = .ok (.aload_n 0, 1) := by decide +kernel
theorem dX5_tell_91 : decode cX5_tell 91 = .ok (.iconst 1, 1) := by decide +kernel
theorem dX5_tell_92 : decode cX5_tell 92 = .ok (.invokevirtual 192, 3) := by decide +kernel
theorem dX5_tell_95 : decode cX5_tell 95 = .ok (.iload_n 2, 1) := by decide +kernel
theorem dX5_tell_96 : decode cX5_tell 96 = .ok (.ireturn, 1) := by decide +kernel
set_option maxRecDepth 20000 in
theorem ggX5_tax_X5_isStander : GoodIn wsX5_tax wsX5_isStander := goodIn_r _ [6, 7, 13, 14, 15, 16, 17, 18, 19, 20, 21, 22, 23, 24, 25, 26, 27, 28, 29, 30, 31, 32, 33, 34, 35, 36, 37, 38, 39, 40, 41] (by decide +kernel) (by decide +kernel)
set_option maxRecDepth 20000 in
theorem gX5_tax_X5_isStander : GoodIn wsX5_tax (wsV RX5 113 RX5 yX5_isStander wsX5_isStander) := goodIn_app (goodIn_of _ (by decide +kernel)) ggX5_tax_X5_isStander
set_option maxRecDepth 20000 in
theorem ggX5_tax_X5_begins : GoodIn wsX5_tax wsX5_begins := goodIn_r _ [11, 12, 13, 14, 15, 16, 17, 18, 19, 20, 21, 22, 23, 24, 25, 26, 27, 28, 29, 30, 31, 32, 33, 34, 35, 36, 37, 38, 39, 40, 41] (by decide +kernel) (by decide +kernel)
set_option maxRecDepth 20000 in
theorem gX5_tax_X5_begins : GoodIn wsX5_tax (wsV RX5 192 RX5 yX5_begins wsX5_begins) := goodIn_app (goodIn_of _ (by decide +kernel)) ggX5_tax_X5_begins
theorem dX5_tax_0 : decode cX5_tax 0 = .ok (.aload_n 0, 1) := by decide +kernel
theorem dX5_tax_1 : decode cX5_tax 1 = .ok (.iload_n 1, 1) := by decide +kernel
theorem dX5_tax_2 : decode cX5_tax 2 = .ok (.invokevirtual 113, 3) := by decide +kernel
theorem dX5_tax_5 : decode cX5_tax 5 = .ok (.ifCond .ne 5, 3) := by decide +kernel
theorem dX5_tax_8 : decode cX5_tax 8 = .ok (.iconst (-1), 1) := by decide +kernel
theorem dX5_tax_9 : decode cX5_tax 9 = .ok (.ireturn, 1) := by decide +kernel
theorem dX5_tax_10 : decode cX5_tax 10 = .ok (.aload_n 0, 1) := by decide +kernel
theorem dX5_tax_11 : decode cX5_tax 11 = .ok (.aload_n 0, 1) := by decide +kernel
theorem dX5_tax_12 : decode cX5_tax 12 = .ok (.getfield 19, 3) := by decide +kernel
theorem dX5_tax_15 : decode cX5_tax 15 = .ok (.iload_n 1, 1) := by decide +kernel
theorem dX5_tax_16 : decode cX5_tax 16 = .ok (.iaload, 1) := by decide +kernel
theorem dX5_tax_17 : decode cX5_tax 17 = .ok (.iconst 2, 1) := by decide +kernel
theorem dX5_tax_18 : decode cX5_tax 18 = .ok (.if_icmp .ne 7, 3) := by decide +kernel
theorem dX5_tax_21 : decode cX5_tax 21 = .ok (.iconst 5, 1) := by decide +kernel
theorem dX5_tax_22 : decode cX5_tax 22 = .ok (.goto 4, 3) := by decide +kernel
theorem dX5_tax_25 : decode cX5_tax 25 = .ok (.iconst 4, 1) := by decide +kernel
theorem dX5_tax_26 : decode cX5_tax 26 = .ok (.invokevirtual 192, 3) := by decide +kernel
theorem dX5_tax_29 : decode cX5_tax 29 = .ok (.aload_n 0, 1) := by decide +kernel
theorem dX5_tax_30 : decode cX5_tax 30 = .ok (.getfield 19, 3) := by decide +kernel
theorem dX5_tax_33 : decode cX5_tax 33 = .ok (.iload_n 1, 1) := by decide +kernel
theorem dX5_tax_34 : decode cX5_tax 34 = .ok (.iaload, 1) := by decide +kernel
theorem dX5_tax_35 : decode cX5_tax 35 = .ok (.iconst 2, 1) := by decide +kernel
theorem dX5_tax_36 : decode cX5_tax 36 = .ok (.if_icmp .ne 8, 3) := by decide +kernel
theorem dX5_tax_39 : decode cX5_tax 39 = .ok (.bipush 60, 2) := by decide +kernel
theorem dX5_tax_41 : decode cX5_tax 41 = .ok (.goto 4, 3) := by decide +kernel
theorem dX5_tax_44 : decode cX5_tax 44 = .ok (.iload_n 1, 1) := by decide +kernel
theorem dX5_tax_45 : decode cX5_tax 45 = .ok (.ireturn, 1) := by decide +kernel
set_option maxRecDepth 20000 in
theorem ggX5_as_X5_isStander : GoodIn wsX5_as wsX5_isStander := goodIn_r _ [7, 8, 16, 17, 18, 19, 20, 21, 22, 23, 24, 25, 26, 27, 28, 29, 30, 31, 32, 33, 34, 35, 36, 37, 38, 39, 40, 41, 42, 43, 44] (by decide +kernel) (by decide +kernel)
set_option maxRecDepth 20000 in
theorem gX5_as_X5_isStander : GoodIn wsX5_as (wsV RX5 113 RX5 yX5_isStander wsX5_isStander) := goodIn_app (goodIn_of _ (by decide +kernel)) ggX5_as_X5_isStander
set_option maxRecDepth 20000 in
theorem ggX5_as_X5_within : GoodIn wsX5_as wsX5_within := goodIn_r _ [11] (by decide +kernel) (by decide +kernel)
set_option maxRecDepth 20000 in
theorem gX5_as_X5_within : GoodIn wsX5_as (va_wsS RX5 56 yX5_within wsX5_within) := goodIn_app (goodIn_of _ (by decide +kernel)) ggX5_as_X5_within
set_option maxRecDepth 20000 in
theorem ggX5_as_X5_fails : GoodIn wsX5_as wsX5_fails := goodIn_r _ [15, 1, 16, 17, 18, 19, 20, 21, 22, 23, 24, 25, 26, 27, 28, 29, 30, 31, 32, 33, 34, 35, 36, 37, 38, 39, 40, 41, 42, 43, 44] (by decide +kernel) (by decide +kernel)
set_option maxRecDepth 20000 in
theorem gX5_as_X5_fails : GoodIn wsX5_as (wsV RX5 77 RX5 yX5_fails wsX5_fails) := goodIn_app (goodIn_of _ (by decide +kernel)) ggX5_as_X5_fails
theorem dX5_as_0 : decode cX5_as 0 = .ok (.aload_n 0, 1) := by decide +kernel
theorem dX5_as_1 : decode cX5_as 1 = .ok (.iconst 0, 1) := by decide +kernel
theorem dX5_as_2 : decode cX5_as 2 = .ok (.putfield 50, 3) := by decide +kernel
theorem dX5_as_5 : decode cX5_as 5 = .ok (.aload_n 0, 1) := by decide +kernel
theorem dX5_as_6 : decode cX5_as 6 = .ok (.iload_n 1, 1) := by decide +kernel
theorem dX5_as_7 : decode cX5_as 7 = .ok (.invokevirtual 113, 3) := by decide +kernel
theorem dX5_as_10 : decode cX5_as 10 = .ok (.ifCond .ne 5, 3) := by decide +kernel
theorem dX5_as_13 : decode cX5_as 13 = .ok (.iconst (-1), 1) := by decide +kernel
theorem dX5_as_14 : decode cX5_as 14 = .ok (.ireturn, 1) := by decide +kernel
theorem dX5_as_15 : decode cX5_as 15 = .ok (.iload_n 2, 1) := by decide +kernel
theorem dX5_as_16 : decode cX5_as 16 = .ok (.iconst 0, 1) := by decide +kernel
theorem dX5_as_17 : decode cX5_as 17 = .ok (.iconst 2, 1) := by decide +kernel
theorem dX5_as_18 : decode cX5_as 18 = .ok (.invokestatic 56, 3) := by decide +kernel
theorem dX5_as_21 : decode cX5_as 21 = .ok (.ifCond .ne 6, 3) := by decide +kernel
theorem dX5_as_24 : decode cX5_as 24 = .ok (.bipush (-2), 2) := by decide +kernel
theorem dX5_as_26 : decode cX5_as 26 = .ok (.ireturn, 1) := by decide +kernel
theorem dX5_as_27 : decode cX5_as 27 = .ok (.aload_n 0, 1) := by decide +kernel
theorem dX5_as_28 : decode cX5_as 28 = .ok (.getfield 19, 3) := by decide +kernel
theorem dX5_as_31 : decode cX5_as 31 = .ok (.iload_n 1, 1) := by decide +kernel
theorem dX5_as_32 : decode cX5_as 32 = .ok (.iaload, 1) := by decide +kernel
theorem dX5_as_33 : decode cX5_as 33 = .ok (.iload_n 2, 1) := by decide +kernel
theorem dX5_as_34 : decode cX5_as 34 = .ok (.if_icmp .lt 7, 3) := by decide +kernel
theorem dX5_as_37 : decode cX5_as 37 = .ok (.iconst 1, 1) := by decide +kernel
theorem dX5_as_38 : decode cX5_as 38 = .ok (.goto 8, 3) := by decide +kernel
theorem dX5_as_41 : decode cX5_as 41 = .ok (.aload_n 0, 1) := by decide +kernel
theorem dX5_as_42 : decode cX5_as 42 = .ok (.iconst 2, 1) := by decide +kernel
theorem dX5_as_43 : decode cX5_as 43 = .ok (.invokevirtual 77, 3) := by decide +kernel
theorem dX5_as_46 : decode cX5_as 46 = .ok (.ireturn, 1) := by decide +kernel
theorem dX5_trace_0 : decode cX5_trace 0 = .ok (.aload_n 0, 1) := by decide +kernel
theorem dX5_trace_1 : decode cX5_trace 1 = .ok (.getfield 189, 3) := by decide +kernel
theorem dX5_trace_4 : decode cX5_trace 4 = .ok (.ireturn, 1) := by decide +kernel
theorem dX5_fault_0 : decode cX5_fault 0 = .ok (.aload_n 0, 1) := by decide +kernel
theorem dX5_fault_1 : decode cX5_fault 1 = .ok (.getfield 50, 3) := by decide +kernel
theorem dX5_fault_4 : decode cX5_fault 4 = .ok (.ireturn, 1) := by decide +kernel
theorem dX5_many_0 : decode cX5_many 0 = .ok (.iload_n 1, 1) := by decide +kernel
theorem dX5_many_1 : decode cX5_many 1 = .ok (.ifCond .ne 10, 3) := by decide +kernel
theorem dX5_many_4 : decode cX5_many 4 = .ok (.aload_n 0, 1) := by decide +kernel
theorem dX5_many_5 : decode cX5_many 5 = .ok (.getfield 60, 3) := by decide +kernel
theorem dX5_many_8 : decode cX5_many 8 = .ok (.goto 41, 3) := by decide +kernel
theorem dX5_many_11 : decode cX5_many 11 = .ok (.iload_n 1, 1) := by decide +kernel
theorem dX5_many_12 : decode cX5_many 12 = .ok (.iconst 1, 1) := by decide +kernel
theorem dX5_many_13 : decode cX5_many 13 = .ok (.if_icmp .ne 10, 3) := by decide +kernel
theorem dX5_many_16 : decode cX5_many 16 = .ok (.aload_n 0, 1) := by decide +kernel
theorem dX5_many_17 : decode cX5_many 17 = .ok (.getfield 87, 3) := by decide +kernel
theorem dX5_many_20 : decode cX5_many 20 = .ok (.goto 29, 3) := by decide +kernel
theorem dX5_many_23 : decode cX5_many 23 = .ok (.iload_n 1, 1) := by decide +kernel
theorem dX5_many_24 : decode cX5_many 24 = .ok (.iconst 2, 1) := by decide +kernel
theorem dX5_many_25 : decode cX5_many 25 = .ok (.if_icmp .ne 10, 3) := by decide +kernel
theorem dX5_many_28 : decode cX5_many 28 = .ok (.aload_n 0, 1) := by decide +kernel
theorem dX5_many_29 : decode cX5_many 29 = .ok (.getfield 93, 3) := by decide +kernel
theorem dX5_many_32 : decode cX5_many 32 = .ok (.goto 17, 3) := by decide +kernel
theorem dX5_many_35 : decode cX5_many 35 = .ok (.iload_n 1, 1) := by decide +kernel
theorem dX5_many_36 : decode cX5_many 36 = .ok (.iconst 3, 1) := by decide +kernel
theorem dX5_many_37 : decode cX5_many 37 = .ok (.if_icmp .ne 10, 3) := by decide +kernel
theorem dX5_many_40 : decode cX5_many 40 = .ok (.aload_n 0, 1) := by decide +kernel
theorem dX5_many_41 : decode cX5_many 41 = .ok (.getfield 99, 3) := by decide +kernel
theorem dX5_many_44 : decode cX5_many 44 = .ok (.goto 5, 3) := by decide +kernel
theorem dX5_many_47 : decode cX5_many 47 = .ok (.bipush (-2), 2) := by decide +kernel
theorem dX5_many_49 : decode cX5_many 49 = .ok (.ireturn, 1) := by decide +kernel
theorem dJ6_bitCount_0f7a4_0 : decode cJ6_bitCount_0f7a4 0 = .ok (.iload_n 0, 1) := by decide +kernel
theorem dJ6_bitCount_0f7a4_1 : decode cJ6_bitCount_0f7a4 1 = .ok (.iload_n 0, 1) := by decide +kernel
theorem dJ6_bitCount_0f7a4_2 : decode cJ6_bitCount_0f7a4 2 = .ok (.iconst 1, 1) := by decide +kernel
theorem dJ6_bitCount_0f7a4_3 : decode cJ6_bitCount_0f7a4 3 = .ok (.iushr, 1) := by decide +kernel
theorem dJ6_bitCount_0f7a4_4 : decode cJ6_bitCount_0f7a4 4 = .ok (.ldc_w 265, 3) := by decide +kernel
theorem dJ6_bitCount_0f7a4_7 : decode cJ6_bitCount_0f7a4 7 = .ok (.iand, 1) := by decide +kernel
theorem dJ6_bitCount_0f7a4_8 : decode cJ6_bitCount_0f7a4 8 = .ok (.isub, 1) := by decide +kernel
theorem dJ6_bitCount_0f7a4_9 : decode cJ6_bitCount_0f7a4 9 = .ok (.istore_n 0, 1) := by decide +kernel
theorem dJ6_bitCount_0f7a4_10 : decode cJ6_bitCount_0f7a4 10 = .ok (.iload_n 0, 1) := by decide +kernel
theorem dJ6_bitCount_0f7a4_11 : decode cJ6_bitCount_0f7a4 11 = .ok (.ldc_w 266, 3) := by decide +kernel
theorem dJ6_bitCount_0f7a4_14 : decode cJ6_bitCount_0f7a4 14 = .ok (.iand, 1) := by decide +kernel
theorem dJ6_bitCount_0f7a4_15 : decode cJ6_bitCount_0f7a4 15 = .ok (.iload_n 0, 1) := by decide +kernel
theorem dJ6_bitCount_0f7a4_16 : decode cJ6_bitCount_0f7a4 16 = .ok (.iconst 2, 1) := by decide +kernel
theorem dJ6_bitCount_0f7a4_17 : decode cJ6_bitCount_0f7a4 17 = .ok (.iushr, 1) := by decide +kernel
theorem dJ6_bitCount_0f7a4_18 : decode cJ6_bitCount_0f7a4 18 = .ok (.ldc_w 266, 3) := by decide +kernel
theorem dJ6_bitCount_0f7a4_21 : decode cJ6_bitCount_0f7a4 21 = .ok (.iand, 1) := by decide +kernel
theorem dJ6_bitCount_0f7a4_22 : decode cJ6_bitCount_0f7a4 22 = .ok (.iadd, 1) := by decide +kernel
theorem dJ6_bitCount_0f7a4_23 : decode cJ6_bitCount_0f7a4 23 = .ok (.istore_n 0, 1) := by decide +kernel
theorem dJ6_bitCount_0f7a4_24 : decode cJ6_bitCount_0f7a4 24 = .ok (.iload_n 0, 1) := by decide +kernel
theorem dJ6_bitCount_0f7a4_25 : decode cJ6_bitCount_0f7a4 25 = .ok (.iload_n 0, 1) := by decide +kernel
theorem dJ6_bitCount_0f7a4_26 : decode cJ6_bitCount_0f7a4 26 = .ok (.iconst 4, 1) := by decide +kernel
theorem dJ6_bitCount_0f7a4_27 : decode cJ6_bitCount_0f7a4 27 = .ok (.iushr, 1) := by decide +kernel
theorem dJ6_bitCount_0f7a4_28 : decode cJ6_bitCount_0f7a4 28 = .ok (.iadd, 1) := by decide +kernel
theorem dJ6_bitCount_0f7a4_29 : decode cJ6_bitCount_0f7a4 29 = .ok (.ldc_w 267, 3) := by decide +kernel
theorem dJ6_bitCount_0f7a4_32 : decode cJ6_bitCount_0f7a4 32 = .ok (.iand, 1) := by decide +kernel
theorem dJ6_bitCount_0f7a4_33 : decode cJ6_bitCount_0f7a4 33 = .ok (.istore_n 0, 1) := by decide +kernel
theorem dJ6_bitCount_0f7a4_34 : decode cJ6_bitCount_0f7a4 34 = .ok (.iload_n 0, 1) := by decide +kernel
theorem dJ6_bitCount_0f7a4_35 : decode cJ6_bitCount_0f7a4 35 = .ok (.iload_n 0, 1) := by decide +kernel
theorem dJ6_bitCount_0f7a4_36 : decode cJ6_bitCount_0f7a4 36 = .ok (.bipush 8, 2) := by decide +kernel
theorem dJ6_bitCount_0f7a4_38 : decode cJ6_bitCount_0f7a4 38 = .ok (.iushr, 1) := by decide +kernel
theorem dJ6_bitCount_0f7a4_39 : decode cJ6_bitCount_0f7a4 39 = .ok (.iadd, 1) := by decide +kernel
theorem dJ6_bitCount_0f7a4_40 : decode cJ6_bitCount_0f7a4 40 = .ok (.istore_n 0, 1) := by decide +kernel
theorem dJ6_bitCount_0f7a4_41 : decode cJ6_bitCount_0f7a4 41 = .ok (.iload_n 0, 1) := by decide +kernel
theorem dJ6_bitCount_0f7a4_42 : decode cJ6_bitCount_0f7a4 42 = .ok (.iload_n 0, 1) := by decide +kernel
theorem dJ6_bitCount_0f7a4_43 : decode cJ6_bitCount_0f7a4 43 = .ok (.bipush 16, 2) := by decide +kernel
theorem dJ6_bitCount_0f7a4_45 : decode cJ6_bitCount_0f7a4 45 = .ok (.iushr, 1) := by decide +kernel
theorem dJ6_bitCount_0f7a4_46 : decode cJ6_bitCount_0f7a4 46 = .ok (.iadd, 1) := by decide +kernel
theorem dJ6_bitCount_0f7a4_47 : decode cJ6_bitCount_0f7a4 47 = .ok (.istore_n 0, 1) := by decide +kernel
theorem dJ6_bitCount_0f7a4_48 : decode cJ6_bitCount_0f7a4 48 = .ok (.iload_n 0, 1) := by decide +kernel
theorem dJ6_bitCount_0f7a4_49 : decode cJ6_bitCount_0f7a4 49 = .ok (.bipush 63, 2) := by decide +kernel
theorem dJ6_bitCount_0f7a4_51 : decode cJ6_bitCount_0f7a4 51 = .ok (.iand, 1) := by decide +kernel
theorem dJ6_bitCount_0f7a4_52 : decode cJ6_bitCount_0f7a4 52 = .ok (.ireturn, 1) := by decide +kernel
theorem dJ9_abs_0f7a4_0 : decode cJ9_abs_0f7a4 0 = .ok (.iload_n 0, 1) := by decide +kernel
theorem dJ9_abs_0f7a4_1 : decode cJ9_abs_0f7a4 1 = .ok (.ifCond .ge 8, 3) := by decide +kernel
theorem dJ9_abs_0f7a4_4 : decode cJ9_abs_0f7a4 4 = .ok (.iload_n 0, 1) := by decide +kernel
theorem dJ9_abs_0f7a4_5 : decode cJ9_abs_0f7a4 5 = .ok (.ineg, 1) := by decide +kernel
theorem dJ9_abs_0f7a4_6 : decode cJ9_abs_0f7a4 6 = .ok (.goto 4, 3) := by decide +kernel
theorem dJ9_abs_0f7a4_9 : decode cJ9_abs_0f7a4 9 = .ok (.iload_n 0, 1) := by decide +kernel
theorem dJ9_abs_0f7a4_10 : decode cJ9_abs_0f7a4 10 = .ok (.ireturn, 1) := by decide +kernel
theorem dJ9_max_7cf53_0 : decode cJ9_max_7cf53 0 = .ok (.iload_n 0, 1) := by decide +kernel
theorem dJ9_max_7cf53_1 : decode cJ9_max_7cf53 1 = .ok (.iload_n 1, 1) := by decide +kernel
theorem dJ9_max_7cf53_2 : decode cJ9_max_7cf53 2 = .ok (.if_icmp .lt 7, 3) := by decide +kernel
theorem dJ9_max_7cf53_5 : decode cJ9_max_7cf53 5 = .ok (.iload_n 0, 1) := by decide +kernel
theorem dJ9_max_7cf53_6 : decode cJ9_max_7cf53 6 = .ok (.goto 4, 3) := by decide +kernel
theorem dJ9_max_7cf53_9 : decode cJ9_max_7cf53 9 = .ok (.iload_n 1, 1) := by decide +kernel
theorem dJ9_max_7cf53_10 : decode cJ9_max_7cf53 10 = .ok (.ireturn, 1) := by decide +kernel
end
section
/-! ===== base: states as numbered ints and numbered rows, worlds, contracts out of decompiled functions, rows for walks ===== -/
abbrev zzS : Type := (Nat → Int32) × (Nat → Nat → Int32)
abbrev zzG : Type := va_G × ClassId × ClassId × ClassId
abbrev zzT (g : zzG) : List (ClassId × FieldType) := [(g.2.1, .int), (g.2.2.1, .boolean), (g.2.2.2, .object "SnowCensus$Sheet")]
def zzi (u : zzS) (k : Nat) (v : Int32) : zzS := (va_up u.1 k v, u.2)
def zza (u : zzS) (k i : Nat) (v : Int32) : zzS := (u.1, va_up u.2 k (upd (u.2 k) i v))
/-- the system's cells -/
def zzX (g : zzG) (q : Nat → Nat) (u : zzS) : va_W := [
  (q 0, .inr (4, [.ref (q 1), .ref (q 5), .ref (q 9), .ref (q 10), .ref (q 13), .int (u.1 11), .int (u.1 12)])),
  (q 1, .inr (3, [.ref (q 2), .ref (q 3), .ref (q 4), .int (u.1 0), .int (u.1 1), .int (u.1 2)])),
  (q 2, .inl (g.2.1, 5, .inl (u.2 0))), (q 3, .inl (g.2.1, 5, .inl (u.2 1))), (q 4, .inl (g.2.1, 5, .inl (u.2 2))),
  (q 5, .inr (3, [.ref (q 6), .ref (q 7), .ref (q 8), .int (u.1 3), .int (u.1 4), .int (u.1 5)])),
  (q 6, .inl (g.2.1, 5, .inl (u.2 3))), (q 7, .inl (g.2.1, 5, .inl (u.2 4))), (q 8, .inl (g.2.1, 5, .inl (u.2 5))),
  (q 9, .inr (1, [.int (u.1 6), .int (u.1 7), .int (u.1 8), .int (u.1 9)])),
  (q 10, .inr (0, [.ref (q 11), .ref (q 12), .int (u.1 10)])),
  (q 11, .inl (g.2.1, 8, .inl (u.2 6))), (q 12, .inl (g.2.1, 8, .inl (u.2 7))),
  (q 13, .inl (g.2.2.2, 4, .inr (.inr (.inr (.inr (fun j => some (q (14 + 2 * j)))))))),
  (q 14, .inr (2, [.ref (q 15), .int (u.1 13), .int (u.1 14), .int (u.1 15)])), (q 15, .inl (g.2.1, 60, .inl (u.2 8))),
  (q 16, .inr (2, [.ref (q 17), .int (u.1 16), .int (u.1 17), .int (u.1 18)])), (q 17, .inl (g.2.1, 60, .inl (u.2 9))),
  (q 18, .inr (2, [.ref (q 19), .int (u.1 19), .int (u.1 20), .int (u.1 21)])), (q 19, .inl (g.2.1, 60, .inl (u.2 10))),
  (q 20, .inr (2, [.ref (q 21), .int (u.1 22), .int (u.1 23), .int (u.1 24)])), (q 21, .inl (g.2.1, 60, .inl (u.2 11)))]
/-- the reference's cells: its rows by their fields' numbers -/
def zzY (g : zzG) (q : Nat → Nat) (u : zzS) : va_W := [
  (q 0, .inr (5, [.int (u.1 0), .int (u.1 1), .ref (q 2), .ref (q 3), .ref (q 4), .int (u.1 5), .int (u.1 6), .int (u.1 7), .ref (q 8), .ref (q 9), .ref (q 10), .int (u.1 11), .int (u.1 12), .int (u.1 13), .int (u.1 14), .int (u.1 15), .ref (q 16), .ref (q 17), .ref (q 18), .ref (q 19), .int (u.1 20), .int (u.1 21), .int (u.1 22), .int (u.1 23), .ref (q 24), .int (u.1 25), .int (u.1 26), .ref (q 27), .ref (q 28)])),
  (q 2, .inl (g.2.1, 4, .inl (u.2 2))), (q 3, .inl (g.2.1, 4, .inl (u.2 3))), (q 4, .inl (g.2.1, 240, .inl (u.2 4))),
  (q 8, .inl (g.2.1, 5, .inl (u.2 8))), (q 9, .inl (g.2.1, 5, .inl (u.2 9))), (q 10, .inl (g.2.1, 5, .inl (u.2 10))),
  (q 16, .inl (g.2.1, 5, .inl (u.2 16))), (q 17, .inl (g.2.1, 5, .inl (u.2 17))), (q 18, .inl (g.2.1, 5, .inl (u.2 18))),
  (q 19, .inl (g.2.2.1, 40, .inl (u.2 19))), (q 24, .inl (g.2.1, 5, .inl (u.2 24))),
  (q 27, .inl (g.2.1, 8, .inl (u.2 27))), (q 28, .inl (g.2.1, 8, .inl (u.2 28)))]
-- places by number: a snow's, a sheet's
theorem zx_sn (g : zzG) (q : Nat → Nat) (u : zzS) {t : Nat} (ht : t < 2) : (zzX g q u)[1 + 4 * t]? = some (q (1 + 4 * t), .inr (3, [.ref (q (2 + 4 * t)), .ref (q (3 + 4 * t)), .ref (q (4 + 4 * t)), .int (u.1 (3 * t)), .int (u.1 (3 * t + 1)), .int (u.1 (3 * t + 2))])) := by
  match t, ht with
  | 0, _ => rfl
  | 1, _ => rfl
theorem zx_sn0 (g : zzG) (q : Nat → Nat) (u : zzS) {t : Nat} (ht : t < 2) : (zzX g q u)[2 + 4 * t]? = some (q (2 + 4 * t), .inl (g.2.1, 5, .inl (u.2 (3 * t)))) := by
  match t, ht with
  | 0, _ => rfl
  | 1, _ => rfl
theorem zx_sn1 (g : zzG) (q : Nat → Nat) (u : zzS) {t : Nat} (ht : t < 2) : (zzX g q u)[3 + 4 * t]? = some (q (3 + 4 * t), .inl (g.2.1, 5, .inl (u.2 (3 * t + 1)))) := by
  match t, ht with
  | 0, _ => rfl
  | 1, _ => rfl
theorem zx_sn2 (g : zzG) (q : Nat → Nat) (u : zzS) {t : Nat} (ht : t < 2) : (zzX g q u)[4 + 4 * t]? = some (q (4 + 4 * t), .inl (g.2.1, 5, .inl (u.2 (3 * t + 2)))) := by
  match t, ht with
  | 0, _ => rfl
  | 1, _ => rfl
theorem zx_sh (g : zzG) (q : Nat → Nat) (u : zzS) {j : Nat} (hj : j < 4) : (zzX g q u)[14 + 2 * j]? = some (q (14 + 2 * j), .inr (2, [.ref (q (15 + 2 * j)), .int (u.1 (13 + 3 * j)), .int (u.1 (14 + 3 * j)), .int (u.1 (15 + 3 * j))])) := by
  match j, hj with
  | 0, _ => rfl
  | 1, _ => rfl
  | 2, _ => rfl
  | 3, _ => rfl
theorem zx_sha (g : zzG) (q : Nat → Nat) (u : zzS) {j : Nat} (hj : j < 4) : (zzX g q u)[15 + 2 * j]? = some (q (15 + 2 * j), .inl (g.2.1, 60, .inl (u.2 (8 + j)))) := by
  match j, hj with
  | 0, _ => rfl
  | 1, _ => rfl
  | 2, _ => rfl
  | 3, _ => rfl
theorem zx_sh1 (g : zzG) (q : Nat → Nat) (u : zzS) {j : Nat} (hj : j < 4) (v : Int32) : (zzX g q u).set (14 + 2 * j) (q (14 + 2 * j), .inr (2, [.ref (q (15 + 2 * j)), .int v, .int (u.1 (14 + 3 * j)), .int (u.1 (15 + 3 * j))])) = zzX g q (zzi u (13 + 3 * j) v) := by
  match j, hj with
  | 0, _ => rfl
  | 1, _ => rfl
  | 2, _ => rfl
  | 3, _ => rfl
theorem zx_sh2 (g : zzG) (q : Nat → Nat) (u : zzS) {j : Nat} (hj : j < 4) (v : Int32) : (zzX g q u).set (14 + 2 * j) (q (14 + 2 * j), .inr (2, [.ref (q (15 + 2 * j)), .int (u.1 (13 + 3 * j)), .int v, .int (u.1 (15 + 3 * j))])) = zzX g q (zzi u (14 + 3 * j) v) := by
  match j, hj with
  | 0, _ => rfl
  | 1, _ => rfl
  | 2, _ => rfl
  | 3, _ => rfl
theorem zx_sh3 (g : zzG) (q : Nat → Nat) (u : zzS) {j : Nat} (hj : j < 4) (v : Int32) : (zzX g q u).set (14 + 2 * j) (q (14 + 2 * j), .inr (2, [.ref (q (15 + 2 * j)), .int (u.1 (13 + 3 * j)), .int (u.1 (14 + 3 * j)), .int v])) = zzX g q (zzi u (15 + 3 * j) v) := by
  match j, hj with
  | 0, _ => rfl
  | 1, _ => rfl
  | 2, _ => rfl
  | 3, _ => rfl
theorem zx_shA (g : zzG) (q : Nat → Nat) (u : zzS) {j : Nat} (hj : j < 4) (f : Nat → Int32) : (zzX g q u).set (15 + 2 * j) (q (15 + 2 * j), .inl (g.2.1, 60, .inl f)) = zzX g q (u.1, va_up u.2 (8 + j) f) := by
  match j, hj with
  | 0, _ => rfl
  | 1, _ => rfl
  | 2, _ => rfl
  | 3, _ => rfl
-- decompiled functions: what is not there is 'none'
def zzga {α : Type} (f : Nat → Int32) (n : Nat) (i : Int32) (k : Int32 → Option α) : Option α := if i < 0 ∨ n ≤ i.toNatClampNeg then none else k (f i.toNatClampNeg)
def zzpa {α : Type} (n : Nat) (i : Int32) (k : Option α) : Option α := if i < 0 ∨ n ≤ i.toNatClampNeg then none else k
def zznz {α : Type} (y : Int32) (k : Option α) : Option α := if y = 0 then none else k
def zznl {α : Type} (y : Int64) (k : Option α) : Option α := if y = 0 then none else k
def zzlp {V α : Type} (step : V → (V → Option α) → Option α) : Nat → V → Option α
  | 0, _ => none
  | n + 1, v => step v (zzlp step n)
def zzFU : Nat := 1000
theorem zz_ga {α : Type} {f : Nat → Int32} {n : Nat} {i : Int32} {k : Int32 → Option α} {r : α} (h : zzga f n i k = some r) : vp_in i n ∧ k (f i.toNatClampNeg) = some r := by
  unfold zzga at h
  split at h
  · cases h
  · rename_i h1
    exact ⟨h1, h⟩
theorem zz_pa {α : Type} {n : Nat} {i : Int32} {k : Option α} {r : α} (h : zzpa n i k = some r) : vp_in i n ∧ k = some r := by
  unfold zzpa at h
  split at h
  · cases h
  · rename_i h1
    exact ⟨h1, h⟩
theorem zz_nz {α : Type} {y : Int32} {k : Option α} {r : α} (h : zznz y k = some r) : ¬ y = 0 ∧ k = some r := by
  unfold zznz at h
  split at h
  · cases h
  · rename_i h1
    exact ⟨h1, h⟩
theorem zz_nl {α : Type} {y : Int64} {k : Option α} {r : α} (h : zznl y k = some r) : ¬ y = 0 ∧ k = some r := by
  unfold zznl at h
  split at h
  · cases h
  · rename_i h1
    exact ⟨h1, h⟩
theorem zz_bs {α β : Type} {x : Option α} {k : α → Option β} {r : β} (h : x.bind k = some r) : ∃ a, x = some a ∧ k a = some r := by
  cases x with
  | none => cases h
  | some a => exact ⟨a, rfl, h⟩
theorem zz_t {α : Type} {c : Prop} [Decidable c] {a b : Option α} {r : α} (h : c) (hf : (if c then a else b) = some r) : a = some r := by rw [if_pos h] at hf; exact hf
theorem zz_f {α : Type} {c : Prop} [Decidable c] {a b : Option α} {r : α} (h : ¬ c) (hf : (if c then a else b) = some r) : b = some r := by rw [if_neg h] at hf; exact hf
theorem zz_lp {V α : Type} {step : V → (V → Option α) → Option α} {r : α} {P : V → Prop} (h : ∀ (v : V) (rec : V → Option α), (∀ v', rec v' = some r → P v') → step v rec = some r → P v) : ∀ (n : Nat) (v : V), zzlp step n v = some r → P v := by
  intro n
  induction n with
  | zero => intro v hv; cases hv
  | succ n ih => intro v hv; exact h v (zzlp step n) ih hv
theorem zz_ne {x c : Int32} (h : ¬ x = c) : x.toInt ≠ c.toInt := fun e => h (Int32.toInt_inj.mp e)
theorem zz_mem {ws : List Cond} {args : Array Value} {s : State} (h : ∀ w ∈ ws, w.before args s = true) (i : Nat) {w : Cond} (hw : ws[i]? = some w) : w.before args s = true := h w (List.mem_of_getElem? hw)
-- contracts
def zzPc (g : zzG) (av : List Value) (w : va_W) (sz : Nat) : Array Value → State → Prop := va_Pc av (fun U => U.heap.size = sz ∧ va_P g.1 vwCl w U.heap ∧ va_K g.1 vwCl (zzT g) U ∧ va_D (fun _ => True) w)
def zzB (g : zzG) (w w' : va_W) (sz : Nat) (t : State) : Prop := va_P g.1 vwCl w' t.heap ∧ va_K g.1 vwCl (zzT g) t ∧ va_D (va_A w sz) w'
def zzI (l : Launch) (g : zzG) (y : MethodName) (wy : List Cond) (rm : Room) (av : List Value) (w w' : va_W) (sz : Nat) (r : Int32) : Prop := Met l y wy rm (zzPc g av w sz) (va_Qi (fun r2 (_ : Unit) => r2 = r) (fun _ t => zzB g w w' sz t) (va_A w sz)) 0 0 (va_A w sz)
def zzZ (l : Launch) (g : zzG) (y : MethodName) (wy : List Cond) (rm : Room) (av : List Value) (w w' : va_W) (sz : Nat) (r : Int32) : Prop := Met l y wy rm (zzPc g av w sz) (va_Qi (fun r2 (_ : Unit) => r2 = r ∧ narrow .boolean (.int r2) = .int r2) (fun _ t => zzB g w w' sz t) (va_A w sz)) 0 0 (va_A w sz)
def zzL (l : Launch) (g : zzG) (y : MethodName) (wy : List Cond) (rm : Room) (av : List Value) (w w' : va_W) (sz : Nat) (r : Int64) : Prop := Met l y wy rm (zzPc g av w sz) (va_Ql (fun r2 (_ : Unit) => r2 = r) (fun _ t => zzB g w w' sz t) (va_A w sz)) 0 0 (va_A w sz)
def zzV (l : Launch) (g : zzG) (y : MethodName) (wy : List Cond) (rm : Room) (av : List Value) (w w' : va_W) (sz : Nat) : Prop := Met l y wy rm (zzPc g av w sz) (va_Qv (fun (_ : Unit) => True) (fun _ t => zzB g w w' sz t) (va_A w sz)) 0 0 (va_A w sz)
def zzQ (l : Launch) (g : zzG) (y : MethodName) (wy : List Cond) (rm : Room) (av : List Value) (w w' : va_W) (sz : Nat) (r : Option Nat) : Prop := Met l y wy rm (zzPc g av w sz) (va_Qq (fun r2 (_ : Unit) => r2 = r) (fun _ t => zzB g w w' sz t) (va_A w sz)) 0 0 (va_A w sz)
def zzC (g : zzG) (p : Program) (s : State) (m : MethodId) (args : Array Value) (c : Code) (cc : ByteArray) (mL : Nat) (own : String) (ws : List Cond) (A : Nat → Prop) : Prop := CallFix p m c cc mL s args ws own ∧ va_K g.1 vwCl (zzT g) s ∧ (∀ q : Nat, s.heap.size ≤ q → A q)
def zzM (y : MethodName) (wy : List Cond) (bytes : ByteArray) (maxL : Nat) (ret : Option FieldType) (Cn : String) (n : Nat) : Prop := (∃ ws', wy = Cond.code y bytes maxL ret :: ws') ∧ y.cls = Cn ∧ y.cls ≠ "java/lang/invoke/MethodHandle" ∧ y.cls ≠ "java/lang/invoke/VarHandle" ∧ (parseMethodDescriptor y.desc).map (fun d => d.parameters.length) = some n
-- a method's walk from its entry
section ZzEntry
variable {l : Launch} {g : zzG} {y : MethodName} {wy ws' : List Cond} {rm : Room} {cc : ByteArray} {mL : Nat} {own : String} {av : List Value} {w : va_W} {sz : Nat}
theorem zz_mi {X : Type} (val : X → Int32) (wf : X → va_W) (x : X) (hy : plainName y.cls = true) (hw : wy = Cond.code y cc mL (some .int) :: ws') (hown : y.cls = own) (hlen : (lg_sl av).length ≤ mL)
    (body : ∀ (p : Program) (e : Env) (s : State) (m : MethodId) (below : List Frame) (meth : Method) (c : Code) (A : Nat → Prop) (Q : State → Prop) (ls : Array Slot), zzC g p s m av.toArray c cc mL own wy A →
      (∀ (pc : Nat) (ls : Array Slot) (H : Heap) (locs : List Loc) (x' : X), some x' = some x → decode cc pc = .ok (.ireturn, 1) → va_P g.1 vwCl (wf x') H → va_D A (wf x') → va_S A s.heap H locs → W p l e rm s m av.toArray below meth c H locs 0 0 Q (F0 m pc ls [.int (val x')])) →
      va_P g.1 vwCl w s.heap → va_D A w → va_S A s.heap s.heap [] → lv_has ls mL (lv_args 0 av) → W p l e rm s m av.toArray below meth c s.heap [] 0 0 Q (F0 m 0 ls [])) : zzI l g y wy rm av w (wf x) sz (val x) := by
  refine Met.ofW (cc := cc) (maxL := mL) (ret := some .int) hy hw ?_
  intro p e s m args below meth c s₁ B hml hv
  obtain ⟨rfl, hsz, hP, hK, hD0⟩ := hv
  subst hsz
  have hD := hD0.self (sz := s.heap.size)
  rw [lg_entry_eq]
  refine body p e s m below meth c (va_A w s.heap.size) _ _ ⟨⟨B.exec, B.bytes, hml, by rw [← hown]; exact findClass_of_methodNamed B.named, atoms_spec B.pre⟩, hK, fun q h => Or.inr h⟩ ?_ hP hD va_S.rf (lv_entry av hlen)
  intro pc ls H locs x' hf hd hP hD hS
  have hlocks := B.notSynchronized
  obtain rfl : x' = x := Option.some.inj hf
  exact W.iret (v := val x') B.exec B.bytes B.returns (fun t ht hW => ⟨⟨val x', (), rfl, rfl, by rw [ht]; exact hP, va_K.moved hW.alike hK, hD⟩, hS.F ht⟩) hS.2.2 hd
theorem zz_mz {X : Type} (val : X → Int32) (wf : X → va_W) (x : X) (hy : plainName y.cls = true) (hw : wy = Cond.code y cc mL (some .boolean) :: ws') (hown : y.cls = own) (hlen : (lg_sl av).length ≤ mL)
    (body : ∀ (p : Program) (e : Env) (s : State) (m : MethodId) (below : List Frame) (meth : Method) (c : Code) (A : Nat → Prop) (Q : State → Prop) (ls : Array Slot), zzC g p s m av.toArray c cc mL own wy A →
      (∀ (pc : Nat) (ls : Array Slot) (H : Heap) (locs : List Loc) (x' : X), some x' = some x → decode cc pc = .ok (.ireturn, 1) → narrow .boolean (.int (val x')) = .int (val x') → va_P g.1 vwCl (wf x') H → va_D A (wf x') → va_S A s.heap H locs → W p l e rm s m av.toArray below meth c H locs 0 0 Q (F0 m pc ls [.int (val x')])) →
      va_P g.1 vwCl w s.heap → va_D A w → va_S A s.heap s.heap [] → lv_has ls mL (lv_args 0 av) → W p l e rm s m av.toArray below meth c s.heap [] 0 0 Q (F0 m 0 ls [])) : zzZ l g y wy rm av w (wf x) sz (val x) := by
  refine Met.ofW (cc := cc) (maxL := mL) (ret := some .boolean) hy hw ?_
  intro p e s m args below meth c s₁ B hml hv
  obtain ⟨rfl, hsz, hP, hK, hD0⟩ := hv
  subst hsz
  have hD := hD0.self (sz := s.heap.size)
  rw [lg_entry_eq]
  refine body p e s m below meth c (va_A w s.heap.size) _ _ ⟨⟨B.exec, B.bytes, hml, by rw [← hown]; exact findClass_of_methodNamed B.named, atoms_spec B.pre⟩, hK, fun q h => Or.inr h⟩ ?_ hP hD va_S.rf (lv_entry av hlen)
  intro pc ls H locs x' hf hd hn hP hD hS
  have hlocks := B.notSynchronized
  obtain rfl : x' = x := Option.some.inj hf
  exact W.zret (v := val x') B.exec B.bytes B.returns hn (fun t ht hW => ⟨⟨val x', (), rfl, ⟨rfl, hn⟩, by rw [ht]; exact hP, va_K.moved hW.alike hK, hD⟩, hS.F ht⟩) hS.2.2 hd
theorem zz_ml {X : Type} (val : X → Int64) (wf : X → va_W) (x : X) (hy : plainName y.cls = true) (hw : wy = Cond.code y cc mL (some .long) :: ws') (hown : y.cls = own) (hlen : (lg_sl av).length ≤ mL)
    (body : ∀ (p : Program) (e : Env) (s : State) (m : MethodId) (below : List Frame) (meth : Method) (c : Code) (A : Nat → Prop) (Q : State → Prop) (ls : Array Slot), zzC g p s m av.toArray c cc mL own wy A →
      (∀ (pc : Nat) (ls : Array Slot) (H : Heap) (locs : List Loc) (x' : X), some x' = some x → decode cc pc = .ok (.lreturn, 1) → va_P g.1 vwCl (wf x') H → va_D A (wf x') → va_S A s.heap H locs → W p l e rm s m av.toArray below meth c H locs 0 0 Q (F0 m pc ls [.long (val x')])) →
      va_P g.1 vwCl w s.heap → va_D A w → va_S A s.heap s.heap [] → lv_has ls mL (lv_args 0 av) → W p l e rm s m av.toArray below meth c s.heap [] 0 0 Q (F0 m 0 ls [])) : zzL l g y wy rm av w (wf x) sz (val x) := by
  refine Met.ofW (cc := cc) (maxL := mL) (ret := some .long) hy hw ?_
  intro p e s m args below meth c s₁ B hml hv
  obtain ⟨rfl, hsz, hP, hK, hD0⟩ := hv
  subst hsz
  have hD := hD0.self (sz := s.heap.size)
  rw [lg_entry_eq]
  refine body p e s m below meth c (va_A w s.heap.size) _ _ ⟨⟨B.exec, B.bytes, hml, by rw [← hown]; exact findClass_of_methodNamed B.named, atoms_spec B.pre⟩, hK, fun q h => Or.inr h⟩ ?_ hP hD va_S.rf (lv_entry av hlen)
  intro pc ls H locs x' hf hd hP hD hS
  have hlocks := B.notSynchronized
  obtain rfl : x' = x := Option.some.inj hf
  exact W.lret (v := val x') B.exec B.bytes B.returns (fun t ht hW => ⟨⟨val x', (), rfl, rfl, by rw [ht]; exact hP, va_K.moved hW.alike hK, hD⟩, hS.F ht⟩) hS.2.2 hd
theorem zz_mv {X : Type} (wf : X → va_W) (x : X) (hy : plainName y.cls = true) (hw : wy = Cond.code y cc mL none :: ws') (hown : y.cls = own) (hlen : (lg_sl av).length ≤ mL)
    (body : ∀ (p : Program) (e : Env) (s : State) (m : MethodId) (below : List Frame) (meth : Method) (c : Code) (A : Nat → Prop) (Q : State → Prop) (ls : Array Slot), zzC g p s m av.toArray c cc mL own wy A →
      (∀ (pc : Nat) (ls : Array Slot) (H : Heap) (locs : List Loc) (x' : X), some x' = some x → decode cc pc = .ok (.return_, 1) → va_P g.1 vwCl (wf x') H → va_D A (wf x') → va_S A s.heap H locs → W p l e rm s m av.toArray below meth c H locs 0 0 Q (F0 m pc ls [])) →
      va_P g.1 vwCl w s.heap → va_D A w → va_S A s.heap s.heap [] → lv_has ls mL (lv_args 0 av) → W p l e rm s m av.toArray below meth c s.heap [] 0 0 Q (F0 m 0 ls [])) : zzV l g y wy rm av w (wf x) sz := by
  refine Met.ofW (cc := cc) (maxL := mL) (ret := none) hy hw ?_
  intro p e s m args below meth c s₁ B hml hv
  obtain ⟨rfl, hsz, hP, hK, hD0⟩ := hv
  subst hsz
  have hD := hD0.self (sz := s.heap.size)
  rw [lg_entry_eq]
  refine body p e s m below meth c (va_A w s.heap.size) _ _ ⟨⟨B.exec, B.bytes, hml, by rw [← hown]; exact findClass_of_methodNamed B.named, atoms_spec B.pre⟩, hK, fun q h => Or.inr h⟩ ?_ hP hD va_S.rf (lv_entry av hlen)
  intro pc ls H locs x' hf hd hP hD hS
  have hlocks := B.notSynchronized
  obtain rfl : x' = x := Option.some.inj hf
  exact W.vret B.exec B.bytes B.returns (fun t ht hW => ⟨⟨(), rfl, trivial, by rw [ht]; exact hP, va_K.moved hW.alike hK, hD⟩, hS.F ht⟩) hS.2.2 hd
end ZzEntry
-- calls
section ZzCall
variable {p : Program} {l : Launch} {e : Env} {R : Room} {s : State} {m : MethodId} {args : Array Value} {below : List Frame} {meth : Method} {c : Code} {H : Heap} {locs : List Loc} {cells slots : Nat} {Q : State → Prop} {g : zzG} {cc : ByteArray} {mL : Nat} {own : String} {ws : List Cond} {A : Nat → Prop} {w w' : va_W} {y : MethodName} {wy : List Cond} {rm : Room} {bytes : ByteArray} {maxL n index : Nat} {ret : Option FieldType} {Cn : String} {As rest st0 : List Value} {b ci pc : Nat} {fs : List Value} {qc : vw_C} {ls : Array Slot}
theorem zz_blind {av : List Value} {sz : Nat} : FrameBlind (zzPc g av w sz) := fun a U gg mk q => by
  obtain ⟨q0, q1, qP, qK, qD⟩ := q
  exact ⟨q0, q1, qP, va_K.moved (u := U) (U := U.calling gg mk a) (Vm.Alike.refl U.vm) qK, qD⟩
theorem zz_pre (C : zzC g p s m args c cc mL own ws A) (hP : va_P g.1 vwCl w H) (hD : va_D A w) {av : List Value} : ∀ U : State, U.heap = H → s.WarmedH U.vm → zzPc g av w H.size av.toArray U := fun U hU hW => ⟨rfl, by rw [hU], by rw [hU]; exact hP, va_K.moved hW.alike C.2.1, hD.weaken (fun _ _ _ _ => trivial)⟩
theorem zz_fr (C : zzC g p s m args c cc mL own ws A) (hD : va_D A w) (hS : va_S A s.heap H locs) : ∀ q, va_A w H.size q → A q := fun q h => by
  rcases h with ⟨k, e, hk⟩ | h
  · exact hD.2 k _ hk
  · exact C.2.2 q (Nat.le_trans hS.1 h)
theorem zz_wk (C : zzC g p s m args c cc mL own ws A) (hD : va_D A w) (hS : va_S A s.heap H locs) (h : va_D (va_A w H.size) w') : va_D A w' := h.weaken (fun _ _ _ h => zz_fr C hD hS _ h)
theorem zz_cVi {r : Int32} (C : zzC g p s m args c cc mL own ws A) (hP : va_P g.1 vwCl w H) (hD : va_D A w) (hS : va_S A s.heap H locs) (ct : zzI l g y wy rm (.ref b :: As) w w' H.size r) (hG : GoodIn ws (wsV own index Cn y wy)) (hM : zzM y wy bytes maxL ret Cn n) (hR : rm.frames + 1 ≤ R.frames ∧ 8 + (maxL + 11) + rm.locals ≤ R.locals ∧ rm.cells = 0 ∧ rm.slots = 0) (hcs : cells ≤ R.cells ∧ slots ≤ R.slots) (q0 : Nat) (he : w[q0]? = some (b, .inr (ci, fs))) (hc : vwCl[ci]? = some qc) (hcn : qc.1 = Cn) (hn : As.length = n) (hst : st0 = As.reverse ++ .ref b :: rest) (hl : ls.size = mL) (hroom : (rest.map fun v => v.category).sum ≤ 8) (hdg : decode cc pc = .ok (.invokevirtual index, 3))
    (kk : ∀ (H : Heap) (locs : List Loc), va_P g.1 vwCl w' H → va_D A w' → va_S A s.heap H locs → W p l e R s m args below meth c H locs cells slots Q (F0 m (pc + 3) ls (.int r :: rest))) : W p l e R s m args below meth c H locs cells slots Q (F0 m pc ls st0) := by
  obtain ⟨⟨ws', hw⟩, hM⟩ := hM
  subst hcn
  refine va_calli (va_runV (As := As) (rest := rest) C.1 ct (cwV n C.1.2.2.2.2 hG hw hR.2.2.1 hR.2.2.2 hM ⟨hR.1, hR.2.1⟩) ⟨zz_blind, va_recv C.2.1 hP hc he, zz_pre C hP hD⟩ rfl hn hl hst (lv_room hroom) hdg hcs) hS (fun q _ h => zz_fr C hD hS q h) (zz_fr C hD hS) (fun r2 u t H1 locs ht hvm hw2 hB hz1 hk1 hS1 => ?_)
  obtain ⟨hP1, hK1, hD1⟩ := hB
  subst hw2
  rw [ht] at hP1
  exact kk H1 locs hP1 (zz_wk C hD hS hD1) hS1
theorem zz_cVz {r : Int32} (C : zzC g p s m args c cc mL own ws A) (hP : va_P g.1 vwCl w H) (hD : va_D A w) (hS : va_S A s.heap H locs) (ct : zzZ l g y wy rm (.ref b :: As) w w' H.size r) (hG : GoodIn ws (wsV own index Cn y wy)) (hM : zzM y wy bytes maxL ret Cn n) (hR : rm.frames + 1 ≤ R.frames ∧ 8 + (maxL + 11) + rm.locals ≤ R.locals ∧ rm.cells = 0 ∧ rm.slots = 0) (hcs : cells ≤ R.cells ∧ slots ≤ R.slots) (q0 : Nat) (he : w[q0]? = some (b, .inr (ci, fs))) (hc : vwCl[ci]? = some qc) (hcn : qc.1 = Cn) (hn : As.length = n) (hst : st0 = As.reverse ++ .ref b :: rest) (hl : ls.size = mL) (hroom : (rest.map fun v => v.category).sum ≤ 8) (hdg : decode cc pc = .ok (.invokevirtual index, 3))
    (kk : narrow .boolean (.int r) = .int r → ∀ (H : Heap) (locs : List Loc), va_P g.1 vwCl w' H → va_D A w' → va_S A s.heap H locs → W p l e R s m args below meth c H locs cells slots Q (F0 m (pc + 3) ls (.int r :: rest))) : W p l e R s m args below meth c H locs cells slots Q (F0 m pc ls st0) := by
  obtain ⟨⟨ws', hw⟩, hM⟩ := hM
  subst hcn
  refine va_calli (va_runV (As := As) (rest := rest) C.1 ct (cwV n C.1.2.2.2.2 hG hw hR.2.2.1 hR.2.2.2 hM ⟨hR.1, hR.2.1⟩) ⟨zz_blind, va_recv C.2.1 hP hc he, zz_pre C hP hD⟩ rfl hn hl hst (lv_room hroom) hdg hcs) hS (fun q _ h => zz_fr C hD hS q h) (zz_fr C hD hS) (fun r2 u t H1 locs ht hvm hw2 hB hz1 hk1 hS1 => ?_)
  obtain ⟨hP1, hK1, hD1⟩ := hB
  obtain ⟨hw2, hn2⟩ := hw2
  subst hw2
  rw [ht] at hP1
  exact kk hn2 H1 locs hP1 (zz_wk C hD hS hD1) hS1
theorem zz_cVl {r : Int64} (C : zzC g p s m args c cc mL own ws A) (hP : va_P g.1 vwCl w H) (hD : va_D A w) (hS : va_S A s.heap H locs) (ct : zzL l g y wy rm (.ref b :: As) w w' H.size r) (hG : GoodIn ws (wsV own index Cn y wy)) (hM : zzM y wy bytes maxL ret Cn n) (hR : rm.frames + 1 ≤ R.frames ∧ 8 + (maxL + 11) + rm.locals ≤ R.locals ∧ rm.cells = 0 ∧ rm.slots = 0) (hcs : cells ≤ R.cells ∧ slots ≤ R.slots) (q0 : Nat) (he : w[q0]? = some (b, .inr (ci, fs))) (hc : vwCl[ci]? = some qc) (hcn : qc.1 = Cn) (hn : As.length = n) (hst : st0 = As.reverse ++ .ref b :: rest) (hl : ls.size = mL) (hroom : (rest.map fun v => v.category).sum ≤ 8) (hdg : decode cc pc = .ok (.invokevirtual index, 3))
    (kk : ∀ (H : Heap) (locs : List Loc), va_P g.1 vwCl w' H → va_D A w' → va_S A s.heap H locs → W p l e R s m args below meth c H locs cells slots Q (F0 m (pc + 3) ls (.long r :: rest))) : W p l e R s m args below meth c H locs cells slots Q (F0 m pc ls st0) := by
  obtain ⟨⟨ws', hw⟩, hM⟩ := hM
  subst hcn
  refine va_calll (va_runV (As := As) (rest := rest) C.1 ct (cwV n C.1.2.2.2.2 hG hw hR.2.2.1 hR.2.2.2 hM ⟨hR.1, hR.2.1⟩) ⟨zz_blind, va_recv C.2.1 hP hc he, zz_pre C hP hD⟩ rfl hn hl hst (lv_room hroom) hdg hcs) hS (fun q _ h => zz_fr C hD hS q h) (zz_fr C hD hS) (fun r2 u t H1 locs ht hvm hw2 hB hz1 hk1 hS1 => ?_)
  obtain ⟨hP1, hK1, hD1⟩ := hB
  subst hw2
  rw [ht] at hP1
  exact kk H1 locs hP1 (zz_wk C hD hS hD1) hS1
theorem zz_cVv (C : zzC g p s m args c cc mL own ws A) (hP : va_P g.1 vwCl w H) (hD : va_D A w) (hS : va_S A s.heap H locs) (ct : zzV l g y wy rm (.ref b :: As) w w' H.size) (hG : GoodIn ws (wsV own index Cn y wy)) (hM : zzM y wy bytes maxL ret Cn n) (hR : rm.frames + 1 ≤ R.frames ∧ 8 + (maxL + 11) + rm.locals ≤ R.locals ∧ rm.cells = 0 ∧ rm.slots = 0) (hcs : cells ≤ R.cells ∧ slots ≤ R.slots) (q0 : Nat) (he : w[q0]? = some (b, .inr (ci, fs))) (hc : vwCl[ci]? = some qc) (hcn : qc.1 = Cn) (hn : As.length = n) (hst : st0 = As.reverse ++ .ref b :: rest) (hl : ls.size = mL) (hroom : (rest.map fun v => v.category).sum ≤ 8) (hdg : decode cc pc = .ok (.invokevirtual index, 3))
    (kk : ∀ (H : Heap) (locs : List Loc), va_P g.1 vwCl w' H → va_D A w' → va_S A s.heap H locs → W p l e R s m args below meth c H locs cells slots Q (F0 m (pc + 3) ls rest)) : W p l e R s m args below meth c H locs cells slots Q (F0 m pc ls st0) := by
  obtain ⟨⟨ws', hw⟩, hM⟩ := hM
  subst hcn
  refine va_callv (va_runV (As := As) (rest := rest) C.1 ct (cwV n C.1.2.2.2.2 hG hw hR.2.2.1 hR.2.2.2 hM ⟨hR.1, hR.2.1⟩) ⟨zz_blind, va_recv C.2.1 hP hc he, zz_pre C hP hD⟩ rfl hn hl hst (lv_room hroom) hdg hcs) hS (fun q _ h => zz_fr C hD hS q h) (zz_fr C hD hS) (fun u t H1 locs ht hvm hw2 hB hz1 hk1 hS1 => ?_)
  obtain ⟨hP1, hK1, hD1⟩ := hB
  rw [ht] at hP1
  exact kk H1 locs hP1 (zz_wk C hD hS hD1) hS1
theorem zz_cVq {r : Option Nat} (C : zzC g p s m args c cc mL own ws A) (hP : va_P g.1 vwCl w H) (hD : va_D A w) (hS : va_S A s.heap H locs) (ct : zzQ l g y wy rm (.ref b :: As) w w' H.size r) (hG : GoodIn ws (wsV own index Cn y wy)) (hM : zzM y wy bytes maxL ret Cn n) (hR : rm.frames + 1 ≤ R.frames ∧ 8 + (maxL + 11) + rm.locals ≤ R.locals ∧ rm.cells = 0 ∧ rm.slots = 0) (hcs : cells ≤ R.cells ∧ slots ≤ R.slots) (q0 : Nat) (he : w[q0]? = some (b, .inr (ci, fs))) (hc : vwCl[ci]? = some qc) (hcn : qc.1 = Cn) (hn : As.length = n) (hst : st0 = As.reverse ++ .ref b :: rest) (hl : ls.size = mL) (hroom : (rest.map fun v => v.category).sum ≤ 8) (hdg : decode cc pc = .ok (.invokevirtual index, 3))
    (kk : ∀ (H : Heap) (locs : List Loc), va_P g.1 vwCl w' H → va_D A w' → va_S A s.heap H locs → W p l e R s m args below meth c H locs cells slots Q (F0 m (pc + 3) ls (va_rf r :: rest))) : W p l e R s m args below meth c H locs cells slots Q (F0 m pc ls st0) := by
  obtain ⟨⟨ws', hw⟩, hM⟩ := hM
  subst hcn
  refine va_callq (va_runV (As := As) (rest := rest) C.1 ct (cwV n C.1.2.2.2.2 hG hw hR.2.2.1 hR.2.2.2 hM ⟨hR.1, hR.2.1⟩) ⟨zz_blind, va_recv C.2.1 hP hc he, zz_pre C hP hD⟩ rfl hn hl hst (lv_room hroom) hdg hcs) hS (fun q _ h => zz_fr C hD hS q h) (zz_fr C hD hS) (fun r2 u t H1 locs ht hvm hw2 hB hz1 hk1 hS1 => ?_)
  obtain ⟨hP1, hK1, hD1⟩ := hB
  subst hw2
  rw [ht] at hP1
  exact kk H1 locs hP1 (zz_wk C hD hS hD1) hS1
theorem zz_cSi {r : Int32} (C : zzC g p s m args c cc mL own ws A) (hP : va_P g.1 vwCl w H) (hD : va_D A w) (hS : va_S A s.heap H locs) (ct : zzI l g y wy rm As w w' H.size r) (hG : GoodIn ws (va_wsS own index y wy)) (hM : zzM y wy bytes maxL ret Cn n) (hR : rm.frames + 1 ≤ R.frames ∧ 8 + (maxL + 11) + rm.locals ≤ R.locals ∧ rm.cells = 0 ∧ rm.slots = 0) (hcs : cells ≤ R.cells ∧ slots ≤ R.slots) (hn : As.length = n) (hst : st0 = As.reverse ++ rest) (hl : ls.size = mL) (hroom : (rest.map fun v => v.category).sum ≤ 8) (hdg : decode cc pc = .ok (.invokestatic index, 3))
    (kk : ∀ (H : Heap) (locs : List Loc), va_P g.1 vwCl w' H → va_D A w' → va_S A s.heap H locs → W p l e R s m args below meth c H locs cells slots Q (F0 m (pc + 3) ls (.int r :: rest))) : W p l e R s m args below meth c H locs cells slots Q (F0 m pc ls st0) := by
  obtain ⟨⟨ws', hw⟩, hM⟩ := hM
  refine va_calli (va_runS (As := As) (rest := rest) C.1 ct (va_cwS n C.1.2.2.2.2 hG hw hR.2.2.1 hR.2.2.2 hM.2 ⟨hR.1, hR.2.1⟩) ⟨zz_blind, zz_pre C hP hD⟩ rfl hn hl hst (lv_room hroom) hdg hcs) hS (fun q _ h => zz_fr C hD hS q h) (zz_fr C hD hS) (fun r2 u t H1 locs ht hvm hw2 hB hz1 hk1 hS1 => ?_)
  obtain ⟨hP1, hK1, hD1⟩ := hB
  subst hw2
  rw [ht] at hP1
  exact kk H1 locs hP1 (zz_wk C hD hS hD1) hS1
theorem zz_cSz {r : Int32} (C : zzC g p s m args c cc mL own ws A) (hP : va_P g.1 vwCl w H) (hD : va_D A w) (hS : va_S A s.heap H locs) (ct : zzZ l g y wy rm As w w' H.size r) (hG : GoodIn ws (va_wsS own index y wy)) (hM : zzM y wy bytes maxL ret Cn n) (hR : rm.frames + 1 ≤ R.frames ∧ 8 + (maxL + 11) + rm.locals ≤ R.locals ∧ rm.cells = 0 ∧ rm.slots = 0) (hcs : cells ≤ R.cells ∧ slots ≤ R.slots) (hn : As.length = n) (hst : st0 = As.reverse ++ rest) (hl : ls.size = mL) (hroom : (rest.map fun v => v.category).sum ≤ 8) (hdg : decode cc pc = .ok (.invokestatic index, 3))
    (kk : narrow .boolean (.int r) = .int r → ∀ (H : Heap) (locs : List Loc), va_P g.1 vwCl w' H → va_D A w' → va_S A s.heap H locs → W p l e R s m args below meth c H locs cells slots Q (F0 m (pc + 3) ls (.int r :: rest))) : W p l e R s m args below meth c H locs cells slots Q (F0 m pc ls st0) := by
  obtain ⟨⟨ws', hw⟩, hM⟩ := hM
  refine va_calli (va_runS (As := As) (rest := rest) C.1 ct (va_cwS n C.1.2.2.2.2 hG hw hR.2.2.1 hR.2.2.2 hM.2 ⟨hR.1, hR.2.1⟩) ⟨zz_blind, zz_pre C hP hD⟩ rfl hn hl hst (lv_room hroom) hdg hcs) hS (fun q _ h => zz_fr C hD hS q h) (zz_fr C hD hS) (fun r2 u t H1 locs ht hvm hw2 hB hz1 hk1 hS1 => ?_)
  obtain ⟨hP1, hK1, hD1⟩ := hB
  obtain ⟨hw2, hn2⟩ := hw2
  subst hw2
  rw [ht] at hP1
  exact kk hn2 H1 locs hP1 (zz_wk C hD hS hD1) hS1
theorem zz_cSl {r : Int64} (C : zzC g p s m args c cc mL own ws A) (hP : va_P g.1 vwCl w H) (hD : va_D A w) (hS : va_S A s.heap H locs) (ct : zzL l g y wy rm As w w' H.size r) (hG : GoodIn ws (va_wsS own index y wy)) (hM : zzM y wy bytes maxL ret Cn n) (hR : rm.frames + 1 ≤ R.frames ∧ 8 + (maxL + 11) + rm.locals ≤ R.locals ∧ rm.cells = 0 ∧ rm.slots = 0) (hcs : cells ≤ R.cells ∧ slots ≤ R.slots) (hn : As.length = n) (hst : st0 = As.reverse ++ rest) (hl : ls.size = mL) (hroom : (rest.map fun v => v.category).sum ≤ 8) (hdg : decode cc pc = .ok (.invokestatic index, 3))
    (kk : ∀ (H : Heap) (locs : List Loc), va_P g.1 vwCl w' H → va_D A w' → va_S A s.heap H locs → W p l e R s m args below meth c H locs cells slots Q (F0 m (pc + 3) ls (.long r :: rest))) : W p l e R s m args below meth c H locs cells slots Q (F0 m pc ls st0) := by
  obtain ⟨⟨ws', hw⟩, hM⟩ := hM
  refine va_calll (va_runS (As := As) (rest := rest) C.1 ct (va_cwS n C.1.2.2.2.2 hG hw hR.2.2.1 hR.2.2.2 hM.2 ⟨hR.1, hR.2.1⟩) ⟨zz_blind, zz_pre C hP hD⟩ rfl hn hl hst (lv_room hroom) hdg hcs) hS (fun q _ h => zz_fr C hD hS q h) (zz_fr C hD hS) (fun r2 u t H1 locs ht hvm hw2 hB hz1 hk1 hS1 => ?_)
  obtain ⟨hP1, hK1, hD1⟩ := hB
  subst hw2
  rw [ht] at hP1
  exact kk H1 locs hP1 (zz_wk C hD hS hD1) hS1
end ZzCall
end
