section
-- ===== PART A: goes FIRST, ahead of the names: the tables' words, and 'selects' of the private methods out of them =====
/-- a private method of a class that the tables say can be made, by its rows of tables_1 -/
def lw_okq (q : MethodName × Nat) : Prop := (q.1.cls ≠ "java/lang/invoke/MethodHandle" ∧ q.1.cls ≠ "java/lang/invoke/VarHandle") ∧ Cond.instantiable q.1.cls q.2 ∈ tables_1 ∧ Cond.privateMethod q.1 ∈ tables_1 ∧ Cond.instanceMethod q.1 ∈ tables_1
theorem lw_p0 : lw_okq (⟨"FlowLedger", "isArc", "(I)Z"⟩, 2) := ⟨⟨by decide +kernel, by decide +kernel⟩, List.mem_of_getElem? (i := 7) (by decide +kernel), List.mem_of_getElem? (i := 106) (by decide +kernel), List.mem_of_getElem? (i := 107) (by decide +kernel)⟩
theorem lw_p1 : lw_okq (⟨"FlowLedger$Router", "levelUnboundedArcs", "()Z"⟩, 8) := ⟨⟨by decide +kernel, by decide +kernel⟩, List.mem_of_getElem? (i := 52) (by decide +kernel), List.mem_of_getElem? (i := 134) (by decide +kernel), List.mem_of_getElem? (i := 135) (by decide +kernel)⟩
theorem lw_p2 : lw_okq (⟨"FlowLedger$Router", "isShortcut", "(I)Z"⟩, 8) := ⟨⟨by decide +kernel, by decide +kernel⟩, List.mem_of_getElem? (i := 52) (by decide +kernel), List.mem_of_getElem? (i := 138) (by decide +kernel), List.mem_of_getElem? (i := 139) (by decide +kernel)⟩
theorem lw_p3 : lw_okq (⟨"FlowLedger$Router", "fillLightArcs", "()V"⟩, 8) := ⟨⟨by decide +kernel, by decide +kernel⟩, List.mem_of_getElem? (i := 52) (by decide +kernel), List.mem_of_getElem? (i := 142) (by decide +kernel), List.mem_of_getElem? (i := 143) (by decide +kernel)⟩
theorem lw_p4 : lw_okq (⟨"FlowLedger$Router", "countExcess", "()V"⟩, 8) := ⟨⟨by decide +kernel, by decide +kernel⟩, List.mem_of_getElem? (i := 52) (by decide +kernel), List.mem_of_getElem? (i := 146) (by decide +kernel), List.mem_of_getElem? (i := 147) (by decide +kernel)⟩
theorem lw_p5 : lw_okq (⟨"FlowLedger$Router", "sendOnce", "()Z"⟩, 8) := ⟨⟨by decide +kernel, by decide +kernel⟩, List.mem_of_getElem? (i := 52) (by decide +kernel), List.mem_of_getElem? (i := 150) (by decide +kernel), List.mem_of_getElem? (i := 151) (by decide +kernel)⟩
theorem lw_p6 : lw_okq (⟨"FlowLedger$Router", "startAtExcess", "()V"⟩, 8) := ⟨⟨by decide +kernel, by decide +kernel⟩, List.mem_of_getElem? (i := 52) (by decide +kernel), List.mem_of_getElem? (i := 154) (by decide +kernel), List.mem_of_getElem? (i := 155) (by decide +kernel)⟩
theorem lw_p7 : lw_okq (⟨"FlowLedger$Router", "setStart", "(IZ)V"⟩, 8) := ⟨⟨by decide +kernel, by decide +kernel⟩, List.mem_of_getElem? (i := 52) (by decide +kernel), List.mem_of_getElem? (i := 158) (by decide +kernel), List.mem_of_getElem? (i := 159) (by decide +kernel)⟩
theorem lw_p8 : lw_okq (⟨"FlowLedger$Router", "measure", "(I)V"⟩, 8) := ⟨⟨by decide +kernel, by decide +kernel⟩, List.mem_of_getElem? (i := 52) (by decide +kernel), List.mem_of_getElem? (i := 163) (by decide +kernel), List.mem_of_getElem? (i := 164) (by decide +kernel)⟩
theorem lw_p9 : lw_okq (⟨"FlowLedger$Router", "nearestShortNode", "()I"⟩, 8) := ⟨⟨by decide +kernel, by decide +kernel⟩, List.mem_of_getElem? (i := 52) (by decide +kernel), List.mem_of_getElem? (i := 167) (by decide +kernel), List.mem_of_getElem? (i := 168) (by decide +kernel)⟩
theorem lw_p10 : lw_okq (⟨"FlowLedger$Router", "sendAlongPath", "(II)V"⟩, 8) := ⟨⟨by decide +kernel, by decide +kernel⟩, List.mem_of_getElem? (i := 52) (by decide +kernel), List.mem_of_getElem? (i := 174) (by decide +kernel), List.mem_of_getElem? (i := 175) (by decide +kernel)⟩
theorem lw_p11 : lw_okq (⟨"FlowLedger", "routeTilted", "(II)Z"⟩, 2) := ⟨⟨by decide +kernel, by decide +kernel⟩, List.mem_of_getElem? (i := 7) (by decide +kernel), List.mem_of_getElem? (i := 237) (by decide +kernel), List.mem_of_getElem? (i := 238) (by decide +kernel)⟩
theorem lw_p12 : lw_okq (⟨"FlowLedgerModel", "fill", "()I"⟩, 16) := ⟨⟨by decide +kernel, by decide +kernel⟩, List.mem_of_getElem? (i := 259) (by decide +kernel), List.mem_of_getElem? (i := 345) (by decide +kernel), List.mem_of_getElem? (i := 346) (by decide +kernel)⟩
theorem lw_p13 : lw_okq (⟨"FlowLedgerModel", "lead", "(III)V"⟩, 16) := ⟨⟨by decide +kernel, by decide +kernel⟩, List.mem_of_getElem? (i := 259) (by decide +kernel), List.mem_of_getElem? (i := 349) (by decide +kernel), List.mem_of_getElem? (i := 350) (by decide +kernel)⟩
theorem lw_p14 : lw_okq (⟨"FlowLedgerModel", "pushAll", "([IIII)I"⟩, 16) := ⟨⟨by decide +kernel, by decide +kernel⟩, List.mem_of_getElem? (i := 259) (by decide +kernel), List.mem_of_getElem? (i := 353) (by decide +kernel), List.mem_of_getElem? (i := 354) (by decide +kernel)⟩
theorem lw_p15 : lw_okq (⟨"FlowLedgerModel", "isReached", "([III)Z"⟩, 16) := ⟨⟨by decide +kernel, by decide +kernel⟩, List.mem_of_getElem? (i := 259) (by decide +kernel), List.mem_of_getElem? (i := 357) (by decide +kernel), List.mem_of_getElem? (i := 358) (by decide +kernel)⟩
def lw_privs_1 : List (MethodName × Nat) := [(⟨"FlowLedger", "isArc", "(I)Z"⟩, 2), (⟨"FlowLedger$Router", "levelUnboundedArcs", "()Z"⟩, 8), (⟨"FlowLedger$Router", "isShortcut", "(I)Z"⟩, 8), (⟨"FlowLedger$Router", "fillLightArcs", "()V"⟩, 8), (⟨"FlowLedger$Router", "countExcess", "()V"⟩, 8), (⟨"FlowLedger$Router", "sendOnce", "()Z"⟩, 8), (⟨"FlowLedger$Router", "startAtExcess", "()V"⟩, 8), (⟨"FlowLedger$Router", "setStart", "(IZ)V"⟩, 8), (⟨"FlowLedger$Router", "measure", "(I)V"⟩, 8), (⟨"FlowLedger$Router", "nearestShortNode", "()I"⟩, 8), (⟨"FlowLedger$Router", "sendAlongPath", "(II)V"⟩, 8), (⟨"FlowLedger", "routeTilted", "(II)Z"⟩, 2), (⟨"FlowLedgerModel", "fill", "()I"⟩, 16), (⟨"FlowLedgerModel", "lead", "(III)V"⟩, 16), (⟨"FlowLedgerModel", "pushAll", "([IIII)I"⟩, 16), (⟨"FlowLedgerModel", "isReached", "([III)Z"⟩, 16)]
theorem lw_r1 : ∀ q ∈ lw_privs_1, lw_okq q := List.forall_mem_cons.mpr ⟨lw_p0, List.forall_mem_cons.mpr ⟨lw_p1, List.forall_mem_cons.mpr ⟨lw_p2, List.forall_mem_cons.mpr ⟨lw_p3, List.forall_mem_cons.mpr ⟨lw_p4, List.forall_mem_cons.mpr ⟨lw_p5, List.forall_mem_cons.mpr ⟨lw_p6, List.forall_mem_cons.mpr ⟨lw_p7, List.forall_mem_cons.mpr ⟨lw_p8, List.forall_mem_cons.mpr ⟨lw_p9, List.forall_mem_cons.mpr ⟨lw_p10, List.forall_mem_cons.mpr ⟨lw_p11, List.forall_mem_cons.mpr ⟨lw_p12, List.forall_mem_cons.mpr ⟨lw_p13, List.forall_mem_cons.mpr ⟨lw_p14, List.forall_mem_cons.mpr ⟨lw_p15, fun _ h => absurd h List.not_mem_nil⟩⟩⟩⟩⟩⟩⟩⟩⟩⟩⟩⟩⟩⟩⟩⟩
theorem lw_p16 : lw_okq (⟨"FlowLedgerModel", "leftFrom", "([III)I"⟩, 16) := ⟨⟨by decide +kernel, by decide +kernel⟩, List.mem_of_getElem? (i := 259) (by decide +kernel), List.mem_of_getElem? (i := 361) (by decide +kernel), List.mem_of_getElem? (i := 362) (by decide +kernel)⟩
theorem lw_p17 : lw_okq (⟨"FlowLedgerModel", "solve", "()I"⟩, 16) := ⟨⟨by decide +kernel, by decide +kernel⟩, List.mem_of_getElem? (i := 259) (by decide +kernel), List.mem_of_getElem? (i := 375) (by decide +kernel), List.mem_of_getElem? (i := 376) (by decide +kernel)⟩
theorem lw_p18 : lw_okq (⟨"FlowLedgerModel", "findRound", "(Z)I"⟩, 16) := ⟨⟨by decide +kernel, by decide +kernel⟩, List.mem_of_getElem? (i := 259) (by decide +kernel), List.mem_of_getElem? (i := 380) (by decide +kernel), List.mem_of_getElem? (i := 381) (by decide +kernel)⟩
theorem lw_p19 : lw_okq (⟨"FlowLedgerModel", "goRound", "(I)V"⟩, 16) := ⟨⟨by decide +kernel, by decide +kernel⟩, List.mem_of_getElem? (i := 259) (by decide +kernel), List.mem_of_getElem? (i := 385) (by decide +kernel), List.mem_of_getElem? (i := 386) (by decide +kernel)⟩
theorem lw_p20 : lw_okq (⟨"FlowLedgerModel", "before", "(I)I"⟩, 16) := ⟨⟨by decide +kernel, by decide +kernel⟩, List.mem_of_getElem? (i := 259) (by decide +kernel), List.mem_of_getElem? (i := 389) (by decide +kernel), List.mem_of_getElem? (i := 390) (by decide +kernel)⟩
theorem lw_p21 : lw_okq (⟨"FlowLedgerModel", "isFree", "(I)Z"⟩, 16) := ⟨⟨by decide +kernel, by decide +kernel⟩, List.mem_of_getElem? (i := 259) (by decide +kernel), List.mem_of_getElem? (i := 405) (by decide +kernel), List.mem_of_getElem? (i := 406) (by decide +kernel)⟩
theorem lw_p22 : lw_okq (⟨"FlowLedgerModel", "room", "(IIII)I"⟩, 16) := ⟨⟨by decide +kernel, by decide +kernel⟩, List.mem_of_getElem? (i := 259) (by decide +kernel), List.mem_of_getElem? (i := 409) (by decide +kernel), List.mem_of_getElem? (i := 410) (by decide +kernel)⟩
theorem lw_p23 : lw_okq (⟨"FlowLedgerModel", "mostOf", "(I)I"⟩, 16) := ⟨⟨by decide +kernel, by decide +kernel⟩, List.mem_of_getElem? (i := 259) (by decide +kernel), List.mem_of_getElem? (i := 417) (by decide +kernel), List.mem_of_getElem? (i := 418) (by decide +kernel)⟩
def lw_privs_2 : List (MethodName × Nat) := [(⟨"FlowLedgerModel", "leftFrom", "([III)I"⟩, 16), (⟨"FlowLedgerModel", "solve", "()I"⟩, 16), (⟨"FlowLedgerModel", "findRound", "(Z)I"⟩, 16), (⟨"FlowLedgerModel", "goRound", "(I)V"⟩, 16), (⟨"FlowLedgerModel", "before", "(I)I"⟩, 16), (⟨"FlowLedgerModel", "isFree", "(I)Z"⟩, 16), (⟨"FlowLedgerModel", "room", "(IIII)I"⟩, 16), (⟨"FlowLedgerModel", "mostOf", "(I)I"⟩, 16)]
theorem lw_r2 : ∀ q ∈ lw_privs_2, lw_okq q := List.forall_mem_cons.mpr ⟨lw_p16, List.forall_mem_cons.mpr ⟨lw_p17, List.forall_mem_cons.mpr ⟨lw_p18, List.forall_mem_cons.mpr ⟨lw_p19, List.forall_mem_cons.mpr ⟨lw_p20, List.forall_mem_cons.mpr ⟨lw_p21, List.forall_mem_cons.mpr ⟨lw_p22, List.forall_mem_cons.mpr ⟨lw_p23, fun _ h => absurd h List.not_mem_nil⟩⟩⟩⟩⟩⟩⟩⟩
def lw_privs : List (MethodName × Nat) := lw_privs_1 ++ (lw_privs_2)
def lw_tbl : List Cond := k2_sels lw_privs ++ tables_1
theorem lw_privs_ok : ∀ q ∈ lw_privs, lw_okq q := by
  show ∀ q ∈ lw_privs_1 ++ (lw_privs_2), lw_okq q
  exact List.forall_mem_append.mpr ⟨lw_r1, lw_r2⟩
-- ===== end of PART A; then your names; then what follows =====
end
section
/-! ===== BEGIN words of one list among another's, by their places ===== -/
theorem goodIn_r {big : List Cond} (ws : List Cond) (ps : List Nat) (hp : ws = ps.filterMap (fun i => big[i]?)) (h : ws.all goodWord = true) : GoodIn big ws := by
  intro w hw
  have h1 := List.all_eq_true.mp h w hw
  rw [hp] at hw
  obtain ⟨i, -, hi⟩ := List.mem_filterMap.mp hw
  have hm : w ∈ big := by first | exact List.mem_of_getElem? hi | exact List.getElem?_mem hi
  exact ⟨hm, good_of_word h1⟩
theorem goodIn_app {big a b : List Cond} (ha : GoodIn big a) (hb : GoodIn big b) : GoodIn big (a ++ b) := fun w h => (List.mem_append.mp h).elim (ha w) (hb w)
theorem goodIn_ca {big a b : List Cond} {c : Cond} (ha : GoodIn big (c :: a)) (hb : GoodIn big b) : GoodIn big (c :: (a ++ b)) := fun w h => (List.mem_cons.mp h).elim (fun e => ha w (List.mem_cons.mpr (Or.inl e))) (fun h => (List.mem_append.mp h).elim (fun h => ha w (List.mem_cons.mpr (Or.inr h))) (hb w))
theorem goodIn_sub {big ws : List Cond} (hm : ∀ w ∈ ws, w ∈ big) (h : ws.all goodWord = true) : GoodIn big ws := fun w hw => ⟨hm w hw, good_of_word (List.all_eq_true.mp h w hw)⟩
/-! ===== END ===== -/

/-! ===== BEGIN printed: names, fields, word lists, decode rows ===== -/
def RX0 : String := "FlowLedger$Network"
def TX0 : u_T := fun k => match k with
  | 0 => ("FlowLedger$Network", "from", "[I", true)
  | 1 => ("FlowLedger$Network", "to", "[I", true)
  | 2 => ("FlowLedger$Network", "capacity", "[I", true)
  | 3 => ("FlowLedger$Network", "cost", "[I", true)
  | 4 => ("FlowLedger$Network", "supply", "[I", true)
  | _ => ("FlowLedger$Network", "count", "I", false)
def tyX0 : Nat → FieldType := fun k => match k with
  | 0 => .array .int
  | 1 => .array .int
  | 2 => .array .int
  | 3 => .array .int
  | 4 => .array .int
  | _ => .int
abbrev wsX00 : List Cond := u_ws RX0 TX0 6
theorem nmX0 : ∀ a, a < 6 → ∀ b, b < 6 → a ≠ b → (TX0 a).2.1 ≠ (TX0 b).2.1 := by decide +kernel
theorem tyX0_ok : ∀ k, k < 6 → parseFieldDescriptor (TX0 k).2.2.1 = some (tyX0 k) := by decide +kernel
abbrev cX0_init : ByteArray := prog_2_method_1_code
def yX0_init : MethodName := ⟨RX0, "<init>", "()V"⟩
abbrev cX0_totalSupply : ByteArray := prog_2_method_2_code
def yX0_totalSupply : MethodName := ⟨RX0, "totalSupply", "()I"⟩
def RX1 : String := "FlowLedger$Router"
def TX1 : u_T := fun k => match k with
  | 0 => ("FlowLedger$Router", "network", "LFlowLedger$Network;", true)
  | 1 => ("FlowLedger$Router", "tail", "[I", true)
  | 2 => ("FlowLedger$Router", "head", "[I", true)
  | 3 => ("FlowLedger$Router", "weight", "[I", true)
  | 4 => ("FlowLedger$Router", "room", "[I", true)
  | 5 => ("FlowLedger$Router", "excess", "[I", true)
  | 6 => ("FlowLedger$Router", "distance", "[I", true)
  | _ => ("FlowLedger$Router", "entry", "[I", true)
def tyX1 : Nat → FieldType := fun k => match k with
  | 0 => .object "FlowLedger$Network"
  | 1 => .array .int
  | 2 => .array .int
  | 3 => .array .int
  | 4 => .array .int
  | 5 => .array .int
  | 6 => .array .int
  | _ => .array .int
abbrev wsX10 : List Cond := u_ws RX1 TX1 8
theorem nmX1 : ∀ a, a < 8 → ∀ b, b < 8 → a ≠ b → (TX1 a).2.1 ≠ (TX1 b).2.1 := by decide +kernel
theorem tyX1_ok : ∀ k, k < 8 → parseFieldDescriptor (TX1 k).2.2.1 = some (tyX1 k) := by decide +kernel
abbrev cX1_init : ByteArray := prog_3_method_1_code
def yX1_init : MethodName := ⟨RX1, "<init>", "(LFlowLedger$Network;)V"⟩
abbrev cX1_lay : ByteArray := prog_3_method_2_code
def yX1_lay : MethodName := ⟨RX1, "lay", "(I)V"⟩
abbrev cX1_tilt : ByteArray := prog_3_method_3_code
def yX1_tilt : MethodName := ⟨RX1, "tilt", "(II)V"⟩
abbrev cX1_flowOf : ByteArray := prog_3_method_4_code
def yX1_flowOf : MethodName := ⟨RX1, "flowOf", "(I)I"⟩
abbrev cX1_distanceTo : ByteArray := prog_3_method_5_code
def yX1_distanceTo : MethodName := ⟨RX1, "distanceTo", "(I)I"⟩
abbrev cX1_route : ByteArray := prog_3_method_6_code
def yX1_route : MethodName := ⟨RX1, "route", "()Z"⟩
abbrev cX1_isBalanced : ByteArray := prog_3_method_7_code
def yX1_isBalanced : MethodName := ⟨RX1, "isBalanced", "()Z"⟩
abbrev cX1_totalExcess : ByteArray := prog_3_method_8_code
def yX1_totalExcess : MethodName := ⟨RX1, "totalExcess", "()I"⟩
abbrev cX1_costOfFlow : ByteArray := prog_3_method_9_code
def yX1_costOfFlow : MethodName := ⟨RX1, "costOfFlow", "()I"⟩
abbrev cX1_nodesBehindExcess : ByteArray := prog_3_method_10_code
def yX1_nodesBehindExcess : MethodName := ⟨RX1, "nodesBehindExcess", "()I"⟩
abbrev cX1_canReach : ByteArray := prog_3_method_11_code
def yX1_canReach : MethodName := ⟨RX1, "canReach", "(III)Z"⟩
abbrev cX1_levelUnboundedArcs : ByteArray := prog_3_method_12_code
def yX1_levelUnboundedArcs : MethodName := ⟨RX1, "levelUnboundedArcs", "()Z"⟩
abbrev cX1_isShortcut : ByteArray := prog_3_method_13_code
def yX1_isShortcut : MethodName := ⟨RX1, "isShortcut", "(I)Z"⟩
abbrev cX1_fillLightArcs : ByteArray := prog_3_method_14_code
def yX1_fillLightArcs : MethodName := ⟨RX1, "fillLightArcs", "()V"⟩
abbrev cX1_countExcess : ByteArray := prog_3_method_15_code
def yX1_countExcess : MethodName := ⟨RX1, "countExcess", "()V"⟩
abbrev cX1_sendOnce : ByteArray := prog_3_method_16_code
def yX1_sendOnce : MethodName := ⟨RX1, "sendOnce", "()Z"⟩
abbrev cX1_sendAlongPath : ByteArray := prog_3_method_17_code
def yX1_sendAlongPath : MethodName := ⟨RX1, "sendAlongPath", "(II)V"⟩
abbrev cX1_nearestShortNode : ByteArray := prog_3_method_18_code
def yX1_nearestShortNode : MethodName := ⟨RX1, "nearestShortNode", "()I"⟩
abbrev cX1_startAtExcess : ByteArray := prog_3_method_19_code
def yX1_startAtExcess : MethodName := ⟨RX1, "startAtExcess", "()V"⟩
abbrev cX1_setStart : ByteArray := prog_3_method_20_code
def yX1_setStart : MethodName := ⟨RX1, "setStart", "(IZ)V"⟩
abbrev cX1_measure : ByteArray := prog_3_method_21_code
def yX1_measure : MethodName := ⟨RX1, "measure", "(I)V"⟩
def RX2 : String := "FlowLedger"
def TX2 : u_T := fun k => match k with
  | 0 => ("FlowLedger", "network", "LFlowLedger$Network;", true)
  | _ => ("FlowLedger", "router", "LFlowLedger$Router;", true)
def tyX2 : Nat → FieldType := fun k => match k with
  | 0 => .object "FlowLedger$Network"
  | _ => .object "FlowLedger$Router"
abbrev wsX20 : List Cond := u_ws RX2 TX2 2
theorem nmX2 : ∀ a, a < 2 → ∀ b, b < 2 → a ≠ b → (TX2 a).2.1 ≠ (TX2 b).2.1 := by decide +kernel
theorem tyX2_ok : ∀ k, k < 2 → parseFieldDescriptor (TX2 k).2.2.1 = some (tyX2 k) := by decide +kernel
abbrev cX2_init : ByteArray := prog_1_method_1_code
def yX2_init : MethodName := ⟨RX2, "<init>", "()V"⟩
abbrev cX2_add : ByteArray := prog_1_method_2_code
def yX2_add : MethodName := ⟨RX2, "add", "(IIII)I"⟩
abbrev cX2_change : ByteArray := prog_1_method_3_code
def yX2_change : MethodName := ⟨RX2, "change", "(III)Z"⟩
abbrev cX2_supply : ByteArray := prog_1_method_4_code
def yX2_supply : MethodName := ⟨RX2, "supply", "(II)Z"⟩
abbrev cX2_clear : ByteArray := prog_1_method_5_code
def yX2_clear : MethodName := ⟨RX2, "clear", "()V"⟩
abbrev cX2_arcs : ByteArray := prog_1_method_6_code
def yX2_arcs : MethodName := ⟨RX2, "arcs", "()I"⟩
abbrev cX2_state : ByteArray := prog_1_method_7_code
def yX2_state : MethodName := ⟨RX2, "state", "()I"⟩
abbrev cX2_cost : ByteArray := prog_1_method_8_code
def yX2_cost : MethodName := ⟨RX2, "cost", "()I"⟩
abbrev cX2_amount : ByteArray := prog_1_method_9_code
def yX2_amount : MethodName := ⟨RX2, "amount", "()I"⟩
abbrev cX2_bottleneck : ByteArray := prog_1_method_10_code
def yX2_bottleneck : MethodName := ⟨RX2, "bottleneck", "()I"⟩
abbrev cX2_marginal : ByteArray := prog_1_method_11_code
def yX2_marginal : MethodName := ⟨RX2, "marginal", "(II)I"⟩
abbrev cX2_least : ByteArray := prog_1_method_12_code
def yX2_least : MethodName := ⟨RX2, "least", "(I)I"⟩
abbrev cX2_most : ByteArray := prog_1_method_13_code
def yX2_most : MethodName := ⟨RX2, "most", "(I)I"⟩
abbrev cX2_slack : ByteArray := prog_1_method_14_code
def yX2_slack : MethodName := ⟨RX2, "slack", "(I)I"⟩
abbrev cX2_isNode : ByteArray := prog_1_method_15_code
def yX2_isNode : MethodName := ⟨RX2, "isNode", "(I)Z"⟩
abbrev cX2_isArcData : ByteArray := prog_1_method_16_code
def yX2_isArcData : MethodName := ⟨RX2, "isArcData", "(II)Z"⟩
abbrev cX2_sumAboveZero : ByteArray := prog_1_method_17_code
def yX2_sumAboveZero : MethodName := ⟨RX2, "sumAboveZero", "([I)I"⟩
abbrev cX2_isArc : ByteArray := prog_1_method_18_code
def yX2_isArc : MethodName := ⟨RX2, "isArc", "(I)Z"⟩
abbrev cX2_routeTilted : ByteArray := prog_1_method_19_code
def yX2_routeTilted : MethodName := ⟨RX2, "routeTilted", "(II)Z"⟩
def RX3 : String := "FlowLedgerModel"
def TX3 : u_T := fun k => match k with
  | 0 => ("FlowLedgerModel", "arcs", "I", false)
  | 1 => ("FlowLedgerModel", "froms", "[I", true)
  | 2 => ("FlowLedgerModel", "tos", "[I", true)
  | 3 => ("FlowLedgerModel", "capacities", "[I", true)
  | 4 => ("FlowLedgerModel", "costs", "[I", true)
  | 5 => ("FlowLedgerModel", "supplies", "[I", true)
  | 6 => ("FlowLedgerModel", "flow", "[I", true)
  | 7 => ("FlowLedgerModel", "other", "[I", true)
  | 8 => ("FlowLedgerModel", "all", "I", false)
  | 9 => ("FlowLedgerModel", "seen", "[Z", true)
  | 10 => ("FlowLedgerModel", "far", "[I", true)
  | 11 => ("FlowLedgerModel", "by", "[I", true)
  | 12 => ("FlowLedgerModel", "allowed", "[Z", true)
  | 13 => ("FlowLedgerModel", "total", "I", false)
  | 14 => ("FlowLedgerModel", "way", "[I", true)
  | _ => ("FlowLedgerModel", "row", "[I", true)
def tyX3 : Nat → FieldType := fun k => match k with
  | 0 => .int
  | 1 => .array .int
  | 2 => .array .int
  | 3 => .array .int
  | 4 => .array .int
  | 5 => .array .int
  | 6 => .array .int
  | 7 => .array .int
  | 8 => .int
  | 9 => .array .boolean
  | 10 => .array .int
  | 11 => .array .int
  | 12 => .array .boolean
  | 13 => .int
  | 14 => .array .int
  | _ => .array .int
abbrev wsX30 : List Cond := u_ws RX3 TX3 16
theorem nmX3 : ∀ a, a < 16 → ∀ b, b < 16 → a ≠ b → (TX3 a).2.1 ≠ (TX3 b).2.1 := by decide +kernel
theorem tyX3_ok : ∀ k, k < 16 → parseFieldDescriptor (TX3 k).2.2.1 = some (tyX3 k) := by decide +kernel
abbrev cX3_init : ByteArray := prog_5_method_1_code
def yX3_init : MethodName := ⟨RX3, "<init>", "()V"⟩
abbrev cX3_in : ByteArray := prog_5_method_3_code
def yX3_in : MethodName := ⟨RX3, "in", "(III)Z"⟩
abbrev cX3_add : ByteArray := prog_5_method_4_code
def yX3_add : MethodName := ⟨RX3, "add", "(IIII)I"⟩
abbrev cX3_change : ByteArray := prog_5_method_5_code
def yX3_change : MethodName := ⟨RX3, "change", "(III)Z"⟩
abbrev cX3_supply : ByteArray := prog_5_method_6_code
def yX3_supply : MethodName := ⟨RX3, "supply", "(II)Z"⟩
abbrev cX3_clear : ByteArray := prog_5_method_7_code
def yX3_clear : MethodName := ⟨RX3, "clear", "()V"⟩
abbrev cX3_arcs : ByteArray := prog_5_method_8_code
def yX3_arcs : MethodName := ⟨RX3, "arcs", "()I"⟩
abbrev cX3_lead : ByteArray := prog_5_method_9_code
def yX3_lead : MethodName := ⟨RX3, "lead", "(III)V"⟩
abbrev cX3_leftFrom : ByteArray := prog_5_method_10_code
def yX3_leftFrom : MethodName := ⟨RX3, "leftFrom", "([III)I"⟩
abbrev cX3_isReached : ByteArray := prog_5_method_11_code
def yX3_isReached : MethodName := ⟨RX3, "isReached", "([III)Z"⟩
abbrev cX3_pushAll : ByteArray := prog_5_method_12_code
def yX3_pushAll : MethodName := ⟨RX3, "pushAll", "([IIII)I"⟩
abbrev cX3_fill : ByteArray := prog_5_method_13_code
def yX3_fill : MethodName := ⟨RX3, "fill", "()I"⟩
abbrev cX3_amount : ByteArray := prog_5_method_14_code
def yX3_amount : MethodName := ⟨RX3, "amount", "()I"⟩
abbrev cX3_bottleneck : ByteArray := prog_5_method_15_code
def yX3_bottleneck : MethodName := ⟨RX3, "bottleneck", "()I"⟩
abbrev cX3_findRound : ByteArray := prog_5_method_16_code
def yX3_findRound : MethodName := ⟨RX3, "findRound", "(Z)I"⟩
abbrev cX3_before : ByteArray := prog_5_method_17_code
def yX3_before : MethodName := ⟨RX3, "before", "(I)I"⟩
abbrev cX3_goRound : ByteArray := prog_5_method_18_code
def yX3_goRound : MethodName := ⟨RX3, "goRound", "(I)V"⟩
abbrev cX3_solve : ByteArray := prog_5_method_19_code
def yX3_solve : MethodName := ⟨RX3, "solve", "()I"⟩
abbrev cX3_state : ByteArray := prog_5_method_20_code
def yX3_state : MethodName := ⟨RX3, "state", "()I"⟩
abbrev cX3_cost : ByteArray := prog_5_method_21_code
def yX3_cost : MethodName := ⟨RX3, "cost", "()I"⟩
abbrev cX3_marginal : ByteArray := prog_5_method_22_code
def yX3_marginal : MethodName := ⟨RX3, "marginal", "(II)I"⟩
abbrev cX3_isFree : ByteArray := prog_5_method_23_code
def yX3_isFree : MethodName := ⟨RX3, "isFree", "(I)Z"⟩
abbrev cX3_room : ByteArray := prog_5_method_24_code
def yX3_room : MethodName := ⟨RX3, "room", "(IIII)I"⟩
abbrev cX3_least : ByteArray := prog_5_method_25_code
def yX3_least : MethodName := ⟨RX3, "least", "(I)I"⟩
abbrev cX3_mostOf : ByteArray := prog_5_method_26_code
def yX3_mostOf : MethodName := ⟨RX3, "mostOf", "(I)I"⟩
abbrev cX3_most : ByteArray := prog_5_method_27_code
def yX3_most : MethodName := ⟨RX3, "most", "(I)I"⟩
abbrev cX3_slack : ByteArray := prog_5_method_28_code
def yX3_slack : MethodName := ⟨RX3, "slack", "(I)I"⟩
def RJ9 : String := "java/lang/Math"
def TJ9 : u_T := fun k => match k with
  | _ => ("", "", "", false)
def tyJ9 : Nat → FieldType := fun k => match k with
  | _ => .int
abbrev wsJ90 : List Cond := u_ws RJ9 TJ9 0
theorem nmJ9 : ∀ a, a < 0 → ∀ b, b < 0 → a ≠ b → (TJ9 a).2.1 ≠ (TJ9 b).2.1 := by decide +kernel
theorem tyJ9_ok : ∀ k, k < 0 → parseFieldDescriptor (TJ9 k).2.2.1 = some (tyJ9 k) := by decide +kernel
abbrev cJ9_max_7cf53 : ByteArray := prog_6_method_65_code
def yJ9_max_7cf53 : MethodName := ⟨RJ9, "max", "(II)I"⟩
abbrev cJ9_min_7cf53 : ByteArray := prog_6_method_69_code
def yJ9_min_7cf53 : MethodName := ⟨RJ9, "min", "(II)I"⟩
def RL : String := "FlowLedgerLaw"
abbrev cL_law : ByteArray := code
def yL_law : MethodName := ⟨RL, "law", "([I)Z"⟩
def wsX0_init : List Cond := .code yX0_init cX0_init 1 none :: ([.methodLink RX0 3 objectInit, .instanceMethod objectInit, .code objectInit ⟨#[0xb1]⟩ 1 none, .arrayClass .int, .fieldLink RX0 9 "FlowLedger$Network" "from" "[I", .fieldLink RX0 15 "FlowLedger$Network" "to" "[I", .fieldLink RX0 18 "FlowLedger$Network" "capacity" "[I", .fieldLink RX0 21 "FlowLedger$Network" "cost" "[I", .fieldLink RX0 24 "FlowLedger$Network" "supply" "[I"] ++ wsX00)
def wsX2_sumAboveZero : List Cond := .code yX2_sumAboveZero cX2_sumAboveZero 6 (some .int) :: ([.methodLink RX2 111 Lib.Math.max.name, .static Lib.Math.max.name, .initialized "java/lang/Math", .code Lib.Math.max.name Lib.Math.max.code 2 (some .int)])
def wsX0_totalSupply : List Cond := .code yX0_totalSupply cX0_totalSupply 1 (some .int) :: ([.fieldLink RX0 24 "FlowLedger$Network" "supply" "[I", .static yX2_sumAboveZero, .initialized RX2, .code yX2_sumAboveZero cX2_sumAboveZero 6 (some .int), .methodLink RX2 111 Lib.Math.max.name, .static Lib.Math.max.name, .initialized "java/lang/Math", .code Lib.Math.max.name Lib.Math.max.code 2 (some .int)] ++ wsX00)
def wsX1_init : List Cond := .code yX1_init cX1_init 2 none :: ([.methodLink RX1 3 objectInit, .instanceMethod objectInit, .code objectInit ⟨#[0xb1]⟩ 1 none, .arrayClass .int, .fieldLink RX1 9 "FlowLedger$Router" "tail" "[I", .fieldLink RX1 15 "FlowLedger$Router" "head" "[I", .fieldLink RX1 18 "FlowLedger$Router" "weight" "[I", .fieldLink RX1 21 "FlowLedger$Router" "room" "[I", .fieldLink RX1 24 "FlowLedger$Router" "excess" "[I", .fieldLink RX1 27 "FlowLedger$Router" "distance" "[I", .fieldLink RX1 30 "FlowLedger$Router" "entry" "[I", .fieldLink RX1 33 "FlowLedger$Router" "network" "LFlowLedger$Network;"] ++ wsX10)
def wsX1_lay : List Cond := .code yX1_lay cX1_lay 4 none :: ([.fieldLink RX1 33 "FlowLedger$Router" "network" "LFlowLedger$Network;", .fieldLink RX1 37 "FlowLedger$Network" "count" "I", .fieldLink RX1 9 "FlowLedger$Router" "tail" "[I", .fieldLink RX1 43 "FlowLedger$Network" "from" "[I", .fieldLink RX1 15 "FlowLedger$Router" "head" "[I", .fieldLink RX1 46 "FlowLedger$Network" "to" "[I", .fieldLink RX1 18 "FlowLedger$Router" "weight" "[I", .fieldLink RX1 49 "FlowLedger$Network" "cost" "[I"] ++ wsX10 ++ wsX00)
def wsX1_tilt : List Cond := .code yX1_tilt cX1_tilt 3 none :: ([.fieldLink RX1 18 "FlowLedger$Router" "weight" "[I"] ++ wsX10)
def wsX1_flowOf : List Cond := .code yX1_flowOf cX1_flowOf 2 (some .int) :: ([.fieldLink RX1 21 "FlowLedger$Router" "room" "[I"] ++ wsX10)
def wsX1_distanceTo : List Cond := .code yX1_distanceTo cX1_distanceTo 2 (some .int) :: ([.fieldLink RX1 27 "FlowLedger$Router" "distance" "[I"] ++ wsX10)
def wsX1_isShortcut : List Cond := .code yX1_isShortcut cX1_isShortcut 2 (some .boolean) :: ([.fieldLink RX1 27 "FlowLedger$Router" "distance" "[I", .fieldLink RX1 9 "FlowLedger$Router" "tail" "[I", .fieldLink RX1 18 "FlowLedger$Router" "weight" "[I", .fieldLink RX1 15 "FlowLedger$Router" "head" "[I"] ++ wsX10)
def wsX1_levelUnboundedArcs : List Cond := .code yX1_levelUnboundedArcs cX1_levelUnboundedArcs 4 (some .boolean) :: ([.fieldLink RX1 27 "FlowLedger$Router" "distance" "[I", .fieldLink RX1 33 "FlowLedger$Router" "network" "LFlowLedger$Network;", .fieldLink RX1 37 "FlowLedger$Network" "count" "I", .fieldLink RX1 81 "FlowLedger$Network" "capacity" "[I", .fieldLink RX1 15 "FlowLedger$Router" "head" "[I", .fieldLink RX1 9 "FlowLedger$Router" "tail" "[I", .fieldLink RX1 18 "FlowLedger$Router" "weight" "[I", .methodLink RX1 84 yX1_isShortcut, .instanceMethod yX1_isShortcut, .selects RX1 yX1_isShortcut yX1_isShortcut, .initialized RX1, .code yX1_isShortcut cX1_isShortcut 2 (some .boolean)] ++ wsX10 ++ wsX00)
def wsX1_fillLightArcs : List Cond := .code yX1_fillLightArcs cX1_fillLightArcs 5 none :: ([.fieldLink RX1 33 "FlowLedger$Router" "network" "LFlowLedger$Network;", .fieldLink RX1 37 "FlowLedger$Network" "count" "I", .fieldLink RX1 81 "FlowLedger$Network" "capacity" "[I", .fieldLink RX1 21 "FlowLedger$Router" "room" "[I", .methodLink RX1 84 yX1_isShortcut, .instanceMethod yX1_isShortcut, .selects RX1 yX1_isShortcut yX1_isShortcut, .initialized RX1, .code yX1_isShortcut cX1_isShortcut 2 (some .boolean), .fieldLink RX1 27 "FlowLedger$Router" "distance" "[I", .fieldLink RX1 9 "FlowLedger$Router" "tail" "[I", .fieldLink RX1 18 "FlowLedger$Router" "weight" "[I", .fieldLink RX1 15 "FlowLedger$Router" "head" "[I"] ++ wsX10 ++ wsX00)
def wsX1_countExcess : List Cond := .code yX1_countExcess cX1_countExcess 2 none :: ([.fieldLink RX1 24 "FlowLedger$Router" "excess" "[I", .fieldLink RX1 33 "FlowLedger$Router" "network" "LFlowLedger$Network;", .fieldLink RX1 88 "FlowLedger$Network" "supply" "[I", .fieldLink RX1 37 "FlowLedger$Network" "count" "I", .fieldLink RX1 43 "FlowLedger$Network" "from" "[I", .fieldLink RX1 21 "FlowLedger$Router" "room" "[I", .fieldLink RX1 46 "FlowLedger$Network" "to" "[I"] ++ wsX10 ++ wsX00)
def wsX1_setStart : List Cond := .code yX1_setStart cX1_setStart 3 none :: ([.fieldLink RX1 27 "FlowLedger$Router" "distance" "[I", .constant RX1 76 (1000000000), .fieldLink RX1 30 "FlowLedger$Router" "entry" "[I"] ++ wsX10)
def wsX1_startAtExcess : List Cond := .code yX1_startAtExcess cX1_startAtExcess 2 none :: ([.fieldLink RX1 24 "FlowLedger$Router" "excess" "[I", .methodLink RX1 77 yX1_setStart, .instanceMethod yX1_setStart, .selects RX1 yX1_setStart yX1_setStart, .initialized RX1, .code yX1_setStart cX1_setStart 3 none, .fieldLink RX1 27 "FlowLedger$Router" "distance" "[I", .constant RX1 76 (1000000000), .fieldLink RX1 30 "FlowLedger$Router" "entry" "[I"] ++ wsX10)
def wsX1_measure : List Cond := .code yX1_measure cX1_measure 6 none :: ([.fieldLink RX1 33 "FlowLedger$Router" "network" "LFlowLedger$Network;", .fieldLink RX1 37 "FlowLedger$Network" "count" "I", .fieldLink RX1 21 "FlowLedger$Router" "room" "[I", .fieldLink RX1 27 "FlowLedger$Router" "distance" "[I", .fieldLink RX1 9 "FlowLedger$Router" "tail" "[I", .constant RX1 76 (1000000000), .fieldLink RX1 15 "FlowLedger$Router" "head" "[I", .fieldLink RX1 18 "FlowLedger$Router" "weight" "[I", .fieldLink RX1 30 "FlowLedger$Router" "entry" "[I", .methodLink RX1 84 yX1_isShortcut, .instanceMethod yX1_isShortcut, .selects RX1 yX1_isShortcut yX1_isShortcut, .initialized RX1, .code yX1_isShortcut cX1_isShortcut 2 (some .boolean)] ++ wsX10 ++ wsX00)
def wsX1_nearestShortNode : List Cond := .code yX1_nearestShortNode cX1_nearestShortNode 4 (some .int) :: ([.constant RX1 76 (1000000000), .fieldLink RX1 24 "FlowLedger$Router" "excess" "[I", .fieldLink RX1 27 "FlowLedger$Router" "distance" "[I"] ++ wsX10)
def wsX1_sendAlongPath : List Cond := .code yX1_sendAlongPath cX1_sendAlongPath 6 none :: ([.fieldLink RX1 30 "FlowLedger$Router" "entry" "[I", .fieldLink RX1 21 "FlowLedger$Router" "room" "[I", .fieldLink RX1 9 "FlowLedger$Router" "tail" "[I"] ++ wsX10)
def wsX1_sendOnce_r1 : List Cond := [Cond.fieldLink RX1 24 "FlowLedger$Router" "excess" "[I", Cond.fieldLink RX1 30 "FlowLedger$Router" "entry" "[I", Cond.fieldLink RX1 21 "FlowLedger$Router" "room" "[I", Cond.methodLink RX1 95 Lib.Math.min.name, Cond.static Lib.Math.min.name, Cond.initialized "java/lang/Math", Cond.code Lib.Math.min.name Lib.Math.min.code 2 (some .int), Cond.fieldLink RX1 9 "FlowLedger$Router" "tail" "[I", Cond.methodLink RX1 69 yX1_startAtExcess, Cond.instanceMethod yX1_startAtExcess, Cond.selects RX1 yX1_startAtExcess yX1_startAtExcess, Cond.initialized RX1, Cond.code yX1_startAtExcess cX1_startAtExcess 2 none, Cond.methodLink RX1 77 yX1_setStart, Cond.instanceMethod yX1_setStart, Cond.selects RX1 yX1_setStart yX1_setStart, Cond.code yX1_setStart cX1_setStart 3 none, Cond.fieldLink RX1 27 "FlowLedger$Router" "distance" "[I", Cond.constant RX1 76 (1000000000), Cond.methodLink RX1 72 yX1_measure, Cond.instanceMethod yX1_measure, Cond.selects RX1 yX1_measure yX1_measure, Cond.code yX1_measure cX1_measure 6 none, Cond.fieldLink RX1 33 "FlowLedger$Router" "network" "LFlowLedger$Network;"]
def wsX1_sendOnce_r2 : List Cond := [Cond.fieldLink RX1 37 "FlowLedger$Network" "count" "I", Cond.fieldLink RX1 15 "FlowLedger$Router" "head" "[I", Cond.fieldLink RX1 18 "FlowLedger$Router" "weight" "[I", Cond.methodLink RX1 84 yX1_isShortcut, Cond.instanceMethod yX1_isShortcut, Cond.selects RX1 yX1_isShortcut yX1_isShortcut, Cond.code yX1_isShortcut cX1_isShortcut 2 (some .boolean), Cond.methodLink RX1 91 yX1_nearestShortNode, Cond.instanceMethod yX1_nearestShortNode, Cond.selects RX1 yX1_nearestShortNode yX1_nearestShortNode, Cond.code yX1_nearestShortNode cX1_nearestShortNode 4 (some .int), Cond.methodLink RX1 101 yX1_sendAlongPath, Cond.instanceMethod yX1_sendAlongPath, Cond.selects RX1 yX1_sendAlongPath yX1_sendAlongPath, Cond.code yX1_sendAlongPath cX1_sendAlongPath 6 none]
def wsX1_sendOnce : List Cond := .code yX1_sendOnce cX1_sendOnce 5 (some .boolean) :: ((wsX1_sendOnce_r1 ++ wsX1_sendOnce_r2) ++ wsX10 ++ wsX00)
def wsX1_route_r1 : List Cond := [Cond.methodLink RX1 52 yX1_levelUnboundedArcs, Cond.instanceMethod yX1_levelUnboundedArcs, Cond.selects RX1 yX1_levelUnboundedArcs yX1_levelUnboundedArcs, Cond.initialized RX1, Cond.code yX1_levelUnboundedArcs cX1_levelUnboundedArcs 4 (some .boolean), Cond.fieldLink RX1 27 "FlowLedger$Router" "distance" "[I", Cond.fieldLink RX1 33 "FlowLedger$Router" "network" "LFlowLedger$Network;", Cond.fieldLink RX1 37 "FlowLedger$Network" "count" "I", Cond.fieldLink RX1 81 "FlowLedger$Network" "capacity" "[I", Cond.fieldLink RX1 15 "FlowLedger$Router" "head" "[I", Cond.fieldLink RX1 9 "FlowLedger$Router" "tail" "[I", Cond.fieldLink RX1 18 "FlowLedger$Router" "weight" "[I", Cond.methodLink RX1 84 yX1_isShortcut, Cond.instanceMethod yX1_isShortcut, Cond.selects RX1 yX1_isShortcut yX1_isShortcut, Cond.code yX1_isShortcut cX1_isShortcut 2 (some .boolean), Cond.methodLink RX1 56 yX1_fillLightArcs, Cond.instanceMethod yX1_fillLightArcs, Cond.selects RX1 yX1_fillLightArcs yX1_fillLightArcs, Cond.code yX1_fillLightArcs cX1_fillLightArcs 5 none, Cond.fieldLink RX1 21 "FlowLedger$Router" "room" "[I", Cond.methodLink RX1 59 yX1_countExcess, Cond.instanceMethod yX1_countExcess, Cond.selects RX1 yX1_countExcess yX1_countExcess]
def wsX1_route_r2 : List Cond := [Cond.code yX1_countExcess cX1_countExcess 2 none, Cond.fieldLink RX1 24 "FlowLedger$Router" "excess" "[I", Cond.fieldLink RX1 88 "FlowLedger$Network" "supply" "[I", Cond.fieldLink RX1 43 "FlowLedger$Network" "from" "[I", Cond.fieldLink RX1 46 "FlowLedger$Network" "to" "[I", Cond.methodLink RX1 62 yX1_sendOnce, Cond.instanceMethod yX1_sendOnce, Cond.selects RX1 yX1_sendOnce yX1_sendOnce, Cond.code yX1_sendOnce cX1_sendOnce 5 (some .boolean), Cond.fieldLink RX1 30 "FlowLedger$Router" "entry" "[I", Cond.methodLink RX1 95 Lib.Math.min.name, Cond.static Lib.Math.min.name, Cond.initialized "java/lang/Math", Cond.code Lib.Math.min.name Lib.Math.min.code 2 (some .int), Cond.methodLink RX1 69 yX1_startAtExcess, Cond.instanceMethod yX1_startAtExcess, Cond.selects RX1 yX1_startAtExcess yX1_startAtExcess, Cond.code yX1_startAtExcess cX1_startAtExcess 2 none, Cond.methodLink RX1 77 yX1_setStart, Cond.instanceMethod yX1_setStart, Cond.selects RX1 yX1_setStart yX1_setStart, Cond.code yX1_setStart cX1_setStart 3 none, Cond.constant RX1 76 (1000000000), Cond.methodLink RX1 72 yX1_measure]
def wsX1_route_r3 : List Cond := [Cond.instanceMethod yX1_measure, Cond.selects RX1 yX1_measure yX1_measure, Cond.code yX1_measure cX1_measure 6 none, Cond.methodLink RX1 91 yX1_nearestShortNode, Cond.instanceMethod yX1_nearestShortNode, Cond.selects RX1 yX1_nearestShortNode yX1_nearestShortNode, Cond.code yX1_nearestShortNode cX1_nearestShortNode 4 (some .int), Cond.methodLink RX1 101 yX1_sendAlongPath, Cond.instanceMethod yX1_sendAlongPath, Cond.selects RX1 yX1_sendAlongPath yX1_sendAlongPath, Cond.code yX1_sendAlongPath cX1_sendAlongPath 6 none]
def wsX1_route : List Cond := .code yX1_route cX1_route 3 (some .boolean) :: ((wsX1_route_r1 ++ (wsX1_route_r2 ++ wsX1_route_r3)) ++ wsX10 ++ wsX00)
def wsX1_isBalanced : List Cond := .code yX1_isBalanced cX1_isBalanced 2 (some .boolean) :: ([.fieldLink RX1 24 "FlowLedger$Router" "excess" "[I"] ++ wsX10)
def wsX1_totalExcess : List Cond := .code yX1_totalExcess cX1_totalExcess 1 (some .int) :: ([.fieldLink RX1 24 "FlowLedger$Router" "excess" "[I", .static yX2_sumAboveZero, .initialized RX2, .code yX2_sumAboveZero cX2_sumAboveZero 6 (some .int), .methodLink RX2 111 Lib.Math.max.name, .static Lib.Math.max.name, .initialized "java/lang/Math", .code Lib.Math.max.name Lib.Math.max.code 2 (some .int)] ++ wsX10)
def wsX1_costOfFlow : List Cond := .code yX1_costOfFlow cX1_costOfFlow 3 (some .int) :: ([.fieldLink RX1 33 "FlowLedger$Router" "network" "LFlowLedger$Network;", .fieldLink RX1 37 "FlowLedger$Network" "count" "I", .fieldLink RX1 49 "FlowLedger$Network" "cost" "[I", .fieldLink RX1 21 "FlowLedger$Router" "room" "[I"] ++ wsX10 ++ wsX00)
def wsX1_nodesBehindExcess_r1 : List Cond := [Cond.fieldLink RX1 27 "FlowLedger$Router" "distance" "[I", Cond.constant RX1 76 (1000000000), Cond.methodLink RX1 69 yX1_startAtExcess, Cond.instanceMethod yX1_startAtExcess, Cond.selects RX1 yX1_startAtExcess yX1_startAtExcess, Cond.initialized RX1, Cond.code yX1_startAtExcess cX1_startAtExcess 2 none, Cond.fieldLink RX1 24 "FlowLedger$Router" "excess" "[I", Cond.methodLink RX1 77 yX1_setStart, Cond.instanceMethod yX1_setStart, Cond.selects RX1 yX1_setStart yX1_setStart, Cond.code yX1_setStart cX1_setStart 3 none, Cond.fieldLink RX1 30 "FlowLedger$Router" "entry" "[I", Cond.methodLink RX1 72 yX1_measure, Cond.instanceMethod yX1_measure, Cond.selects RX1 yX1_measure yX1_measure, Cond.code yX1_measure cX1_measure 6 none, Cond.fieldLink RX1 33 "FlowLedger$Router" "network" "LFlowLedger$Network;", Cond.fieldLink RX1 37 "FlowLedger$Network" "count" "I", Cond.fieldLink RX1 21 "FlowLedger$Router" "room" "[I", Cond.fieldLink RX1 9 "FlowLedger$Router" "tail" "[I", Cond.fieldLink RX1 15 "FlowLedger$Router" "head" "[I", Cond.fieldLink RX1 18 "FlowLedger$Router" "weight" "[I", Cond.methodLink RX1 84 yX1_isShortcut]
def wsX1_nodesBehindExcess_r2 : List Cond := [Cond.instanceMethod yX1_isShortcut, Cond.selects RX1 yX1_isShortcut yX1_isShortcut, Cond.code yX1_isShortcut cX1_isShortcut 2 (some .boolean)]
def wsX1_nodesBehindExcess : List Cond := .code yX1_nodesBehindExcess cX1_nodesBehindExcess 3 (some .int) :: ((wsX1_nodesBehindExcess_r1 ++ wsX1_nodesBehindExcess_r2) ++ wsX10 ++ wsX00)
def wsX1_canReach : List Cond := .code yX1_canReach cX1_canReach 5 (some .boolean) :: ([.fieldLink RX1 27 "FlowLedger$Router" "distance" "[I", .constant RX1 76 (1000000000), .methodLink RX1 77 yX1_setStart, .instanceMethod yX1_setStart, .selects RX1 yX1_setStart yX1_setStart, .initialized RX1, .code yX1_setStart cX1_setStart 3 none, .fieldLink RX1 30 "FlowLedger$Router" "entry" "[I", .methodLink RX1 72 yX1_measure, .instanceMethod yX1_measure, .selects RX1 yX1_measure yX1_measure, .code yX1_measure cX1_measure 6 none, .fieldLink RX1 33 "FlowLedger$Router" "network" "LFlowLedger$Network;", .fieldLink RX1 37 "FlowLedger$Network" "count" "I", .fieldLink RX1 21 "FlowLedger$Router" "room" "[I", .fieldLink RX1 9 "FlowLedger$Router" "tail" "[I", .fieldLink RX1 15 "FlowLedger$Router" "head" "[I", .fieldLink RX1 18 "FlowLedger$Router" "weight" "[I", .methodLink RX1 84 yX1_isShortcut, .instanceMethod yX1_isShortcut, .selects RX1 yX1_isShortcut yX1_isShortcut, .code yX1_isShortcut cX1_isShortcut 2 (some .boolean)] ++ wsX10 ++ wsX00)
def wsX2_init_r1 : List Cond := [Cond.methodLink RX2 3 objectInit, Cond.instanceMethod objectInit, Cond.code objectInit ⟨#[0xb1]⟩ 1 none, Cond.classLink RX2 9 RX0, Cond.instantiable RX0 6, Cond.initialized RX0, Cond.fieldLink RX2 12 "FlowLedger" "network" "LFlowLedger$Network;", Cond.classLink RX2 16 RX1, Cond.instantiable RX1 8, Cond.initialized RX1, Cond.fieldLink RX2 21 "FlowLedger" "router" "LFlowLedger$Router;", Cond.instanceMethod yX0_init, Cond.code yX0_init cX0_init 1 none, Cond.methodLink RX0 3 objectInit, Cond.arrayClass .int, Cond.fieldLink RX0 9 "FlowLedger$Network" "from" "[I", Cond.fieldLink RX0 15 "FlowLedger$Network" "to" "[I", Cond.fieldLink RX0 18 "FlowLedger$Network" "capacity" "[I", Cond.fieldLink RX0 21 "FlowLedger$Network" "cost" "[I", Cond.fieldLink RX0 24 "FlowLedger$Network" "supply" "[I", Cond.methodLink RX2 18 yX1_init, Cond.instanceMethod yX1_init, Cond.code yX1_init cX1_init 2 none, Cond.methodLink RX1 3 objectInit]
def wsX2_init_r2 : List Cond := [Cond.fieldLink RX1 9 "FlowLedger$Router" "tail" "[I", Cond.fieldLink RX1 15 "FlowLedger$Router" "head" "[I", Cond.fieldLink RX1 18 "FlowLedger$Router" "weight" "[I", Cond.fieldLink RX1 21 "FlowLedger$Router" "room" "[I", Cond.fieldLink RX1 24 "FlowLedger$Router" "excess" "[I", Cond.fieldLink RX1 27 "FlowLedger$Router" "distance" "[I", Cond.fieldLink RX1 30 "FlowLedger$Router" "entry" "[I", Cond.fieldLink RX1 33 "FlowLedger$Router" "network" "LFlowLedger$Network;"]
def wsX2_init : List Cond := .code yX2_init cX2_init 1 none :: ((wsX2_init_r1 ++ wsX2_init_r2) ++ wsX00 ++ wsX20 ++ wsX10)
def wsX2_isNode : List Cond := .code yX2_isNode cX2_isNode 1 (some .boolean) :: ([])
def wsX2_isArcData : List Cond := .code yX2_isArcData cX2_isArcData 2 (some .boolean) :: ([])
def wsX2_add : List Cond := .code yX2_add cX2_add 6 (some .int) :: ([.constant RX2 33 (-1000000), .fieldLink RX2 12 "FlowLedger" "network" "LFlowLedger$Network;", .fieldLink RX2 34 "FlowLedger$Network" "count" "I", .constant RX2 38 (-1000001), .fieldLink RX2 39 "FlowLedger$Network" "from" "[I", .fieldLink RX2 43 "FlowLedger$Network" "to" "[I", .fieldLink RX2 46 "FlowLedger$Network" "capacity" "[I", .fieldLink RX2 49 "FlowLedger$Network" "cost" "[I", .methodLink RX2 25 yX2_isNode, .static yX2_isNode, .initialized RX2, .code yX2_isNode cX2_isNode 1 (some .boolean), .methodLink RX2 29 yX2_isArcData, .static yX2_isArcData, .code yX2_isArcData cX2_isArcData 2 (some .boolean)] ++ wsX20 ++ wsX00)
def wsX2_isArc : List Cond := .code yX2_isArc cX2_isArc 2 (some .boolean) :: ([.fieldLink RX2 12 "FlowLedger" "network" "LFlowLedger$Network;", .fieldLink RX2 34 "FlowLedger$Network" "count" "I"] ++ wsX20 ++ wsX00)
def wsX2_change : List Cond := .code yX2_change cX2_change 4 (some .boolean) :: ([.fieldLink RX2 12 "FlowLedger" "network" "LFlowLedger$Network;", .fieldLink RX2 46 "FlowLedger$Network" "capacity" "[I", .fieldLink RX2 49 "FlowLedger$Network" "cost" "[I", .methodLink RX2 52 yX2_isArc, .instanceMethod yX2_isArc, .selects RX2 yX2_isArc yX2_isArc, .initialized RX2, .code yX2_isArc cX2_isArc 2 (some .boolean), .fieldLink RX2 34 "FlowLedger$Network" "count" "I", .methodLink RX2 29 yX2_isArcData, .static yX2_isArcData, .code yX2_isArcData cX2_isArcData 2 (some .boolean)] ++ wsX20 ++ wsX00)
def wsX2_supply : List Cond := .code yX2_supply cX2_supply 3 (some .boolean) :: ([.fieldLink RX2 12 "FlowLedger" "network" "LFlowLedger$Network;", .fieldLink RX2 55 "FlowLedger$Network" "supply" "[I", .methodLink RX2 25 yX2_isNode, .static yX2_isNode, .initialized RX2, .code yX2_isNode cX2_isNode 1 (some .boolean)] ++ wsX20 ++ wsX00)
def wsX2_clear : List Cond := .code yX2_clear cX2_clear 2 none :: ([.fieldLink RX2 12 "FlowLedger" "network" "LFlowLedger$Network;", .fieldLink RX2 34 "FlowLedger$Network" "count" "I", .fieldLink RX2 55 "FlowLedger$Network" "supply" "[I"] ++ wsX20 ++ wsX00)
def wsX2_arcs : List Cond := .code yX2_arcs cX2_arcs 1 (some .int) :: ([.fieldLink RX2 12 "FlowLedger" "network" "LFlowLedger$Network;", .fieldLink RX2 34 "FlowLedger$Network" "count" "I"] ++ wsX20 ++ wsX00)
def wsX2_state_r1 : List Cond := [Cond.fieldLink RX2 21 "FlowLedger" "router" "LFlowLedger$Router;", Cond.constant RX2 69 (-1000002), Cond.constant RX2 70 (-1000003), Cond.methodLink RX2 58 yX1_lay, Cond.instanceMethod yX1_lay, Cond.selects RX1 yX1_lay yX1_lay, Cond.initialized RX1, Cond.code yX1_lay cX1_lay 4 none, Cond.fieldLink RX1 33 "FlowLedger$Router" "network" "LFlowLedger$Network;", Cond.fieldLink RX1 37 "FlowLedger$Network" "count" "I", Cond.fieldLink RX1 9 "FlowLedger$Router" "tail" "[I", Cond.fieldLink RX1 43 "FlowLedger$Network" "from" "[I", Cond.fieldLink RX1 15 "FlowLedger$Router" "head" "[I", Cond.fieldLink RX1 46 "FlowLedger$Network" "to" "[I", Cond.fieldLink RX1 18 "FlowLedger$Router" "weight" "[I", Cond.fieldLink RX1 49 "FlowLedger$Network" "cost" "[I", Cond.methodLink RX2 62 yX1_route, Cond.instanceMethod yX1_route, Cond.selects RX1 yX1_route yX1_route, Cond.code yX1_route cX1_route 3 (some .boolean), Cond.methodLink RX1 52 yX1_levelUnboundedArcs, Cond.instanceMethod yX1_levelUnboundedArcs, Cond.selects RX1 yX1_levelUnboundedArcs yX1_levelUnboundedArcs, Cond.code yX1_levelUnboundedArcs cX1_levelUnboundedArcs 4 (some .boolean)]
def wsX2_state_r2 : List Cond := [Cond.fieldLink RX1 27 "FlowLedger$Router" "distance" "[I", Cond.fieldLink RX1 81 "FlowLedger$Network" "capacity" "[I", Cond.methodLink RX1 84 yX1_isShortcut, Cond.instanceMethod yX1_isShortcut, Cond.selects RX1 yX1_isShortcut yX1_isShortcut, Cond.code yX1_isShortcut cX1_isShortcut 2 (some .boolean), Cond.methodLink RX1 56 yX1_fillLightArcs, Cond.instanceMethod yX1_fillLightArcs, Cond.selects RX1 yX1_fillLightArcs yX1_fillLightArcs, Cond.code yX1_fillLightArcs cX1_fillLightArcs 5 none, Cond.fieldLink RX1 21 "FlowLedger$Router" "room" "[I", Cond.methodLink RX1 59 yX1_countExcess, Cond.instanceMethod yX1_countExcess, Cond.selects RX1 yX1_countExcess yX1_countExcess, Cond.code yX1_countExcess cX1_countExcess 2 none, Cond.fieldLink RX1 24 "FlowLedger$Router" "excess" "[I", Cond.fieldLink RX1 88 "FlowLedger$Network" "supply" "[I", Cond.methodLink RX1 62 yX1_sendOnce, Cond.instanceMethod yX1_sendOnce, Cond.selects RX1 yX1_sendOnce yX1_sendOnce, Cond.code yX1_sendOnce cX1_sendOnce 5 (some .boolean), Cond.fieldLink RX1 30 "FlowLedger$Router" "entry" "[I", Cond.methodLink RX1 95 Lib.Math.min.name, Cond.static Lib.Math.min.name]
def wsX2_state_r3 : List Cond := [Cond.initialized "java/lang/Math", Cond.code Lib.Math.min.name Lib.Math.min.code 2 (some .int), Cond.methodLink RX1 69 yX1_startAtExcess, Cond.instanceMethod yX1_startAtExcess, Cond.selects RX1 yX1_startAtExcess yX1_startAtExcess, Cond.code yX1_startAtExcess cX1_startAtExcess 2 none, Cond.methodLink RX1 77 yX1_setStart, Cond.instanceMethod yX1_setStart, Cond.selects RX1 yX1_setStart yX1_setStart, Cond.code yX1_setStart cX1_setStart 3 none, Cond.constant RX1 76 (1000000000), Cond.methodLink RX1 72 yX1_measure, Cond.instanceMethod yX1_measure, Cond.selects RX1 yX1_measure yX1_measure, Cond.code yX1_measure cX1_measure 6 none, Cond.methodLink RX1 91 yX1_nearestShortNode, Cond.instanceMethod yX1_nearestShortNode, Cond.selects RX1 yX1_nearestShortNode yX1_nearestShortNode, Cond.code yX1_nearestShortNode cX1_nearestShortNode 4 (some .int), Cond.methodLink RX1 101 yX1_sendAlongPath, Cond.instanceMethod yX1_sendAlongPath, Cond.selects RX1 yX1_sendAlongPath yX1_sendAlongPath, Cond.code yX1_sendAlongPath cX1_sendAlongPath 6 none, Cond.methodLink RX2 66 yX1_isBalanced]
def wsX2_state_r4 : List Cond := [Cond.instanceMethod yX1_isBalanced, Cond.selects RX1 yX1_isBalanced yX1_isBalanced, Cond.code yX1_isBalanced cX1_isBalanced 2 (some .boolean)]
def wsX2_state : List Cond := .code yX2_state cX2_state 1 (some .int) :: ((wsX2_state_r1 ++ (wsX2_state_r2 ++ (wsX2_state_r3 ++ wsX2_state_r4))) ++ wsX20 ++ wsX10 ++ wsX00)
def wsX2_cost_r1 : List Cond := [Cond.fieldLink RX2 21 "FlowLedger" "router" "LFlowLedger$Router;", Cond.methodLink RX2 71 yX2_state, Cond.instanceMethod yX2_state, Cond.selects RX2 yX2_state yX2_state, Cond.initialized RX2, Cond.code yX2_state cX2_state 1 (some .int), Cond.constant RX2 69 (-1000002), Cond.constant RX2 70 (-1000003), Cond.methodLink RX2 58 yX1_lay, Cond.instanceMethod yX1_lay, Cond.selects RX1 yX1_lay yX1_lay, Cond.initialized RX1, Cond.code yX1_lay cX1_lay 4 none, Cond.fieldLink RX1 33 "FlowLedger$Router" "network" "LFlowLedger$Network;", Cond.fieldLink RX1 37 "FlowLedger$Network" "count" "I", Cond.fieldLink RX1 9 "FlowLedger$Router" "tail" "[I", Cond.fieldLink RX1 43 "FlowLedger$Network" "from" "[I", Cond.fieldLink RX1 15 "FlowLedger$Router" "head" "[I", Cond.fieldLink RX1 46 "FlowLedger$Network" "to" "[I", Cond.fieldLink RX1 18 "FlowLedger$Router" "weight" "[I", Cond.fieldLink RX1 49 "FlowLedger$Network" "cost" "[I", Cond.methodLink RX2 62 yX1_route, Cond.instanceMethod yX1_route, Cond.selects RX1 yX1_route yX1_route]
def wsX2_cost_r2 : List Cond := [Cond.code yX1_route cX1_route 3 (some .boolean), Cond.methodLink RX1 52 yX1_levelUnboundedArcs, Cond.instanceMethod yX1_levelUnboundedArcs, Cond.selects RX1 yX1_levelUnboundedArcs yX1_levelUnboundedArcs, Cond.code yX1_levelUnboundedArcs cX1_levelUnboundedArcs 4 (some .boolean), Cond.fieldLink RX1 27 "FlowLedger$Router" "distance" "[I", Cond.fieldLink RX1 81 "FlowLedger$Network" "capacity" "[I", Cond.methodLink RX1 84 yX1_isShortcut, Cond.instanceMethod yX1_isShortcut, Cond.selects RX1 yX1_isShortcut yX1_isShortcut, Cond.code yX1_isShortcut cX1_isShortcut 2 (some .boolean), Cond.methodLink RX1 56 yX1_fillLightArcs, Cond.instanceMethod yX1_fillLightArcs, Cond.selects RX1 yX1_fillLightArcs yX1_fillLightArcs, Cond.code yX1_fillLightArcs cX1_fillLightArcs 5 none, Cond.fieldLink RX1 21 "FlowLedger$Router" "room" "[I", Cond.methodLink RX1 59 yX1_countExcess, Cond.instanceMethod yX1_countExcess, Cond.selects RX1 yX1_countExcess yX1_countExcess, Cond.code yX1_countExcess cX1_countExcess 2 none, Cond.fieldLink RX1 24 "FlowLedger$Router" "excess" "[I", Cond.fieldLink RX1 88 "FlowLedger$Network" "supply" "[I", Cond.methodLink RX1 62 yX1_sendOnce, Cond.instanceMethod yX1_sendOnce]
def wsX2_cost_r3 : List Cond := [Cond.selects RX1 yX1_sendOnce yX1_sendOnce, Cond.code yX1_sendOnce cX1_sendOnce 5 (some .boolean), Cond.fieldLink RX1 30 "FlowLedger$Router" "entry" "[I", Cond.methodLink RX1 95 Lib.Math.min.name, Cond.static Lib.Math.min.name, Cond.initialized "java/lang/Math", Cond.code Lib.Math.min.name Lib.Math.min.code 2 (some .int), Cond.methodLink RX1 69 yX1_startAtExcess, Cond.instanceMethod yX1_startAtExcess, Cond.selects RX1 yX1_startAtExcess yX1_startAtExcess, Cond.code yX1_startAtExcess cX1_startAtExcess 2 none, Cond.methodLink RX1 77 yX1_setStart, Cond.instanceMethod yX1_setStart, Cond.selects RX1 yX1_setStart yX1_setStart, Cond.code yX1_setStart cX1_setStart 3 none, Cond.constant RX1 76 (1000000000), Cond.methodLink RX1 72 yX1_measure, Cond.instanceMethod yX1_measure, Cond.selects RX1 yX1_measure yX1_measure, Cond.code yX1_measure cX1_measure 6 none, Cond.methodLink RX1 91 yX1_nearestShortNode, Cond.instanceMethod yX1_nearestShortNode, Cond.selects RX1 yX1_nearestShortNode yX1_nearestShortNode, Cond.code yX1_nearestShortNode cX1_nearestShortNode 4 (some .int)]
def wsX2_cost_r4 : List Cond := [Cond.methodLink RX1 101 yX1_sendAlongPath, Cond.instanceMethod yX1_sendAlongPath, Cond.selects RX1 yX1_sendAlongPath yX1_sendAlongPath, Cond.code yX1_sendAlongPath cX1_sendAlongPath 6 none, Cond.methodLink RX2 66 yX1_isBalanced, Cond.instanceMethod yX1_isBalanced, Cond.selects RX1 yX1_isBalanced yX1_isBalanced, Cond.code yX1_isBalanced cX1_isBalanced 2 (some .boolean), Cond.methodLink RX2 75 yX1_costOfFlow, Cond.instanceMethod yX1_costOfFlow, Cond.selects RX1 yX1_costOfFlow yX1_costOfFlow, Cond.code yX1_costOfFlow cX1_costOfFlow 3 (some .int)]
def wsX2_cost : List Cond := .code yX2_cost cX2_cost 2 (some .int) :: ((wsX2_cost_r1 ++ (wsX2_cost_r2 ++ (wsX2_cost_r3 ++ wsX2_cost_r4))) ++ wsX20 ++ wsX10 ++ wsX00)
def wsX2_amount_r1 : List Cond := [Cond.fieldLink RX2 21 "FlowLedger" "router" "LFlowLedger$Router;", Cond.fieldLink RX2 12 "FlowLedger" "network" "LFlowLedger$Network;", Cond.methodLink RX2 58 yX1_lay, Cond.instanceMethod yX1_lay, Cond.selects RX1 yX1_lay yX1_lay, Cond.initialized RX1, Cond.code yX1_lay cX1_lay 4 none, Cond.fieldLink RX1 33 "FlowLedger$Router" "network" "LFlowLedger$Network;", Cond.fieldLink RX1 37 "FlowLedger$Network" "count" "I", Cond.fieldLink RX1 9 "FlowLedger$Router" "tail" "[I", Cond.fieldLink RX1 43 "FlowLedger$Network" "from" "[I", Cond.fieldLink RX1 15 "FlowLedger$Router" "head" "[I", Cond.fieldLink RX1 46 "FlowLedger$Network" "to" "[I", Cond.fieldLink RX1 18 "FlowLedger$Router" "weight" "[I", Cond.fieldLink RX1 49 "FlowLedger$Network" "cost" "[I", Cond.methodLink RX2 62 yX1_route, Cond.instanceMethod yX1_route, Cond.selects RX1 yX1_route yX1_route, Cond.code yX1_route cX1_route 3 (some .boolean), Cond.methodLink RX1 52 yX1_levelUnboundedArcs, Cond.instanceMethod yX1_levelUnboundedArcs, Cond.selects RX1 yX1_levelUnboundedArcs yX1_levelUnboundedArcs, Cond.code yX1_levelUnboundedArcs cX1_levelUnboundedArcs 4 (some .boolean), Cond.fieldLink RX1 27 "FlowLedger$Router" "distance" "[I"]
def wsX2_amount_r2 : List Cond := [Cond.fieldLink RX1 81 "FlowLedger$Network" "capacity" "[I", Cond.methodLink RX1 84 yX1_isShortcut, Cond.instanceMethod yX1_isShortcut, Cond.selects RX1 yX1_isShortcut yX1_isShortcut, Cond.code yX1_isShortcut cX1_isShortcut 2 (some .boolean), Cond.methodLink RX1 56 yX1_fillLightArcs, Cond.instanceMethod yX1_fillLightArcs, Cond.selects RX1 yX1_fillLightArcs yX1_fillLightArcs, Cond.code yX1_fillLightArcs cX1_fillLightArcs 5 none, Cond.fieldLink RX1 21 "FlowLedger$Router" "room" "[I", Cond.methodLink RX1 59 yX1_countExcess, Cond.instanceMethod yX1_countExcess, Cond.selects RX1 yX1_countExcess yX1_countExcess, Cond.code yX1_countExcess cX1_countExcess 2 none, Cond.fieldLink RX1 24 "FlowLedger$Router" "excess" "[I", Cond.fieldLink RX1 88 "FlowLedger$Network" "supply" "[I", Cond.methodLink RX1 62 yX1_sendOnce, Cond.instanceMethod yX1_sendOnce, Cond.selects RX1 yX1_sendOnce yX1_sendOnce, Cond.code yX1_sendOnce cX1_sendOnce 5 (some .boolean), Cond.fieldLink RX1 30 "FlowLedger$Router" "entry" "[I", Cond.methodLink RX1 95 Lib.Math.min.name, Cond.static Lib.Math.min.name, Cond.initialized "java/lang/Math"]
def wsX2_amount_r3 : List Cond := [Cond.code Lib.Math.min.name Lib.Math.min.code 2 (some .int), Cond.methodLink RX1 69 yX1_startAtExcess, Cond.instanceMethod yX1_startAtExcess, Cond.selects RX1 yX1_startAtExcess yX1_startAtExcess, Cond.code yX1_startAtExcess cX1_startAtExcess 2 none, Cond.methodLink RX1 77 yX1_setStart, Cond.instanceMethod yX1_setStart, Cond.selects RX1 yX1_setStart yX1_setStart, Cond.code yX1_setStart cX1_setStart 3 none, Cond.constant RX1 76 (1000000000), Cond.methodLink RX1 72 yX1_measure, Cond.instanceMethod yX1_measure, Cond.selects RX1 yX1_measure yX1_measure, Cond.code yX1_measure cX1_measure 6 none, Cond.methodLink RX1 91 yX1_nearestShortNode, Cond.instanceMethod yX1_nearestShortNode, Cond.selects RX1 yX1_nearestShortNode yX1_nearestShortNode, Cond.code yX1_nearestShortNode cX1_nearestShortNode 4 (some .int), Cond.methodLink RX1 101 yX1_sendAlongPath, Cond.instanceMethod yX1_sendAlongPath, Cond.selects RX1 yX1_sendAlongPath yX1_sendAlongPath, Cond.code yX1_sendAlongPath cX1_sendAlongPath 6 none, Cond.methodLink RX2 78 yX0_totalSupply, Cond.instanceMethod yX0_totalSupply]
def wsX2_amount_r4 : List Cond := [Cond.selects RX0 yX0_totalSupply yX0_totalSupply, Cond.initialized RX0, Cond.code yX0_totalSupply cX0_totalSupply 1 (some .int), Cond.fieldLink RX0 24 "FlowLedger$Network" "supply" "[I", Cond.static yX2_sumAboveZero, Cond.initialized RX2, Cond.code yX2_sumAboveZero cX2_sumAboveZero 6 (some .int), Cond.methodLink RX2 111 Lib.Math.max.name, Cond.static Lib.Math.max.name, Cond.code Lib.Math.max.name Lib.Math.max.code 2 (some .int), Cond.methodLink RX2 81 yX1_totalExcess, Cond.instanceMethod yX1_totalExcess, Cond.selects RX1 yX1_totalExcess yX1_totalExcess, Cond.code yX1_totalExcess cX1_totalExcess 1 (some .int)]
def wsX2_amount : List Cond := .code yX2_amount cX2_amount 1 (some .int) :: ((wsX2_amount_r1 ++ (wsX2_amount_r2 ++ (wsX2_amount_r3 ++ wsX2_amount_r4))) ++ wsX20 ++ wsX10 ++ wsX00)
def wsX2_bottleneck_r1 : List Cond := [Cond.fieldLink RX2 21 "FlowLedger" "router" "LFlowLedger$Router;", Cond.methodLink RX2 58 yX1_lay, Cond.instanceMethod yX1_lay, Cond.selects RX1 yX1_lay yX1_lay, Cond.initialized RX1, Cond.code yX1_lay cX1_lay 4 none, Cond.fieldLink RX1 33 "FlowLedger$Router" "network" "LFlowLedger$Network;", Cond.fieldLink RX1 37 "FlowLedger$Network" "count" "I", Cond.fieldLink RX1 9 "FlowLedger$Router" "tail" "[I", Cond.fieldLink RX1 43 "FlowLedger$Network" "from" "[I", Cond.fieldLink RX1 15 "FlowLedger$Router" "head" "[I", Cond.fieldLink RX1 46 "FlowLedger$Network" "to" "[I", Cond.fieldLink RX1 18 "FlowLedger$Router" "weight" "[I", Cond.fieldLink RX1 49 "FlowLedger$Network" "cost" "[I", Cond.methodLink RX2 62 yX1_route, Cond.instanceMethod yX1_route, Cond.selects RX1 yX1_route yX1_route, Cond.code yX1_route cX1_route 3 (some .boolean), Cond.methodLink RX1 52 yX1_levelUnboundedArcs, Cond.instanceMethod yX1_levelUnboundedArcs, Cond.selects RX1 yX1_levelUnboundedArcs yX1_levelUnboundedArcs, Cond.code yX1_levelUnboundedArcs cX1_levelUnboundedArcs 4 (some .boolean), Cond.fieldLink RX1 27 "FlowLedger$Router" "distance" "[I", Cond.fieldLink RX1 81 "FlowLedger$Network" "capacity" "[I"]
def wsX2_bottleneck_r2 : List Cond := [Cond.methodLink RX1 84 yX1_isShortcut, Cond.instanceMethod yX1_isShortcut, Cond.selects RX1 yX1_isShortcut yX1_isShortcut, Cond.code yX1_isShortcut cX1_isShortcut 2 (some .boolean), Cond.methodLink RX1 56 yX1_fillLightArcs, Cond.instanceMethod yX1_fillLightArcs, Cond.selects RX1 yX1_fillLightArcs yX1_fillLightArcs, Cond.code yX1_fillLightArcs cX1_fillLightArcs 5 none, Cond.fieldLink RX1 21 "FlowLedger$Router" "room" "[I", Cond.methodLink RX1 59 yX1_countExcess, Cond.instanceMethod yX1_countExcess, Cond.selects RX1 yX1_countExcess yX1_countExcess, Cond.code yX1_countExcess cX1_countExcess 2 none, Cond.fieldLink RX1 24 "FlowLedger$Router" "excess" "[I", Cond.fieldLink RX1 88 "FlowLedger$Network" "supply" "[I", Cond.methodLink RX1 62 yX1_sendOnce, Cond.instanceMethod yX1_sendOnce, Cond.selects RX1 yX1_sendOnce yX1_sendOnce, Cond.code yX1_sendOnce cX1_sendOnce 5 (some .boolean), Cond.fieldLink RX1 30 "FlowLedger$Router" "entry" "[I", Cond.methodLink RX1 95 Lib.Math.min.name, Cond.static Lib.Math.min.name, Cond.initialized "java/lang/Math", Cond.code Lib.Math.min.name Lib.Math.min.code 2 (some .int)]
def wsX2_bottleneck_r3 : List Cond := [Cond.methodLink RX1 69 yX1_startAtExcess, Cond.instanceMethod yX1_startAtExcess, Cond.selects RX1 yX1_startAtExcess yX1_startAtExcess, Cond.code yX1_startAtExcess cX1_startAtExcess 2 none, Cond.methodLink RX1 77 yX1_setStart, Cond.instanceMethod yX1_setStart, Cond.selects RX1 yX1_setStart yX1_setStart, Cond.code yX1_setStart cX1_setStart 3 none, Cond.constant RX1 76 (1000000000), Cond.methodLink RX1 72 yX1_measure, Cond.instanceMethod yX1_measure, Cond.selects RX1 yX1_measure yX1_measure, Cond.code yX1_measure cX1_measure 6 none, Cond.methodLink RX1 91 yX1_nearestShortNode, Cond.instanceMethod yX1_nearestShortNode, Cond.selects RX1 yX1_nearestShortNode yX1_nearestShortNode, Cond.code yX1_nearestShortNode cX1_nearestShortNode 4 (some .int), Cond.methodLink RX1 101 yX1_sendAlongPath, Cond.instanceMethod yX1_sendAlongPath, Cond.selects RX1 yX1_sendAlongPath yX1_sendAlongPath, Cond.code yX1_sendAlongPath cX1_sendAlongPath 6 none, Cond.methodLink RX2 84 yX1_nodesBehindExcess, Cond.instanceMethod yX1_nodesBehindExcess, Cond.selects RX1 yX1_nodesBehindExcess yX1_nodesBehindExcess]
def wsX2_bottleneck_r4 : List Cond := [Cond.code yX1_nodesBehindExcess cX1_nodesBehindExcess 3 (some .int)]
def wsX2_bottleneck : List Cond := .code yX2_bottleneck cX2_bottleneck 1 (some .int) :: ((wsX2_bottleneck_r1 ++ (wsX2_bottleneck_r2 ++ (wsX2_bottleneck_r3 ++ wsX2_bottleneck_r4))) ++ wsX20 ++ wsX10 ++ wsX00)
def wsX2_marginal_r1 : List Cond := [Cond.constant RX2 33 (-1000000), Cond.fieldLink RX2 21 "FlowLedger" "router" "LFlowLedger$Router;", Cond.constant RX2 95 (-1000004), Cond.methodLink RX2 25 yX2_isNode, Cond.static yX2_isNode, Cond.initialized RX2, Cond.code yX2_isNode cX2_isNode 1 (some .boolean), Cond.methodLink RX2 71 yX2_state, Cond.instanceMethod yX2_state, Cond.selects RX2 yX2_state yX2_state, Cond.code yX2_state cX2_state 1 (some .int), Cond.constant RX2 69 (-1000002), Cond.constant RX2 70 (-1000003), Cond.methodLink RX2 58 yX1_lay, Cond.instanceMethod yX1_lay, Cond.selects RX1 yX1_lay yX1_lay, Cond.initialized RX1, Cond.code yX1_lay cX1_lay 4 none, Cond.fieldLink RX1 33 "FlowLedger$Router" "network" "LFlowLedger$Network;", Cond.fieldLink RX1 37 "FlowLedger$Network" "count" "I", Cond.fieldLink RX1 9 "FlowLedger$Router" "tail" "[I", Cond.fieldLink RX1 43 "FlowLedger$Network" "from" "[I", Cond.fieldLink RX1 15 "FlowLedger$Router" "head" "[I", Cond.fieldLink RX1 46 "FlowLedger$Network" "to" "[I"]
def wsX2_marginal_r2 : List Cond := [Cond.fieldLink RX1 18 "FlowLedger$Router" "weight" "[I", Cond.fieldLink RX1 49 "FlowLedger$Network" "cost" "[I", Cond.methodLink RX2 62 yX1_route, Cond.instanceMethod yX1_route, Cond.selects RX1 yX1_route yX1_route, Cond.code yX1_route cX1_route 3 (some .boolean), Cond.methodLink RX1 52 yX1_levelUnboundedArcs, Cond.instanceMethod yX1_levelUnboundedArcs, Cond.selects RX1 yX1_levelUnboundedArcs yX1_levelUnboundedArcs, Cond.code yX1_levelUnboundedArcs cX1_levelUnboundedArcs 4 (some .boolean), Cond.fieldLink RX1 27 "FlowLedger$Router" "distance" "[I", Cond.fieldLink RX1 81 "FlowLedger$Network" "capacity" "[I", Cond.methodLink RX1 84 yX1_isShortcut, Cond.instanceMethod yX1_isShortcut, Cond.selects RX1 yX1_isShortcut yX1_isShortcut, Cond.code yX1_isShortcut cX1_isShortcut 2 (some .boolean), Cond.methodLink RX1 56 yX1_fillLightArcs, Cond.instanceMethod yX1_fillLightArcs, Cond.selects RX1 yX1_fillLightArcs yX1_fillLightArcs, Cond.code yX1_fillLightArcs cX1_fillLightArcs 5 none, Cond.fieldLink RX1 21 "FlowLedger$Router" "room" "[I", Cond.methodLink RX1 59 yX1_countExcess, Cond.instanceMethod yX1_countExcess, Cond.selects RX1 yX1_countExcess yX1_countExcess]
def wsX2_marginal_r3 : List Cond := [Cond.code yX1_countExcess cX1_countExcess 2 none, Cond.fieldLink RX1 24 "FlowLedger$Router" "excess" "[I", Cond.fieldLink RX1 88 "FlowLedger$Network" "supply" "[I", Cond.methodLink RX1 62 yX1_sendOnce, Cond.instanceMethod yX1_sendOnce, Cond.selects RX1 yX1_sendOnce yX1_sendOnce, Cond.code yX1_sendOnce cX1_sendOnce 5 (some .boolean), Cond.fieldLink RX1 30 "FlowLedger$Router" "entry" "[I", Cond.methodLink RX1 95 Lib.Math.min.name, Cond.static Lib.Math.min.name, Cond.initialized "java/lang/Math", Cond.code Lib.Math.min.name Lib.Math.min.code 2 (some .int), Cond.methodLink RX1 69 yX1_startAtExcess, Cond.instanceMethod yX1_startAtExcess, Cond.selects RX1 yX1_startAtExcess yX1_startAtExcess, Cond.code yX1_startAtExcess cX1_startAtExcess 2 none, Cond.methodLink RX1 77 yX1_setStart, Cond.instanceMethod yX1_setStart, Cond.selects RX1 yX1_setStart yX1_setStart, Cond.code yX1_setStart cX1_setStart 3 none, Cond.constant RX1 76 (1000000000), Cond.methodLink RX1 72 yX1_measure, Cond.instanceMethod yX1_measure, Cond.selects RX1 yX1_measure yX1_measure]
def wsX2_marginal_r4 : List Cond := [Cond.code yX1_measure cX1_measure 6 none, Cond.methodLink RX1 91 yX1_nearestShortNode, Cond.instanceMethod yX1_nearestShortNode, Cond.selects RX1 yX1_nearestShortNode yX1_nearestShortNode, Cond.code yX1_nearestShortNode cX1_nearestShortNode 4 (some .int), Cond.methodLink RX1 101 yX1_sendAlongPath, Cond.instanceMethod yX1_sendAlongPath, Cond.selects RX1 yX1_sendAlongPath yX1_sendAlongPath, Cond.code yX1_sendAlongPath cX1_sendAlongPath 6 none, Cond.methodLink RX2 66 yX1_isBalanced, Cond.instanceMethod yX1_isBalanced, Cond.selects RX1 yX1_isBalanced yX1_isBalanced, Cond.code yX1_isBalanced cX1_isBalanced 2 (some .boolean), Cond.methodLink RX2 87 yX1_canReach, Cond.instanceMethod yX1_canReach, Cond.selects RX1 yX1_canReach yX1_canReach, Cond.code yX1_canReach cX1_canReach 5 (some .boolean), Cond.methodLink RX2 91 yX1_distanceTo, Cond.instanceMethod yX1_distanceTo, Cond.selects RX1 yX1_distanceTo yX1_distanceTo, Cond.code yX1_distanceTo cX1_distanceTo 2 (some .int)]
def wsX2_marginal : List Cond := .code yX2_marginal cX2_marginal 4 (some .int) :: ((wsX2_marginal_r1 ++ (wsX2_marginal_r2 ++ (wsX2_marginal_r3 ++ wsX2_marginal_r4))) ++ wsX20 ++ wsX10 ++ wsX00)
def wsX2_routeTilted_r1 : List Cond := [Cond.fieldLink RX2 21 "FlowLedger" "router" "LFlowLedger$Router;", Cond.methodLink RX2 58 yX1_lay, Cond.instanceMethod yX1_lay, Cond.selects RX1 yX1_lay yX1_lay, Cond.initialized RX1, Cond.code yX1_lay cX1_lay 4 none, Cond.fieldLink RX1 33 "FlowLedger$Router" "network" "LFlowLedger$Network;", Cond.fieldLink RX1 37 "FlowLedger$Network" "count" "I", Cond.fieldLink RX1 9 "FlowLedger$Router" "tail" "[I", Cond.fieldLink RX1 43 "FlowLedger$Network" "from" "[I", Cond.fieldLink RX1 15 "FlowLedger$Router" "head" "[I", Cond.fieldLink RX1 46 "FlowLedger$Network" "to" "[I", Cond.fieldLink RX1 18 "FlowLedger$Router" "weight" "[I", Cond.fieldLink RX1 49 "FlowLedger$Network" "cost" "[I", Cond.methodLink RX2 114 yX1_tilt, Cond.instanceMethod yX1_tilt, Cond.selects RX1 yX1_tilt yX1_tilt, Cond.code yX1_tilt cX1_tilt 3 none, Cond.methodLink RX2 62 yX1_route, Cond.instanceMethod yX1_route, Cond.selects RX1 yX1_route yX1_route, Cond.code yX1_route cX1_route 3 (some .boolean), Cond.methodLink RX1 52 yX1_levelUnboundedArcs, Cond.instanceMethod yX1_levelUnboundedArcs]
def wsX2_routeTilted_r2 : List Cond := [Cond.selects RX1 yX1_levelUnboundedArcs yX1_levelUnboundedArcs, Cond.code yX1_levelUnboundedArcs cX1_levelUnboundedArcs 4 (some .boolean), Cond.fieldLink RX1 27 "FlowLedger$Router" "distance" "[I", Cond.fieldLink RX1 81 "FlowLedger$Network" "capacity" "[I", Cond.methodLink RX1 84 yX1_isShortcut, Cond.instanceMethod yX1_isShortcut, Cond.selects RX1 yX1_isShortcut yX1_isShortcut, Cond.code yX1_isShortcut cX1_isShortcut 2 (some .boolean), Cond.methodLink RX1 56 yX1_fillLightArcs, Cond.instanceMethod yX1_fillLightArcs, Cond.selects RX1 yX1_fillLightArcs yX1_fillLightArcs, Cond.code yX1_fillLightArcs cX1_fillLightArcs 5 none, Cond.fieldLink RX1 21 "FlowLedger$Router" "room" "[I", Cond.methodLink RX1 59 yX1_countExcess, Cond.instanceMethod yX1_countExcess, Cond.selects RX1 yX1_countExcess yX1_countExcess, Cond.code yX1_countExcess cX1_countExcess 2 none, Cond.fieldLink RX1 24 "FlowLedger$Router" "excess" "[I", Cond.fieldLink RX1 88 "FlowLedger$Network" "supply" "[I", Cond.methodLink RX1 62 yX1_sendOnce, Cond.instanceMethod yX1_sendOnce, Cond.selects RX1 yX1_sendOnce yX1_sendOnce, Cond.code yX1_sendOnce cX1_sendOnce 5 (some .boolean), Cond.fieldLink RX1 30 "FlowLedger$Router" "entry" "[I"]
def wsX2_routeTilted_r3 : List Cond := [Cond.methodLink RX1 95 Lib.Math.min.name, Cond.static Lib.Math.min.name, Cond.initialized "java/lang/Math", Cond.code Lib.Math.min.name Lib.Math.min.code 2 (some .int), Cond.methodLink RX1 69 yX1_startAtExcess, Cond.instanceMethod yX1_startAtExcess, Cond.selects RX1 yX1_startAtExcess yX1_startAtExcess, Cond.code yX1_startAtExcess cX1_startAtExcess 2 none, Cond.methodLink RX1 77 yX1_setStart, Cond.instanceMethod yX1_setStart, Cond.selects RX1 yX1_setStart yX1_setStart, Cond.code yX1_setStart cX1_setStart 3 none, Cond.constant RX1 76 (1000000000), Cond.methodLink RX1 72 yX1_measure, Cond.instanceMethod yX1_measure, Cond.selects RX1 yX1_measure yX1_measure, Cond.code yX1_measure cX1_measure 6 none, Cond.methodLink RX1 91 yX1_nearestShortNode, Cond.instanceMethod yX1_nearestShortNode, Cond.selects RX1 yX1_nearestShortNode yX1_nearestShortNode, Cond.code yX1_nearestShortNode cX1_nearestShortNode 4 (some .int), Cond.methodLink RX1 101 yX1_sendAlongPath, Cond.instanceMethod yX1_sendAlongPath, Cond.selects RX1 yX1_sendAlongPath yX1_sendAlongPath]
def wsX2_routeTilted_r4 : List Cond := [Cond.code yX1_sendAlongPath cX1_sendAlongPath 6 none]
def wsX2_routeTilted : List Cond := .code yX2_routeTilted cX2_routeTilted 3 (some .boolean) :: ((wsX2_routeTilted_r1 ++ (wsX2_routeTilted_r2 ++ (wsX2_routeTilted_r3 ++ wsX2_routeTilted_r4))) ++ wsX20 ++ wsX10 ++ wsX00)
def wsX2_least_r1 : List Cond := [Cond.constant RX2 33 (-1000000), Cond.fieldLink RX2 21 "FlowLedger" "router" "LFlowLedger$Router;", Cond.methodLink RX2 52 yX2_isArc, Cond.instanceMethod yX2_isArc, Cond.selects RX2 yX2_isArc yX2_isArc, Cond.initialized RX2, Cond.code yX2_isArc cX2_isArc 2 (some .boolean), Cond.fieldLink RX2 12 "FlowLedger" "network" "LFlowLedger$Network;", Cond.fieldLink RX2 34 "FlowLedger$Network" "count" "I", Cond.methodLink RX2 71 yX2_state, Cond.instanceMethod yX2_state, Cond.selects RX2 yX2_state yX2_state, Cond.code yX2_state cX2_state 1 (some .int), Cond.constant RX2 69 (-1000002), Cond.constant RX2 70 (-1000003), Cond.methodLink RX2 58 yX1_lay, Cond.instanceMethod yX1_lay, Cond.selects RX1 yX1_lay yX1_lay, Cond.initialized RX1, Cond.code yX1_lay cX1_lay 4 none, Cond.fieldLink RX1 33 "FlowLedger$Router" "network" "LFlowLedger$Network;", Cond.fieldLink RX1 37 "FlowLedger$Network" "count" "I", Cond.fieldLink RX1 9 "FlowLedger$Router" "tail" "[I", Cond.fieldLink RX1 43 "FlowLedger$Network" "from" "[I"]
def wsX2_least_r2 : List Cond := [Cond.fieldLink RX1 15 "FlowLedger$Router" "head" "[I", Cond.fieldLink RX1 46 "FlowLedger$Network" "to" "[I", Cond.fieldLink RX1 18 "FlowLedger$Router" "weight" "[I", Cond.fieldLink RX1 49 "FlowLedger$Network" "cost" "[I", Cond.methodLink RX2 62 yX1_route, Cond.instanceMethod yX1_route, Cond.selects RX1 yX1_route yX1_route, Cond.code yX1_route cX1_route 3 (some .boolean), Cond.methodLink RX1 52 yX1_levelUnboundedArcs, Cond.instanceMethod yX1_levelUnboundedArcs, Cond.selects RX1 yX1_levelUnboundedArcs yX1_levelUnboundedArcs, Cond.code yX1_levelUnboundedArcs cX1_levelUnboundedArcs 4 (some .boolean), Cond.fieldLink RX1 27 "FlowLedger$Router" "distance" "[I", Cond.fieldLink RX1 81 "FlowLedger$Network" "capacity" "[I", Cond.methodLink RX1 84 yX1_isShortcut, Cond.instanceMethod yX1_isShortcut, Cond.selects RX1 yX1_isShortcut yX1_isShortcut, Cond.code yX1_isShortcut cX1_isShortcut 2 (some .boolean), Cond.methodLink RX1 56 yX1_fillLightArcs, Cond.instanceMethod yX1_fillLightArcs, Cond.selects RX1 yX1_fillLightArcs yX1_fillLightArcs, Cond.code yX1_fillLightArcs cX1_fillLightArcs 5 none, Cond.fieldLink RX1 21 "FlowLedger$Router" "room" "[I", Cond.methodLink RX1 59 yX1_countExcess]
def wsX2_least_r3 : List Cond := [Cond.instanceMethod yX1_countExcess, Cond.selects RX1 yX1_countExcess yX1_countExcess, Cond.code yX1_countExcess cX1_countExcess 2 none, Cond.fieldLink RX1 24 "FlowLedger$Router" "excess" "[I", Cond.fieldLink RX1 88 "FlowLedger$Network" "supply" "[I", Cond.methodLink RX1 62 yX1_sendOnce, Cond.instanceMethod yX1_sendOnce, Cond.selects RX1 yX1_sendOnce yX1_sendOnce, Cond.code yX1_sendOnce cX1_sendOnce 5 (some .boolean), Cond.fieldLink RX1 30 "FlowLedger$Router" "entry" "[I", Cond.methodLink RX1 95 Lib.Math.min.name, Cond.static Lib.Math.min.name, Cond.initialized "java/lang/Math", Cond.code Lib.Math.min.name Lib.Math.min.code 2 (some .int), Cond.methodLink RX1 69 yX1_startAtExcess, Cond.instanceMethod yX1_startAtExcess, Cond.selects RX1 yX1_startAtExcess yX1_startAtExcess, Cond.code yX1_startAtExcess cX1_startAtExcess 2 none, Cond.methodLink RX1 77 yX1_setStart, Cond.instanceMethod yX1_setStart, Cond.selects RX1 yX1_setStart yX1_setStart, Cond.code yX1_setStart cX1_setStart 3 none, Cond.constant RX1 76 (1000000000), Cond.methodLink RX1 72 yX1_measure]
def wsX2_least_r4 : List Cond := [Cond.instanceMethod yX1_measure, Cond.selects RX1 yX1_measure yX1_measure, Cond.code yX1_measure cX1_measure 6 none, Cond.methodLink RX1 91 yX1_nearestShortNode, Cond.instanceMethod yX1_nearestShortNode, Cond.selects RX1 yX1_nearestShortNode yX1_nearestShortNode, Cond.code yX1_nearestShortNode cX1_nearestShortNode 4 (some .int), Cond.methodLink RX1 101 yX1_sendAlongPath, Cond.instanceMethod yX1_sendAlongPath, Cond.selects RX1 yX1_sendAlongPath yX1_sendAlongPath, Cond.code yX1_sendAlongPath cX1_sendAlongPath 6 none, Cond.methodLink RX2 66 yX1_isBalanced, Cond.instanceMethod yX1_isBalanced, Cond.selects RX1 yX1_isBalanced yX1_isBalanced, Cond.code yX1_isBalanced cX1_isBalanced 2 (some .boolean), Cond.methodLink RX2 96 yX2_routeTilted, Cond.instanceMethod yX2_routeTilted, Cond.selects RX2 yX2_routeTilted yX2_routeTilted, Cond.code yX2_routeTilted cX2_routeTilted 3 (some .boolean), Cond.methodLink RX2 114 yX1_tilt, Cond.instanceMethod yX1_tilt, Cond.selects RX1 yX1_tilt yX1_tilt, Cond.code yX1_tilt cX1_tilt 3 none, Cond.methodLink RX2 99 yX1_flowOf]
def wsX2_least_r5 : List Cond := [Cond.instanceMethod yX1_flowOf, Cond.selects RX1 yX1_flowOf yX1_flowOf, Cond.code yX1_flowOf cX1_flowOf 2 (some .int)]
def wsX2_least : List Cond := .code yX2_least cX2_least 3 (some .int) :: ((wsX2_least_r1 ++ (wsX2_least_r2 ++ (wsX2_least_r3 ++ (wsX2_least_r4 ++ wsX2_least_r5)))) ++ wsX20 ++ wsX00 ++ wsX10)
def wsX2_most_r1 : List Cond := [Cond.constant RX2 33 (-1000000), Cond.fieldLink RX2 21 "FlowLedger" "router" "LFlowLedger$Router;", Cond.constant RX2 95 (-1000004), Cond.methodLink RX2 52 yX2_isArc, Cond.instanceMethod yX2_isArc, Cond.selects RX2 yX2_isArc yX2_isArc, Cond.initialized RX2, Cond.code yX2_isArc cX2_isArc 2 (some .boolean), Cond.fieldLink RX2 12 "FlowLedger" "network" "LFlowLedger$Network;", Cond.fieldLink RX2 34 "FlowLedger$Network" "count" "I", Cond.methodLink RX2 71 yX2_state, Cond.instanceMethod yX2_state, Cond.selects RX2 yX2_state yX2_state, Cond.code yX2_state cX2_state 1 (some .int), Cond.constant RX2 69 (-1000002), Cond.constant RX2 70 (-1000003), Cond.methodLink RX2 58 yX1_lay, Cond.instanceMethod yX1_lay, Cond.selects RX1 yX1_lay yX1_lay, Cond.initialized RX1, Cond.code yX1_lay cX1_lay 4 none, Cond.fieldLink RX1 33 "FlowLedger$Router" "network" "LFlowLedger$Network;", Cond.fieldLink RX1 37 "FlowLedger$Network" "count" "I", Cond.fieldLink RX1 9 "FlowLedger$Router" "tail" "[I"]
def wsX2_most_r2 : List Cond := [Cond.fieldLink RX1 43 "FlowLedger$Network" "from" "[I", Cond.fieldLink RX1 15 "FlowLedger$Router" "head" "[I", Cond.fieldLink RX1 46 "FlowLedger$Network" "to" "[I", Cond.fieldLink RX1 18 "FlowLedger$Router" "weight" "[I", Cond.fieldLink RX1 49 "FlowLedger$Network" "cost" "[I", Cond.methodLink RX2 62 yX1_route, Cond.instanceMethod yX1_route, Cond.selects RX1 yX1_route yX1_route, Cond.code yX1_route cX1_route 3 (some .boolean), Cond.methodLink RX1 52 yX1_levelUnboundedArcs, Cond.instanceMethod yX1_levelUnboundedArcs, Cond.selects RX1 yX1_levelUnboundedArcs yX1_levelUnboundedArcs, Cond.code yX1_levelUnboundedArcs cX1_levelUnboundedArcs 4 (some .boolean), Cond.fieldLink RX1 27 "FlowLedger$Router" "distance" "[I", Cond.fieldLink RX1 81 "FlowLedger$Network" "capacity" "[I", Cond.methodLink RX1 84 yX1_isShortcut, Cond.instanceMethod yX1_isShortcut, Cond.selects RX1 yX1_isShortcut yX1_isShortcut, Cond.code yX1_isShortcut cX1_isShortcut 2 (some .boolean), Cond.methodLink RX1 56 yX1_fillLightArcs, Cond.instanceMethod yX1_fillLightArcs, Cond.selects RX1 yX1_fillLightArcs yX1_fillLightArcs, Cond.code yX1_fillLightArcs cX1_fillLightArcs 5 none, Cond.fieldLink RX1 21 "FlowLedger$Router" "room" "[I"]
def wsX2_most_r3 : List Cond := [Cond.methodLink RX1 59 yX1_countExcess, Cond.instanceMethod yX1_countExcess, Cond.selects RX1 yX1_countExcess yX1_countExcess, Cond.code yX1_countExcess cX1_countExcess 2 none, Cond.fieldLink RX1 24 "FlowLedger$Router" "excess" "[I", Cond.fieldLink RX1 88 "FlowLedger$Network" "supply" "[I", Cond.methodLink RX1 62 yX1_sendOnce, Cond.instanceMethod yX1_sendOnce, Cond.selects RX1 yX1_sendOnce yX1_sendOnce, Cond.code yX1_sendOnce cX1_sendOnce 5 (some .boolean), Cond.fieldLink RX1 30 "FlowLedger$Router" "entry" "[I", Cond.methodLink RX1 95 Lib.Math.min.name, Cond.static Lib.Math.min.name, Cond.initialized "java/lang/Math", Cond.code Lib.Math.min.name Lib.Math.min.code 2 (some .int), Cond.methodLink RX1 69 yX1_startAtExcess, Cond.instanceMethod yX1_startAtExcess, Cond.selects RX1 yX1_startAtExcess yX1_startAtExcess, Cond.code yX1_startAtExcess cX1_startAtExcess 2 none, Cond.methodLink RX1 77 yX1_setStart, Cond.instanceMethod yX1_setStart, Cond.selects RX1 yX1_setStart yX1_setStart, Cond.code yX1_setStart cX1_setStart 3 none, Cond.constant RX1 76 (1000000000)]
def wsX2_most_r4 : List Cond := [Cond.methodLink RX1 72 yX1_measure, Cond.instanceMethod yX1_measure, Cond.selects RX1 yX1_measure yX1_measure, Cond.code yX1_measure cX1_measure 6 none, Cond.methodLink RX1 91 yX1_nearestShortNode, Cond.instanceMethod yX1_nearestShortNode, Cond.selects RX1 yX1_nearestShortNode yX1_nearestShortNode, Cond.code yX1_nearestShortNode cX1_nearestShortNode 4 (some .int), Cond.methodLink RX1 101 yX1_sendAlongPath, Cond.instanceMethod yX1_sendAlongPath, Cond.selects RX1 yX1_sendAlongPath yX1_sendAlongPath, Cond.code yX1_sendAlongPath cX1_sendAlongPath 6 none, Cond.methodLink RX2 66 yX1_isBalanced, Cond.instanceMethod yX1_isBalanced, Cond.selects RX1 yX1_isBalanced yX1_isBalanced, Cond.code yX1_isBalanced cX1_isBalanced 2 (some .boolean), Cond.methodLink RX2 96 yX2_routeTilted, Cond.instanceMethod yX2_routeTilted, Cond.selects RX2 yX2_routeTilted yX2_routeTilted, Cond.code yX2_routeTilted cX2_routeTilted 3 (some .boolean), Cond.methodLink RX2 114 yX1_tilt, Cond.instanceMethod yX1_tilt, Cond.selects RX1 yX1_tilt yX1_tilt, Cond.code yX1_tilt cX1_tilt 3 none]
def wsX2_most_r5 : List Cond := [Cond.methodLink RX2 99 yX1_flowOf, Cond.instanceMethod yX1_flowOf, Cond.selects RX1 yX1_flowOf yX1_flowOf, Cond.code yX1_flowOf cX1_flowOf 2 (some .int)]
def wsX2_most : List Cond := .code yX2_most cX2_most 3 (some .int) :: ((wsX2_most_r1 ++ (wsX2_most_r2 ++ (wsX2_most_r3 ++ (wsX2_most_r4 ++ wsX2_most_r5)))) ++ wsX20 ++ wsX00 ++ wsX10)
def wsX2_slack_r1 : List Cond := [Cond.constant RX2 95 (-1000004), Cond.fieldLink RX2 12 "FlowLedger" "network" "LFlowLedger$Network;", Cond.fieldLink RX2 46 "FlowLedger$Network" "capacity" "[I", Cond.fieldLink RX2 21 "FlowLedger" "router" "LFlowLedger$Router;", Cond.fieldLink RX2 43 "FlowLedger$Network" "to" "[I", Cond.fieldLink RX2 39 "FlowLedger$Network" "from" "[I", Cond.fieldLink RX2 49 "FlowLedger$Network" "cost" "[I", Cond.methodLink RX2 105 Lib.Math.min.name, Cond.static Lib.Math.min.name, Cond.initialized "java/lang/Math", Cond.code Lib.Math.min.name Lib.Math.min.code 2 (some .int), Cond.methodLink RX2 102 yX2_most, Cond.instanceMethod yX2_most, Cond.selects RX2 yX2_most yX2_most, Cond.initialized RX2, Cond.code yX2_most cX2_most 3 (some .int), Cond.constant RX2 33 (-1000000), Cond.methodLink RX2 52 yX2_isArc, Cond.instanceMethod yX2_isArc, Cond.selects RX2 yX2_isArc yX2_isArc, Cond.code yX2_isArc cX2_isArc 2 (some .boolean), Cond.fieldLink RX2 34 "FlowLedger$Network" "count" "I", Cond.methodLink RX2 71 yX2_state, Cond.instanceMethod yX2_state]
def wsX2_slack_r2 : List Cond := [Cond.selects RX2 yX2_state yX2_state, Cond.code yX2_state cX2_state 1 (some .int), Cond.constant RX2 69 (-1000002), Cond.constant RX2 70 (-1000003), Cond.methodLink RX2 58 yX1_lay, Cond.instanceMethod yX1_lay, Cond.selects RX1 yX1_lay yX1_lay, Cond.initialized RX1, Cond.code yX1_lay cX1_lay 4 none, Cond.fieldLink RX1 33 "FlowLedger$Router" "network" "LFlowLedger$Network;", Cond.fieldLink RX1 37 "FlowLedger$Network" "count" "I", Cond.fieldLink RX1 9 "FlowLedger$Router" "tail" "[I", Cond.fieldLink RX1 43 "FlowLedger$Network" "from" "[I", Cond.fieldLink RX1 15 "FlowLedger$Router" "head" "[I", Cond.fieldLink RX1 46 "FlowLedger$Network" "to" "[I", Cond.fieldLink RX1 18 "FlowLedger$Router" "weight" "[I", Cond.fieldLink RX1 49 "FlowLedger$Network" "cost" "[I", Cond.methodLink RX2 62 yX1_route, Cond.instanceMethod yX1_route, Cond.selects RX1 yX1_route yX1_route, Cond.code yX1_route cX1_route 3 (some .boolean), Cond.methodLink RX1 52 yX1_levelUnboundedArcs, Cond.instanceMethod yX1_levelUnboundedArcs, Cond.selects RX1 yX1_levelUnboundedArcs yX1_levelUnboundedArcs]
def wsX2_slack_r3 : List Cond := [Cond.code yX1_levelUnboundedArcs cX1_levelUnboundedArcs 4 (some .boolean), Cond.fieldLink RX1 27 "FlowLedger$Router" "distance" "[I", Cond.fieldLink RX1 81 "FlowLedger$Network" "capacity" "[I", Cond.methodLink RX1 84 yX1_isShortcut, Cond.instanceMethod yX1_isShortcut, Cond.selects RX1 yX1_isShortcut yX1_isShortcut, Cond.code yX1_isShortcut cX1_isShortcut 2 (some .boolean), Cond.methodLink RX1 56 yX1_fillLightArcs, Cond.instanceMethod yX1_fillLightArcs, Cond.selects RX1 yX1_fillLightArcs yX1_fillLightArcs, Cond.code yX1_fillLightArcs cX1_fillLightArcs 5 none, Cond.fieldLink RX1 21 "FlowLedger$Router" "room" "[I", Cond.methodLink RX1 59 yX1_countExcess, Cond.instanceMethod yX1_countExcess, Cond.selects RX1 yX1_countExcess yX1_countExcess, Cond.code yX1_countExcess cX1_countExcess 2 none, Cond.fieldLink RX1 24 "FlowLedger$Router" "excess" "[I", Cond.fieldLink RX1 88 "FlowLedger$Network" "supply" "[I", Cond.methodLink RX1 62 yX1_sendOnce, Cond.instanceMethod yX1_sendOnce, Cond.selects RX1 yX1_sendOnce yX1_sendOnce, Cond.code yX1_sendOnce cX1_sendOnce 5 (some .boolean), Cond.fieldLink RX1 30 "FlowLedger$Router" "entry" "[I", Cond.methodLink RX1 95 Lib.Math.min.name]
def wsX2_slack_r4 : List Cond := [Cond.methodLink RX1 69 yX1_startAtExcess, Cond.instanceMethod yX1_startAtExcess, Cond.selects RX1 yX1_startAtExcess yX1_startAtExcess, Cond.code yX1_startAtExcess cX1_startAtExcess 2 none, Cond.methodLink RX1 77 yX1_setStart, Cond.instanceMethod yX1_setStart, Cond.selects RX1 yX1_setStart yX1_setStart, Cond.code yX1_setStart cX1_setStart 3 none, Cond.constant RX1 76 (1000000000), Cond.methodLink RX1 72 yX1_measure, Cond.instanceMethod yX1_measure, Cond.selects RX1 yX1_measure yX1_measure, Cond.code yX1_measure cX1_measure 6 none, Cond.methodLink RX1 91 yX1_nearestShortNode, Cond.instanceMethod yX1_nearestShortNode, Cond.selects RX1 yX1_nearestShortNode yX1_nearestShortNode, Cond.code yX1_nearestShortNode cX1_nearestShortNode 4 (some .int), Cond.methodLink RX1 101 yX1_sendAlongPath, Cond.instanceMethod yX1_sendAlongPath, Cond.selects RX1 yX1_sendAlongPath yX1_sendAlongPath, Cond.code yX1_sendAlongPath cX1_sendAlongPath 6 none, Cond.methodLink RX2 66 yX1_isBalanced, Cond.instanceMethod yX1_isBalanced, Cond.selects RX1 yX1_isBalanced yX1_isBalanced]
def wsX2_slack_r5 : List Cond := [Cond.code yX1_isBalanced cX1_isBalanced 2 (some .boolean), Cond.methodLink RX2 96 yX2_routeTilted, Cond.instanceMethod yX2_routeTilted, Cond.selects RX2 yX2_routeTilted yX2_routeTilted, Cond.code yX2_routeTilted cX2_routeTilted 3 (some .boolean), Cond.methodLink RX2 114 yX1_tilt, Cond.instanceMethod yX1_tilt, Cond.selects RX1 yX1_tilt yX1_tilt, Cond.code yX1_tilt cX1_tilt 3 none, Cond.methodLink RX2 99 yX1_flowOf, Cond.instanceMethod yX1_flowOf, Cond.selects RX1 yX1_flowOf yX1_flowOf, Cond.code yX1_flowOf cX1_flowOf 2 (some .int), Cond.methodLink RX2 87 yX1_canReach, Cond.instanceMethod yX1_canReach, Cond.selects RX1 yX1_canReach yX1_canReach, Cond.code yX1_canReach cX1_canReach 5 (some .boolean), Cond.methodLink RX2 91 yX1_distanceTo, Cond.instanceMethod yX1_distanceTo, Cond.selects RX1 yX1_distanceTo yX1_distanceTo, Cond.code yX1_distanceTo cX1_distanceTo 2 (some .int)]
def wsX2_slack : List Cond := .code yX2_slack cX2_slack 4 (some .int) :: ((wsX2_slack_r1 ++ (wsX2_slack_r2 ++ (wsX2_slack_r3 ++ (wsX2_slack_r4 ++ wsX2_slack_r5)))) ++ wsX20 ++ wsX00 ++ wsX10)
def wsX3_init : List Cond := .code yX3_init cX3_init 1 none :: ([.methodLink RX3 1 objectInit, .instanceMethod objectInit, .code objectInit ⟨#[0xb1]⟩ 1 none, .arrayClass .int, .fieldLink RX3 7 "FlowLedgerModel" "froms" "[I", .fieldLink RX3 13 "FlowLedgerModel" "tos" "[I", .fieldLink RX3 16 "FlowLedgerModel" "capacities" "[I", .fieldLink RX3 19 "FlowLedgerModel" "costs" "[I", .fieldLink RX3 22 "FlowLedgerModel" "supplies" "[I", .fieldLink RX3 25 "FlowLedgerModel" "flow" "[I", .fieldLink RX3 28 "FlowLedgerModel" "other" "[I", .arrayClass .boolean, .fieldLink RX3 31 "FlowLedgerModel" "seen" "[Z", .fieldLink RX3 35 "FlowLedgerModel" "far" "[I", .fieldLink RX3 38 "FlowLedgerModel" "by" "[I", .fieldLink RX3 41 "FlowLedgerModel" "allowed" "[Z", .fieldLink RX3 44 "FlowLedgerModel" "way" "[I", .fieldLink RX3 47 "FlowLedgerModel" "row" "[I"] ++ wsX30)
def wsX3_in : List Cond := .code yX3_in cX3_in 3 (some .boolean) :: ([])
def wsX3_add : List Cond := .code yX3_add cX3_add 5 (some .int) :: ([.constant RX3 54 (-1000000), .fieldLink RX3 55 "FlowLedgerModel" "arcs" "I", .constant RX3 59 (-1000001), .fieldLink RX3 7 "FlowLedgerModel" "froms" "[I", .fieldLink RX3 13 "FlowLedgerModel" "tos" "[I", .fieldLink RX3 16 "FlowLedgerModel" "capacities" "[I", .constant RX3 60 (1000000), .fieldLink RX3 19 "FlowLedgerModel" "costs" "[I", .methodLink RX3 50 yX3_in, .static yX3_in, .initialized RX3, .code yX3_in cX3_in 3 (some .boolean)] ++ wsX30)
def wsX3_change : List Cond := .code yX3_change cX3_change 4 (some .boolean) :: ([.fieldLink RX3 55 "FlowLedgerModel" "arcs" "I", .fieldLink RX3 16 "FlowLedgerModel" "capacities" "[I", .constant RX3 60 (1000000), .fieldLink RX3 19 "FlowLedgerModel" "costs" "[I", .methodLink RX3 50 yX3_in, .static yX3_in, .initialized RX3, .code yX3_in cX3_in 3 (some .boolean)] ++ wsX30)
def wsX3_supply : List Cond := .code yX3_supply cX3_supply 3 (some .boolean) :: ([.fieldLink RX3 22 "FlowLedgerModel" "supplies" "[I", .methodLink RX3 50 yX3_in, .static yX3_in, .initialized RX3, .code yX3_in cX3_in 3 (some .boolean)] ++ wsX30)
def wsX3_clear : List Cond := .code yX3_clear cX3_clear 2 none :: ([.fieldLink RX3 55 "FlowLedgerModel" "arcs" "I", .fieldLink RX3 22 "FlowLedgerModel" "supplies" "[I"] ++ wsX30)
def wsX3_arcs : List Cond := .code yX3_arcs cX3_arcs 1 (some .int) :: ([.fieldLink RX3 55 "FlowLedgerModel" "arcs" "I"] ++ wsX30)
def wsX3_lead : List Cond := .code yX3_lead cX3_lead 4 none :: ([.fieldLink RX3 7 "FlowLedgerModel" "froms" "[I", .fieldLink RX3 61 "FlowLedgerModel" "all" "I", .fieldLink RX3 13 "FlowLedgerModel" "tos" "[I", .fieldLink RX3 16 "FlowLedgerModel" "capacities" "[I", .fieldLink RX3 19 "FlowLedgerModel" "costs" "[I"] ++ wsX30)
def wsX3_leftFrom : List Cond := .code yX3_leftFrom cX3_leftFrom 4 (some .int) :: ([.fieldLink RX3 41 "FlowLedgerModel" "allowed" "[Z", .fieldLink RX3 7 "FlowLedgerModel" "froms" "[I", .fieldLink RX3 16 "FlowLedgerModel" "capacities" "[I", .fieldLink RX3 13 "FlowLedgerModel" "tos" "[I"] ++ wsX30)
def wsX3_isReached : List Cond := .code yX3_isReached cX3_isReached 9 (some .boolean) :: ([.fieldLink RX3 31 "FlowLedgerModel" "seen" "[Z", .fieldLink RX3 47 "FlowLedgerModel" "row" "[I", .fieldLink RX3 61 "FlowLedgerModel" "all" "I", .fieldLink RX3 7 "FlowLedgerModel" "froms" "[I", .fieldLink RX3 13 "FlowLedgerModel" "tos" "[I", .fieldLink RX3 44 "FlowLedgerModel" "way" "[I", .methodLink RX3 64 yX3_leftFrom, .instanceMethod yX3_leftFrom, .selects RX3 yX3_leftFrom yX3_leftFrom, .initialized RX3, .code yX3_leftFrom cX3_leftFrom 4 (some .int), .fieldLink RX3 41 "FlowLedgerModel" "allowed" "[Z", .fieldLink RX3 16 "FlowLedgerModel" "capacities" "[I"] ++ wsX30)
def wsX3_pushAll : List Cond := .code yX3_pushAll cX3_pushAll 9 (some .int) :: ([.fieldLink RX3 44 "FlowLedgerModel" "way" "[I", .fieldLink RX3 16 "FlowLedgerModel" "capacities" "[I", .fieldLink RX3 7 "FlowLedgerModel" "froms" "[I", .fieldLink RX3 13 "FlowLedgerModel" "tos" "[I", .methodLink RX3 68 yX3_isReached, .instanceMethod yX3_isReached, .selects RX3 yX3_isReached yX3_isReached, .initialized RX3, .code yX3_isReached cX3_isReached 9 (some .boolean), .fieldLink RX3 31 "FlowLedgerModel" "seen" "[Z", .fieldLink RX3 47 "FlowLedgerModel" "row" "[I", .fieldLink RX3 61 "FlowLedgerModel" "all" "I", .methodLink RX3 64 yX3_leftFrom, .instanceMethod yX3_leftFrom, .selects RX3 yX3_leftFrom yX3_leftFrom, .code yX3_leftFrom cX3_leftFrom 4 (some .int), .fieldLink RX3 41 "FlowLedgerModel" "allowed" "[Z"] ++ wsX30)
def wsX3_fill_r1 : List Cond := [Cond.fieldLink RX3 55 "FlowLedgerModel" "arcs" "I", Cond.fieldLink RX3 61 "FlowLedgerModel" "all" "I", Cond.fieldLink RX3 22 "FlowLedgerModel" "supplies" "[I", Cond.fieldLink RX3 25 "FlowLedgerModel" "flow" "[I", Cond.fieldLink RX3 41 "FlowLedgerModel" "allowed" "[Z", Cond.constant RX3 60 (1000000), Cond.methodLink RX3 72 yX3_lead, Cond.instanceMethod yX3_lead, Cond.selects RX3 yX3_lead yX3_lead, Cond.initialized RX3, Cond.code yX3_lead cX3_lead 4 none, Cond.fieldLink RX3 7 "FlowLedgerModel" "froms" "[I", Cond.fieldLink RX3 13 "FlowLedgerModel" "tos" "[I", Cond.fieldLink RX3 16 "FlowLedgerModel" "capacities" "[I", Cond.fieldLink RX3 19 "FlowLedgerModel" "costs" "[I", Cond.methodLink RX3 76 yX3_pushAll, Cond.instanceMethod yX3_pushAll, Cond.selects RX3 yX3_pushAll yX3_pushAll, Cond.code yX3_pushAll cX3_pushAll 9 (some .int), Cond.fieldLink RX3 44 "FlowLedgerModel" "way" "[I", Cond.methodLink RX3 68 yX3_isReached, Cond.instanceMethod yX3_isReached, Cond.selects RX3 yX3_isReached yX3_isReached, Cond.code yX3_isReached cX3_isReached 9 (some .boolean)]
def wsX3_fill_r2 : List Cond := [Cond.fieldLink RX3 31 "FlowLedgerModel" "seen" "[Z", Cond.fieldLink RX3 47 "FlowLedgerModel" "row" "[I", Cond.methodLink RX3 64 yX3_leftFrom, Cond.instanceMethod yX3_leftFrom, Cond.selects RX3 yX3_leftFrom yX3_leftFrom, Cond.code yX3_leftFrom cX3_leftFrom 4 (some .int)]
def wsX3_fill : List Cond := .code yX3_fill cX3_fill 2 (some .int) :: ((wsX3_fill_r1 ++ wsX3_fill_r2) ++ wsX30)
def wsX3_amount_r1 : List Cond := [Cond.methodLink RX3 80 yX3_fill, Cond.instanceMethod yX3_fill, Cond.selects RX3 yX3_fill yX3_fill, Cond.initialized RX3, Cond.code yX3_fill cX3_fill 2 (some .int), Cond.fieldLink RX3 55 "FlowLedgerModel" "arcs" "I", Cond.fieldLink RX3 61 "FlowLedgerModel" "all" "I", Cond.fieldLink RX3 22 "FlowLedgerModel" "supplies" "[I", Cond.fieldLink RX3 25 "FlowLedgerModel" "flow" "[I", Cond.fieldLink RX3 41 "FlowLedgerModel" "allowed" "[Z", Cond.constant RX3 60 (1000000), Cond.methodLink RX3 72 yX3_lead, Cond.instanceMethod yX3_lead, Cond.selects RX3 yX3_lead yX3_lead, Cond.code yX3_lead cX3_lead 4 none, Cond.fieldLink RX3 7 "FlowLedgerModel" "froms" "[I", Cond.fieldLink RX3 13 "FlowLedgerModel" "tos" "[I", Cond.fieldLink RX3 16 "FlowLedgerModel" "capacities" "[I", Cond.fieldLink RX3 19 "FlowLedgerModel" "costs" "[I", Cond.methodLink RX3 76 yX3_pushAll, Cond.instanceMethod yX3_pushAll, Cond.selects RX3 yX3_pushAll yX3_pushAll, Cond.code yX3_pushAll cX3_pushAll 9 (some .int), Cond.fieldLink RX3 44 "FlowLedgerModel" "way" "[I"]
def wsX3_amount_r2 : List Cond := [Cond.methodLink RX3 68 yX3_isReached, Cond.instanceMethod yX3_isReached, Cond.selects RX3 yX3_isReached yX3_isReached, Cond.code yX3_isReached cX3_isReached 9 (some .boolean), Cond.fieldLink RX3 31 "FlowLedgerModel" "seen" "[Z", Cond.fieldLink RX3 47 "FlowLedgerModel" "row" "[I", Cond.methodLink RX3 64 yX3_leftFrom, Cond.instanceMethod yX3_leftFrom, Cond.selects RX3 yX3_leftFrom yX3_leftFrom, Cond.code yX3_leftFrom cX3_leftFrom 4 (some .int)]
def wsX3_amount : List Cond := .code yX3_amount cX3_amount 1 (some .int) :: ((wsX3_amount_r1 ++ wsX3_amount_r2) ++ wsX30)
def wsX3_bottleneck : List Cond := .code yX3_bottleneck cX3_bottleneck 7 (some .int) :: ([.constant RX3 84 (-1000004), .fieldLink RX3 22 "FlowLedgerModel" "supplies" "[I", .fieldLink RX3 55 "FlowLedgerModel" "arcs" "I", .fieldLink RX3 7 "FlowLedgerModel" "froms" "[I", .fieldLink RX3 13 "FlowLedgerModel" "tos" "[I", .fieldLink RX3 16 "FlowLedgerModel" "capacities" "[I", .constant RX3 85 (500000)] ++ wsX30)
def wsX3_findRound : List Cond := .code yX3_findRound cX3_findRound 6 (some .int) :: ([.fieldLink RX3 35 "FlowLedgerModel" "far" "[I", .fieldLink RX3 38 "FlowLedgerModel" "by" "[I", .constant RX3 84 (-1000004), .fieldLink RX3 55 "FlowLedgerModel" "arcs" "I", .fieldLink RX3 16 "FlowLedgerModel" "capacities" "[I", .constant RX3 60 (1000000), .fieldLink RX3 25 "FlowLedgerModel" "flow" "[I", .fieldLink RX3 7 "FlowLedgerModel" "froms" "[I", .fieldLink RX3 19 "FlowLedgerModel" "costs" "[I", .fieldLink RX3 13 "FlowLedgerModel" "tos" "[I"] ++ wsX30)
def wsX3_before : List Cond := .code yX3_before cX3_before 3 (some .int) :: ([.fieldLink RX3 38 "FlowLedgerModel" "by" "[I", .fieldLink RX3 7 "FlowLedgerModel" "froms" "[I", .fieldLink RX3 13 "FlowLedgerModel" "tos" "[I"] ++ wsX30)
def wsX3_goRound : List Cond := .code yX3_goRound cX3_goRound 8 none :: ([.constant RX3 60 (1000000), .fieldLink RX3 38 "FlowLedgerModel" "by" "[I", .fieldLink RX3 16 "FlowLedgerModel" "capacities" "[I", .fieldLink RX3 25 "FlowLedgerModel" "flow" "[I", .methodLink RX3 86 yX3_before, .instanceMethod yX3_before, .selects RX3 yX3_before yX3_before, .initialized RX3, .code yX3_before cX3_before 3 (some .int), .fieldLink RX3 7 "FlowLedgerModel" "froms" "[I", .fieldLink RX3 13 "FlowLedgerModel" "tos" "[I"] ++ wsX30)
def wsX3_solve_r1 : List Cond := [Cond.fieldLink RX3 22 "FlowLedgerModel" "supplies" "[I", Cond.constant RX3 90 (-1000002), Cond.constant RX3 84 (-1000004), Cond.constant RX3 95 (-1000003), Cond.fieldLink RX3 100 "FlowLedgerModel" "total" "I", Cond.fieldLink RX3 55 "FlowLedgerModel" "arcs" "I", Cond.fieldLink RX3 25 "FlowLedgerModel" "flow" "[I", Cond.fieldLink RX3 19 "FlowLedgerModel" "costs" "[I", Cond.methodLink RX3 80 yX3_fill, Cond.instanceMethod yX3_fill, Cond.selects RX3 yX3_fill yX3_fill, Cond.initialized RX3, Cond.code yX3_fill cX3_fill 2 (some .int), Cond.fieldLink RX3 61 "FlowLedgerModel" "all" "I", Cond.fieldLink RX3 41 "FlowLedgerModel" "allowed" "[Z", Cond.constant RX3 60 (1000000), Cond.methodLink RX3 72 yX3_lead, Cond.instanceMethod yX3_lead, Cond.selects RX3 yX3_lead yX3_lead, Cond.code yX3_lead cX3_lead 4 none, Cond.fieldLink RX3 7 "FlowLedgerModel" "froms" "[I", Cond.fieldLink RX3 13 "FlowLedgerModel" "tos" "[I", Cond.fieldLink RX3 16 "FlowLedgerModel" "capacities" "[I", Cond.methodLink RX3 76 yX3_pushAll]
def wsX3_solve_r2 : List Cond := [Cond.instanceMethod yX3_pushAll, Cond.selects RX3 yX3_pushAll yX3_pushAll, Cond.code yX3_pushAll cX3_pushAll 9 (some .int), Cond.fieldLink RX3 44 "FlowLedgerModel" "way" "[I", Cond.methodLink RX3 68 yX3_isReached, Cond.instanceMethod yX3_isReached, Cond.selects RX3 yX3_isReached yX3_isReached, Cond.code yX3_isReached cX3_isReached 9 (some .boolean), Cond.fieldLink RX3 31 "FlowLedgerModel" "seen" "[Z", Cond.fieldLink RX3 47 "FlowLedgerModel" "row" "[I", Cond.methodLink RX3 64 yX3_leftFrom, Cond.instanceMethod yX3_leftFrom, Cond.selects RX3 yX3_leftFrom yX3_leftFrom, Cond.code yX3_leftFrom cX3_leftFrom 4 (some .int), Cond.methodLink RX3 91 yX3_findRound, Cond.instanceMethod yX3_findRound, Cond.selects RX3 yX3_findRound yX3_findRound, Cond.code yX3_findRound cX3_findRound 6 (some .int), Cond.fieldLink RX3 35 "FlowLedgerModel" "far" "[I", Cond.fieldLink RX3 38 "FlowLedgerModel" "by" "[I", Cond.methodLink RX3 96 yX3_goRound, Cond.instanceMethod yX3_goRound, Cond.selects RX3 yX3_goRound yX3_goRound, Cond.code yX3_goRound cX3_goRound 8 none]
def wsX3_solve_r3 : List Cond := [Cond.methodLink RX3 86 yX3_before, Cond.instanceMethod yX3_before, Cond.selects RX3 yX3_before yX3_before, Cond.code yX3_before cX3_before 3 (some .int)]
def wsX3_solve : List Cond := .code yX3_solve cX3_solve 5 (some .int) :: ((wsX3_solve_r1 ++ (wsX3_solve_r2 ++ wsX3_solve_r3)) ++ wsX30)
def wsX3_state_r1 : List Cond := [Cond.methodLink RX3 103 yX3_solve, Cond.instanceMethod yX3_solve, Cond.selects RX3 yX3_solve yX3_solve, Cond.initialized RX3, Cond.code yX3_solve cX3_solve 5 (some .int), Cond.fieldLink RX3 22 "FlowLedgerModel" "supplies" "[I", Cond.constant RX3 90 (-1000002), Cond.constant RX3 84 (-1000004), Cond.constant RX3 95 (-1000003), Cond.fieldLink RX3 100 "FlowLedgerModel" "total" "I", Cond.fieldLink RX3 55 "FlowLedgerModel" "arcs" "I", Cond.fieldLink RX3 25 "FlowLedgerModel" "flow" "[I", Cond.fieldLink RX3 19 "FlowLedgerModel" "costs" "[I", Cond.methodLink RX3 80 yX3_fill, Cond.instanceMethod yX3_fill, Cond.selects RX3 yX3_fill yX3_fill, Cond.code yX3_fill cX3_fill 2 (some .int), Cond.fieldLink RX3 61 "FlowLedgerModel" "all" "I", Cond.fieldLink RX3 41 "FlowLedgerModel" "allowed" "[Z", Cond.constant RX3 60 (1000000), Cond.methodLink RX3 72 yX3_lead, Cond.instanceMethod yX3_lead, Cond.selects RX3 yX3_lead yX3_lead, Cond.code yX3_lead cX3_lead 4 none]
def wsX3_state_r2 : List Cond := [Cond.fieldLink RX3 7 "FlowLedgerModel" "froms" "[I", Cond.fieldLink RX3 13 "FlowLedgerModel" "tos" "[I", Cond.fieldLink RX3 16 "FlowLedgerModel" "capacities" "[I", Cond.methodLink RX3 76 yX3_pushAll, Cond.instanceMethod yX3_pushAll, Cond.selects RX3 yX3_pushAll yX3_pushAll, Cond.code yX3_pushAll cX3_pushAll 9 (some .int), Cond.fieldLink RX3 44 "FlowLedgerModel" "way" "[I", Cond.methodLink RX3 68 yX3_isReached, Cond.instanceMethod yX3_isReached, Cond.selects RX3 yX3_isReached yX3_isReached, Cond.code yX3_isReached cX3_isReached 9 (some .boolean), Cond.fieldLink RX3 31 "FlowLedgerModel" "seen" "[Z", Cond.fieldLink RX3 47 "FlowLedgerModel" "row" "[I", Cond.methodLink RX3 64 yX3_leftFrom, Cond.instanceMethod yX3_leftFrom, Cond.selects RX3 yX3_leftFrom yX3_leftFrom, Cond.code yX3_leftFrom cX3_leftFrom 4 (some .int), Cond.methodLink RX3 91 yX3_findRound, Cond.instanceMethod yX3_findRound, Cond.selects RX3 yX3_findRound yX3_findRound, Cond.code yX3_findRound cX3_findRound 6 (some .int), Cond.fieldLink RX3 35 "FlowLedgerModel" "far" "[I", Cond.fieldLink RX3 38 "FlowLedgerModel" "by" "[I"]
def wsX3_state_r3 : List Cond := [Cond.methodLink RX3 96 yX3_goRound, Cond.instanceMethod yX3_goRound, Cond.selects RX3 yX3_goRound yX3_goRound, Cond.code yX3_goRound cX3_goRound 8 none, Cond.methodLink RX3 86 yX3_before, Cond.instanceMethod yX3_before, Cond.selects RX3 yX3_before yX3_before, Cond.code yX3_before cX3_before 3 (some .int)]
def wsX3_state : List Cond := .code yX3_state cX3_state 1 (some .int) :: ((wsX3_state_r1 ++ (wsX3_state_r2 ++ wsX3_state_r3)) ++ wsX30)
def wsX3_cost_r1 : List Cond := [Cond.fieldLink RX3 100 "FlowLedgerModel" "total" "I", Cond.methodLink RX3 103 yX3_solve, Cond.instanceMethod yX3_solve, Cond.selects RX3 yX3_solve yX3_solve, Cond.initialized RX3, Cond.code yX3_solve cX3_solve 5 (some .int), Cond.fieldLink RX3 22 "FlowLedgerModel" "supplies" "[I", Cond.constant RX3 90 (-1000002), Cond.constant RX3 84 (-1000004), Cond.constant RX3 95 (-1000003), Cond.fieldLink RX3 55 "FlowLedgerModel" "arcs" "I", Cond.fieldLink RX3 25 "FlowLedgerModel" "flow" "[I", Cond.fieldLink RX3 19 "FlowLedgerModel" "costs" "[I", Cond.methodLink RX3 80 yX3_fill, Cond.instanceMethod yX3_fill, Cond.selects RX3 yX3_fill yX3_fill, Cond.code yX3_fill cX3_fill 2 (some .int), Cond.fieldLink RX3 61 "FlowLedgerModel" "all" "I", Cond.fieldLink RX3 41 "FlowLedgerModel" "allowed" "[Z", Cond.constant RX3 60 (1000000), Cond.methodLink RX3 72 yX3_lead, Cond.instanceMethod yX3_lead, Cond.selects RX3 yX3_lead yX3_lead, Cond.code yX3_lead cX3_lead 4 none]
def wsX3_cost_r2 : List Cond := [Cond.fieldLink RX3 7 "FlowLedgerModel" "froms" "[I", Cond.fieldLink RX3 13 "FlowLedgerModel" "tos" "[I", Cond.fieldLink RX3 16 "FlowLedgerModel" "capacities" "[I", Cond.methodLink RX3 76 yX3_pushAll, Cond.instanceMethod yX3_pushAll, Cond.selects RX3 yX3_pushAll yX3_pushAll, Cond.code yX3_pushAll cX3_pushAll 9 (some .int), Cond.fieldLink RX3 44 "FlowLedgerModel" "way" "[I", Cond.methodLink RX3 68 yX3_isReached, Cond.instanceMethod yX3_isReached, Cond.selects RX3 yX3_isReached yX3_isReached, Cond.code yX3_isReached cX3_isReached 9 (some .boolean), Cond.fieldLink RX3 31 "FlowLedgerModel" "seen" "[Z", Cond.fieldLink RX3 47 "FlowLedgerModel" "row" "[I", Cond.methodLink RX3 64 yX3_leftFrom, Cond.instanceMethod yX3_leftFrom, Cond.selects RX3 yX3_leftFrom yX3_leftFrom, Cond.code yX3_leftFrom cX3_leftFrom 4 (some .int), Cond.methodLink RX3 91 yX3_findRound, Cond.instanceMethod yX3_findRound, Cond.selects RX3 yX3_findRound yX3_findRound, Cond.code yX3_findRound cX3_findRound 6 (some .int), Cond.fieldLink RX3 35 "FlowLedgerModel" "far" "[I", Cond.fieldLink RX3 38 "FlowLedgerModel" "by" "[I"]
def wsX3_cost_r3 : List Cond := [Cond.methodLink RX3 96 yX3_goRound, Cond.instanceMethod yX3_goRound, Cond.selects RX3 yX3_goRound yX3_goRound, Cond.code yX3_goRound cX3_goRound 8 none, Cond.methodLink RX3 86 yX3_before, Cond.instanceMethod yX3_before, Cond.selects RX3 yX3_before yX3_before, Cond.code yX3_before cX3_before 3 (some .int)]
def wsX3_cost : List Cond := .code yX3_cost cX3_cost 2 (some .int) :: ((wsX3_cost_r1 ++ (wsX3_cost_r2 ++ wsX3_cost_r3)) ++ wsX30)
def wsX3_marginal_r1 : List Cond := [Cond.constant RX3 54 (-1000000), Cond.fieldLink RX3 100 "FlowLedgerModel" "total" "I", Cond.fieldLink RX3 22 "FlowLedgerModel" "supplies" "[I", Cond.constant RX3 84 (-1000004), Cond.methodLink RX3 50 yX3_in, Cond.static yX3_in, Cond.initialized RX3, Cond.code yX3_in cX3_in 3 (some .boolean), Cond.methodLink RX3 103 yX3_solve, Cond.instanceMethod yX3_solve, Cond.selects RX3 yX3_solve yX3_solve, Cond.code yX3_solve cX3_solve 5 (some .int), Cond.constant RX3 90 (-1000002), Cond.constant RX3 95 (-1000003), Cond.fieldLink RX3 55 "FlowLedgerModel" "arcs" "I", Cond.fieldLink RX3 25 "FlowLedgerModel" "flow" "[I", Cond.fieldLink RX3 19 "FlowLedgerModel" "costs" "[I", Cond.methodLink RX3 80 yX3_fill, Cond.instanceMethod yX3_fill, Cond.selects RX3 yX3_fill yX3_fill, Cond.code yX3_fill cX3_fill 2 (some .int), Cond.fieldLink RX3 61 "FlowLedgerModel" "all" "I", Cond.fieldLink RX3 41 "FlowLedgerModel" "allowed" "[Z", Cond.constant RX3 60 (1000000)]
def wsX3_marginal_r2 : List Cond := [Cond.methodLink RX3 72 yX3_lead, Cond.instanceMethod yX3_lead, Cond.selects RX3 yX3_lead yX3_lead, Cond.code yX3_lead cX3_lead 4 none, Cond.fieldLink RX3 7 "FlowLedgerModel" "froms" "[I", Cond.fieldLink RX3 13 "FlowLedgerModel" "tos" "[I", Cond.fieldLink RX3 16 "FlowLedgerModel" "capacities" "[I", Cond.methodLink RX3 76 yX3_pushAll, Cond.instanceMethod yX3_pushAll, Cond.selects RX3 yX3_pushAll yX3_pushAll, Cond.code yX3_pushAll cX3_pushAll 9 (some .int), Cond.fieldLink RX3 44 "FlowLedgerModel" "way" "[I", Cond.methodLink RX3 68 yX3_isReached, Cond.instanceMethod yX3_isReached, Cond.selects RX3 yX3_isReached yX3_isReached, Cond.code yX3_isReached cX3_isReached 9 (some .boolean), Cond.fieldLink RX3 31 "FlowLedgerModel" "seen" "[Z", Cond.fieldLink RX3 47 "FlowLedgerModel" "row" "[I", Cond.methodLink RX3 64 yX3_leftFrom, Cond.instanceMethod yX3_leftFrom, Cond.selects RX3 yX3_leftFrom yX3_leftFrom, Cond.code yX3_leftFrom cX3_leftFrom 4 (some .int), Cond.methodLink RX3 91 yX3_findRound, Cond.instanceMethod yX3_findRound]
def wsX3_marginal_r3 : List Cond := [Cond.selects RX3 yX3_findRound yX3_findRound, Cond.code yX3_findRound cX3_findRound 6 (some .int), Cond.fieldLink RX3 35 "FlowLedgerModel" "far" "[I", Cond.fieldLink RX3 38 "FlowLedgerModel" "by" "[I", Cond.methodLink RX3 96 yX3_goRound, Cond.instanceMethod yX3_goRound, Cond.selects RX3 yX3_goRound yX3_goRound, Cond.code yX3_goRound cX3_goRound 8 none, Cond.methodLink RX3 86 yX3_before, Cond.instanceMethod yX3_before, Cond.selects RX3 yX3_before yX3_before, Cond.code yX3_before cX3_before 3 (some .int)]
def wsX3_marginal : List Cond := .code yX3_marginal cX3_marginal 5 (some .int) :: ((wsX3_marginal_r1 ++ (wsX3_marginal_r2 ++ wsX3_marginal_r3)) ++ wsX30)
def wsX3_isFree : List Cond := .code yX3_isFree cX3_isFree 2 (some .boolean) :: ([.fieldLink RX3 19 "FlowLedgerModel" "costs" "[I", .fieldLink RX3 35 "FlowLedgerModel" "far" "[I", .fieldLink RX3 7 "FlowLedgerModel" "froms" "[I", .fieldLink RX3 13 "FlowLedgerModel" "tos" "[I"] ++ wsX30)
def wsX3_room_r1 : List Cond := [Cond.fieldLink RX3 55 "FlowLedgerModel" "arcs" "I", Cond.fieldLink RX3 61 "FlowLedgerModel" "all" "I", Cond.fieldLink RX3 41 "FlowLedgerModel" "allowed" "[Z", Cond.constant RX3 84 (-1000004), Cond.fieldLink RX3 28 "FlowLedgerModel" "other" "[I", Cond.fieldLink RX3 25 "FlowLedgerModel" "flow" "[I", Cond.methodLink RX3 91 yX3_findRound, Cond.instanceMethod yX3_findRound, Cond.selects RX3 yX3_findRound yX3_findRound, Cond.initialized RX3, Cond.code yX3_findRound cX3_findRound 6 (some .int), Cond.fieldLink RX3 35 "FlowLedgerModel" "far" "[I", Cond.fieldLink RX3 38 "FlowLedgerModel" "by" "[I", Cond.fieldLink RX3 16 "FlowLedgerModel" "capacities" "[I", Cond.constant RX3 60 (1000000), Cond.fieldLink RX3 7 "FlowLedgerModel" "froms" "[I", Cond.fieldLink RX3 19 "FlowLedgerModel" "costs" "[I", Cond.fieldLink RX3 13 "FlowLedgerModel" "tos" "[I", Cond.methodLink RX3 106 yX3_isFree, Cond.instanceMethod yX3_isFree, Cond.selects RX3 yX3_isFree yX3_isFree, Cond.code yX3_isFree cX3_isFree 2 (some .boolean), Cond.methodLink RX3 76 yX3_pushAll, Cond.instanceMethod yX3_pushAll]
def wsX3_room_r2 : List Cond := [Cond.selects RX3 yX3_pushAll yX3_pushAll, Cond.code yX3_pushAll cX3_pushAll 9 (some .int), Cond.fieldLink RX3 44 "FlowLedgerModel" "way" "[I", Cond.methodLink RX3 68 yX3_isReached, Cond.instanceMethod yX3_isReached, Cond.selects RX3 yX3_isReached yX3_isReached, Cond.code yX3_isReached cX3_isReached 9 (some .boolean), Cond.fieldLink RX3 31 "FlowLedgerModel" "seen" "[Z", Cond.fieldLink RX3 47 "FlowLedgerModel" "row" "[I", Cond.methodLink RX3 64 yX3_leftFrom, Cond.instanceMethod yX3_leftFrom, Cond.selects RX3 yX3_leftFrom yX3_leftFrom, Cond.code yX3_leftFrom cX3_leftFrom 4 (some .int)]
def wsX3_room : List Cond := .code yX3_room cX3_room 7 (some .int) :: ((wsX3_room_r1 ++ wsX3_room_r2) ++ wsX30)
def wsX3_least_r1 : List Cond := [Cond.fieldLink RX3 55 "FlowLedgerModel" "arcs" "I", Cond.constant RX3 54 (-1000000), Cond.fieldLink RX3 25 "FlowLedgerModel" "flow" "[I", Cond.fieldLink RX3 7 "FlowLedgerModel" "froms" "[I", Cond.fieldLink RX3 13 "FlowLedgerModel" "tos" "[I", Cond.methodLink RX3 50 yX3_in, Cond.static yX3_in, Cond.initialized RX3, Cond.code yX3_in cX3_in 3 (some .boolean), Cond.methodLink RX3 103 yX3_solve, Cond.instanceMethod yX3_solve, Cond.selects RX3 yX3_solve yX3_solve, Cond.code yX3_solve cX3_solve 5 (some .int), Cond.fieldLink RX3 22 "FlowLedgerModel" "supplies" "[I", Cond.constant RX3 90 (-1000002), Cond.constant RX3 84 (-1000004), Cond.constant RX3 95 (-1000003), Cond.fieldLink RX3 100 "FlowLedgerModel" "total" "I", Cond.fieldLink RX3 19 "FlowLedgerModel" "costs" "[I", Cond.methodLink RX3 80 yX3_fill, Cond.instanceMethod yX3_fill, Cond.selects RX3 yX3_fill yX3_fill, Cond.code yX3_fill cX3_fill 2 (some .int), Cond.fieldLink RX3 61 "FlowLedgerModel" "all" "I"]
def wsX3_least_r2 : List Cond := [Cond.fieldLink RX3 41 "FlowLedgerModel" "allowed" "[Z", Cond.constant RX3 60 (1000000), Cond.methodLink RX3 72 yX3_lead, Cond.instanceMethod yX3_lead, Cond.selects RX3 yX3_lead yX3_lead, Cond.code yX3_lead cX3_lead 4 none, Cond.fieldLink RX3 16 "FlowLedgerModel" "capacities" "[I", Cond.methodLink RX3 76 yX3_pushAll, Cond.instanceMethod yX3_pushAll, Cond.selects RX3 yX3_pushAll yX3_pushAll, Cond.code yX3_pushAll cX3_pushAll 9 (some .int), Cond.fieldLink RX3 44 "FlowLedgerModel" "way" "[I", Cond.methodLink RX3 68 yX3_isReached, Cond.instanceMethod yX3_isReached, Cond.selects RX3 yX3_isReached yX3_isReached, Cond.code yX3_isReached cX3_isReached 9 (some .boolean), Cond.fieldLink RX3 31 "FlowLedgerModel" "seen" "[Z", Cond.fieldLink RX3 47 "FlowLedgerModel" "row" "[I", Cond.methodLink RX3 64 yX3_leftFrom, Cond.instanceMethod yX3_leftFrom, Cond.selects RX3 yX3_leftFrom yX3_leftFrom, Cond.code yX3_leftFrom cX3_leftFrom 4 (some .int), Cond.methodLink RX3 91 yX3_findRound, Cond.instanceMethod yX3_findRound]
def wsX3_least_r3 : List Cond := [Cond.selects RX3 yX3_findRound yX3_findRound, Cond.code yX3_findRound cX3_findRound 6 (some .int), Cond.fieldLink RX3 35 "FlowLedgerModel" "far" "[I", Cond.fieldLink RX3 38 "FlowLedgerModel" "by" "[I", Cond.methodLink RX3 96 yX3_goRound, Cond.instanceMethod yX3_goRound, Cond.selects RX3 yX3_goRound yX3_goRound, Cond.code yX3_goRound cX3_goRound 8 none, Cond.methodLink RX3 86 yX3_before, Cond.instanceMethod yX3_before, Cond.selects RX3 yX3_before yX3_before, Cond.code yX3_before cX3_before 3 (some .int), Cond.methodLink RX3 106 yX3_isFree, Cond.instanceMethod yX3_isFree, Cond.selects RX3 yX3_isFree yX3_isFree, Cond.code yX3_isFree cX3_isFree 2 (some .boolean), Cond.methodLink RX3 110 yX3_room, Cond.instanceMethod yX3_room, Cond.selects RX3 yX3_room yX3_room, Cond.code yX3_room cX3_room 7 (some .int), Cond.fieldLink RX3 28 "FlowLedgerModel" "other" "[I"]
def wsX3_least : List Cond := .code yX3_least cX3_least 3 (some .int) :: ((wsX3_least_r1 ++ (wsX3_least_r2 ++ wsX3_least_r3)) ++ wsX30)
def wsX3_mostOf_r1 : List Cond := [Cond.fieldLink RX3 25 "FlowLedgerModel" "flow" "[I", Cond.fieldLink RX3 13 "FlowLedgerModel" "tos" "[I", Cond.fieldLink RX3 7 "FlowLedgerModel" "froms" "[I", Cond.fieldLink RX3 16 "FlowLedgerModel" "capacities" "[I", Cond.constant RX3 85 (500000), Cond.constant RX3 84 (-1000004), Cond.methodLink RX3 91 yX3_findRound, Cond.instanceMethod yX3_findRound, Cond.selects RX3 yX3_findRound yX3_findRound, Cond.initialized RX3, Cond.code yX3_findRound cX3_findRound 6 (some .int), Cond.fieldLink RX3 35 "FlowLedgerModel" "far" "[I", Cond.fieldLink RX3 38 "FlowLedgerModel" "by" "[I", Cond.fieldLink RX3 55 "FlowLedgerModel" "arcs" "I", Cond.constant RX3 60 (1000000), Cond.fieldLink RX3 19 "FlowLedgerModel" "costs" "[I", Cond.methodLink RX3 106 yX3_isFree, Cond.instanceMethod yX3_isFree, Cond.selects RX3 yX3_isFree yX3_isFree, Cond.code yX3_isFree cX3_isFree 2 (some .boolean), Cond.methodLink RX3 110 yX3_room, Cond.instanceMethod yX3_room, Cond.selects RX3 yX3_room yX3_room, Cond.code yX3_room cX3_room 7 (some .int)]
def wsX3_mostOf_r2 : List Cond := [Cond.fieldLink RX3 61 "FlowLedgerModel" "all" "I", Cond.fieldLink RX3 41 "FlowLedgerModel" "allowed" "[Z", Cond.fieldLink RX3 28 "FlowLedgerModel" "other" "[I", Cond.methodLink RX3 76 yX3_pushAll, Cond.instanceMethod yX3_pushAll, Cond.selects RX3 yX3_pushAll yX3_pushAll, Cond.code yX3_pushAll cX3_pushAll 9 (some .int), Cond.fieldLink RX3 44 "FlowLedgerModel" "way" "[I", Cond.methodLink RX3 68 yX3_isReached, Cond.instanceMethod yX3_isReached, Cond.selects RX3 yX3_isReached yX3_isReached, Cond.code yX3_isReached cX3_isReached 9 (some .boolean), Cond.fieldLink RX3 31 "FlowLedgerModel" "seen" "[Z", Cond.fieldLink RX3 47 "FlowLedgerModel" "row" "[I", Cond.methodLink RX3 64 yX3_leftFrom, Cond.instanceMethod yX3_leftFrom, Cond.selects RX3 yX3_leftFrom yX3_leftFrom, Cond.code yX3_leftFrom cX3_leftFrom 4 (some .int)]
def wsX3_mostOf : List Cond := .code yX3_mostOf cX3_mostOf 3 (some .int) :: ((wsX3_mostOf_r1 ++ wsX3_mostOf_r2) ++ wsX30)
def wsX3_most_r1 : List Cond := [Cond.fieldLink RX3 55 "FlowLedgerModel" "arcs" "I", Cond.constant RX3 54 (-1000000), Cond.methodLink RX3 50 yX3_in, Cond.static yX3_in, Cond.initialized RX3, Cond.code yX3_in cX3_in 3 (some .boolean), Cond.methodLink RX3 103 yX3_solve, Cond.instanceMethod yX3_solve, Cond.selects RX3 yX3_solve yX3_solve, Cond.code yX3_solve cX3_solve 5 (some .int), Cond.fieldLink RX3 22 "FlowLedgerModel" "supplies" "[I", Cond.constant RX3 90 (-1000002), Cond.constant RX3 84 (-1000004), Cond.constant RX3 95 (-1000003), Cond.fieldLink RX3 100 "FlowLedgerModel" "total" "I", Cond.fieldLink RX3 25 "FlowLedgerModel" "flow" "[I", Cond.fieldLink RX3 19 "FlowLedgerModel" "costs" "[I", Cond.methodLink RX3 80 yX3_fill, Cond.instanceMethod yX3_fill, Cond.selects RX3 yX3_fill yX3_fill, Cond.code yX3_fill cX3_fill 2 (some .int), Cond.fieldLink RX3 61 "FlowLedgerModel" "all" "I", Cond.fieldLink RX3 41 "FlowLedgerModel" "allowed" "[Z", Cond.constant RX3 60 (1000000)]
def wsX3_most_r2 : List Cond := [Cond.methodLink RX3 72 yX3_lead, Cond.instanceMethod yX3_lead, Cond.selects RX3 yX3_lead yX3_lead, Cond.code yX3_lead cX3_lead 4 none, Cond.fieldLink RX3 7 "FlowLedgerModel" "froms" "[I", Cond.fieldLink RX3 13 "FlowLedgerModel" "tos" "[I", Cond.fieldLink RX3 16 "FlowLedgerModel" "capacities" "[I", Cond.methodLink RX3 76 yX3_pushAll, Cond.instanceMethod yX3_pushAll, Cond.selects RX3 yX3_pushAll yX3_pushAll, Cond.code yX3_pushAll cX3_pushAll 9 (some .int), Cond.fieldLink RX3 44 "FlowLedgerModel" "way" "[I", Cond.methodLink RX3 68 yX3_isReached, Cond.instanceMethod yX3_isReached, Cond.selects RX3 yX3_isReached yX3_isReached, Cond.code yX3_isReached cX3_isReached 9 (some .boolean), Cond.fieldLink RX3 31 "FlowLedgerModel" "seen" "[Z", Cond.fieldLink RX3 47 "FlowLedgerModel" "row" "[I", Cond.methodLink RX3 64 yX3_leftFrom, Cond.instanceMethod yX3_leftFrom, Cond.selects RX3 yX3_leftFrom yX3_leftFrom, Cond.code yX3_leftFrom cX3_leftFrom 4 (some .int), Cond.methodLink RX3 91 yX3_findRound, Cond.instanceMethod yX3_findRound]
def wsX3_most_r3 : List Cond := [Cond.selects RX3 yX3_findRound yX3_findRound, Cond.code yX3_findRound cX3_findRound 6 (some .int), Cond.fieldLink RX3 35 "FlowLedgerModel" "far" "[I", Cond.fieldLink RX3 38 "FlowLedgerModel" "by" "[I", Cond.methodLink RX3 96 yX3_goRound, Cond.instanceMethod yX3_goRound, Cond.selects RX3 yX3_goRound yX3_goRound, Cond.code yX3_goRound cX3_goRound 8 none, Cond.methodLink RX3 86 yX3_before, Cond.instanceMethod yX3_before, Cond.selects RX3 yX3_before yX3_before, Cond.code yX3_before cX3_before 3 (some .int), Cond.methodLink RX3 114 yX3_mostOf, Cond.instanceMethod yX3_mostOf, Cond.selects RX3 yX3_mostOf yX3_mostOf, Cond.code yX3_mostOf cX3_mostOf 3 (some .int), Cond.constant RX3 85 (500000), Cond.methodLink RX3 106 yX3_isFree, Cond.instanceMethod yX3_isFree, Cond.selects RX3 yX3_isFree yX3_isFree, Cond.code yX3_isFree cX3_isFree 2 (some .boolean), Cond.methodLink RX3 110 yX3_room, Cond.instanceMethod yX3_room, Cond.selects RX3 yX3_room yX3_room]
def wsX3_most_r4 : List Cond := [Cond.code yX3_room cX3_room 7 (some .int), Cond.fieldLink RX3 28 "FlowLedgerModel" "other" "[I"]
def wsX3_most : List Cond := .code yX3_most cX3_most 3 (some .int) :: ((wsX3_most_r1 ++ (wsX3_most_r2 ++ (wsX3_most_r3 ++ wsX3_most_r4))) ++ wsX30)
def wsX3_slack_r1 : List Cond := [Cond.fieldLink RX3 55 "FlowLedgerModel" "arcs" "I", Cond.constant RX3 54 (-1000000), Cond.fieldLink RX3 100 "FlowLedgerModel" "total" "I", Cond.fieldLink RX3 19 "FlowLedgerModel" "costs" "[I", Cond.constant RX3 84 (-1000004), Cond.methodLink RX3 50 yX3_in, Cond.static yX3_in, Cond.initialized RX3, Cond.code yX3_in cX3_in 3 (some .boolean), Cond.methodLink RX3 103 yX3_solve, Cond.instanceMethod yX3_solve, Cond.selects RX3 yX3_solve yX3_solve, Cond.code yX3_solve cX3_solve 5 (some .int), Cond.fieldLink RX3 22 "FlowLedgerModel" "supplies" "[I", Cond.constant RX3 90 (-1000002), Cond.constant RX3 95 (-1000003), Cond.fieldLink RX3 25 "FlowLedgerModel" "flow" "[I", Cond.methodLink RX3 80 yX3_fill, Cond.instanceMethod yX3_fill, Cond.selects RX3 yX3_fill yX3_fill, Cond.code yX3_fill cX3_fill 2 (some .int), Cond.fieldLink RX3 61 "FlowLedgerModel" "all" "I", Cond.fieldLink RX3 41 "FlowLedgerModel" "allowed" "[Z", Cond.constant RX3 60 (1000000)]
def wsX3_slack_r2 : List Cond := [Cond.methodLink RX3 72 yX3_lead, Cond.instanceMethod yX3_lead, Cond.selects RX3 yX3_lead yX3_lead, Cond.code yX3_lead cX3_lead 4 none, Cond.fieldLink RX3 7 "FlowLedgerModel" "froms" "[I", Cond.fieldLink RX3 13 "FlowLedgerModel" "tos" "[I", Cond.fieldLink RX3 16 "FlowLedgerModel" "capacities" "[I", Cond.methodLink RX3 76 yX3_pushAll, Cond.instanceMethod yX3_pushAll, Cond.selects RX3 yX3_pushAll yX3_pushAll, Cond.code yX3_pushAll cX3_pushAll 9 (some .int), Cond.fieldLink RX3 44 "FlowLedgerModel" "way" "[I", Cond.methodLink RX3 68 yX3_isReached, Cond.instanceMethod yX3_isReached, Cond.selects RX3 yX3_isReached yX3_isReached, Cond.code yX3_isReached cX3_isReached 9 (some .boolean), Cond.fieldLink RX3 31 "FlowLedgerModel" "seen" "[Z", Cond.fieldLink RX3 47 "FlowLedgerModel" "row" "[I", Cond.methodLink RX3 64 yX3_leftFrom, Cond.instanceMethod yX3_leftFrom, Cond.selects RX3 yX3_leftFrom yX3_leftFrom, Cond.code yX3_leftFrom cX3_leftFrom 4 (some .int), Cond.methodLink RX3 91 yX3_findRound, Cond.instanceMethod yX3_findRound]
def wsX3_slack_r3 : List Cond := [Cond.selects RX3 yX3_findRound yX3_findRound, Cond.code yX3_findRound cX3_findRound 6 (some .int), Cond.fieldLink RX3 35 "FlowLedgerModel" "far" "[I", Cond.fieldLink RX3 38 "FlowLedgerModel" "by" "[I", Cond.methodLink RX3 96 yX3_goRound, Cond.instanceMethod yX3_goRound, Cond.selects RX3 yX3_goRound yX3_goRound, Cond.code yX3_goRound cX3_goRound 8 none, Cond.methodLink RX3 86 yX3_before, Cond.instanceMethod yX3_before, Cond.selects RX3 yX3_before yX3_before, Cond.code yX3_before cX3_before 3 (some .int), Cond.methodLink RX3 114 yX3_mostOf, Cond.instanceMethod yX3_mostOf, Cond.selects RX3 yX3_mostOf yX3_mostOf, Cond.code yX3_mostOf cX3_mostOf 3 (some .int), Cond.constant RX3 85 (500000), Cond.methodLink RX3 106 yX3_isFree, Cond.instanceMethod yX3_isFree, Cond.selects RX3 yX3_isFree yX3_isFree, Cond.code yX3_isFree cX3_isFree 2 (some .boolean), Cond.methodLink RX3 110 yX3_room, Cond.instanceMethod yX3_room, Cond.selects RX3 yX3_room yX3_room]
def wsX3_slack_r4 : List Cond := [Cond.code yX3_room cX3_room 7 (some .int), Cond.fieldLink RX3 28 "FlowLedgerModel" "other" "[I"]
def wsX3_slack : List Cond := .code yX3_slack cX3_slack 8 (some .int) :: ((wsX3_slack_r1 ++ (wsX3_slack_r2 ++ (wsX3_slack_r3 ++ wsX3_slack_r4))) ++ wsX30)
def wsJ9_max_7cf53 : List Cond := .code yJ9_max_7cf53 cJ9_max_7cf53 2 (some .int) :: ([])
def wsJ9_min_7cf53 : List Cond := .code yJ9_min_7cf53 cJ9_min_7cf53 2 (some .int) :: ([])
abbrev vwCl : List vw_C := [(RX0, TX0, 6), (RX1, TX1, 8), (RX2, TX2, 2), (RX3, TX3, 16)]
theorem inJ9 : ∀ w ∈ wsJ90, w ∈ lw_tbl := by decide +kernel
theorem dX0_init_0 : decode cX0_init 0 = .ok (.aload_n 0, 1) := by decide +kernel
theorem dX0_init_1 : decode cX0_init 1 = .ok (.invokespecial 3, 3) := by decide +kernel
theorem dX0_init_4 : decode cX0_init 4 = .ok (.aload_n 0, 1) := by decide +kernel
theorem dX0_init_5 : decode cX0_init 5 = .ok (.bipush 20, 2) := by decide +kernel
theorem dX0_init_7 : decode cX0_init 7 = .ok (.newarray .int, 2) := by decide +kernel
theorem dX0_init_9 : decode cX0_init 9 = .ok (.putfield 9, 3) := by decide +kernel
theorem dX0_init_12 : decode cX0_init 12 = .ok (.aload_n 0, 1) := by decide +kernel
theorem dX0_init_13 : decode cX0_init 13 = .ok (.bipush 20, 2) := by decide +kernel
end
section
theorem dX0_init_15 : decode cX0_init 15 = .ok (.newarray .int, 2) := by decide +kernel
theorem dX0_init_17 : decode cX0_init 17 = .ok (.putfield 15, 3) := by decide +kernel
theorem dX0_init_20 : decode cX0_init 20 = .ok (.aload_n 0, 1) := by decide +kernel
theorem dX0_init_21 : decode cX0_init 21 = .ok (.bipush 20, 2) := by decide +kernel
theorem dX0_init_23 : decode cX0_init 23 = .ok (.newarray .int, 2) := by decide +kernel
theorem dX0_init_25 : decode cX0_init 25 = .ok (.putfield 18, 3) := by decide +kernel
theorem dX0_init_28 : decode cX0_init 28 = .ok (.aload_n 0, 1) := by decide +kernel
theorem dX0_init_29 : decode cX0_init 29 = .ok (.bipush 20, 2) := by decide +kernel
theorem dX0_init_31 : decode cX0_init 31 = .ok (.newarray .int, 2) := by decide +kernel
theorem dX0_init_33 : decode cX0_init 33 = .ok (.putfield 21, 3) := by decide +kernel
theorem dX0_init_36 : decode cX0_init 36 = .ok (.aload_n 0, 1) := by decide +kernel
theorem dX0_init_37 : decode cX0_init 37 = .ok (.bipush 8, 2) := by decide +kernel
theorem dX0_init_39 : decode cX0_init 39 = .ok (.newarray .int, 2) := by decide +kernel
theorem dX0_init_41 : decode cX0_init 41 = .ok (.putfield 24, 3) := by decide +kernel
theorem dX0_init_44 : decode cX0_init 44 = .ok (.return_, 1) := by decide +kernel
set_option maxRecDepth 20000 in
theorem ggX0_totalSupply_X2_sumAboveZero : GoodIn wsX0_totalSupply wsX2_sumAboveZero := goodIn_r _ [4, 5, 6, 7, 8] (by decide +kernel) (by decide +kernel)
set_option maxRecDepth 20000 in
theorem gX0_totalSupply_X2_sumAboveZero_n27 : GoodIn wsX0_totalSupply (wsX2_sumAboveZero) := ggX0_totalSupply_X2_sumAboveZero
theorem dX0_totalSupply_0 : decode cX0_totalSupply 0 = .ok (.aload_n 0, 1) := by decide +kernel
theorem dX0_totalSupply_1 : decode cX0_totalSupply 1 = .ok (.getfield 24, 3) := by decide +kernel
theorem dX0_totalSupply_4 : decode cX0_totalSupply 4 = .ok (.invokestatic 27, 3) := by decide +kernel
theorem dX0_totalSupply_7 : decode cX0_totalSupply 7 = .ok (.ireturn, 1) := by decide +kernel
theorem dX1_init_0 : decode cX1_init 0 = .ok (.aload_n 0, 1) := by decide +kernel
theorem dX1_init_1 : decode cX1_init 1 = .ok (.invokespecial 3, 3) := by decide +kernel
theorem dX1_init_4 : decode cX1_init 4 = .ok (.aload_n 0, 1) := by decide +kernel
theorem dX1_init_5 : decode cX1_init 5 = .ok (.bipush 40, 2) := by decide +kernel
theorem dX1_init_7 : decode cX1_init 7 = .ok (.newarray .int, 2) := by decide +kernel
theorem dX1_init_9 : decode cX1_init 9 = .ok (.putfield 9, 3) := by decide +kernel
theorem dX1_init_12 : decode cX1_init 12 = .ok (.aload_n 0, 1) := by decide +kernel
theorem dX1_init_13 : decode cX1_init 13 = .ok (.bipush 40, 2) := by decide +kernel
theorem dX1_init_15 : decode cX1_init 15 = .ok (.newarray .int, 2) := by decide +kernel
theorem dX1_init_17 : decode cX1_init 17 = .ok (.putfield 15, 3) := by decide +kernel
theorem dX1_init_20 : decode cX1_init 20 = .ok (.aload_n 0, 1) := by decide +kernel
theorem dX1_init_21 : decode cX1_init 21 = .ok (.bipush 40, 2) := by decide +kernel
theorem dX1_init_23 : decode cX1_init 23 = .ok (.newarray .int, 2) := by decide +kernel
theorem dX1_init_25 : decode cX1_init 25 = .ok (.putfield 18, 3) := by decide +kernel
theorem dX1_init_28 : decode cX1_init 28 = .ok (.aload_n 0, 1) := by decide +kernel
theorem dX1_init_29 : decode cX1_init 29 = .ok (.bipush 40, 2) := by decide +kernel
theorem dX1_init_31 : decode cX1_init 31 = .ok (.newarray .int, 2) := by decide +kernel
theorem dX1_init_33 : decode cX1_init 33 = .ok (.putfield 21, 3) := by decide +kernel
theorem dX1_init_36 : decode cX1_init 36 = .ok (.aload_n 0, 1) := by decide +kernel
theorem dX1_init_37 : decode cX1_init 37 = .ok (.bipush 8, 2) := by decide +kernel
theorem dX1_init_39 : decode cX1_init 39 = .ok (.newarray .int, 2) := by decide +kernel
theorem dX1_init_41 : decode cX1_init 41 = .ok (.putfield 24, 3) := by decide +kernel
theorem dX1_init_44 : decode cX1_init 44 = .ok (.aload_n 0, 1) := by decide +kernel
theorem dX1_init_45 : decode cX1_init 45 = .ok (.bipush 8, 2) := by decide +kernel
theorem dX1_init_47 : decode cX1_init 47 = .ok (.newarray .int, 2) := by decide +kernel
theorem dX1_init_49 : decode cX1_init 49 = .ok (.putfield 27, 3) := by decide +kernel
theorem dX1_init_52 : decode cX1_init 52 = .ok (.aload_n 0, 1) := by decide +kernel
theorem dX1_init_53 : decode cX1_init 53 = .ok (.bipush 8, 2) := by decide +kernel
theorem dX1_init_55 : decode cX1_init 55 = .ok (.newarray .int, 2) := by decide +kernel
theorem dX1_init_57 : decode cX1_init 57 = .ok (.putfield 30, 3) := by decide +kernel
theorem dX1_init_60 : decode cX1_init 60 = .ok (.aload_n 0, 1) := by decide +kernel
theorem dX1_init_61 : decode cX1_init 61 = .ok (.aload_n 1, 1) := by decide +kernel
theorem dX1_init_62 : decode cX1_init 62 = .ok (.putfield 33, 3) := by decide +kernel
theorem dX1_init_65 : decode cX1_init 65 = .ok (.return_, 1) := by decide +kernel
theorem dX1_lay_0 : decode cX1_lay 0 = .ok (.iconst 0, 1) := by decide +kernel
theorem dX1_lay_1 : decode cX1_lay 1 = .ok (.istore_n 2, 1) := by decide +kernel
theorem dX1_lay_2 : decode cX1_lay 2 = .ok (.iload_n 2, 1) := by decide +kernel
theorem dX1_lay_3 : decode cX1_lay 3 = .ok (.aload_n 0, 1) := by decide +kernel
theorem dX1_lay_4 : decode cX1_lay 4 = .ok (.getfield 33, 3) := by decide +kernel
theorem dX1_lay_7 : decode cX1_lay 7 = .ok (.getfield 37, 3) := by decide +kernel
theorem dX1_lay_10 : decode cX1_lay 10 = .ok (.if_icmp .ge 103, 3) := by decide +kernel
theorem dX1_lay_13 : decode cX1_lay 13 = .ok (.iconst 2, 1) := by decide +kernel
theorem dX1_lay_14 : decode cX1_lay 14 = .ok (.iload_n 2, 1) := by decide +kernel
theorem dX1_lay_15 : decode cX1_lay 15 = .ok (.imul, 1) := by decide +kernel
theorem dX1_lay_16 : decode cX1_lay 16 = .ok (.istore_n 3, 1) := by decide +kernel
theorem dX1_lay_17 : decode cX1_lay 17 = .ok (.aload_n 0, 1) := by decide +kernel
theorem dX1_lay_18 : decode cX1_lay 18 = .ok (.getfield 9, 3) := by decide +kernel
theorem dX1_lay_21 : decode cX1_lay 21 = .ok (.iload_n 3, 1) := by decide +kernel
theorem dX1_lay_22 : decode cX1_lay 22 = .ok (.aload_n 0, 1) := by decide +kernel
theorem dX1_lay_23 : decode cX1_lay 23 = .ok (.getfield 33, 3) := by decide +kernel
theorem dX1_lay_26 : decode cX1_lay 26 = .ok (.getfield 43, 3) := by decide +kernel
theorem dX1_lay_29 : decode cX1_lay 29 = .ok (.iload_n 2, 1) := by decide +kernel
theorem dX1_lay_30 : decode cX1_lay 30 = .ok (.iaload, 1) := by decide +kernel
theorem dX1_lay_31 : decode cX1_lay 31 = .ok (.iastore, 1) := by decide +kernel
theorem dX1_lay_32 : decode cX1_lay 32 = .ok (.aload_n 0, 1) := by decide +kernel
theorem dX1_lay_33 : decode cX1_lay 33 = .ok (.getfield 15, 3) := by decide +kernel
theorem dX1_lay_36 : decode cX1_lay 36 = .ok (.iload_n 3, 1) := by decide +kernel
theorem dX1_lay_37 : decode cX1_lay 37 = .ok (.aload_n 0, 1) := by decide +kernel
theorem dX1_lay_38 : decode cX1_lay 38 = .ok (.getfield 33, 3) := by decide +kernel
theorem dX1_lay_41 : decode cX1_lay 41 = .ok (.getfield 46, 3) := by decide +kernel
theorem dX1_lay_44 : decode cX1_lay 44 = .ok (.iload_n 2, 1) := by decide +kernel
theorem dX1_lay_45 : decode cX1_lay 45 = .ok (.iaload, 1) := by decide +kernel
theorem dX1_lay_46 : decode cX1_lay 46 = .ok (.iastore, 1) := by decide +kernel
theorem dX1_lay_47 : decode cX1_lay 47 = .ok (.aload_n 0, 1) := by decide +kernel
theorem dX1_lay_48 : decode cX1_lay 48 = .ok (.getfield 18, 3) := by decide +kernel
theorem dX1_lay_51 : decode cX1_lay 51 = .ok (.iload_n 3, 1) := by decide +kernel
theorem dX1_lay_52 : decode cX1_lay 52 = .ok (.iload_n 1, 1) := by decide +kernel
theorem dX1_lay_53 : decode cX1_lay 53 = .ok (.aload_n 0, 1) := by decide +kernel
theorem dX1_lay_54 : decode cX1_lay 54 = .ok (.getfield 33, 3) := by decide +kernel
theorem dX1_lay_57 : decode cX1_lay 57 = .ok (.getfield 49, 3) := by decide +kernel
theorem dX1_lay_60 : decode cX1_lay 60 = .ok (.iload_n 2, 1) := by decide +kernel
theorem dX1_lay_61 : decode cX1_lay 61 = .ok (.iaload, 1) := by decide +kernel
theorem dX1_lay_62 : decode cX1_lay 62 = .ok (.imul, 1) := by decide +kernel
theorem dX1_lay_63 : decode cX1_lay 63 = .ok (.iastore, 1) := by decide +kernel
theorem dX1_lay_64 : decode cX1_lay 64 = .ok (.aload_n 0, 1) := by decide +kernel
theorem dX1_lay_65 : decode cX1_lay 65 = .ok (.getfield 9, 3) := by decide +kernel
theorem dX1_lay_68 : decode cX1_lay 68 = .ok (.iload_n 3, 1) := by decide +kernel
theorem dX1_lay_69 : decode cX1_lay 69 = .ok (.iconst 1, 1) := by decide +kernel
theorem dX1_lay_70 : decode cX1_lay 70 = .ok (.iadd, 1) := by decide +kernel
theorem dX1_lay_71 : decode cX1_lay 71 = .ok (.aload_n 0, 1) := by decide +kernel
theorem dX1_lay_72 : decode cX1_lay 72 = .ok (.getfield 15, 3) := by decide +kernel
theorem dX1_lay_75 : decode cX1_lay 75 = .ok (.iload_n 3, 1) := by decide +kernel
theorem dX1_lay_76 : decode cX1_lay 76 = .ok (.iaload, 1) := by decide +kernel
theorem dX1_lay_77 : decode cX1_lay 77 = .ok (.iastore, 1) := by decide +kernel
theorem dX1_lay_78 : decode cX1_lay 78 = .ok (.aload_n 0, 1) := by decide +kernel
theorem dX1_lay_79 : decode cX1_lay 79 = .ok (.getfield 15, 3) := by decide +kernel
theorem dX1_lay_82 : decode cX1_lay 82 = .ok (.iload_n 3, 1) := by decide +kernel
theorem dX1_lay_83 : decode cX1_lay 83 = .ok (.iconst 1, 1) := by decide +kernel
theorem dX1_lay_84 : decode cX1_lay 84 = .ok (.iadd, 1) := by decide +kernel
theorem dX1_lay_85 : decode cX1_lay 85 = .ok (.aload_n 0, 1) := by decide +kernel
theorem dX1_lay_86 : decode cX1_lay 86 = .ok (.getfield 9, 3) := by decide +kernel
theorem dX1_lay_89 : decode cX1_lay 89 = .ok (.iload_n 3, 1) := by decide +kernel
theorem dX1_lay_90 : decode cX1_lay 90 = .ok (.iaload, 1) := by decide +kernel
theorem dX1_lay_91 : decode cX1_lay 91 = .ok (.iastore, 1) := by decide +kernel
theorem dX1_lay_92 : decode cX1_lay 92 = .ok (.aload_n 0, 1) := by decide +kernel
theorem dX1_lay_93 : decode cX1_lay 93 = .ok (.getfield 18, 3) := by decide +kernel
theorem dX1_lay_96 : decode cX1_lay 96 = .ok (.iload_n 3, 1) := by decide +kernel
theorem dX1_lay_97 : decode cX1_lay 97 = .ok (.iconst 1, 1) := by decide +kernel
theorem dX1_lay_98 : decode cX1_lay 98 = .ok (.iadd, 1) := by decide +kernel
theorem dX1_lay_99 : decode cX1_lay 99 = .ok (.aload_n 0, 1) := by decide +kernel
theorem dX1_lay_100 : decode cX1_lay 100 = .ok (.getfield 18, 3) := by decide +kernel
theorem dX1_lay_103 : decode cX1_lay 103 = .ok (.iload_n 3, 1) := by decide +kernel
theorem dX1_lay_104 : decode cX1_lay 104 = .ok (.iaload, 1) := by decide +kernel
theorem dX1_lay_105 : decode cX1_lay 105 = .ok (.ineg, 1) := by decide +kernel
theorem dX1_lay_106 : decode cX1_lay 106 = .ok (.iastore, 1) := by decide +kernel
theorem dX1_lay_107 : decode cX1_lay 107 = .ok (.iinc 2 1, 3) := by decide +kernel
theorem dX1_lay_110 : decode cX1_lay 110 = .ok (.goto (-108), 3) := by decide +kernel
theorem dX1_lay_113 : decode cX1_lay 113 = .ok (.return_, 1) := by decide +kernel
theorem dX1_tilt_0 : decode cX1_tilt 0 = .ok (.aload_n 0, 1) := by decide +kernel
theorem dX1_tilt_1 : decode cX1_tilt 1 = .ok (.getfield 18, 3) := by decide +kernel
theorem dX1_tilt_4 : decode cX1_tilt 4 = .ok (.iconst 2, 1) := by decide +kernel
theorem dX1_tilt_5 : decode cX1_tilt 5 = .ok (.iload_n 1, 1) := by decide +kernel
theorem dX1_tilt_6 : decode cX1_tilt 6 = .ok (.imul, 1) := by decide +kernel
theorem dX1_tilt_7 : decode cX1_tilt 7 = .ok (.dup2, 1) := by decide +kernel
theorem dX1_tilt_8 : decode cX1_tilt 8 = .ok (.iaload, 1) := by decide +kernel
theorem dX1_tilt_9 : decode cX1_tilt 9 = .ok (.iload_n 2, 1) := by decide +kernel
theorem dX1_tilt_10 : decode cX1_tilt 10 = .ok (.iadd, 1) := by decide +kernel
theorem dX1_tilt_11 : decode cX1_tilt 11 = .ok (.iastore, 1) := by decide +kernel
theorem dX1_tilt_12 : decode cX1_tilt 12 = .ok (.aload_n 0, 1) := by decide +kernel
theorem dX1_tilt_13 : decode cX1_tilt 13 = .ok (.getfield 18, 3) := by decide +kernel
theorem dX1_tilt_16 : decode cX1_tilt 16 = .ok (.iconst 2, 1) := by decide +kernel
theorem dX1_tilt_17 : decode cX1_tilt 17 = .ok (.iload_n 1, 1) := by decide +kernel
theorem dX1_tilt_18 : decode cX1_tilt 18 = .ok (.imul, 1) := by decide +kernel
theorem dX1_tilt_19 : decode cX1_tilt 19 = .ok (.iconst 1, 1) := by decide +kernel
theorem dX1_tilt_20 : decode cX1_tilt 20 = .ok (.iadd, 1) := by decide +kernel
theorem dX1_tilt_21 : decode cX1_tilt 21 = .ok (.dup2, 1) := by decide +kernel
theorem dX1_tilt_22 : decode cX1_tilt 22 = .ok (.iaload, 1) := by decide +kernel
theorem dX1_tilt_23 : decode cX1_tilt 23 = .ok (.iload_n 2, 1) := by decide +kernel
theorem dX1_tilt_24 : decode cX1_tilt 24 = .ok (.isub, 1) := by decide +kernel
theorem dX1_tilt_25 : decode cX1_tilt 25 = .ok (.iastore, 1) := by decide +kernel
theorem dX1_tilt_26 : decode cX1_tilt 26 = .ok (.return_, 1) := by decide +kernel
theorem dX1_flowOf_0 : decode cX1_flowOf 0 = .ok (.aload_n 0, 1) := by decide +kernel
theorem dX1_flowOf_1 : decode cX1_flowOf 1 = .ok (.getfield 21, 3) := by decide +kernel
theorem dX1_flowOf_4 : decode cX1_flowOf 4 = .ok (.iconst 2, 1) := by decide +kernel
theorem dX1_flowOf_5 : decode cX1_flowOf 5 = .ok (.iload_n 1, 1) := by decide +kernel
theorem dX1_flowOf_6 : decode cX1_flowOf 6 = .ok (.imul, 1) := by decide +kernel
theorem dX1_flowOf_7 : decode cX1_flowOf 7 = .ok (.iconst 1, 1) := by decide +kernel
theorem dX1_flowOf_8 : decode cX1_flowOf 8 = .ok (.iadd, 1) := by decide +kernel
theorem dX1_flowOf_9 : decode cX1_flowOf 9 = .ok (.iaload, 1) := by decide +kernel
theorem dX1_flowOf_10 : decode cX1_flowOf 10 = .ok (.ireturn, 1) := by decide +kernel
theorem dX1_distanceTo_0 : decode cX1_distanceTo 0 = .ok (.aload_n 0, 1) := by decide +kernel
theorem dX1_distanceTo_1 : decode cX1_distanceTo 1 = .ok (.getfield 27, 3) := by decide +kernel
theorem dX1_distanceTo_4 : decode cX1_distanceTo 4 = .ok (.iload_n 1, 1) := by decide +kernel
theorem dX1_distanceTo_5 : decode cX1_distanceTo 5 = .ok (.iaload, 1) := by decide +kernel
theorem dX1_distanceTo_6 : decode cX1_distanceTo 6 = .ok (.ireturn, 1) := by decide +kernel
set_option maxRecDepth 20000 in
theorem ggX1_route_X1_levelUnboundedArcs : GoodIn wsX1_route wsX1_levelUnboundedArcs := goodIn_r _ [5, 6, 7, 8, 9, 10, 11, 12, 13, 14, 15, 4, 16, 60, 61, 62, 63, 64, 65, 66, 67, 68, 69, 70, 71, 72, 73] (by decide +kernel) (by decide +kernel)
set_option maxRecDepth 20000 in
theorem gX1_route_X1_levelUnboundedArcs : GoodIn wsX1_route (wsV RX1 52 RX1 yX1_levelUnboundedArcs wsX1_levelUnboundedArcs) := goodIn_app (goodIn_of _ (by decide +kernel)) ggX1_route_X1_levelUnboundedArcs
set_option maxRecDepth 20000 in
theorem ggX1_route_X1_fillLightArcs : GoodIn wsX1_route wsX1_fillLightArcs := goodIn_r _ [20, 7, 8, 9, 21, 13, 14, 15, 4, 16, 6, 11, 12, 10, 60, 61, 62, 63, 64, 65, 66, 67, 68, 69, 70, 71, 72, 73] (by decide +kernel) (by decide +kernel)
set_option maxRecDepth 20000 in
theorem gX1_route_X1_fillLightArcs : GoodIn wsX1_route (wsV RX1 56 RX1 yX1_fillLightArcs wsX1_fillLightArcs) := goodIn_app (goodIn_of _ (by decide +kernel)) ggX1_route_X1_fillLightArcs
set_option maxRecDepth 20000 in
theorem ggX1_route_X1_countExcess : GoodIn wsX1_route wsX1_countExcess := goodIn_r _ [25, 26, 7, 27, 8, 28, 21, 29, 60, 61, 62, 63, 64, 65, 66, 67, 68, 69, 70, 71, 72, 73] (by decide +kernel) (by decide +kernel)
set_option maxRecDepth 20000 in
theorem gX1_route_X1_countExcess : GoodIn wsX1_route (wsV RX1 59 RX1 yX1_countExcess wsX1_countExcess) := goodIn_app (goodIn_of _ (by decide +kernel)) ggX1_route_X1_countExcess
set_option maxRecDepth 20000 in
theorem ggX1_route_X1_sendOnce : GoodIn wsX1_route wsX1_sendOnce := goodIn_r _ [33, 26, 34, 21, 35, 36, 37, 38, 11, 39, 40, 41, 4, 42, 43, 44, 45, 46, 6, 47, 48, 49, 50, 51, 7, 8, 10, 12, 13, 14, 15, 16, 52, 53, 54, 55, 56, 57, 58, 59, 60, 61, 62, 63, 64, 65, 66, 67, 68, 69, 70, 71, 72, 73] (by decide +kernel) (by decide +kernel)
set_option maxRecDepth 20000 in
theorem gX1_route_X1_sendOnce : GoodIn wsX1_route (wsV RX1 62 RX1 yX1_sendOnce wsX1_sendOnce) := goodIn_app (goodIn_of _ (by decide +kernel)) ggX1_route_X1_sendOnce
theorem dX1_route_0 : decode cX1_route 0 = .ok (.aload_n 0, 1) := by decide +kernel
theorem dX1_route_1 : decode cX1_route 1 = .ok (.invokevirtual 52, 3) := by decide +kernel
theorem dX1_route_4 : decode cX1_route 4 = .ok (.ifCond .ne 5, 3) := by decide +kernel
theorem dX1_route_7 : decode cX1_route 7 = .ok (.iconst 0, 1) := by decide +kernel
theorem dX1_route_8 : decode cX1_route 8 = .ok (.ireturn, 1) := by decide +kernel
theorem dX1_route_9 : decode cX1_route 9 = .ok (.aload_n 0, 1) := by decide +kernel
theorem dX1_route_10 : decode cX1_route 10 = .ok (.invokevirtual 56, 3) := by decide +kernel
theorem dX1_route_13 : decode cX1_route 13 = .ok (.aload_n 0, 1) := by decide +kernel
theorem dX1_route_14 : decode cX1_route 14 = .ok (.invokevirtual 59, 3) := by decide +kernel
theorem dX1_route_17 : decode cX1_route 17 = .ok (.iconst 1, 1) := by decide +kernel
theorem dX1_route_18 : decode cX1_route 18 = .ok (.istore_n 1, 1) := by decide +kernel
theorem dX1_route_19 : decode cX1_route 19 = .ok (.iconst 0, 1) := by decide +kernel
theorem dX1_route_20 : decode cX1_route 20 = .ok (.istore_n 2, 1) := by decide +kernel
theorem dX1_route_21 : decode cX1_route 21 = .ok (.iload_n 1, 1) := by decide +kernel
theorem dX1_route_22 : decode cX1_route 22 = .ok (.ifCond .eq 21, 3) := by decide +kernel
theorem dX1_route_25 : decode cX1_route 25 = .ok (.iload_n 2, 1) := by decide +kernel
theorem dX1_route_26 : decode cX1_route 26 = .ok (.sipush 840, 3) := by decide +kernel
theorem dX1_route_29 : decode cX1_route 29 = .ok (.if_icmp .ge 14, 3) := by decide +kernel
theorem dX1_route_32 : decode cX1_route 32 = .ok (.aload_n 0, 1) := by decide +kernel
theorem dX1_route_33 : decode cX1_route 33 = .ok (.invokevirtual 62, 3) := by decide +kernel
theorem dX1_route_36 : decode cX1_route 36 = .ok (.istore_n 1, 1) := by decide +kernel
theorem dX1_route_37 : decode cX1_route 37 = .ok (.iinc 2 1, 3) := by decide +kernel
theorem dX1_route_40 : decode cX1_route 40 = .ok (.goto (-19), 3) := by decide +kernel
theorem dX1_route_43 : decode cX1_route 43 = .ok (.iconst 1, 1) := by decide +kernel
theorem dX1_route_44 : decode cX1_route 44 = .ok (.ireturn, 1) := by decide +kernel
theorem dX1_isBalanced_0 : decode cX1_isBalanced 0 = .ok (.iconst 0, 1) := by decide +kernel
theorem dX1_isBalanced_1 : decode cX1_isBalanced 1 = .ok (.istore_n 1, 1) := by decide +kernel
theorem dX1_isBalanced_2 : decode cX1_isBalanced 2 = .ok (.iload_n 1, 1) := by decide +kernel
theorem dX1_isBalanced_3 : decode cX1_isBalanced 3 = .ok (.bipush 8, 2) := by decide +kernel
theorem dX1_isBalanced_5 : decode cX1_isBalanced 5 = .ok (.if_icmp .ge 20, 3) := by decide +kernel
theorem dX1_isBalanced_8 : decode cX1_isBalanced 8 = .ok (.aload_n 0, 1) := by decide +kernel
theorem dX1_isBalanced_9 : decode cX1_isBalanced 9 = .ok (.getfield 24, 3) := by decide +kernel
theorem dX1_isBalanced_12 : decode cX1_isBalanced 12 = .ok (.iload_n 1, 1) := by decide +kernel
theorem dX1_isBalanced_13 : decode cX1_isBalanced 13 = .ok (.iaload, 1) := by decide +kernel
theorem dX1_isBalanced_14 : decode cX1_isBalanced 14 = .ok (.ifCond .eq 5, 3) := by decide +kernel
theorem dX1_isBalanced_17 : decode cX1_isBalanced 17 = .ok (.iconst 0, 1) := by decide +kernel
theorem dX1_isBalanced_18 : decode cX1_isBalanced 18 = .ok (.ireturn, 1) := by decide +kernel
theorem dX1_isBalanced_19 : decode cX1_isBalanced 19 = .ok (.iinc 1 1, 3) := by decide +kernel
theorem dX1_isBalanced_22 : decode cX1_isBalanced 22 = .ok (.goto (-20), 3) := by decide +kernel
theorem dX1_isBalanced_25 : decode cX1_isBalanced 25 = .ok (.iconst 1, 1) := by decide +kernel
theorem dX1_isBalanced_26 : decode cX1_isBalanced 26 = .ok (.ireturn, 1) := by decide +kernel
set_option maxRecDepth 20000 in
theorem ggX1_totalExcess_X2_sumAboveZero : GoodIn wsX1_totalExcess wsX2_sumAboveZero := goodIn_r _ [4, 5, 6, 7, 8] (by decide +kernel) (by decide +kernel)
set_option maxRecDepth 20000 in
theorem gX1_totalExcess_X2_sumAboveZero_n65 : GoodIn wsX1_totalExcess (wsX2_sumAboveZero) := ggX1_totalExcess_X2_sumAboveZero
theorem dX1_totalExcess_0 : decode cX1_totalExcess 0 = .ok (.aload_n 0, 1) := by decide +kernel
theorem dX1_totalExcess_1 : decode cX1_totalExcess 1 = .ok (.getfield 24, 3) := by decide +kernel
theorem dX1_totalExcess_4 : decode cX1_totalExcess 4 = .ok (.invokestatic 65, 3) := by decide +kernel
theorem dX1_totalExcess_7 : decode cX1_totalExcess 7 = .ok (.ireturn, 1) := by decide +kernel
theorem dX1_costOfFlow_0 : decode cX1_costOfFlow 0 = .ok (.iconst 0, 1) := by decide +kernel
theorem dX1_costOfFlow_1 : decode cX1_costOfFlow 1 = .ok (.istore_n 1, 1) := by decide +kernel
theorem dX1_costOfFlow_2 : decode cX1_costOfFlow 2 = .ok (.iconst 0, 1) := by decide +kernel
theorem dX1_costOfFlow_3 : decode cX1_costOfFlow 3 = .ok (.istore_n 2, 1) := by decide +kernel
theorem dX1_costOfFlow_4 : decode cX1_costOfFlow 4 = .ok (.iload_n 2, 1) := by decide +kernel
theorem dX1_costOfFlow_5 : decode cX1_costOfFlow 5 = .ok (.aload_n 0, 1) := by decide +kernel
theorem dX1_costOfFlow_6 : decode cX1_costOfFlow 6 = .ok (.getfield 33, 3) := by decide +kernel
theorem dX1_costOfFlow_9 : decode cX1_costOfFlow 9 = .ok (.getfield 37, 3) := by decide +kernel
theorem dX1_costOfFlow_12 : decode cX1_costOfFlow 12 = .ok (.if_icmp .ge 32, 3) := by decide +kernel
theorem dX1_costOfFlow_15 : decode cX1_costOfFlow 15 = .ok (.iload_n 1, 1) := by decide +kernel
theorem dX1_costOfFlow_16 : decode cX1_costOfFlow 16 = .ok (.aload_n 0, 1) := by decide +kernel
theorem dX1_costOfFlow_17 : decode cX1_costOfFlow 17 = .ok (.getfield 33, 3) := by decide +kernel
theorem dX1_costOfFlow_20 : decode cX1_costOfFlow 20 = .ok (.getfield 49, 3) := by decide +kernel
theorem dX1_costOfFlow_23 : decode cX1_costOfFlow 23 = .ok (.iload_n 2, 1) := by decide +kernel
theorem dX1_costOfFlow_24 : decode cX1_costOfFlow 24 = .ok (.iaload, 1) := by decide +kernel
theorem dX1_costOfFlow_25 : decode cX1_costOfFlow 25 = .ok (.aload_n 0, 1) := by decide +kernel
theorem dX1_costOfFlow_26 : decode cX1_costOfFlow 26 = .ok (.getfield 21, 3) := by decide +kernel
theorem dX1_costOfFlow_29 : decode cX1_costOfFlow 29 = .ok (.iconst 2, 1) := by decide +kernel
theorem dX1_costOfFlow_30 : decode cX1_costOfFlow 30 = .ok (.iload_n 2, 1) := by decide +kernel
theorem dX1_costOfFlow_31 : decode cX1_costOfFlow 31 = .ok (.imul, 1) := by decide +kernel
theorem dX1_costOfFlow_32 : decode cX1_costOfFlow 32 = .ok (.iconst 1, 1) := by decide +kernel
theorem dX1_costOfFlow_33 : decode cX1_costOfFlow 33 = .ok (.iadd, 1) := by decide +kernel
theorem dX1_costOfFlow_34 : decode cX1_costOfFlow 34 = .ok (.iaload, 1) := by decide +kernel
theorem dX1_costOfFlow_35 : decode cX1_costOfFlow 35 = .ok (.imul, 1) := by decide +kernel
theorem dX1_costOfFlow_36 : decode cX1_costOfFlow 36 = .ok (.iadd, 1) := by decide +kernel
theorem dX1_costOfFlow_37 : decode cX1_costOfFlow 37 = .ok (.istore_n 1, 1) := by decide +kernel
theorem dX1_costOfFlow_38 : decode cX1_costOfFlow 38 = .ok (.iinc 2 1, 3) := by decide +kernel
theorem dX1_costOfFlow_41 : decode cX1_costOfFlow 41 = .ok (.goto (-37), 3) := by decide +kernel
theorem dX1_costOfFlow_44 : decode cX1_costOfFlow 44 = .ok (.iload_n 1, 1) := by decide +kernel
theorem dX1_costOfFlow_45 : decode cX1_costOfFlow 45 = .ok (.ireturn, 1) := by decide +kernel
set_option maxRecDepth 20000 in
theorem ggX1_nodesBehindExcess_X1_startAtExcess : GoodIn wsX1_nodesBehindExcess wsX1_startAtExcess := goodIn_r _ [7, 8, 9, 10, 11, 6, 12, 1, 2, 13, 28, 29, 30, 31, 32, 33, 34, 35] (by decide +kernel) (by decide +kernel)
set_option maxRecDepth 20000 in
theorem gX1_nodesBehindExcess_X1_startAtExcess : GoodIn wsX1_nodesBehindExcess (wsV RX1 69 RX1 yX1_startAtExcess wsX1_startAtExcess) := goodIn_app (goodIn_of _ (by decide +kernel)) ggX1_nodesBehindExcess_X1_startAtExcess
set_option maxRecDepth 20000 in
theorem ggX1_nodesBehindExcess_X1_measure : GoodIn wsX1_nodesBehindExcess wsX1_measure := goodIn_r _ [17, 18, 19, 20, 1, 21, 2, 22, 23, 13, 24, 25, 26, 6, 27, 28, 29, 30, 31, 32, 33, 34, 35, 36, 37, 38, 39, 40, 41] (by decide +kernel) (by decide +kernel)
set_option maxRecDepth 20000 in
theorem gX1_nodesBehindExcess_X1_measure : GoodIn wsX1_nodesBehindExcess (wsV RX1 72 RX1 yX1_measure wsX1_measure) := goodIn_app (goodIn_of _ (by decide +kernel)) ggX1_nodesBehindExcess_X1_measure
theorem dX1_nodesBehindExcess_0 : decode cX1_nodesBehindExcess 0 = .ok (.aload_n 0, 1) := by decide +kernel
theorem dX1_nodesBehindExcess_1 : decode cX1_nodesBehindExcess 1 = .ok (.invokevirtual 69, 3) := by decide +kernel
theorem dX1_nodesBehindExcess_4 : decode cX1_nodesBehindExcess 4 = .ok (.aload_n 0, 1) := by decide +kernel
theorem dX1_nodesBehindExcess_5 : decode cX1_nodesBehindExcess 5 = .ok (.iconst (-1), 1) := by decide +kernel
theorem dX1_nodesBehindExcess_6 : decode cX1_nodesBehindExcess 6 = .ok (.invokevirtual 72, 3) := by decide +kernel
theorem dX1_nodesBehindExcess_9 : decode cX1_nodesBehindExcess 9 = .ok (.iconst 0, 1) := by decide +kernel
theorem dX1_nodesBehindExcess_10 : decode cX1_nodesBehindExcess 10 = .ok (.istore_n 1, 1) := by decide +kernel
theorem dX1_nodesBehindExcess_11 : decode cX1_nodesBehindExcess 11 = .ok (.iconst 0, 1) := by decide +kernel
theorem dX1_nodesBehindExcess_12 : decode cX1_nodesBehindExcess 12 = .ok (.istore_n 2, 1) := by decide +kernel
theorem dX1_nodesBehindExcess_13 : decode cX1_nodesBehindExcess 13 = .ok (.iload_n 2, 1) := by decide +kernel
theorem dX1_nodesBehindExcess_14 : decode cX1_nodesBehindExcess 14 = .ok (.bipush 8, 2) := by decide +kernel
theorem dX1_nodesBehindExcess_16 : decode cX1_nodesBehindExcess 16 = .ok (.if_icmp .ge 26, 3) := by decide +kernel
theorem dX1_nodesBehindExcess_19 : decode cX1_nodesBehindExcess 19 = .ok (.aload_n 0, 1) := by decide +kernel
theorem dX1_nodesBehindExcess_20 : decode cX1_nodesBehindExcess 20 = .ok (.getfield 27, 3) := by decide +kernel
theorem dX1_nodesBehindExcess_23 : decode cX1_nodesBehindExcess 23 = .ok (.iload_n 2, 1) := by decide +kernel
theorem dX1_nodesBehindExcess_24 : decode cX1_nodesBehindExcess 24 = .ok (.iaload, 1) := by decide +kernel
theorem dX1_nodesBehindExcess_25 : decode cX1_nodesBehindExcess 25 = .ok (.ldc 76, 2) := by decide +kernel
theorem dX1_nodesBehindExcess_27 : decode cX1_nodesBehindExcess 27 = .ok (.if_icmp .ge 9, 3) := by decide +kernel
theorem dX1_nodesBehindExcess_30 : decode cX1_nodesBehindExcess 30 = .ok (.iload_n 1, 1) := by decide +kernel
theorem dX1_nodesBehindExcess_31 : decode cX1_nodesBehindExcess 31 = .ok (.iconst 1, 1) := by decide +kernel
theorem dX1_nodesBehindExcess_32 : decode cX1_nodesBehindExcess 32 = .ok (.iload_n 2, 1) := by decide +kernel
theorem dX1_nodesBehindExcess_33 : decode cX1_nodesBehindExcess 33 = .ok (.ishl, 1) := by decide +kernel
theorem dX1_nodesBehindExcess_34 : decode cX1_nodesBehindExcess 34 = .ok (.ior, 1) := by decide +kernel
theorem dX1_nodesBehindExcess_35 : decode cX1_nodesBehindExcess 35 = .ok (.istore_n 1, 1) := by decide +kernel
theorem dX1_nodesBehindExcess_36 : decode cX1_nodesBehindExcess 36 = .ok (.iinc 2 1, 3) := by decide +kernel
theorem dX1_nodesBehindExcess_39 : decode cX1_nodesBehindExcess 39 = .ok (.goto (-26), 3) := by decide +kernel
theorem dX1_nodesBehindExcess_42 : decode cX1_nodesBehindExcess 42 = .ok (.iload_n 1, 1) := by decide +kernel
theorem dX1_nodesBehindExcess_43 : decode cX1_nodesBehindExcess 43 = .ok (.ireturn, 1) := by decide +kernel
set_option maxRecDepth 20000 in
theorem ggX1_canReach_X1_setStart : GoodIn wsX1_canReach wsX1_setStart := goodIn_r _ [7, 1, 2, 8, 23, 24, 25, 26, 27, 28, 29, 30] (by decide +kernel) (by decide +kernel)
set_option maxRecDepth 20000 in
theorem gX1_canReach_X1_setStart : GoodIn wsX1_canReach (wsV RX1 77 RX1 yX1_setStart wsX1_setStart) := goodIn_app (goodIn_of _ (by decide +kernel)) ggX1_canReach_X1_setStart
set_option maxRecDepth 20000 in
theorem ggX1_canReach_X1_measure : GoodIn wsX1_canReach wsX1_measure := goodIn_r _ [12, 13, 14, 15, 1, 16, 2, 17, 18, 8, 19, 20, 21, 6, 22, 23, 24, 25, 26, 27, 28, 29, 30, 31, 32, 33, 34, 35, 36] (by decide +kernel) (by decide +kernel)
set_option maxRecDepth 20000 in
theorem gX1_canReach_X1_measure : GoodIn wsX1_canReach (wsV RX1 72 RX1 yX1_measure wsX1_measure) := goodIn_app (goodIn_of _ (by decide +kernel)) ggX1_canReach_X1_measure
theorem dX1_canReach_0 : decode cX1_canReach 0 = .ok (.iconst 0, 1) := by decide +kernel
theorem dX1_canReach_1 : decode cX1_canReach 1 = .ok (.istore 4, 2) := by decide +kernel
theorem dX1_canReach_3 : decode cX1_canReach 3 = .ok (.iload 4, 2) := by decide +kernel
theorem dX1_canReach_5 : decode cX1_canReach 5 = .ok (.bipush 8, 2) := by decide +kernel
theorem dX1_canReach_7 : decode cX1_canReach 7 = .ok (.if_icmp .ge 26, 3) := by decide +kernel
theorem dX1_canReach_10 : decode cX1_canReach 10 = .ok (.aload_n 0, 1) := by decide +kernel
theorem dX1_canReach_11 : decode cX1_canReach 11 = .ok (.iload 4, 2) := by decide +kernel
theorem dX1_canReach_13 : decode cX1_canReach 13 = .ok (.iload 4, 2) := by decide +kernel
theorem dX1_canReach_15 : decode cX1_canReach 15 = .ok (.iload_n 1, 1) := by decide +kernel
theorem dX1_canReach_16 : decode cX1_canReach 16 = .ok (.if_icmp .ne 7, 3) := by decide +kernel
theorem dX1_canReach_19 : decode cX1_canReach 19 = .ok (.iconst 1, 1) := by decide +kernel
theorem dX1_canReach_20 : decode cX1_canReach 20 = .ok (.goto 4, 3) := by decide +kernel
theorem dX1_canReach_23 : decode cX1_canReach 23 = .ok (.iconst 0, 1) := by decide +kernel
theorem dX1_canReach_24 : decode cX1_canReach 24 = .ok (.invokevirtual 77, 3) := by decide +kernel
theorem dX1_canReach_27 : decode cX1_canReach 27 = .ok (.iinc 4 1, 3) := by decide +kernel
theorem dX1_canReach_30 : decode cX1_canReach 30 = .ok (.goto (-27), 3) := by decide +kernel
theorem dX1_canReach_33 : decode cX1_canReach 33 = .ok (.aload_n 0, 1) := by decide +kernel
theorem dX1_canReach_34 : decode cX1_canReach 34 = .ok (.iload_n 3, 1) := by decide +kernel
theorem dX1_canReach_35 : decode cX1_canReach 35 = .ok (.invokevirtual 72, 3) := by decide +kernel
theorem dX1_canReach_38 : decode cX1_canReach 38 = .ok (.aload_n 0, 1) := by decide +kernel
theorem dX1_canReach_39 : decode cX1_canReach 39 = .ok (.getfield 27, 3) := by decide +kernel
theorem dX1_canReach_42 : decode cX1_canReach 42 = .ok (.iload_n 2, 1) := by decide +kernel
theorem dX1_canReach_43 : decode cX1_canReach 43 = .ok (.iaload, 1) := by decide +kernel
theorem dX1_canReach_44 : decode cX1_canReach 44 = .ok (.ldc 76, 2) := by decide +kernel
theorem dX1_canReach_46 : decode cX1_canReach 46 = .ok (.if_icmp .ge 7, 3) := by decide +kernel
theorem dX1_canReach_49 : decode cX1_canReach 49 = .ok (.iconst 1, 1) := by decide +kernel
theorem dX1_canReach_50 : decode cX1_canReach 50 = .ok (.goto 4, 3) := by decide +kernel
theorem dX1_canReach_53 : decode cX1_canReach 53 = .ok (.iconst 0, 1) := by decide +kernel
theorem dX1_canReach_54 : decode cX1_canReach 54 = .ok (.ireturn, 1) := by decide +kernel
set_option maxRecDepth 20000 in
theorem ggX1_levelUnboundedArcs_X1_isShortcut : GoodIn wsX1_levelUnboundedArcs wsX1_isShortcut := goodIn_r _ [12, 1, 6, 7, 5, 13, 14, 15, 16, 17, 18, 19, 20] (by decide +kernel) (by decide +kernel)
set_option maxRecDepth 20000 in
theorem gX1_levelUnboundedArcs_X1_isShortcut : GoodIn wsX1_levelUnboundedArcs (wsV RX1 84 RX1 yX1_isShortcut wsX1_isShortcut) := goodIn_app (goodIn_of _ (by decide +kernel)) ggX1_levelUnboundedArcs_X1_isShortcut
theorem dX1_levelUnboundedArcs_0 : decode cX1_levelUnboundedArcs 0 = .ok (.iconst 0, 1) := by decide +kernel
theorem dX1_levelUnboundedArcs_1 : decode cX1_levelUnboundedArcs 1 = .ok (.istore_n 1, 1) := by decide +kernel
theorem dX1_levelUnboundedArcs_2 : decode cX1_levelUnboundedArcs 2 = .ok (.iload_n 1, 1) := by decide +kernel
theorem dX1_levelUnboundedArcs_3 : decode cX1_levelUnboundedArcs 3 = .ok (.bipush 8, 2) := by decide +kernel
theorem dX1_levelUnboundedArcs_5 : decode cX1_levelUnboundedArcs 5 = .ok (.if_icmp .ge 16, 3) := by decide +kernel
theorem dX1_levelUnboundedArcs_8 : decode cX1_levelUnboundedArcs 8 = .ok (.aload_n 0, 1) := by decide +kernel
theorem dX1_levelUnboundedArcs_9 : decode cX1_levelUnboundedArcs 9 = .ok (.getfield 27, 3) := by decide +kernel
theorem dX1_levelUnboundedArcs_12 : decode cX1_levelUnboundedArcs 12 = .ok (.iload_n 1, 1) := by decide +kernel
theorem dX1_levelUnboundedArcs_13 : decode cX1_levelUnboundedArcs 13 = .ok (.iconst 0, 1) := by decide +kernel
theorem dX1_levelUnboundedArcs_14 : decode cX1_levelUnboundedArcs 14 = .ok (.iastore, 1) := by decide +kernel
theorem dX1_levelUnboundedArcs_15 : decode cX1_levelUnboundedArcs 15 = .ok (.iinc 1 1, 3) := by decide +kernel
theorem dX1_levelUnboundedArcs_18 : decode cX1_levelUnboundedArcs 18 = .ok (.goto (-16), 3) := by decide +kernel
theorem dX1_levelUnboundedArcs_21 : decode cX1_levelUnboundedArcs 21 = .ok (.iconst 1, 1) := by decide +kernel
theorem dX1_levelUnboundedArcs_22 : decode cX1_levelUnboundedArcs 22 = .ok (.istore_n 1, 1) := by decide +kernel
theorem dX1_levelUnboundedArcs_23 : decode cX1_levelUnboundedArcs 23 = .ok (.iconst 0, 1) := by decide +kernel
theorem dX1_levelUnboundedArcs_24 : decode cX1_levelUnboundedArcs 24 = .ok (.istore_n 2, 1) := by decide +kernel
theorem dX1_levelUnboundedArcs_25 : decode cX1_levelUnboundedArcs 25 = .ok (.iload_n 1, 1) := by decide +kernel
theorem dX1_levelUnboundedArcs_26 : decode cX1_levelUnboundedArcs 26 = .ok (.ifCond .eq 96, 3) := by decide +kernel
theorem dX1_levelUnboundedArcs_29 : decode cX1_levelUnboundedArcs 29 = .ok (.iload_n 2, 1) := by decide +kernel
theorem dX1_levelUnboundedArcs_30 : decode cX1_levelUnboundedArcs 30 = .ok (.bipush 8, 2) := by decide +kernel
theorem dX1_levelUnboundedArcs_32 : decode cX1_levelUnboundedArcs 32 = .ok (.if_icmp .ge 90, 3) := by decide +kernel
theorem dX1_levelUnboundedArcs_35 : decode cX1_levelUnboundedArcs 35 = .ok (.iconst 0, 1) := by decide +kernel
theorem dX1_levelUnboundedArcs_36 : decode cX1_levelUnboundedArcs 36 = .ok (.istore_n 1, 1) := by decide +kernel
theorem dX1_levelUnboundedArcs_37 : decode cX1_levelUnboundedArcs 37 = .ok (.iconst 0, 1) := by decide +kernel
theorem dX1_levelUnboundedArcs_38 : decode cX1_levelUnboundedArcs 38 = .ok (.istore_n 3, 1) := by decide +kernel
theorem dX1_levelUnboundedArcs_39 : decode cX1_levelUnboundedArcs 39 = .ok (.iload_n 3, 1) := by decide +kernel
theorem dX1_levelUnboundedArcs_40 : decode cX1_levelUnboundedArcs 40 = .ok (.aload_n 0, 1) := by decide +kernel
theorem dX1_levelUnboundedArcs_41 : decode cX1_levelUnboundedArcs 41 = .ok (.getfield 33, 3) := by decide +kernel
theorem dX1_levelUnboundedArcs_44 : decode cX1_levelUnboundedArcs 44 = .ok (.getfield 37, 3) := by decide +kernel
theorem dX1_levelUnboundedArcs_47 : decode cX1_levelUnboundedArcs 47 = .ok (.if_icmp .ge 69, 3) := by decide +kernel
theorem dX1_levelUnboundedArcs_50 : decode cX1_levelUnboundedArcs 50 = .ok (.aload_n 0, 1) := by decide +kernel
theorem dX1_levelUnboundedArcs_51 : decode cX1_levelUnboundedArcs 51 = .ok (.getfield 33, 3) := by decide +kernel
theorem dX1_levelUnboundedArcs_54 : decode cX1_levelUnboundedArcs 54 = .ok (.getfield 81, 3) := by decide +kernel
theorem dX1_levelUnboundedArcs_57 : decode cX1_levelUnboundedArcs 57 = .ok (.iload_n 3, 1) := by decide +kernel
theorem dX1_levelUnboundedArcs_58 : decode cX1_levelUnboundedArcs 58 = .ok (.iaload, 1) := by decide +kernel
theorem dX1_levelUnboundedArcs_59 : decode cX1_levelUnboundedArcs 59 = .ok (.iconst (-1), 1) := by decide +kernel
theorem dX1_levelUnboundedArcs_60 : decode cX1_levelUnboundedArcs 60 = .ok (.if_icmp .ne 50, 3) := by decide +kernel
theorem dX1_levelUnboundedArcs_63 : decode cX1_levelUnboundedArcs 63 = .ok (.aload_n 0, 1) := by decide +kernel
theorem dX1_levelUnboundedArcs_64 : decode cX1_levelUnboundedArcs 64 = .ok (.iconst 2, 1) := by decide +kernel
theorem dX1_levelUnboundedArcs_65 : decode cX1_levelUnboundedArcs 65 = .ok (.iload_n 3, 1) := by decide +kernel
theorem dX1_levelUnboundedArcs_66 : decode cX1_levelUnboundedArcs 66 = .ok (.imul, 1) := by decide +kernel
theorem dX1_levelUnboundedArcs_67 : decode cX1_levelUnboundedArcs 67 = .ok (.invokevirtual 84, 3) := by decide +kernel
theorem dX1_levelUnboundedArcs_70 : decode cX1_levelUnboundedArcs 70 = .ok (.ifCond .eq 40, 3) := by decide +kernel
theorem dX1_levelUnboundedArcs_73 : decode cX1_levelUnboundedArcs 73 = .ok (.aload_n 0, 1) := by decide +kernel
theorem dX1_levelUnboundedArcs_74 : decode cX1_levelUnboundedArcs 74 = .ok (.getfield 27, 3) := by decide +kernel
theorem dX1_levelUnboundedArcs_77 : decode cX1_levelUnboundedArcs 77 = .ok (.aload_n 0, 1) := by decide +kernel
theorem dX1_levelUnboundedArcs_78 : decode cX1_levelUnboundedArcs 78 = .ok (.getfield 15, 3) := by decide +kernel
theorem dX1_levelUnboundedArcs_81 : decode cX1_levelUnboundedArcs 81 = .ok (.iconst 2, 1) := by decide +kernel
theorem dX1_levelUnboundedArcs_82 : decode cX1_levelUnboundedArcs 82 = .ok (.iload_n 3, 1) := by decide +kernel
theorem dX1_levelUnboundedArcs_83 : decode cX1_levelUnboundedArcs 83 = .ok (.imul, 1) := by decide +kernel
theorem dX1_levelUnboundedArcs_84 : decode cX1_levelUnboundedArcs 84 = .ok (.iaload, 1) := by decide +kernel
theorem dX1_levelUnboundedArcs_85 : decode cX1_levelUnboundedArcs 85 = .ok (.aload_n 0, 1) := by decide +kernel
theorem dX1_levelUnboundedArcs_86 : decode cX1_levelUnboundedArcs 86 = .ok (.getfield 27, 3) := by decide +kernel
theorem dX1_levelUnboundedArcs_89 : decode cX1_levelUnboundedArcs 89 = .ok (.aload_n 0, 1) := by decide +kernel
theorem dX1_levelUnboundedArcs_90 : decode cX1_levelUnboundedArcs 90 = .ok (.getfield 9, 3) := by decide +kernel
theorem dX1_levelUnboundedArcs_93 : decode cX1_levelUnboundedArcs 93 = .ok (.iconst 2, 1) := by decide +kernel
theorem dX1_levelUnboundedArcs_94 : decode cX1_levelUnboundedArcs 94 = .ok (.iload_n 3, 1) := by decide +kernel
theorem dX1_levelUnboundedArcs_95 : decode cX1_levelUnboundedArcs 95 = .ok (.imul, 1) := by decide +kernel
theorem dX1_levelUnboundedArcs_96 : decode cX1_levelUnboundedArcs 96 = .ok (.iaload, 1) := by decide +kernel
theorem dX1_levelUnboundedArcs_97 : decode cX1_levelUnboundedArcs 97 = .ok (.iaload, 1) := by decide +kernel
theorem dX1_levelUnboundedArcs_98 : decode cX1_levelUnboundedArcs 98 = .ok (.aload_n 0, 1) := by decide +kernel
theorem dX1_levelUnboundedArcs_99 : decode cX1_levelUnboundedArcs 99 = .ok (.getfield 18, 3) := by decide +kernel
theorem dX1_levelUnboundedArcs_102 : decode cX1_levelUnboundedArcs 102 = .ok (.iconst 2, 1) := by decide +kernel
theorem dX1_levelUnboundedArcs_103 : decode cX1_levelUnboundedArcs 103 = .ok (.iload_n 3, 1) := by decide +kernel
theorem dX1_levelUnboundedArcs_104 : decode cX1_levelUnboundedArcs 104 = .ok (.imul, 1) := by decide +kernel
theorem dX1_levelUnboundedArcs_105 : decode cX1_levelUnboundedArcs 105 = .ok (.iaload, 1) := by decide +kernel
theorem dX1_levelUnboundedArcs_106 : decode cX1_levelUnboundedArcs 106 = .ok (.iadd, 1) := by decide +kernel
theorem dX1_levelUnboundedArcs_107 : decode cX1_levelUnboundedArcs 107 = .ok (.iastore, 1) := by decide +kernel
theorem dX1_levelUnboundedArcs_108 : decode cX1_levelUnboundedArcs 108 = .ok (.iconst 1, 1) := by decide +kernel
theorem dX1_levelUnboundedArcs_109 : decode cX1_levelUnboundedArcs 109 = .ok (.istore_n 1, 1) := by decide +kernel
theorem dX1_levelUnboundedArcs_110 : decode cX1_levelUnboundedArcs 110 = .ok (.iinc 3 1, 3) := by decide +kernel
theorem dX1_levelUnboundedArcs_113 : decode cX1_levelUnboundedArcs 113 = .ok (.goto (-74), 3) := by decide +kernel
theorem dX1_levelUnboundedArcs_116 : decode cX1_levelUnboundedArcs 116 = .ok (.iinc 2 1, 3) := by decide +kernel
theorem dX1_levelUnboundedArcs_119 : decode cX1_levelUnboundedArcs 119 = .ok (.goto (-94), 3) := by decide +kernel
theorem dX1_levelUnboundedArcs_122 : decode cX1_levelUnboundedArcs 122 = .ok (.iload_n 1, 1) := by decide +kernel
theorem dX1_levelUnboundedArcs_123 : decode cX1_levelUnboundedArcs 123 = .ok (.ifCond .ne 7, 3) := by decide +kernel
theorem dX1_levelUnboundedArcs_126 : decode cX1_levelUnboundedArcs 126 = .ok (.iconst 1, 1) := by decide +kernel
theorem dX1_levelUnboundedArcs_127 : decode cX1_levelUnboundedArcs 127 = .ok (.goto 4, 3) := by decide +kernel
theorem dX1_levelUnboundedArcs_130 : decode cX1_levelUnboundedArcs 130 = .ok (.iconst 0, 1) := by decide +kernel
theorem dX1_levelUnboundedArcs_131 : decode cX1_levelUnboundedArcs 131 = .ok (.ireturn, 1) := by decide +kernel
theorem dX1_isShortcut_0 : decode cX1_isShortcut 0 = .ok (.aload_n 0, 1) := by decide +kernel
theorem dX1_isShortcut_1 : decode cX1_isShortcut 1 = .ok (.getfield 27, 3) := by decide +kernel
theorem dX1_isShortcut_4 : decode cX1_isShortcut 4 = .ok (.aload_n 0, 1) := by decide +kernel
theorem dX1_isShortcut_5 : decode cX1_isShortcut 5 = .ok (.getfield 9, 3) := by decide +kernel
theorem dX1_isShortcut_8 : decode cX1_isShortcut 8 = .ok (.iload_n 1, 1) := by decide +kernel
theorem dX1_isShortcut_9 : decode cX1_isShortcut 9 = .ok (.iaload, 1) := by decide +kernel
theorem dX1_isShortcut_10 : decode cX1_isShortcut 10 = .ok (.iaload, 1) := by decide +kernel
theorem dX1_isShortcut_11 : decode cX1_isShortcut 11 = .ok (.aload_n 0, 1) := by decide +kernel
theorem dX1_isShortcut_12 : decode cX1_isShortcut 12 = .ok (.getfield 18, 3) := by decide +kernel
theorem dX1_isShortcut_15 : decode cX1_isShortcut 15 = .ok (.iload_n 1, 1) := by decide +kernel
theorem dX1_isShortcut_16 : decode cX1_isShortcut 16 = .ok (.iaload, 1) := by decide +kernel
theorem dX1_isShortcut_17 : decode cX1_isShortcut 17 = .ok (.iadd, 1) := by decide +kernel
theorem dX1_isShortcut_18 : decode cX1_isShortcut 18 = .ok (.aload_n 0, 1) := by decide +kernel
theorem dX1_isShortcut_19 : decode cX1_isShortcut 19 = .ok (.getfield 27, 3) := by decide +kernel
theorem dX1_isShortcut_22 : decode cX1_isShortcut 22 = .ok (.aload_n 0, 1) := by decide +kernel
theorem dX1_isShortcut_23 : decode cX1_isShortcut 23 = .ok (.getfield 15, 3) := by decide +kernel
theorem dX1_isShortcut_26 : decode cX1_isShortcut 26 = .ok (.iload_n 1, 1) := by decide +kernel
theorem dX1_isShortcut_27 : decode cX1_isShortcut 27 = .ok (.iaload, 1) := by decide +kernel
theorem dX1_isShortcut_28 : decode cX1_isShortcut 28 = .ok (.iaload, 1) := by decide +kernel
theorem dX1_isShortcut_29 : decode cX1_isShortcut 29 = .ok (.if_icmp .ge 7, 3) := by decide +kernel
theorem dX1_isShortcut_32 : decode cX1_isShortcut 32 = .ok (.iconst 1, 1) := by decide +kernel
theorem dX1_isShortcut_33 : decode cX1_isShortcut 33 = .ok (.goto 4, 3) := by decide +kernel
theorem dX1_isShortcut_36 : decode cX1_isShortcut 36 = .ok (.iconst 0, 1) := by decide +kernel
theorem dX1_isShortcut_37 : decode cX1_isShortcut 37 = .ok (.ireturn, 1) := by decide +kernel
set_option maxRecDepth 20000 in
theorem ggX1_fillLightArcs_X1_isShortcut : GoodIn wsX1_fillLightArcs wsX1_isShortcut := goodIn_r _ [9, 10, 11, 12, 13, 14, 15, 16, 17, 18, 19, 20, 21] (by decide +kernel) (by decide +kernel)
set_option maxRecDepth 20000 in
theorem gX1_fillLightArcs_X1_isShortcut : GoodIn wsX1_fillLightArcs (wsV RX1 84 RX1 yX1_isShortcut wsX1_isShortcut) := goodIn_app (goodIn_of _ (by decide +kernel)) ggX1_fillLightArcs_X1_isShortcut
theorem dX1_fillLightArcs_0 : decode cX1_fillLightArcs 0 = .ok (.iconst 0, 1) := by decide +kernel
theorem dX1_fillLightArcs_1 : decode cX1_fillLightArcs 1 = .ok (.istore_n 1, 1) := by decide +kernel
theorem dX1_fillLightArcs_2 : decode cX1_fillLightArcs 2 = .ok (.iload_n 1, 1) := by decide +kernel
theorem dX1_fillLightArcs_3 : decode cX1_fillLightArcs 3 = .ok (.aload_n 0, 1) := by decide +kernel
theorem dX1_fillLightArcs_4 : decode cX1_fillLightArcs 4 = .ok (.getfield 33, 3) := by decide +kernel
theorem dX1_fillLightArcs_7 : decode cX1_fillLightArcs 7 = .ok (.getfield 37, 3) := by decide +kernel
theorem dX1_fillLightArcs_10 : decode cX1_fillLightArcs 10 = .ok (.if_icmp .ge 93, 3) := by decide +kernel
theorem dX1_fillLightArcs_13 : decode cX1_fillLightArcs 13 = .ok (.aload_n 0, 1) := by decide +kernel
theorem dX1_fillLightArcs_14 : decode cX1_fillLightArcs 14 = .ok (.getfield 33, 3) := by decide +kernel
theorem dX1_fillLightArcs_17 : decode cX1_fillLightArcs 17 = .ok (.getfield 81, 3) := by decide +kernel
theorem dX1_fillLightArcs_20 : decode cX1_fillLightArcs 20 = .ok (.iload_n 1, 1) := by decide +kernel
theorem dX1_fillLightArcs_21 : decode cX1_fillLightArcs 21 = .ok (.iaload, 1) := by decide +kernel
theorem dX1_fillLightArcs_22 : decode cX1_fillLightArcs 22 = .ok (.iconst (-1), 1) := by decide +kernel
theorem dX1_fillLightArcs_23 : decode cX1_fillLightArcs 23 = .ok (.if_icmp .eq 7, 3) := by decide +kernel
theorem dX1_fillLightArcs_26 : decode cX1_fillLightArcs 26 = .ok (.iconst 1, 1) := by decide +kernel
theorem dX1_fillLightArcs_27 : decode cX1_fillLightArcs 27 = .ok (.goto 4, 3) := by decide +kernel
theorem dX1_fillLightArcs_30 : decode cX1_fillLightArcs 30 = .ok (.iconst 0, 1) := by decide +kernel
theorem dX1_fillLightArcs_31 : decode cX1_fillLightArcs 31 = .ok (.istore_n 2, 1) := by decide +kernel
theorem dX1_fillLightArcs_32 : decode cX1_fillLightArcs 32 = .ok (.iload_n 2, 1) := by decide +kernel
theorem dX1_fillLightArcs_33 : decode cX1_fillLightArcs 33 = .ok (.ifCond .eq 15, 3) := by decide +kernel
theorem dX1_fillLightArcs_36 : decode cX1_fillLightArcs 36 = .ok (.aload_n 0, 1) := by decide +kernel
theorem dX1_fillLightArcs_37 : decode cX1_fillLightArcs 37 = .ok (.getfield 33, 3) := by decide +kernel
theorem dX1_fillLightArcs_40 : decode cX1_fillLightArcs 40 = .ok (.getfield 81, 3) := by decide +kernel
theorem dX1_fillLightArcs_43 : decode cX1_fillLightArcs 43 = .ok (.iload_n 1, 1) := by decide +kernel
theorem dX1_fillLightArcs_44 : decode cX1_fillLightArcs 44 = .ok (.iaload, 1) := by decide +kernel
theorem dX1_fillLightArcs_45 : decode cX1_fillLightArcs 45 = .ok (.goto 6, 3) := by decide +kernel
theorem dX1_fillLightArcs_48 : decode cX1_fillLightArcs 48 = .ok (.sipush 1680, 3) := by decide +kernel
theorem dX1_fillLightArcs_51 : decode cX1_fillLightArcs 51 = .ok (.istore_n 3, 1) := by decide +kernel
theorem dX1_fillLightArcs_52 : decode cX1_fillLightArcs 52 = .ok (.iload_n 2, 1) := by decide +kernel
theorem dX1_fillLightArcs_53 : decode cX1_fillLightArcs 53 = .ok (.ifCond .eq 17, 3) := by decide +kernel
theorem dX1_fillLightArcs_56 : decode cX1_fillLightArcs 56 = .ok (.aload_n 0, 1) := by decide +kernel
theorem dX1_fillLightArcs_57 : decode cX1_fillLightArcs 57 = .ok (.iconst 2, 1) := by decide +kernel
theorem dX1_fillLightArcs_58 : decode cX1_fillLightArcs 58 = .ok (.iload_n 1, 1) := by decide +kernel
theorem dX1_fillLightArcs_59 : decode cX1_fillLightArcs 59 = .ok (.imul, 1) := by decide +kernel
theorem dX1_fillLightArcs_60 : decode cX1_fillLightArcs 60 = .ok (.invokevirtual 84, 3) := by decide +kernel
theorem dX1_fillLightArcs_63 : decode cX1_fillLightArcs 63 = .ok (.ifCond .eq 7, 3) := by decide +kernel
theorem dX1_fillLightArcs_66 : decode cX1_fillLightArcs 66 = .ok (.iload_n 3, 1) := by decide +kernel
theorem dX1_fillLightArcs_67 : decode cX1_fillLightArcs 67 = .ok (.goto 4, 3) := by decide +kernel
theorem dX1_fillLightArcs_70 : decode cX1_fillLightArcs 70 = .ok (.iconst 0, 1) := by decide +kernel
theorem dX1_fillLightArcs_71 : decode cX1_fillLightArcs 71 = .ok (.istore 4, 2) := by decide +kernel
theorem dX1_fillLightArcs_73 : decode cX1_fillLightArcs 73 = .ok (.aload_n 0, 1) := by decide +kernel
theorem dX1_fillLightArcs_74 : decode cX1_fillLightArcs 74 = .ok (.getfield 21, 3) := by decide +kernel
theorem dX1_fillLightArcs_77 : decode cX1_fillLightArcs 77 = .ok (.iconst 2, 1) := by decide +kernel
theorem dX1_fillLightArcs_78 : decode cX1_fillLightArcs 78 = .ok (.iload_n 1, 1) := by decide +kernel
theorem dX1_fillLightArcs_79 : decode cX1_fillLightArcs 79 = .ok (.imul, 1) := by decide +kernel
theorem dX1_fillLightArcs_80 : decode cX1_fillLightArcs 80 = .ok (.iload_n 3, 1) := by decide +kernel
theorem dX1_fillLightArcs_81 : decode cX1_fillLightArcs 81 = .ok (.iload 4, 2) := by decide +kernel
theorem dX1_fillLightArcs_83 : decode cX1_fillLightArcs 83 = .ok (.isub, 1) := by decide +kernel
theorem dX1_fillLightArcs_84 : decode cX1_fillLightArcs 84 = .ok (.iastore, 1) := by decide +kernel
theorem dX1_fillLightArcs_85 : decode cX1_fillLightArcs 85 = .ok (.aload_n 0, 1) := by decide +kernel
theorem dX1_fillLightArcs_86 : decode cX1_fillLightArcs 86 = .ok (.getfield 21, 3) := by decide +kernel
theorem dX1_fillLightArcs_89 : decode cX1_fillLightArcs 89 = .ok (.iconst 2, 1) := by decide +kernel
theorem dX1_fillLightArcs_90 : decode cX1_fillLightArcs 90 = .ok (.iload_n 1, 1) := by decide +kernel
theorem dX1_fillLightArcs_91 : decode cX1_fillLightArcs 91 = .ok (.imul, 1) := by decide +kernel
theorem dX1_fillLightArcs_92 : decode cX1_fillLightArcs 92 = .ok (.iconst 1, 1) := by decide +kernel
theorem dX1_fillLightArcs_93 : decode cX1_fillLightArcs 93 = .ok (.iadd, 1) := by decide +kernel
theorem dX1_fillLightArcs_94 : decode cX1_fillLightArcs 94 = .ok (.iload 4, 2) := by decide +kernel
theorem dX1_fillLightArcs_96 : decode cX1_fillLightArcs 96 = .ok (.iastore, 1) := by decide +kernel
theorem dX1_fillLightArcs_97 : decode cX1_fillLightArcs 97 = .ok (.iinc 1 1, 3) := by decide +kernel
theorem dX1_fillLightArcs_100 : decode cX1_fillLightArcs 100 = .ok (.goto (-98), 3) := by decide +kernel
theorem dX1_fillLightArcs_103 : decode cX1_fillLightArcs 103 = .ok (.return_, 1) := by decide +kernel
theorem dX1_countExcess_0 : decode cX1_countExcess 0 = .ok (.iconst 0, 1) := by decide +kernel
theorem dX1_countExcess_1 : decode cX1_countExcess 1 = .ok (.istore_n 1, 1) := by decide +kernel
theorem dX1_countExcess_2 : decode cX1_countExcess 2 = .ok (.iload_n 1, 1) := by decide +kernel
theorem dX1_countExcess_3 : decode cX1_countExcess 3 = .ok (.bipush 8, 2) := by decide +kernel
theorem dX1_countExcess_5 : decode cX1_countExcess 5 = .ok (.if_icmp .ge 24, 3) := by decide +kernel
theorem dX1_countExcess_8 : decode cX1_countExcess 8 = .ok (.aload_n 0, 1) := by decide +kernel
theorem dX1_countExcess_9 : decode cX1_countExcess 9 = .ok (.getfield 24, 3) := by decide +kernel
theorem dX1_countExcess_12 : decode cX1_countExcess 12 = .ok (.iload_n 1, 1) := by decide +kernel
theorem dX1_countExcess_13 : decode cX1_countExcess 13 = .ok (.aload_n 0, 1) := by decide +kernel
theorem dX1_countExcess_14 : decode cX1_countExcess 14 = .ok (.getfield 33, 3) := by decide +kernel
theorem dX1_countExcess_17 : decode cX1_countExcess 17 = .ok (.getfield 88, 3) := by decide +kernel
theorem dX1_countExcess_20 : decode cX1_countExcess 20 = .ok (.iload_n 1, 1) := by decide +kernel
theorem dX1_countExcess_21 : decode cX1_countExcess 21 = .ok (.iaload, 1) := by decide +kernel
theorem dX1_countExcess_22 : decode cX1_countExcess 22 = .ok (.iastore, 1) := by decide +kernel
theorem dX1_countExcess_23 : decode cX1_countExcess 23 = .ok (.iinc 1 1, 3) := by decide +kernel
theorem dX1_countExcess_26 : decode cX1_countExcess 26 = .ok (.goto (-24), 3) := by decide +kernel
theorem dX1_countExcess_29 : decode cX1_countExcess 29 = .ok (.iconst 0, 1) := by decide +kernel
theorem dX1_countExcess_30 : decode cX1_countExcess 30 = .ok (.istore_n 1, 1) := by decide +kernel
theorem dX1_countExcess_31 : decode cX1_countExcess 31 = .ok (.iload_n 1, 1) := by decide +kernel
theorem dX1_countExcess_32 : decode cX1_countExcess 32 = .ok (.aload_n 0, 1) := by decide +kernel
theorem dX1_countExcess_33 : decode cX1_countExcess 33 = .ok (.getfield 33, 3) := by decide +kernel
theorem dX1_countExcess_36 : decode cX1_countExcess 36 = .ok (.getfield 37, 3) := by decide +kernel
theorem dX1_countExcess_39 : decode cX1_countExcess 39 = .ok (.if_icmp .ge 63, 3) := by decide +kernel
theorem dX1_countExcess_42 : decode cX1_countExcess 42 = .ok (.aload_n 0, 1) := by decide +kernel
theorem dX1_countExcess_43 : decode cX1_countExcess 43 = .ok (.getfield 24, 3) := by decide +kernel
theorem dX1_countExcess_46 : decode cX1_countExcess 46 = .ok (.aload_n 0, 1) := by decide +kernel
theorem dX1_countExcess_47 : decode cX1_countExcess 47 = .ok (.getfield 33, 3) := by decide +kernel
theorem dX1_countExcess_50 : decode cX1_countExcess 50 = .ok (.getfield 43, 3) := by decide +kernel
theorem dX1_countExcess_53 : decode cX1_countExcess 53 = .ok (.iload_n 1, 1) := by decide +kernel
theorem dX1_countExcess_54 : decode cX1_countExcess 54 = .ok (.iaload, 1) := by decide +kernel
theorem dX1_countExcess_55 : decode cX1_countExcess 55 = .ok (.dup2, 1) := by decide +kernel
theorem dX1_countExcess_56 : decode cX1_countExcess 56 = .ok (.iaload, 1) := by decide +kernel
theorem dX1_countExcess_57 : decode cX1_countExcess 57 = .ok (.aload_n 0, 1) := by decide +kernel
theorem dX1_countExcess_58 : decode cX1_countExcess 58 = .ok (.getfield 21, 3) := by decide +kernel
theorem dX1_countExcess_61 : decode cX1_countExcess 61 = .ok (.iconst 2, 1) := by decide +kernel
theorem dX1_countExcess_62 : decode cX1_countExcess 62 = .ok (.iload_n 1, 1) := by decide +kernel
theorem dX1_countExcess_63 : decode cX1_countExcess 63 = .ok (.imul, 1) := by decide +kernel
theorem dX1_countExcess_64 : decode cX1_countExcess 64 = .ok (.iconst 1, 1) := by decide +kernel
theorem dX1_countExcess_65 : decode cX1_countExcess 65 = .ok (.iadd, 1) := by decide +kernel
theorem dX1_countExcess_66 : decode cX1_countExcess 66 = .ok (.iaload, 1) := by decide +kernel
theorem dX1_countExcess_67 : decode cX1_countExcess 67 = .ok (.isub, 1) := by decide +kernel
theorem dX1_countExcess_68 : decode cX1_countExcess 68 = .ok (.iastore, 1) := by decide +kernel
theorem dX1_countExcess_69 : decode cX1_countExcess 69 = .ok (.aload_n 0, 1) := by decide +kernel
theorem dX1_countExcess_70 : decode cX1_countExcess 70 = .ok (.getfield 24, 3) := by decide +kernel
theorem dX1_countExcess_73 : decode cX1_countExcess 73 = .ok (.aload_n 0, 1) := by decide +kernel
theorem dX1_countExcess_74 : decode cX1_countExcess 74 = .ok (.getfield 33, 3) := by decide +kernel
theorem dX1_countExcess_77 : decode cX1_countExcess 77 = .ok (.getfield 46, 3) := by decide +kernel
theorem dX1_countExcess_80 : decode cX1_countExcess 80 = .ok (.iload_n 1, 1) := by decide +kernel
theorem dX1_countExcess_81 : decode cX1_countExcess 81 = .ok (.iaload, 1) := by decide +kernel
theorem dX1_countExcess_82 : decode cX1_countExcess 82 = .ok (.dup2, 1) := by decide +kernel
theorem dX1_countExcess_83 : decode cX1_countExcess 83 = .ok (.iaload, 1) := by decide +kernel
theorem dX1_countExcess_84 : decode cX1_countExcess 84 = .ok (.aload_n 0, 1) := by decide +kernel
theorem dX1_countExcess_85 : decode cX1_countExcess 85 = .ok (.getfield 21, 3) := by decide +kernel
theorem dX1_countExcess_88 : decode cX1_countExcess 88 = .ok (.iconst 2, 1) := by decide +kernel
theorem dX1_countExcess_89 : decode cX1_countExcess 89 = .ok (.iload_n 1, 1) := by decide +kernel
theorem dX1_countExcess_90 : decode cX1_countExcess 90 = .ok (.imul, 1) := by decide +kernel
theorem dX1_countExcess_91 : decode cX1_countExcess 91 = .ok (.iconst 1, 1) := by decide +kernel
theorem dX1_countExcess_92 : decode cX1_countExcess 92 = .ok (.iadd, 1) := by decide +kernel
theorem dX1_countExcess_93 : decode cX1_countExcess 93 = .ok (.iaload, 1) := by decide +kernel
theorem dX1_countExcess_94 : decode cX1_countExcess 94 = .ok (.iadd, 1) := by decide +kernel
theorem dX1_countExcess_95 : decode cX1_countExcess 95 = .ok (.iastore, 1) := by decide +kernel
theorem dX1_countExcess_96 : decode cX1_countExcess 96 = .ok (.iinc 1 1, 3) := by decide +kernel
theorem dX1_countExcess_99 : decode cX1_countExcess 99 = .ok (.goto (-68), 3) := by decide +kernel
theorem dX1_countExcess_102 : decode cX1_countExcess 102 = .ok (.return_, 1) := by decide +kernel
set_option maxRecDepth 20000 in
theorem ggX1_sendOnce_X1_startAtExcess : GoodIn wsX1_sendOnce wsX1_startAtExcess := goodIn_r _ [13, 1, 14, 15, 16, 12, 17, 18, 19, 2, 40, 41, 42, 43, 44, 45, 46, 47] (by decide +kernel) (by decide +kernel)
set_option maxRecDepth 20000 in
theorem gX1_sendOnce_X1_startAtExcess : GoodIn wsX1_sendOnce (wsV RX1 69 RX1 yX1_startAtExcess wsX1_startAtExcess) := goodIn_app (goodIn_of _ (by decide +kernel)) ggX1_sendOnce_X1_startAtExcess
set_option maxRecDepth 20000 in
theorem ggX1_sendOnce_X1_measure : GoodIn wsX1_sendOnce wsX1_measure := goodIn_r _ [23, 24, 25, 3, 18, 8, 19, 26, 27, 2, 28, 29, 30, 12, 31, 40, 41, 42, 43, 44, 45, 46, 47, 48, 49, 50, 51, 52, 53] (by decide +kernel) (by decide +kernel)
set_option maxRecDepth 20000 in
theorem gX1_sendOnce_X1_measure : GoodIn wsX1_sendOnce (wsV RX1 72 RX1 yX1_measure wsX1_measure) := goodIn_app (goodIn_of _ (by decide +kernel)) ggX1_sendOnce_X1_measure
set_option maxRecDepth 20000 in
theorem ggX1_sendOnce_X1_nearestShortNode : GoodIn wsX1_sendOnce wsX1_nearestShortNode := goodIn_r _ [35, 19, 1, 18, 40, 41, 42, 43, 44, 45, 46, 47] (by decide +kernel) (by decide +kernel)
set_option maxRecDepth 20000 in
theorem gX1_sendOnce_X1_nearestShortNode : GoodIn wsX1_sendOnce (wsV RX1 91 RX1 yX1_nearestShortNode wsX1_nearestShortNode) := goodIn_app (goodIn_of _ (by decide +kernel)) ggX1_sendOnce_X1_nearestShortNode
set_option maxRecDepth 20000 in
theorem ggX1_sendOnce_X1_sendAlongPath : GoodIn wsX1_sendOnce wsX1_sendAlongPath := goodIn_r _ [39, 2, 3, 8, 40, 41, 42, 43, 44, 45, 46, 47] (by decide +kernel) (by decide +kernel)
set_option maxRecDepth 20000 in
theorem gX1_sendOnce_X1_sendAlongPath : GoodIn wsX1_sendOnce (wsV RX1 101 RX1 yX1_sendAlongPath wsX1_sendAlongPath) := goodIn_app (goodIn_of _ (by decide +kernel)) ggX1_sendOnce_X1_sendAlongPath
theorem dX1_sendOnce_0 : decode cX1_sendOnce 0 = .ok (.aload_n 0, 1) := by decide +kernel
theorem dX1_sendOnce_1 : decode cX1_sendOnce 1 = .ok (.invokevirtual 69, 3) := by decide +kernel
theorem dX1_sendOnce_4 : decode cX1_sendOnce 4 = .ok (.aload_n 0, 1) := by decide +kernel
theorem dX1_sendOnce_5 : decode cX1_sendOnce 5 = .ok (.iconst (-1), 1) := by decide +kernel
theorem dX1_sendOnce_6 : decode cX1_sendOnce 6 = .ok (.invokevirtual 72, 3) := by decide +kernel
theorem dX1_sendOnce_9 : decode cX1_sendOnce 9 = .ok (.aload_n 0, 1) := by decide +kernel
theorem dX1_sendOnce_10 : decode cX1_sendOnce 10 = .ok (.invokevirtual 91, 3) := by decide +kernel
theorem dX1_sendOnce_13 : decode cX1_sendOnce 13 = .ok (.istore_n 1, 1) := by decide +kernel
theorem dX1_sendOnce_14 : decode cX1_sendOnce 14 = .ok (.iload_n 1, 1) := by decide +kernel
theorem dX1_sendOnce_15 : decode cX1_sendOnce 15 = .ok (.iconst (-1), 1) := by decide +kernel
theorem dX1_sendOnce_16 : decode cX1_sendOnce 16 = .ok (.if_icmp .ne 5, 3) := by decide +kernel
theorem dX1_sendOnce_19 : decode cX1_sendOnce 19 = .ok (.iconst 0, 1) := by decide +kernel
theorem dX1_sendOnce_20 : decode cX1_sendOnce 20 = .ok (.ireturn, 1) := by decide +kernel
theorem dX1_sendOnce_21 : decode cX1_sendOnce 21 = .ok (.aload_n 0, 1) := by decide +kernel
theorem dX1_sendOnce_22 : decode cX1_sendOnce 22 = .ok (.getfield 24, 3) := by decide +kernel
theorem dX1_sendOnce_25 : decode cX1_sendOnce 25 = .ok (.iload_n 1, 1) := by decide +kernel
theorem dX1_sendOnce_26 : decode cX1_sendOnce 26 = .ok (.iaload, 1) := by decide +kernel
theorem dX1_sendOnce_27 : decode cX1_sendOnce 27 = .ok (.ineg, 1) := by decide +kernel
theorem dX1_sendOnce_28 : decode cX1_sendOnce 28 = .ok (.istore_n 2, 1) := by decide +kernel
theorem dX1_sendOnce_29 : decode cX1_sendOnce 29 = .ok (.iload_n 1, 1) := by decide +kernel
theorem dX1_sendOnce_30 : decode cX1_sendOnce 30 = .ok (.istore_n 3, 1) := by decide +kernel
theorem dX1_sendOnce_31 : decode cX1_sendOnce 31 = .ok (.iconst 0, 1) := by decide +kernel
theorem dX1_sendOnce_32 : decode cX1_sendOnce 32 = .ok (.istore 4, 2) := by decide +kernel
theorem dX1_sendOnce_34 : decode cX1_sendOnce 34 = .ok (.iload 4, 2) := by decide +kernel
theorem dX1_sendOnce_36 : decode cX1_sendOnce 36 = .ok (.bipush 8, 2) := by decide +kernel
theorem dX1_sendOnce_38 : decode cX1_sendOnce 38 = .ok (.if_icmp .ge 47, 3) := by decide +kernel
theorem dX1_sendOnce_41 : decode cX1_sendOnce 41 = .ok (.aload_n 0, 1) := by decide +kernel
theorem dX1_sendOnce_42 : decode cX1_sendOnce 42 = .ok (.getfield 30, 3) := by decide +kernel
theorem dX1_sendOnce_45 : decode cX1_sendOnce 45 = .ok (.iload_n 3, 1) := by decide +kernel
theorem dX1_sendOnce_46 : decode cX1_sendOnce 46 = .ok (.iaload, 1) := by decide +kernel
theorem dX1_sendOnce_47 : decode cX1_sendOnce 47 = .ok (.iconst (-1), 1) := by decide +kernel
theorem dX1_sendOnce_48 : decode cX1_sendOnce 48 = .ok (.if_icmp .eq 37, 3) := by decide +kernel
theorem dX1_sendOnce_51 : decode cX1_sendOnce 51 = .ok (.iload_n 2, 1) := by decide +kernel
theorem dX1_sendOnce_52 : decode cX1_sendOnce 52 = .ok (.aload_n 0, 1) := by decide +kernel
theorem dX1_sendOnce_53 : decode cX1_sendOnce 53 = .ok (.getfield 21, 3) := by decide +kernel
theorem dX1_sendOnce_56 : decode cX1_sendOnce 56 = .ok (.aload_n 0, 1) := by decide +kernel
theorem dX1_sendOnce_57 : decode cX1_sendOnce 57 = .ok (.getfield 30, 3) := by decide +kernel
theorem dX1_sendOnce_60 : decode cX1_sendOnce 60 = .ok (.iload_n 3, 1) := by decide +kernel
theorem dX1_sendOnce_61 : decode cX1_sendOnce 61 = .ok (.iaload, 1) := by decide +kernel
theorem dX1_sendOnce_62 : decode cX1_sendOnce 62 = .ok (.iaload, 1) := by decide +kernel
theorem dX1_sendOnce_63 : decode cX1_sendOnce 63 = .ok (.invokestatic 95, 3) := by decide +kernel
theorem dX1_sendOnce_66 : decode cX1_sendOnce 66 = .ok (.istore_n 2, 1) := by decide +kernel
theorem dX1_sendOnce_67 : decode cX1_sendOnce 67 = .ok (.aload_n 0, 1) := by decide +kernel
theorem dX1_sendOnce_68 : decode cX1_sendOnce 68 = .ok (.getfield 9, 3) := by decide +kernel
theorem dX1_sendOnce_71 : decode cX1_sendOnce 71 = .ok (.aload_n 0, 1) := by decide +kernel
theorem dX1_sendOnce_72 : decode cX1_sendOnce 72 = .ok (.getfield 30, 3) := by decide +kernel
theorem dX1_sendOnce_75 : decode cX1_sendOnce 75 = .ok (.iload_n 3, 1) := by decide +kernel
theorem dX1_sendOnce_76 : decode cX1_sendOnce 76 = .ok (.iaload, 1) := by decide +kernel
theorem dX1_sendOnce_77 : decode cX1_sendOnce 77 = .ok (.iaload, 1) := by decide +kernel
theorem dX1_sendOnce_78 : decode cX1_sendOnce 78 = .ok (.istore_n 3, 1) := by decide +kernel
theorem dX1_sendOnce_79 : decode cX1_sendOnce 79 = .ok (.iinc 4 1, 3) := by decide +kernel
theorem dX1_sendOnce_82 : decode cX1_sendOnce 82 = .ok (.goto (-48), 3) := by decide +kernel
theorem dX1_sendOnce_85 : decode cX1_sendOnce 85 = .ok (.iload_n 2, 1) := by decide +kernel
theorem dX1_sendOnce_86 : decode cX1_sendOnce 86 = .ok (.aload_n 0, 1) := by decide +kernel
theorem dX1_sendOnce_87 : decode cX1_sendOnce 87 = .ok (.getfield 24, 3) := by decide +kernel
theorem dX1_sendOnce_90 : decode cX1_sendOnce 90 = .ok (.iload_n 3, 1) := by decide +kernel
theorem dX1_sendOnce_91 : decode cX1_sendOnce 91 = .ok (.iaload, 1) := by decide +kernel
theorem dX1_sendOnce_92 : decode cX1_sendOnce 92 = .ok (.invokestatic 95, 3) := by decide +kernel
theorem dX1_sendOnce_95 : decode cX1_sendOnce 95 = .ok (.istore_n 2, 1) := by decide +kernel
theorem dX1_sendOnce_96 : decode cX1_sendOnce 96 = .ok (.aload_n 0, 1) := by decide +kernel
theorem dX1_sendOnce_97 : decode cX1_sendOnce 97 = .ok (.getfield 24, 3) := by decide +kernel
theorem dX1_sendOnce_100 : decode cX1_sendOnce 100 = .ok (.iload_n 3, 1) := by decide +kernel
theorem dX1_sendOnce_101 : decode cX1_sendOnce 101 = .ok (.dup2, 1) := by decide +kernel
theorem dX1_sendOnce_102 : decode cX1_sendOnce 102 = .ok (.iaload, 1) := by decide +kernel
theorem dX1_sendOnce_103 : decode cX1_sendOnce 103 = .ok (.iload_n 2, 1) := by decide +kernel
theorem dX1_sendOnce_104 : decode cX1_sendOnce 104 = .ok (.isub, 1) := by decide +kernel
theorem dX1_sendOnce_105 : decode cX1_sendOnce 105 = .ok (.iastore, 1) := by decide +kernel
theorem dX1_sendOnce_106 : decode cX1_sendOnce 106 = .ok (.aload_n 0, 1) := by decide +kernel
theorem dX1_sendOnce_107 : decode cX1_sendOnce 107 = .ok (.getfield 24, 3) := by decide +kernel
theorem dX1_sendOnce_110 : decode cX1_sendOnce 110 = .ok (.iload_n 1, 1) := by decide +kernel
theorem dX1_sendOnce_111 : decode cX1_sendOnce 111 = .ok (.dup2, 1) := by decide +kernel
theorem dX1_sendOnce_112 : decode cX1_sendOnce 112 = .ok (.iaload, 1) := by decide +kernel
theorem dX1_sendOnce_113 : decode cX1_sendOnce 113 = .ok (.iload_n 2, 1) := by decide +kernel
theorem dX1_sendOnce_114 : decode cX1_sendOnce 114 = .ok (.iadd, 1) := by decide +kernel
theorem dX1_sendOnce_115 : decode cX1_sendOnce 115 = .ok (.iastore, 1) := by decide +kernel
theorem dX1_sendOnce_116 : decode cX1_sendOnce 116 = .ok (.aload_n 0, 1) := by decide +kernel
theorem dX1_sendOnce_117 : decode cX1_sendOnce 117 = .ok (.iload_n 1, 1) := by decide +kernel
theorem dX1_sendOnce_118 : decode cX1_sendOnce 118 = .ok (.iload_n 2, 1) := by decide +kernel
theorem dX1_sendOnce_119 : decode cX1_sendOnce 119 = .ok (.invokevirtual 101, 3) := by decide +kernel
theorem dX1_sendOnce_122 : decode cX1_sendOnce 122 = .ok (.iconst 1, 1) := by decide +kernel
theorem dX1_sendOnce_123 : decode cX1_sendOnce 123 = .ok (.ireturn, 1) := by decide +kernel
theorem dX1_sendAlongPath_0 : decode cX1_sendAlongPath 0 = .ok (.iload_n 1, 1) := by decide +kernel
theorem dX1_sendAlongPath_1 : decode cX1_sendAlongPath 1 = .ok (.istore_n 3, 1) := by decide +kernel
theorem dX1_sendAlongPath_2 : decode cX1_sendAlongPath 2 = .ok (.iconst 0, 1) := by decide +kernel
theorem dX1_sendAlongPath_3 : decode cX1_sendAlongPath 3 = .ok (.istore 4, 2) := by decide +kernel
theorem dX1_sendAlongPath_5 : decode cX1_sendAlongPath 5 = .ok (.iload 4, 2) := by decide +kernel
theorem dX1_sendAlongPath_7 : decode cX1_sendAlongPath 7 = .ok (.bipush 8, 2) := by decide +kernel
theorem dX1_sendAlongPath_9 : decode cX1_sendAlongPath 9 = .ok (.if_icmp .ge 59, 3) := by decide +kernel
theorem dX1_sendAlongPath_12 : decode cX1_sendAlongPath 12 = .ok (.aload_n 0, 1) := by decide +kernel
theorem dX1_sendAlongPath_13 : decode cX1_sendAlongPath 13 = .ok (.getfield 30, 3) := by decide +kernel
theorem dX1_sendAlongPath_16 : decode cX1_sendAlongPath 16 = .ok (.iload_n 3, 1) := by decide +kernel
theorem dX1_sendAlongPath_17 : decode cX1_sendAlongPath 17 = .ok (.iaload, 1) := by decide +kernel
theorem dX1_sendAlongPath_18 : decode cX1_sendAlongPath 18 = .ok (.iconst (-1), 1) := by decide +kernel
theorem dX1_sendAlongPath_19 : decode cX1_sendAlongPath 19 = .ok (.if_icmp .eq 49, 3) := by decide +kernel
theorem dX1_sendAlongPath_22 : decode cX1_sendAlongPath 22 = .ok (.aload_n 0, 1) := by decide +kernel
theorem dX1_sendAlongPath_23 : decode cX1_sendAlongPath 23 = .ok (.getfield 30, 3) := by decide +kernel
theorem dX1_sendAlongPath_26 : decode cX1_sendAlongPath 26 = .ok (.iload_n 3, 1) := by decide +kernel
theorem dX1_sendAlongPath_27 : decode cX1_sendAlongPath 27 = .ok (.iaload, 1) := by decide +kernel
theorem dX1_sendAlongPath_28 : decode cX1_sendAlongPath 28 = .ok (.istore 5, 2) := by decide +kernel
theorem dX1_sendAlongPath_30 : decode cX1_sendAlongPath 30 = .ok (.aload_n 0, 1) := by decide +kernel
theorem dX1_sendAlongPath_31 : decode cX1_sendAlongPath 31 = .ok (.getfield 21, 3) := by decide +kernel
theorem dX1_sendAlongPath_34 : decode cX1_sendAlongPath 34 = .ok (.iload 5, 2) := by decide +kernel
theorem dX1_sendAlongPath_36 : decode cX1_sendAlongPath 36 = .ok (.dup2, 1) := by decide +kernel
theorem dX1_sendAlongPath_37 : decode cX1_sendAlongPath 37 = .ok (.iaload, 1) := by decide +kernel
theorem dX1_sendAlongPath_38 : decode cX1_sendAlongPath 38 = .ok (.iload_n 2, 1) := by decide +kernel
theorem dX1_sendAlongPath_39 : decode cX1_sendAlongPath 39 = .ok (.isub, 1) := by decide +kernel
theorem dX1_sendAlongPath_40 : decode cX1_sendAlongPath 40 = .ok (.iastore, 1) := by decide +kernel
theorem dX1_sendAlongPath_41 : decode cX1_sendAlongPath 41 = .ok (.aload_n 0, 1) := by decide +kernel
theorem dX1_sendAlongPath_42 : decode cX1_sendAlongPath 42 = .ok (.getfield 21, 3) := by decide +kernel
theorem dX1_sendAlongPath_45 : decode cX1_sendAlongPath 45 = .ok (.iload 5, 2) := by decide +kernel
theorem dX1_sendAlongPath_47 : decode cX1_sendAlongPath 47 = .ok (.iconst 1, 1) := by decide +kernel
theorem dX1_sendAlongPath_48 : decode cX1_sendAlongPath 48 = .ok (.ixor, 1) := by decide +kernel
theorem dX1_sendAlongPath_49 : decode cX1_sendAlongPath 49 = .ok (.dup2, 1) := by decide +kernel
theorem dX1_sendAlongPath_50 : decode cX1_sendAlongPath 50 = .ok (.iaload, 1) := by decide +kernel
theorem dX1_sendAlongPath_51 : decode cX1_sendAlongPath 51 = .ok (.iload_n 2, 1) := by decide +kernel
theorem dX1_sendAlongPath_52 : decode cX1_sendAlongPath 52 = .ok (.iadd, 1) := by decide +kernel
theorem dX1_sendAlongPath_53 : decode cX1_sendAlongPath 53 = .ok (.iastore, 1) := by decide +kernel
theorem dX1_sendAlongPath_54 : decode cX1_sendAlongPath 54 = .ok (.aload_n 0, 1) := by decide +kernel
theorem dX1_sendAlongPath_55 : decode cX1_sendAlongPath 55 = .ok (.getfield 9, 3) := by decide +kernel
theorem dX1_sendAlongPath_58 : decode cX1_sendAlongPath 58 = .ok (.iload 5, 2) := by decide +kernel
theorem dX1_sendAlongPath_60 : decode cX1_sendAlongPath 60 = .ok (.iaload, 1) := by decide +kernel
theorem dX1_sendAlongPath_61 : decode cX1_sendAlongPath 61 = .ok (.istore_n 3, 1) := by decide +kernel
theorem dX1_sendAlongPath_62 : decode cX1_sendAlongPath 62 = .ok (.iinc 4 1, 3) := by decide +kernel
theorem dX1_sendAlongPath_65 : decode cX1_sendAlongPath 65 = .ok (.goto (-60), 3) := by decide +kernel
theorem dX1_sendAlongPath_68 : decode cX1_sendAlongPath 68 = .ok (.return_, 1) := by decide +kernel
theorem dX1_nearestShortNode_0 : decode cX1_nearestShortNode 0 = .ok (.iconst (-1), 1) := by decide +kernel
theorem dX1_nearestShortNode_1 : decode cX1_nearestShortNode 1 = .ok (.istore_n 1, 1) := by decide +kernel
theorem dX1_nearestShortNode_2 : decode cX1_nearestShortNode 2 = .ok (.ldc 76, 2) := by decide +kernel
theorem dX1_nearestShortNode_4 : decode cX1_nearestShortNode 4 = .ok (.istore_n 2, 1) := by decide +kernel
theorem dX1_nearestShortNode_5 : decode cX1_nearestShortNode 5 = .ok (.iconst 0, 1) := by decide +kernel
theorem dX1_nearestShortNode_6 : decode cX1_nearestShortNode 6 = .ok (.istore_n 3, 1) := by decide +kernel
theorem dX1_nearestShortNode_7 : decode cX1_nearestShortNode 7 = .ok (.iload_n 3, 1) := by decide +kernel
theorem dX1_nearestShortNode_8 : decode cX1_nearestShortNode 8 = .ok (.bipush 8, 2) := by decide +kernel
theorem dX1_nearestShortNode_10 : decode cX1_nearestShortNode 10 = .ok (.if_icmp .ge 37, 3) := by decide +kernel
theorem dX1_nearestShortNode_13 : decode cX1_nearestShortNode 13 = .ok (.aload_n 0, 1) := by decide +kernel
theorem dX1_nearestShortNode_14 : decode cX1_nearestShortNode 14 = .ok (.getfield 24, 3) := by decide +kernel
theorem dX1_nearestShortNode_17 : decode cX1_nearestShortNode 17 = .ok (.iload_n 3, 1) := by decide +kernel
theorem dX1_nearestShortNode_18 : decode cX1_nearestShortNode 18 = .ok (.iaload, 1) := by decide +kernel
theorem dX1_nearestShortNode_19 : decode cX1_nearestShortNode 19 = .ok (.ifCond .ge 22, 3) := by decide +kernel
theorem dX1_nearestShortNode_22 : decode cX1_nearestShortNode 22 = .ok (.aload_n 0, 1) := by decide +kernel
theorem dX1_nearestShortNode_23 : decode cX1_nearestShortNode 23 = .ok (.getfield 27, 3) := by decide +kernel
theorem dX1_nearestShortNode_26 : decode cX1_nearestShortNode 26 = .ok (.iload_n 3, 1) := by decide +kernel
theorem dX1_nearestShortNode_27 : decode cX1_nearestShortNode 27 = .ok (.iaload, 1) := by decide +kernel
theorem dX1_nearestShortNode_28 : decode cX1_nearestShortNode 28 = .ok (.iload_n 2, 1) := by decide +kernel
theorem dX1_nearestShortNode_29 : decode cX1_nearestShortNode 29 = .ok (.if_icmp .ge 12, 3) := by decide +kernel
theorem dX1_nearestShortNode_32 : decode cX1_nearestShortNode 32 = .ok (.iload_n 3, 1) := by decide +kernel
theorem dX1_nearestShortNode_33 : decode cX1_nearestShortNode 33 = .ok (.istore_n 1, 1) := by decide +kernel
theorem dX1_nearestShortNode_34 : decode cX1_nearestShortNode 34 = .ok (.aload_n 0, 1) := by decide +kernel
theorem dX1_nearestShortNode_35 : decode cX1_nearestShortNode 35 = .ok (.getfield 27, 3) := by decide +kernel
theorem dX1_nearestShortNode_38 : decode cX1_nearestShortNode 38 = .ok (.iload_n 3, 1) := by decide +kernel
theorem dX1_nearestShortNode_39 : decode cX1_nearestShortNode 39 = .ok (.iaload, 1) := by decide +kernel
theorem dX1_nearestShortNode_40 : decode cX1_nearestShortNode 40 = .ok (.istore_n 2, 1) := by decide +kernel
theorem dX1_nearestShortNode_41 : decode cX1_nearestShortNode 41 = .ok (.iinc 3 1, 3) := by decide +kernel
theorem dX1_nearestShortNode_44 : decode cX1_nearestShortNode 44 = .ok (.goto (-37), 3) := by decide +kernel
theorem dX1_nearestShortNode_47 : decode cX1_nearestShortNode 47 = .ok (.iload_n 1, 1) := by decide +kernel
theorem dX1_nearestShortNode_48 : decode cX1_nearestShortNode 48 = .ok (.ireturn, 1) := by decide +kernel
set_option maxRecDepth 20000 in
theorem ggX1_startAtExcess_X1_setStart : GoodIn wsX1_startAtExcess wsX1_setStart := goodIn_r _ [6, 7, 8, 9, 10, 11, 12, 13, 14, 15, 16, 17] (by decide +kernel) (by decide +kernel)
set_option maxRecDepth 20000 in
theorem gX1_startAtExcess_X1_setStart : GoodIn wsX1_startAtExcess (wsV RX1 77 RX1 yX1_setStart wsX1_setStart) := goodIn_app (goodIn_of _ (by decide +kernel)) ggX1_startAtExcess_X1_setStart
theorem dX1_startAtExcess_0 : decode cX1_startAtExcess 0 = .ok (.iconst 0, 1) := by decide +kernel
theorem dX1_startAtExcess_1 : decode cX1_startAtExcess 1 = .ok (.istore_n 1, 1) := by decide +kernel
theorem dX1_startAtExcess_2 : decode cX1_startAtExcess 2 = .ok (.iload_n 1, 1) := by decide +kernel
theorem dX1_startAtExcess_3 : decode cX1_startAtExcess 3 = .ok (.bipush 8, 2) := by decide +kernel
theorem dX1_startAtExcess_5 : decode cX1_startAtExcess 5 = .ok (.if_icmp .ge 28, 3) := by decide +kernel
theorem dX1_startAtExcess_8 : decode cX1_startAtExcess 8 = .ok (.aload_n 0, 1) := by decide +kernel
theorem dX1_startAtExcess_9 : decode cX1_startAtExcess 9 = .ok (.iload_n 1, 1) := by decide +kernel
theorem dX1_startAtExcess_10 : decode cX1_startAtExcess 10 = .ok (.aload_n 0, 1) := by decide +kernel
theorem dX1_startAtExcess_11 : decode cX1_startAtExcess 11 = .ok (.getfield 24, 3) := by decide +kernel
theorem dX1_startAtExcess_14 : decode cX1_startAtExcess 14 = .ok (.iload_n 1, 1) := by decide +kernel
theorem dX1_startAtExcess_15 : decode cX1_startAtExcess 15 = .ok (.iaload, 1) := by decide +kernel
theorem dX1_startAtExcess_16 : decode cX1_startAtExcess 16 = .ok (.ifCond .le 7, 3) := by decide +kernel
theorem dX1_startAtExcess_19 : decode cX1_startAtExcess 19 = .ok (.iconst 1, 1) := by decide +kernel
theorem dX1_startAtExcess_20 : decode cX1_startAtExcess 20 = .ok (.goto 4, 3) := by decide +kernel
theorem dX1_startAtExcess_23 : decode cX1_startAtExcess 23 = .ok (.iconst 0, 1) := by decide +kernel
theorem dX1_startAtExcess_24 : decode cX1_startAtExcess 24 = .ok (.invokevirtual 77, 3) := by decide +kernel
theorem dX1_startAtExcess_27 : decode cX1_startAtExcess 27 = .ok (.iinc 1 1, 3) := by decide +kernel
theorem dX1_startAtExcess_30 : decode cX1_startAtExcess 30 = .ok (.goto (-28), 3) := by decide +kernel
theorem dX1_startAtExcess_33 : decode cX1_startAtExcess 33 = .ok (.return_, 1) := by decide +kernel
theorem dX1_setStart_0 : decode cX1_setStart 0 = .ok (.aload_n 0, 1) := by decide +kernel
theorem dX1_setStart_1 : decode cX1_setStart 1 = .ok (.getfield 27, 3) := by decide +kernel
theorem dX1_setStart_4 : decode cX1_setStart 4 = .ok (.iload_n 1, 1) := by decide +kernel
theorem dX1_setStart_5 : decode cX1_setStart 5 = .ok (.iload_n 2, 1) := by decide +kernel
theorem dX1_setStart_6 : decode cX1_setStart 6 = .ok (.ifCond .eq 7, 3) := by decide +kernel
theorem dX1_setStart_9 : decode cX1_setStart 9 = .ok (.iconst 0, 1) := by decide +kernel
theorem dX1_setStart_10 : decode cX1_setStart 10 = .ok (.goto 5, 3) := by decide +kernel
theorem dX1_setStart_13 : decode cX1_setStart 13 = .ok (.ldc 76, 2) := by decide +kernel
theorem dX1_setStart_15 : decode cX1_setStart 15 = .ok (.iastore, 1) := by decide +kernel
theorem dX1_setStart_16 : decode cX1_setStart 16 = .ok (.aload_n 0, 1) := by decide +kernel
theorem dX1_setStart_17 : decode cX1_setStart 17 = .ok (.getfield 30, 3) := by decide +kernel
theorem dX1_setStart_20 : decode cX1_setStart 20 = .ok (.iload_n 1, 1) := by decide +kernel
theorem dX1_setStart_21 : decode cX1_setStart 21 = .ok (.iconst (-1), 1) := by decide +kernel
theorem dX1_setStart_22 : decode cX1_setStart 22 = .ok (.iastore, 1) := by decide +kernel
theorem dX1_setStart_23 : decode cX1_setStart 23 = .ok (.return_, 1) := by decide +kernel
set_option maxRecDepth 20000 in
theorem ggX1_measure_X1_isShortcut : GoodIn wsX1_measure wsX1_isShortcut := goodIn_r _ [14, 4, 5, 8, 7, 15, 16, 17, 18, 19, 20, 21, 22] (by decide +kernel) (by decide +kernel)
set_option maxRecDepth 20000 in
theorem gX1_measure_X1_isShortcut : GoodIn wsX1_measure (wsV RX1 84 RX1 yX1_isShortcut wsX1_isShortcut) := goodIn_app (goodIn_of _ (by decide +kernel)) ggX1_measure_X1_isShortcut
end
section
theorem dX1_measure_0 : decode cX1_measure 0 = .ok (.iconst 1, 1) := by decide +kernel
theorem dX1_measure_1 : decode cX1_measure 1 = .ok (.istore_n 2, 1) := by decide +kernel
theorem dX1_measure_2 : decode cX1_measure 2 = .ok (.iconst 0, 1) := by decide +kernel
theorem dX1_measure_3 : decode cX1_measure 3 = .ok (.istore_n 3, 1) := by decide +kernel
theorem dX1_measure_4 : decode cX1_measure 4 = .ok (.iload_n 2, 1) := by decide +kernel
theorem dX1_measure_5 : decode cX1_measure 5 = .ok (.ifCond .eq 144, 3) := by decide +kernel
theorem dX1_measure_8 : decode cX1_measure 8 = .ok (.iload_n 3, 1) := by decide +kernel
theorem dX1_measure_9 : decode cX1_measure 9 = .ok (.bipush 8, 2) := by decide +kernel
theorem dX1_measure_11 : decode cX1_measure 11 = .ok (.if_icmp .ge 138, 3) := by decide +kernel
theorem dX1_measure_14 : decode cX1_measure 14 = .ok (.iconst 0, 1) := by decide +kernel
theorem dX1_measure_15 : decode cX1_measure 15 = .ok (.istore_n 2, 1) := by decide +kernel
theorem dX1_measure_16 : decode cX1_measure 16 = .ok (.iconst 0, 1) := by decide +kernel
theorem dX1_measure_17 : decode cX1_measure 17 = .ok (.istore 4, 2) := by decide +kernel
theorem dX1_measure_19 : decode cX1_measure 19 = .ok (.iload 4, 2) := by decide +kernel
theorem dX1_measure_21 : decode cX1_measure 21 = .ok (.iconst 2, 1) := by decide +kernel
theorem dX1_measure_22 : decode cX1_measure 22 = .ok (.aload_n 0, 1) := by decide +kernel
theorem dX1_measure_23 : decode cX1_measure 23 = .ok (.getfield 33, 3) := by decide +kernel
theorem dX1_measure_26 : decode cX1_measure 26 = .ok (.getfield 37, 3) := by decide +kernel
theorem dX1_measure_29 : decode cX1_measure 29 = .ok (.imul, 1) := by decide +kernel
theorem dX1_measure_30 : decode cX1_measure 30 = .ok (.if_icmp .ge 113, 3) := by decide +kernel
theorem dX1_measure_33 : decode cX1_measure 33 = .ok (.aload_n 0, 1) := by decide +kernel
theorem dX1_measure_34 : decode cX1_measure 34 = .ok (.getfield 21, 3) := by decide +kernel
theorem dX1_measure_37 : decode cX1_measure 37 = .ok (.iload 4, 2) := by decide +kernel
theorem dX1_measure_39 : decode cX1_measure 39 = .ok (.iaload, 1) := by decide +kernel
theorem dX1_measure_40 : decode cX1_measure 40 = .ok (.ifCond .le 15, 3) := by decide +kernel
theorem dX1_measure_43 : decode cX1_measure 43 = .ok (.iload 4, 2) := by decide +kernel
theorem dX1_measure_45 : decode cX1_measure 45 = .ok (.iconst 1, 1) := by decide +kernel
theorem dX1_measure_46 : decode cX1_measure 46 = .ok (.ishr, 1) := by decide +kernel
theorem dX1_measure_47 : decode cX1_measure 47 = .ok (.iload_n 1, 1) := by decide +kernel
theorem dX1_measure_48 : decode cX1_measure 48 = .ok (.if_icmp .eq 7, 3) := by decide +kernel
theorem dX1_measure_51 : decode cX1_measure 51 = .ok (.iconst 1, 1) := by decide +kernel
theorem dX1_measure_52 : decode cX1_measure 52 = .ok (.goto 4, 3) := by decide +kernel
theorem dX1_measure_55 : decode cX1_measure 55 = .ok (.iconst 0, 1) := by decide +kernel
theorem dX1_measure_56 : decode cX1_measure 56 = .ok (.istore 5, 2) := by decide +kernel
theorem dX1_measure_58 : decode cX1_measure 58 = .ok (.iload 5, 2) := by decide +kernel
theorem dX1_measure_60 : decode cX1_measure 60 = .ok (.ifCond .eq 77, 3) := by decide +kernel
theorem dX1_measure_63 : decode cX1_measure 63 = .ok (.aload_n 0, 1) := by decide +kernel
theorem dX1_measure_64 : decode cX1_measure 64 = .ok (.getfield 27, 3) := by decide +kernel
theorem dX1_measure_67 : decode cX1_measure 67 = .ok (.aload_n 0, 1) := by decide +kernel
theorem dX1_measure_68 : decode cX1_measure 68 = .ok (.getfield 9, 3) := by decide +kernel
theorem dX1_measure_71 : decode cX1_measure 71 = .ok (.iload 4, 2) := by decide +kernel
theorem dX1_measure_73 : decode cX1_measure 73 = .ok (.iaload, 1) := by decide +kernel
theorem dX1_measure_74 : decode cX1_measure 74 = .ok (.iaload, 1) := by decide +kernel
theorem dX1_measure_75 : decode cX1_measure 75 = .ok (.ldc 76, 2) := by decide +kernel
theorem dX1_measure_77 : decode cX1_measure 77 = .ok (.if_icmp .ge 60, 3) := by decide +kernel
theorem dX1_measure_80 : decode cX1_measure 80 = .ok (.aload_n 0, 1) := by decide +kernel
theorem dX1_measure_81 : decode cX1_measure 81 = .ok (.iload 4, 2) := by decide +kernel
theorem dX1_measure_83 : decode cX1_measure 83 = .ok (.invokevirtual 84, 3) := by decide +kernel
theorem dX1_measure_86 : decode cX1_measure 86 = .ok (.ifCond .eq 51, 3) := by decide +kernel
theorem dX1_measure_89 : decode cX1_measure 89 = .ok (.aload_n 0, 1) := by decide +kernel
theorem dX1_measure_90 : decode cX1_measure 90 = .ok (.getfield 27, 3) := by decide +kernel
theorem dX1_measure_93 : decode cX1_measure 93 = .ok (.aload_n 0, 1) := by decide +kernel
theorem dX1_measure_94 : decode cX1_measure 94 = .ok (.getfield 15, 3) := by decide +kernel
theorem dX1_measure_97 : decode cX1_measure 97 = .ok (.iload 4, 2) := by decide +kernel
theorem dX1_measure_99 : decode cX1_measure 99 = .ok (.iaload, 1) := by decide +kernel
theorem dX1_measure_100 : decode cX1_measure 100 = .ok (.aload_n 0, 1) := by decide +kernel
theorem dX1_measure_101 : decode cX1_measure 101 = .ok (.getfield 27, 3) := by decide +kernel
theorem dX1_measure_104 : decode cX1_measure 104 = .ok (.aload_n 0, 1) := by decide +kernel
theorem dX1_measure_105 : decode cX1_measure 105 = .ok (.getfield 9, 3) := by decide +kernel
theorem dX1_measure_108 : decode cX1_measure 108 = .ok (.iload 4, 2) := by decide +kernel
theorem dX1_measure_110 : decode cX1_measure 110 = .ok (.iaload, 1) := by decide +kernel
theorem dX1_measure_111 : decode cX1_measure 111 = .ok (.iaload, 1) := by decide +kernel
theorem dX1_measure_112 : decode cX1_measure 112 = .ok (.aload_n 0, 1) := by decide +kernel
theorem dX1_measure_113 : decode cX1_measure 113 = .ok (.getfield 18, 3) := by decide +kernel
theorem dX1_measure_116 : decode cX1_measure 116 = .ok (.iload 4, 2) := by decide +kernel
theorem dX1_measure_118 : decode cX1_measure 118 = .ok (.iaload, 1) := by decide +kernel
theorem dX1_measure_119 : decode cX1_measure 119 = .ok (.iadd, 1) := by decide +kernel
theorem dX1_measure_120 : decode cX1_measure 120 = .ok (.iastore, 1) := by decide +kernel
theorem dX1_measure_121 : decode cX1_measure 121 = .ok (.aload_n 0, 1) := by decide +kernel
theorem dX1_measure_122 : decode cX1_measure 122 = .ok (.getfield 30, 3) := by decide +kernel
theorem dX1_measure_125 : decode cX1_measure 125 = .ok (.aload_n 0, 1) := by decide +kernel
theorem dX1_measure_126 : decode cX1_measure 126 = .ok (.getfield 15, 3) := by decide +kernel
theorem dX1_measure_129 : decode cX1_measure 129 = .ok (.iload 4, 2) := by decide +kernel
theorem dX1_measure_131 : decode cX1_measure 131 = .ok (.iaload, 1) := by decide +kernel
theorem dX1_measure_132 : decode cX1_measure 132 = .ok (.iload 4, 2) := by decide +kernel
theorem dX1_measure_134 : decode cX1_measure 134 = .ok (.iastore, 1) := by decide +kernel
theorem dX1_measure_135 : decode cX1_measure 135 = .ok (.iconst 1, 1) := by decide +kernel
theorem dX1_measure_136 : decode cX1_measure 136 = .ok (.istore_n 2, 1) := by decide +kernel
theorem dX1_measure_137 : decode cX1_measure 137 = .ok (.iinc 4 1, 3) := by decide +kernel
theorem dX1_measure_140 : decode cX1_measure 140 = .ok (.goto (-121), 3) := by decide +kernel
theorem dX1_measure_143 : decode cX1_measure 143 = .ok (.iinc 3 1, 3) := by decide +kernel
theorem dX1_measure_146 : decode cX1_measure 146 = .ok (.goto (-142), 3) := by decide +kernel
theorem dX1_measure_149 : decode cX1_measure 149 = .ok (.return_, 1) := by decide +kernel
set_option maxRecDepth 20000 in
theorem ggX2_init_X0_init : GoodIn wsX2_init wsX0_init := goodIn_r _ [13, 14, 2, 3, 15, 16, 17, 18, 19, 20, 33, 34, 35, 36, 37, 38] (by decide +kernel) (by decide +kernel)
set_option maxRecDepth 20000 in
theorem gX2_init_X0_init_n11 : GoodIn wsX2_init (wsX0_init) := ggX2_init_X0_init
set_option maxRecDepth 20000 in
theorem ggX2_init_X1_init : GoodIn wsX2_init wsX1_init := goodIn_r _ [23, 24, 2, 3, 15, 25, 26, 27, 28, 29, 30, 31, 32, 41, 42, 43, 44, 45, 46, 47, 48] (by decide +kernel) (by decide +kernel)
set_option maxRecDepth 20000 in
theorem gX2_init_X1_init : GoodIn wsX2_init (wsX1_init) := ggX2_init_X1_init
theorem dX2_init_0 : decode cX2_init 0 = .ok (.aload_n 0, 1) := by decide +kernel
theorem dX2_init_1 : decode cX2_init 1 = .ok (.invokespecial 3, 3) := by decide +kernel
theorem dX2_init_4 : decode cX2_init 4 = .ok (.aload_n 0, 1) := by decide +kernel
theorem dX2_init_5 : decode cX2_init 5 = .ok (.new 9, 3) := by decide +kernel
theorem dX2_init_8 : decode cX2_init 8 = .ok (.dup, 1) := by decide +kernel
theorem dX2_init_9 : decode cX2_init 9 = .ok (.invokespecial 11, 3) := by decide +kernel
theorem dX2_init_12 : decode cX2_init 12 = .ok (.putfield 12, 3) := by decide +kernel
theorem dX2_init_15 : decode cX2_init 15 = .ok (.aload_n 0, 1) := by decide +kernel
theorem dX2_init_16 : decode cX2_init 16 = .ok (.new 16, 3) := by decide +kernel
theorem dX2_init_19 : decode cX2_init 19 = .ok (.dup, 1) := by decide +kernel
theorem dX2_init_20 : decode cX2_init 20 = .ok (.aload_n 0, 1) := by decide +kernel
theorem dX2_init_21 : decode cX2_init 21 = .ok (.getfield 12, 3) := by decide +kernel
theorem dX2_init_24 : decode cX2_init 24 = .ok (.invokespecial 18, 3) := by decide +kernel
theorem dX2_init_27 : decode cX2_init 27 = .ok (.putfield 21, 3) := by decide +kernel
theorem dX2_init_30 : decode cX2_init 30 = .ok (.return_, 1) := by decide +kernel
set_option maxRecDepth 20000 in
theorem ggX2_add_X2_isNode : GoodIn wsX2_add wsX2_isNode := goodIn_r _ [12] (by decide +kernel) (by decide +kernel)
set_option maxRecDepth 20000 in
theorem gX2_add_X2_isNode : GoodIn wsX2_add (va_wsS RX2 25 yX2_isNode wsX2_isNode) := goodIn_app (goodIn_of _ (by decide +kernel)) ggX2_add_X2_isNode
set_option maxRecDepth 20000 in
theorem ggX2_add_X2_isArcData : GoodIn wsX2_add wsX2_isArcData := goodIn_r _ [15] (by decide +kernel) (by decide +kernel)
set_option maxRecDepth 20000 in
theorem gX2_add_X2_isArcData : GoodIn wsX2_add (va_wsS RX2 29 yX2_isArcData wsX2_isArcData) := goodIn_app (goodIn_of _ (by decide +kernel)) ggX2_add_X2_isArcData
theorem dX2_add_0 : decode cX2_add 0 = .ok (.iload_n 1, 1) := by decide +kernel
theorem dX2_add_1 : decode cX2_add 1 = .ok (.invokestatic 25, 3) := by decide +kernel
theorem dX2_add_4 : decode cX2_add 4 = .ok (.ifCond .eq 24, 3) := by decide +kernel
theorem dX2_add_7 : decode cX2_add 7 = .ok (.iload_n 2, 1) := by decide +kernel
theorem dX2_add_8 : decode cX2_add 8 = .ok (.invokestatic 25, 3) := by decide +kernel
theorem dX2_add_11 : decode cX2_add 11 = .ok (.ifCond .eq 17, 3) := by decide +kernel
theorem dX2_add_14 : decode cX2_add 14 = .ok (.iload_n 1, 1) := by decide +kernel
theorem dX2_add_15 : decode cX2_add 15 = .ok (.iload_n 2, 1) := by decide +kernel
theorem dX2_add_16 : decode cX2_add 16 = .ok (.if_icmp .eq 12, 3) := by decide +kernel
theorem dX2_add_19 : decode cX2_add 19 = .ok (.iload_n 3, 1) := by decide +kernel
theorem dX2_add_20 : decode cX2_add 20 = .ok (.iload 4, 2) := by decide +kernel
theorem dX2_add_22 : decode cX2_add 22 = .ok (.invokestatic 29, 3) := by decide +kernel
theorem dX2_add_25 : decode cX2_add 25 = .ok (.ifCond .ne 6, 3) := by decide +kernel
theorem dX2_add_28 : decode cX2_add 28 = .ok (.ldc 33, 2) := by decide +kernel
theorem dX2_add_30 : decode cX2_add 30 = .ok (.ireturn, 1) := by decide +kernel
theorem dX2_add_31 : decode cX2_add 31 = .ok (.aload_n 0, 1) := by decide +kernel
theorem dX2_add_32 : decode cX2_add 32 = .ok (.getfield 12, 3) := by decide +kernel
theorem dX2_add_35 : decode cX2_add 35 = .ok (.getfield 34, 3) := by decide +kernel
theorem dX2_add_38 : decode cX2_add 38 = .ok (.bipush 20, 2) := by decide +kernel
theorem dX2_add_40 : decode cX2_add 40 = .ok (.if_icmp .lt 6, 3) := by decide +kernel
theorem dX2_add_43 : decode cX2_add 43 = .ok (.ldc 38, 2) := by decide +kernel
theorem dX2_add_45 : decode cX2_add 45 = .ok (.ireturn, 1) := by decide +kernel
theorem dX2_add_46 : decode cX2_add 46 = .ok (.aload_n 0, 1) := by decide +kernel
theorem dX2_add_47 : decode cX2_add 47 = .ok (.getfield 12, 3) := by decide +kernel
theorem dX2_add_50 : decode cX2_add 50 = .ok (.getfield 34, 3) := by decide +kernel
theorem dX2_add_53 : decode cX2_add 53 = .ok (.istore 5, 2) := by decide +kernel
theorem dX2_add_55 : decode cX2_add 55 = .ok (.aload_n 0, 1) := by decide +kernel
theorem dX2_add_56 : decode cX2_add 56 = .ok (.getfield 12, 3) := by decide +kernel
theorem dX2_add_59 : decode cX2_add 59 = .ok (.getfield 39, 3) := by decide +kernel
theorem dX2_add_62 : decode cX2_add 62 = .ok (.iload 5, 2) := by decide +kernel
theorem dX2_add_64 : decode cX2_add 64 = .ok (.iload_n 1, 1) := by decide +kernel
theorem dX2_add_65 : decode cX2_add 65 = .ok (.iastore, 1) := by decide +kernel
theorem dX2_add_66 : decode cX2_add 66 = .ok (.aload_n 0, 1) := by decide +kernel
theorem dX2_add_67 : decode cX2_add 67 = .ok (.getfield 12, 3) := by decide +kernel
theorem dX2_add_70 : decode cX2_add 70 = .ok (.getfield 43, 3) := by decide +kernel
theorem dX2_add_73 : decode cX2_add 73 = .ok (.iload 5, 2) := by decide +kernel
theorem dX2_add_75 : decode cX2_add 75 = .ok (.iload_n 2, 1) := by decide +kernel
theorem dX2_add_76 : decode cX2_add 76 = .ok (.iastore, 1) := by decide +kernel
theorem dX2_add_77 : decode cX2_add 77 = .ok (.aload_n 0, 1) := by decide +kernel
theorem dX2_add_78 : decode cX2_add 78 = .ok (.getfield 12, 3) := by decide +kernel
theorem dX2_add_81 : decode cX2_add 81 = .ok (.getfield 46, 3) := by decide +kernel
theorem dX2_add_84 : decode cX2_add 84 = .ok (.iload 5, 2) := by decide +kernel
theorem dX2_add_86 : decode cX2_add 86 = .ok (.iload_n 3, 1) := by decide +kernel
theorem dX2_add_87 : decode cX2_add 87 = .ok (.iastore, 1) := by decide +kernel
theorem dX2_add_88 : decode cX2_add 88 = .ok (.aload_n 0, 1) := by decide +kernel
theorem dX2_add_89 : decode cX2_add 89 = .ok (.getfield 12, 3) := by decide +kernel
theorem dX2_add_92 : decode cX2_add 92 = .ok (.getfield 49, 3) := by decide +kernel
theorem dX2_add_95 : decode cX2_add 95 = .ok (.iload 5, 2) := by decide +kernel
theorem dX2_add_97 : decode cX2_add 97 = .ok (.iload 4, 2) := by decide +kernel
theorem dX2_add_99 : decode cX2_add 99 = .ok (.iastore, 1) := by decide +kernel
theorem dX2_add_100 : decode cX2_add 100 = .ok (.aload_n 0, 1) := by decide +kernel
theorem dX2_add_101 : decode cX2_add 101 = .ok (.getfield 12, 3) := by decide +kernel
theorem dX2_add_104 : decode cX2_add 104 = .ok (.dup, 1) := by decide +kernel
theorem dX2_add_105 : decode cX2_add 105 = .ok (.getfield 34, 3) := by decide +kernel
theorem dX2_add_108 : decode cX2_add 108 = .ok (.iconst 1, 1) := by decide +kernel
theorem dX2_add_109 : decode cX2_add 109 = .ok (.iadd, 1) := by decide +kernel
theorem dX2_add_110 : decode cX2_add 110 = .ok (.putfield 34, 3) := by decide +kernel
theorem dX2_add_113 : decode cX2_add 113 = .ok (.iload 5, 2) := by decide +kernel
theorem dX2_add_115 : decode cX2_add 115 = .ok (.ireturn, 1) := by decide +kernel
set_option maxRecDepth 20000 in
theorem ggX2_change_X2_isArc : GoodIn wsX2_change wsX2_isArc := goodIn_r _ [8, 1, 9, 13, 14, 15, 16, 17, 18, 19, 20] (by decide +kernel) (by decide +kernel)
set_option maxRecDepth 20000 in
theorem gX2_change_X2_isArc : GoodIn wsX2_change (wsV RX2 52 RX2 yX2_isArc wsX2_isArc) := goodIn_app (goodIn_of _ (by decide +kernel)) ggX2_change_X2_isArc
set_option maxRecDepth 20000 in
theorem ggX2_change_X2_isArcData : GoodIn wsX2_change wsX2_isArcData := goodIn_r _ [12] (by decide +kernel) (by decide +kernel)
set_option maxRecDepth 20000 in
theorem gX2_change_X2_isArcData : GoodIn wsX2_change (va_wsS RX2 29 yX2_isArcData wsX2_isArcData) := goodIn_app (goodIn_of _ (by decide +kernel)) ggX2_change_X2_isArcData
theorem dX2_change_0 : decode cX2_change 0 = .ok (.aload_n 0, 1) := by decide +kernel
theorem dX2_change_1 : decode cX2_change 1 = .ok (.iload_n 1, 1) := by decide +kernel
theorem dX2_change_2 : decode cX2_change 2 = .ok (.invokevirtual 52, 3) := by decide +kernel
theorem dX2_change_5 : decode cX2_change 5 = .ok (.ifCond .eq 11, 3) := by decide +kernel
theorem dX2_change_8 : decode cX2_change 8 = .ok (.iload_n 2, 1) := by decide +kernel
theorem dX2_change_9 : decode cX2_change 9 = .ok (.iload_n 3, 1) := by decide +kernel
theorem dX2_change_10 : decode cX2_change 10 = .ok (.invokestatic 29, 3) := by decide +kernel
theorem dX2_change_13 : decode cX2_change 13 = .ok (.ifCond .ne 5, 3) := by decide +kernel
theorem dX2_change_16 : decode cX2_change 16 = .ok (.iconst 0, 1) := by decide +kernel
theorem dX2_change_17 : decode cX2_change 17 = .ok (.ireturn, 1) := by decide +kernel
theorem dX2_change_18 : decode cX2_change 18 = .ok (.aload_n 0, 1) := by decide +kernel
theorem dX2_change_19 : decode cX2_change 19 = .ok (.getfield 12, 3) := by decide +kernel
theorem dX2_change_22 : decode cX2_change 22 = .ok (.getfield 46, 3) := by decide +kernel
theorem dX2_change_25 : decode cX2_change 25 = .ok (.iload_n 1, 1) := by decide +kernel
theorem dX2_change_26 : decode cX2_change 26 = .ok (.iload_n 2, 1) := by decide +kernel
theorem dX2_change_27 : decode cX2_change 27 = .ok (.iastore, 1) := by decide +kernel
theorem dX2_change_28 : decode cX2_change 28 = .ok (.aload_n 0, 1) := by decide +kernel
theorem dX2_change_29 : decode cX2_change 29 = .ok (.getfield 12, 3) := by decide +kernel
theorem dX2_change_32 : decode cX2_change 32 = .ok (.getfield 49, 3) := by decide +kernel
theorem dX2_change_35 : decode cX2_change 35 = .ok (.iload_n 1, 1) := by decide +kernel
theorem dX2_change_36 : decode cX2_change 36 = .ok (.iload_n 3, 1) := by decide +kernel
theorem dX2_change_37 : decode cX2_change 37 = .ok (.iastore, 1) := by decide +kernel
theorem dX2_change_38 : decode cX2_change 38 = .ok (.iconst 1, 1) := by decide +kernel
theorem dX2_change_39 : decode cX2_change 39 = .ok (.ireturn, 1) := by decide +kernel
set_option maxRecDepth 20000 in
theorem ggX2_supply_X2_isNode : GoodIn wsX2_supply wsX2_isNode := goodIn_r _ [6] (by decide +kernel) (by decide +kernel)
set_option maxRecDepth 20000 in
theorem gX2_supply_X2_isNode : GoodIn wsX2_supply (va_wsS RX2 25 yX2_isNode wsX2_isNode) := goodIn_app (goodIn_of _ (by decide +kernel)) ggX2_supply_X2_isNode
theorem dX2_supply_0 : decode cX2_supply 0 = .ok (.iload_n 1, 1) := by decide +kernel
theorem dX2_supply_1 : decode cX2_supply 1 = .ok (.invokestatic 25, 3) := by decide +kernel
theorem dX2_supply_4 : decode cX2_supply 4 = .ok (.ifCond .eq 15, 3) := by decide +kernel
theorem dX2_supply_7 : decode cX2_supply 7 = .ok (.iload_n 2, 1) := by decide +kernel
theorem dX2_supply_8 : decode cX2_supply 8 = .ok (.bipush (-30), 2) := by decide +kernel
theorem dX2_supply_10 : decode cX2_supply 10 = .ok (.if_icmp .lt 9, 3) := by decide +kernel
theorem dX2_supply_13 : decode cX2_supply 13 = .ok (.iload_n 2, 1) := by decide +kernel
theorem dX2_supply_14 : decode cX2_supply 14 = .ok (.bipush 30, 2) := by decide +kernel
theorem dX2_supply_16 : decode cX2_supply 16 = .ok (.if_icmp .le 5, 3) := by decide +kernel
theorem dX2_supply_19 : decode cX2_supply 19 = .ok (.iconst 0, 1) := by decide +kernel
theorem dX2_supply_20 : decode cX2_supply 20 = .ok (.ireturn, 1) := by decide +kernel
theorem dX2_supply_21 : decode cX2_supply 21 = .ok (.aload_n 0, 1) := by decide +kernel
theorem dX2_supply_22 : decode cX2_supply 22 = .ok (.getfield 12, 3) := by decide +kernel
theorem dX2_supply_25 : decode cX2_supply 25 = .ok (.getfield 55, 3) := by decide +kernel
theorem dX2_supply_28 : decode cX2_supply 28 = .ok (.iload_n 1, 1) := by decide +kernel
theorem dX2_supply_29 : decode cX2_supply 29 = .ok (.iload_n 2, 1) := by decide +kernel
theorem dX2_supply_30 : decode cX2_supply 30 = .ok (.iastore, 1) := by decide +kernel
theorem dX2_supply_31 : decode cX2_supply 31 = .ok (.iconst 1, 1) := by decide +kernel
theorem dX2_supply_32 : decode cX2_supply 32 = .ok (.ireturn, 1) := by decide +kernel
theorem dX2_clear_0 : decode cX2_clear 0 = .ok (.aload_n 0, 1) := by decide +kernel
theorem dX2_clear_1 : decode cX2_clear 1 = .ok (.getfield 12, 3) := by decide +kernel
theorem dX2_clear_4 : decode cX2_clear 4 = .ok (.iconst 0, 1) := by decide +kernel
theorem dX2_clear_5 : decode cX2_clear 5 = .ok (.putfield 34, 3) := by decide +kernel
theorem dX2_clear_8 : decode cX2_clear 8 = .ok (.iconst 0, 1) := by decide +kernel
theorem dX2_clear_9 : decode cX2_clear 9 = .ok (.istore_n 1, 1) := by decide +kernel
theorem dX2_clear_10 : decode cX2_clear 10 = .ok (.iload_n 1, 1) := by decide +kernel
theorem dX2_clear_11 : decode cX2_clear 11 = .ok (.bipush 8, 2) := by decide +kernel
theorem dX2_clear_13 : decode cX2_clear 13 = .ok (.if_icmp .ge 19, 3) := by decide +kernel
theorem dX2_clear_16 : decode cX2_clear 16 = .ok (.aload_n 0, 1) := by decide +kernel
theorem dX2_clear_17 : decode cX2_clear 17 = .ok (.getfield 12, 3) := by decide +kernel
theorem dX2_clear_20 : decode cX2_clear 20 = .ok (.getfield 55, 3) := by decide +kernel
theorem dX2_clear_23 : decode cX2_clear 23 = .ok (.iload_n 1, 1) := by decide +kernel
theorem dX2_clear_24 : decode cX2_clear 24 = .ok (.iconst 0, 1) := by decide +kernel
theorem dX2_clear_25 : decode cX2_clear 25 = .ok (.iastore, 1) := by decide +kernel
theorem dX2_clear_26 : decode cX2_clear 26 = .ok (.iinc 1 1, 3) := by decide +kernel
theorem dX2_clear_29 : decode cX2_clear 29 = .ok (.goto (-19), 3) := by decide +kernel
theorem dX2_clear_32 : decode cX2_clear 32 = .ok (.return_, 1) := by decide +kernel
theorem dX2_arcs_0 : decode cX2_arcs 0 = .ok (.aload_n 0, 1) := by decide +kernel
theorem dX2_arcs_1 : decode cX2_arcs 1 = .ok (.getfield 12, 3) := by decide +kernel
theorem dX2_arcs_4 : decode cX2_arcs 4 = .ok (.getfield 34, 3) := by decide +kernel
theorem dX2_arcs_7 : decode cX2_arcs 7 = .ok (.ireturn, 1) := by decide +kernel
set_option maxRecDepth 20000 in
theorem ggX2_state_X1_lay : GoodIn wsX2_state wsX1_lay := goodIn_r _ [8, 9, 10, 11, 12, 13, 14, 15, 16, 78, 79, 80, 81, 82, 83, 84, 85, 86, 87, 88, 89, 90, 91] (by decide +kernel) (by decide +kernel)
set_option maxRecDepth 20000 in
theorem gX2_state_X1_lay : GoodIn wsX2_state (wsV RX2 58 RX1 yX1_lay wsX1_lay) := goodIn_app (goodIn_of _ (by decide +kernel)) ggX2_state_X1_lay
set_option maxRecDepth 20000 in
theorem ggX2_state_X1_route : GoodIn wsX2_state wsX1_route := goodIn_r _ [20, 21, 22, 23, 7, 24, 25, 9, 10, 26, 13, 11, 15, 27, 28, 29, 30, 31, 32, 33, 34, 35, 36, 37, 38, 39, 40, 41, 12, 14, 42, 43, 44, 45, 46, 47, 48, 49, 50, 51, 52, 53, 54, 55, 56, 57, 58, 59, 60, 61, 62, 63, 64, 65, 66, 67, 68, 69, 70, 71, 78, 79, 80, 81, 82, 83, 84, 85, 86, 87, 88, 89, 90, 91] (by decide +kernel) (by decide +kernel)
set_option maxRecDepth 20000 in
theorem gX2_state_X1_route : GoodIn wsX2_state (wsV RX2 62 RX1 yX1_route wsX1_route) := goodIn_app (goodIn_of _ (by decide +kernel)) ggX2_state_X1_route
set_option maxRecDepth 20000 in
theorem ggX2_state_X1_isBalanced : GoodIn wsX2_state wsX1_isBalanced := goodIn_r _ [75, 40, 78, 79, 80, 81, 82, 83, 84, 85] (by decide +kernel) (by decide +kernel)
set_option maxRecDepth 20000 in
theorem gX2_state_X1_isBalanced : GoodIn wsX2_state (wsV RX2 66 RX1 yX1_isBalanced wsX1_isBalanced) := goodIn_app (goodIn_of _ (by decide +kernel)) ggX2_state_X1_isBalanced
theorem dX2_state_0 : decode cX2_state 0 = .ok (.aload_n 0, 1) := by decide +kernel
theorem dX2_state_1 : decode cX2_state 1 = .ok (.getfield 21, 3) := by decide +kernel
theorem dX2_state_4 : decode cX2_state 4 = .ok (.iconst 1, 1) := by decide +kernel
theorem dX2_state_5 : decode cX2_state 5 = .ok (.invokevirtual 58, 3) := by decide +kernel
theorem dX2_state_8 : decode cX2_state 8 = .ok (.aload_n 0, 1) := by decide +kernel
theorem dX2_state_9 : decode cX2_state 9 = .ok (.getfield 21, 3) := by decide +kernel
theorem dX2_state_12 : decode cX2_state 12 = .ok (.invokevirtual 62, 3) := by decide +kernel
theorem dX2_state_15 : decode cX2_state 15 = .ok (.ifCond .eq 20, 3) := by decide +kernel
theorem dX2_state_18 : decode cX2_state 18 = .ok (.aload_n 0, 1) := by decide +kernel
theorem dX2_state_19 : decode cX2_state 19 = .ok (.getfield 21, 3) := by decide +kernel
theorem dX2_state_22 : decode cX2_state 22 = .ok (.invokevirtual 66, 3) := by decide +kernel
theorem dX2_state_25 : decode cX2_state 25 = .ok (.ifCond .eq 7, 3) := by decide +kernel
theorem dX2_state_28 : decode cX2_state 28 = .ok (.iconst 0, 1) := by decide +kernel
theorem dX2_state_29 : decode cX2_state 29 = .ok (.goto 5, 3) := by decide +kernel
theorem dX2_state_32 : decode cX2_state 32 = .ok (.ldc 69, 2) := by decide +kernel
theorem dX2_state_34 : decode cX2_state 34 = .ok (.ireturn, 1) := by decide +kernel
theorem dX2_state_35 : decode cX2_state 35 = .ok (.aload_n 0, 1) := by decide +kernel
theorem dX2_state_36 : decode cX2_state 36 = .ok (.getfield 21, 3) := by decide +kernel
theorem dX2_state_39 : decode cX2_state 39 = .ok (.iconst 0, 1) := by decide +kernel
theorem dX2_state_40 : decode cX2_state 40 = .ok (.invokevirtual 58, 3) := by decide +kernel
theorem dX2_state_43 : decode cX2_state 43 = .ok (.aload_n 0, 1) := by decide +kernel
theorem dX2_state_44 : decode cX2_state 44 = .ok (.getfield 21, 3) := by decide +kernel
theorem dX2_state_47 : decode cX2_state 47 = .ok (.invokevirtual 62, 3) := by decide +kernel
theorem dX2_state_50 : decode cX2_state 50 = .ok (.pop, 1) := by decide +kernel
theorem dX2_state_51 : decode cX2_state 51 = .ok (.aload_n 0, 1) := by decide +kernel
theorem dX2_state_52 : decode cX2_state 52 = .ok (.getfield 21, 3) := by decide +kernel
theorem dX2_state_55 : decode cX2_state 55 = .ok (.invokevirtual 66, 3) := by decide +kernel
theorem dX2_state_58 : decode cX2_state 58 = .ok (.ifCond .eq 8, 3) := by decide +kernel
theorem dX2_state_61 : decode cX2_state 61 = .ok (.ldc 70, 2) := by decide +kernel
theorem dX2_state_63 : decode cX2_state 63 = .ok (.goto 5, 3) := by decide +kernel
theorem dX2_state_66 : decode cX2_state 66 = .ok (.ldc 69, 2) := by decide +kernel
theorem dX2_state_68 : decode cX2_state 68 = .ok (.ireturn, 1) := by decide +kernel
set_option maxRecDepth 20000 in
theorem ggX2_cost_X2_state : GoodIn wsX2_cost wsX2_state := goodIn_r _ [6, 1, 7, 8, 9, 10, 11, 12, 13, 14, 15, 16, 17, 18, 19, 20, 21, 22, 23, 24, 25, 26, 27, 28, 29, 30, 31, 32, 33, 34, 35, 36, 37, 38, 39, 40, 41, 42, 43, 44, 45, 46, 47, 48, 49, 50, 51, 52, 53, 54, 55, 56, 57, 58, 59, 60, 61, 62, 63, 64, 65, 66, 67, 68, 69, 70, 71, 72, 73, 74, 75, 76, 77, 78, 79, 80, 85, 86, 87, 88, 89, 90, 91, 92, 93, 94, 95, 96, 97, 98, 99, 100] (by decide +kernel) (by decide +kernel)
set_option maxRecDepth 20000 in
theorem gX2_cost_X2_state : GoodIn wsX2_cost (wsV RX2 71 RX2 yX2_state wsX2_state) := goodIn_app (goodIn_of _ (by decide +kernel)) ggX2_cost_X2_state
set_option maxRecDepth 20000 in
theorem ggX2_cost_X1_costOfFlow : GoodIn wsX2_cost wsX1_costOfFlow := goodIn_r _ [84, 14, 15, 21, 40, 87, 88, 89, 90, 91, 92, 93, 94, 95, 96, 97, 98, 99, 100] (by decide +kernel) (by decide +kernel)
set_option maxRecDepth 20000 in
theorem gX2_cost_X1_costOfFlow : GoodIn wsX2_cost (wsV RX2 75 RX1 yX1_costOfFlow wsX1_costOfFlow) := goodIn_app (goodIn_of _ (by decide +kernel)) ggX2_cost_X1_costOfFlow
theorem dX2_cost_0 : decode cX2_cost 0 = .ok (.aload_n 0, 1) := by decide +kernel
theorem dX2_cost_1 : decode cX2_cost 1 = .ok (.invokevirtual 71, 3) := by decide +kernel
theorem dX2_cost_4 : decode cX2_cost 4 = .ok (.istore_n 1, 1) := by decide +kernel
theorem dX2_cost_5 : decode cX2_cost 5 = .ok (.iload_n 1, 1) := by decide +kernel
theorem dX2_cost_6 : decode cX2_cost 6 = .ok (.ifCond .ne 13, 3) := by decide +kernel
theorem dX2_cost_9 : decode cX2_cost 9 = .ok (.aload_n 0, 1) := by decide +kernel
theorem dX2_cost_10 : decode cX2_cost 10 = .ok (.getfield 21, 3) := by decide +kernel
theorem dX2_cost_13 : decode cX2_cost 13 = .ok (.invokevirtual 75, 3) := by decide +kernel
theorem dX2_cost_16 : decode cX2_cost 16 = .ok (.goto 4, 3) := by decide +kernel
theorem dX2_cost_19 : decode cX2_cost 19 = .ok (.iload_n 1, 1) := by decide +kernel
theorem dX2_cost_20 : decode cX2_cost 20 = .ok (.ireturn, 1) := by decide +kernel
set_option maxRecDepth 20000 in
theorem ggX2_amount_X1_lay : GoodIn wsX2_amount wsX1_lay := goodIn_r _ [7, 8, 9, 10, 11, 12, 13, 14, 15, 89, 90, 91, 92, 93, 94, 95, 96, 97, 98, 99, 100, 101, 102] (by decide +kernel) (by decide +kernel)
set_option maxRecDepth 20000 in
theorem gX2_amount_X1_lay : GoodIn wsX2_amount (wsV RX2 58 RX1 yX1_lay wsX1_lay) := goodIn_app (goodIn_of _ (by decide +kernel)) ggX2_amount_X1_lay
set_option maxRecDepth 20000 in
theorem ggX2_amount_X1_route : GoodIn wsX2_amount wsX1_route := goodIn_r _ [19, 20, 21, 22, 6, 23, 24, 8, 9, 25, 12, 10, 14, 26, 27, 28, 29, 30, 31, 32, 33, 34, 35, 36, 37, 38, 39, 40, 11, 13, 41, 42, 43, 44, 45, 46, 47, 48, 49, 50, 51, 52, 53, 54, 55, 56, 57, 58, 59, 60, 61, 62, 63, 64, 65, 66, 67, 68, 69, 70, 89, 90, 91, 92, 93, 94, 95, 96, 97, 98, 99, 100, 101, 102] (by decide +kernel) (by decide +kernel)
set_option maxRecDepth 20000 in
theorem gX2_amount_X1_route : GoodIn wsX2_amount (wsV RX2 62 RX1 yX1_route wsX1_route) := goodIn_app (goodIn_of _ (by decide +kernel)) ggX2_amount_X1_route
set_option maxRecDepth 20000 in
theorem ggX2_amount_X0_totalSupply : GoodIn wsX2_amount wsX0_totalSupply := goodIn_r _ [75, 76, 77, 78, 79, 80, 81, 48, 82, 97, 98, 99, 100, 101, 102] (by decide +kernel) (by decide +kernel)
set_option maxRecDepth 20000 in
theorem gX2_amount_X0_totalSupply : GoodIn wsX2_amount (wsV RX2 78 RX0 yX0_totalSupply wsX0_totalSupply) := goodIn_app (goodIn_of _ (by decide +kernel)) ggX2_amount_X0_totalSupply
set_option maxRecDepth 20000 in
theorem ggX2_amount_X1_totalExcess : GoodIn wsX2_amount wsX1_totalExcess := goodIn_r _ [86, 39, 77, 78, 79, 80, 81, 48, 82, 89, 90, 91, 92, 93, 94, 95, 96] (by decide +kernel) (by decide +kernel)
set_option maxRecDepth 20000 in
theorem gX2_amount_X1_totalExcess : GoodIn wsX2_amount (wsV RX2 81 RX1 yX1_totalExcess wsX1_totalExcess) := goodIn_app (goodIn_of _ (by decide +kernel)) ggX2_amount_X1_totalExcess
theorem dX2_amount_0 : decode cX2_amount 0 = .ok (.aload_n 0, 1) := by decide +kernel
theorem dX2_amount_1 : decode cX2_amount 1 = .ok (.getfield 21, 3) := by decide +kernel
theorem dX2_amount_4 : decode cX2_amount 4 = .ok (.iconst 0, 1) := by decide +kernel
theorem dX2_amount_5 : decode cX2_amount 5 = .ok (.invokevirtual 58, 3) := by decide +kernel
theorem dX2_amount_8 : decode cX2_amount 8 = .ok (.aload_n 0, 1) := by decide +kernel
theorem dX2_amount_9 : decode cX2_amount 9 = .ok (.getfield 21, 3) := by decide +kernel
theorem dX2_amount_12 : decode cX2_amount 12 = .ok (.invokevirtual 62, 3) := by decide +kernel
theorem dX2_amount_15 : decode cX2_amount 15 = .ok (.pop, 1) := by decide +kernel
theorem dX2_amount_16 : decode cX2_amount 16 = .ok (.aload_n 0, 1) := by decide +kernel
theorem dX2_amount_17 : decode cX2_amount 17 = .ok (.getfield 12, 3) := by decide +kernel
theorem dX2_amount_20 : decode cX2_amount 20 = .ok (.invokevirtual 78, 3) := by decide +kernel
theorem dX2_amount_23 : decode cX2_amount 23 = .ok (.aload_n 0, 1) := by decide +kernel
theorem dX2_amount_24 : decode cX2_amount 24 = .ok (.getfield 21, 3) := by decide +kernel
theorem dX2_amount_27 : decode cX2_amount 27 = .ok (.invokevirtual 81, 3) := by decide +kernel
theorem dX2_amount_30 : decode cX2_amount 30 = .ok (.isub, 1) := by decide +kernel
theorem dX2_amount_31 : decode cX2_amount 31 = .ok (.ireturn, 1) := by decide +kernel
set_option maxRecDepth 20000 in
theorem ggX2_bottleneck_X1_lay : GoodIn wsX2_bottleneck wsX1_lay := goodIn_r _ [6, 7, 8, 9, 10, 11, 12, 13, 14, 76, 77, 78, 79, 80, 81, 82, 83, 84, 85, 86, 87, 88, 89] (by decide +kernel) (by decide +kernel)
set_option maxRecDepth 20000 in
theorem gX2_bottleneck_X1_lay : GoodIn wsX2_bottleneck (wsV RX2 58 RX1 yX1_lay wsX1_lay) := goodIn_app (goodIn_of _ (by decide +kernel)) ggX2_bottleneck_X1_lay
set_option maxRecDepth 20000 in
theorem ggX2_bottleneck_X1_route : GoodIn wsX2_bottleneck wsX1_route := goodIn_r _ [18, 19, 20, 21, 5, 22, 23, 7, 8, 24, 11, 9, 13, 25, 26, 27, 28, 29, 30, 31, 32, 33, 34, 35, 36, 37, 38, 39, 10, 12, 40, 41, 42, 43, 44, 45, 46, 47, 48, 49, 50, 51, 52, 53, 54, 55, 56, 57, 58, 59, 60, 61, 62, 63, 64, 65, 66, 67, 68, 69, 76, 77, 78, 79, 80, 81, 82, 83, 84, 85, 86, 87, 88, 89] (by decide +kernel) (by decide +kernel)
set_option maxRecDepth 20000 in
theorem gX2_bottleneck_X1_route : GoodIn wsX2_bottleneck (wsV RX2 62 RX1 yX1_route wsX1_route) := goodIn_app (goodIn_of _ (by decide +kernel)) ggX2_bottleneck_X1_route
set_option maxRecDepth 20000 in
theorem ggX2_bottleneck_X1_nodesBehindExcess : GoodIn wsX2_bottleneck wsX1_nodesBehindExcess := goodIn_r _ [73, 23, 57, 49, 50, 51, 5, 52, 38, 53, 54, 55, 56, 44, 58, 59, 60, 61, 7, 8, 33, 9, 11, 13, 25, 26, 27, 28, 76, 77, 78, 79, 80, 81, 82, 83, 84, 85, 86, 87, 88, 89] (by decide +kernel) (by decide +kernel)
set_option maxRecDepth 20000 in
theorem gX2_bottleneck_X1_nodesBehindExcess : GoodIn wsX2_bottleneck (wsV RX2 84 RX1 yX1_nodesBehindExcess wsX1_nodesBehindExcess) := goodIn_app (goodIn_of _ (by decide +kernel)) ggX2_bottleneck_X1_nodesBehindExcess
theorem dX2_bottleneck_0 : decode cX2_bottleneck 0 = .ok (.aload_n 0, 1) := by decide +kernel
theorem dX2_bottleneck_1 : decode cX2_bottleneck 1 = .ok (.getfield 21, 3) := by decide +kernel
theorem dX2_bottleneck_4 : decode cX2_bottleneck 4 = .ok (.iconst 0, 1) := by decide +kernel
theorem dX2_bottleneck_5 : decode cX2_bottleneck 5 = .ok (.invokevirtual 58, 3) := by decide +kernel
theorem dX2_bottleneck_8 : decode cX2_bottleneck 8 = .ok (.aload_n 0, 1) := by decide +kernel
theorem dX2_bottleneck_9 : decode cX2_bottleneck 9 = .ok (.getfield 21, 3) := by decide +kernel
theorem dX2_bottleneck_12 : decode cX2_bottleneck 12 = .ok (.invokevirtual 62, 3) := by decide +kernel
theorem dX2_bottleneck_15 : decode cX2_bottleneck 15 = .ok (.pop, 1) := by decide +kernel
theorem dX2_bottleneck_16 : decode cX2_bottleneck 16 = .ok (.aload_n 0, 1) := by decide +kernel
theorem dX2_bottleneck_17 : decode cX2_bottleneck 17 = .ok (.getfield 21, 3) := by decide +kernel
theorem dX2_bottleneck_20 : decode cX2_bottleneck 20 = .ok (.invokevirtual 84, 3) := by decide +kernel
theorem dX2_bottleneck_23 : decode cX2_bottleneck 23 = .ok (.ireturn, 1) := by decide +kernel
set_option maxRecDepth 20000 in
theorem ggX2_marginal_X2_isNode : GoodIn wsX2_marginal wsX2_isNode := goodIn_r _ [7] (by decide +kernel) (by decide +kernel)
set_option maxRecDepth 20000 in
theorem gX2_marginal_X2_isNode : GoodIn wsX2_marginal (va_wsS RX2 25 yX2_isNode wsX2_isNode) := goodIn_app (goodIn_of _ (by decide +kernel)) ggX2_marginal_X2_isNode
set_option maxRecDepth 20000 in
theorem ggX2_marginal_X2_state : GoodIn wsX2_marginal wsX2_state := goodIn_r _ [11, 2, 12, 13, 14, 15, 16, 17, 18, 19, 20, 21, 22, 23, 24, 25, 26, 27, 28, 29, 30, 31, 32, 33, 34, 35, 36, 37, 38, 39, 40, 41, 42, 43, 44, 45, 46, 47, 48, 49, 50, 51, 52, 53, 54, 55, 56, 57, 58, 59, 60, 61, 62, 63, 64, 65, 66, 67, 68, 69, 70, 71, 72, 73, 74, 75, 76, 77, 78, 79, 80, 81, 82, 83, 84, 85, 94, 95, 96, 97, 98, 99, 100, 101, 102, 103, 104, 105, 106, 107, 108, 109] (by decide +kernel) (by decide +kernel)
set_option maxRecDepth 20000 in
theorem gX2_marginal_X2_state : GoodIn wsX2_marginal (wsV RX2 71 RX2 yX2_state wsX2_state) := goodIn_app (goodIn_of _ (by decide +kernel)) ggX2_marginal_X2_state
set_option maxRecDepth 20000 in
theorem ggX2_marginal_X1_canReach : GoodIn wsX2_marginal wsX1_canReach := goodIn_r _ [89, 35, 69, 65, 66, 67, 17, 68, 56, 70, 71, 72, 73, 19, 20, 45, 21, 23, 25, 37, 38, 39, 40, 96, 97, 98, 99, 100, 101, 102, 103, 104, 105, 106, 107, 108, 109] (by decide +kernel) (by decide +kernel)
set_option maxRecDepth 20000 in
theorem gX2_marginal_X1_canReach : GoodIn wsX2_marginal (wsV RX2 87 RX1 yX1_canReach wsX1_canReach) := goodIn_app (goodIn_of _ (by decide +kernel)) ggX2_marginal_X1_canReach
set_option maxRecDepth 20000 in
theorem ggX2_marginal_X1_distanceTo : GoodIn wsX2_marginal wsX1_distanceTo := goodIn_r _ [93, 35, 96, 97, 98, 99, 100, 101, 102, 103] (by decide +kernel) (by decide +kernel)
set_option maxRecDepth 20000 in
theorem gX2_marginal_X1_distanceTo : GoodIn wsX2_marginal (wsV RX2 91 RX1 yX1_distanceTo wsX1_distanceTo) := goodIn_app (goodIn_of _ (by decide +kernel)) ggX2_marginal_X1_distanceTo
theorem dX2_marginal_0 : decode cX2_marginal 0 = .ok (.iload_n 1, 1) := by decide +kernel
theorem dX2_marginal_1 : decode cX2_marginal 1 = .ok (.invokestatic 25, 3) := by decide +kernel
theorem dX2_marginal_4 : decode cX2_marginal 4 = .ok (.ifCond .eq 10, 3) := by decide +kernel
theorem dX2_marginal_7 : decode cX2_marginal 7 = .ok (.iload_n 2, 1) := by decide +kernel
theorem dX2_marginal_8 : decode cX2_marginal 8 = .ok (.invokestatic 25, 3) := by decide +kernel
theorem dX2_marginal_11 : decode cX2_marginal 11 = .ok (.ifCond .ne 6, 3) := by decide +kernel
theorem dX2_marginal_14 : decode cX2_marginal 14 = .ok (.ldc 33, 2) := by decide +kernel
theorem dX2_marginal_16 : decode cX2_marginal 16 = .ok (.ireturn, 1) := by decide +kernel
theorem dX2_marginal_17 : decode cX2_marginal 17 = .ok (.aload_n 0, 1) := by decide +kernel
theorem dX2_marginal_18 : decode cX2_marginal 18 = .ok (.invokevirtual 71, 3) := by decide +kernel
theorem dX2_marginal_21 : decode cX2_marginal 21 = .ok (.istore_n 3, 1) := by decide +kernel
theorem dX2_marginal_22 : decode cX2_marginal 22 = .ok (.iload_n 3, 1) := by decide +kernel
theorem dX2_marginal_23 : decode cX2_marginal 23 = .ok (.ifCond .eq 5, 3) := by decide +kernel
theorem dX2_marginal_26 : decode cX2_marginal 26 = .ok (.iload_n 3, 1) := by decide +kernel
theorem dX2_marginal_27 : decode cX2_marginal 27 = .ok (.ireturn, 1) := by decide +kernel
theorem dX2_marginal_28 : decode cX2_marginal 28 = .ok (.aload_n 0, 1) := by decide +kernel
theorem dX2_marginal_29 : decode cX2_marginal 29 = .ok (.getfield 21, 3) := by decide +kernel
theorem dX2_marginal_32 : decode cX2_marginal 32 = .ok (.iload_n 1, 1) := by decide +kernel
theorem dX2_marginal_33 : decode cX2_marginal 33 = .ok (.iload_n 2, 1) := by decide +kernel
theorem dX2_marginal_34 : decode cX2_marginal 34 = .ok (.iconst (-1), 1) := by decide +kernel
theorem dX2_marginal_35 : decode cX2_marginal 35 = .ok (.invokevirtual 87, 3) := by decide +kernel
theorem dX2_marginal_38 : decode cX2_marginal 38 = .ok (.ifCond .eq 14, 3) := by decide +kernel
theorem dX2_marginal_41 : decode cX2_marginal 41 = .ok (.aload_n 0, 1) := by decide +kernel
theorem dX2_marginal_42 : decode cX2_marginal 42 = .ok (.getfield 21, 3) := by decide +kernel
theorem dX2_marginal_45 : decode cX2_marginal 45 = .ok (.iload_n 2, 1) := by decide +kernel
theorem dX2_marginal_46 : decode cX2_marginal 46 = .ok (.invokevirtual 91, 3) := by decide +kernel
theorem dX2_marginal_49 : decode cX2_marginal 49 = .ok (.goto 5, 3) := by decide +kernel
theorem dX2_marginal_52 : decode cX2_marginal 52 = .ok (.ldc 95, 2) := by decide +kernel
theorem dX2_marginal_54 : decode cX2_marginal 54 = .ok (.ireturn, 1) := by decide +kernel
set_option maxRecDepth 20000 in
theorem ggX2_least_X2_isArc : GoodIn wsX2_least wsX2_isArc := goodIn_r _ [7, 8, 9, 100, 101, 102, 103, 104, 105, 106, 107] (by decide +kernel) (by decide +kernel)
set_option maxRecDepth 20000 in
theorem gX2_least_X2_isArc : GoodIn wsX2_least (wsV RX2 52 RX2 yX2_isArc wsX2_isArc) := goodIn_app (goodIn_of _ (by decide +kernel)) ggX2_least_X2_isArc
set_option maxRecDepth 20000 in
theorem ggX2_least_X2_state : GoodIn wsX2_least wsX2_state := goodIn_r _ [13, 2, 14, 15, 16, 17, 18, 19, 20, 21, 22, 23, 24, 25, 26, 27, 28, 29, 30, 31, 32, 33, 34, 35, 36, 37, 38, 39, 40, 41, 42, 43, 44, 45, 46, 47, 48, 49, 50, 51, 52, 53, 54, 55, 56, 57, 58, 59, 60, 61, 62, 63, 64, 65, 66, 67, 68, 69, 70, 71, 72, 73, 74, 75, 76, 77, 78, 79, 80, 81, 82, 83, 84, 85, 86, 87, 100, 101, 108, 109, 110, 111, 112, 113, 114, 115, 102, 103, 104, 105, 106, 107] (by decide +kernel) (by decide +kernel)
set_option maxRecDepth 20000 in
theorem gX2_least_X2_state : GoodIn wsX2_least (wsV RX2 71 RX2 yX2_state wsX2_state) := goodIn_app (goodIn_of _ (by decide +kernel)) ggX2_least_X2_state
set_option maxRecDepth 20000 in
theorem ggX2_least_X2_routeTilted : GoodIn wsX2_least wsX2_routeTilted := goodIn_r _ [91, 2, 16, 17, 18, 19, 20, 21, 22, 23, 24, 25, 26, 27, 28, 92, 93, 94, 95, 29, 30, 31, 32, 33, 34, 35, 36, 37, 38, 39, 40, 41, 42, 43, 44, 45, 46, 47, 48, 49, 50, 51, 52, 53, 54, 55, 56, 57, 58, 59, 60, 61, 62, 63, 64, 65, 66, 67, 68, 69, 70, 71, 72, 73, 74, 75, 76, 77, 78, 79, 80, 81, 82, 83, 100, 101, 108, 109, 110, 111, 112, 113, 114, 115, 102, 103, 104, 105, 106, 107] (by decide +kernel) (by decide +kernel)
set_option maxRecDepth 20000 in
theorem gX2_least_X2_routeTilted : GoodIn wsX2_least (wsV RX2 96 RX2 yX2_routeTilted wsX2_routeTilted) := goodIn_app (goodIn_of _ (by decide +kernel)) ggX2_least_X2_routeTilted
set_option maxRecDepth 20000 in
theorem ggX2_least_X1_flowOf : GoodIn wsX2_least wsX1_flowOf := goodIn_r _ [99, 47, 108, 109, 110, 111, 112, 113, 114, 115] (by decide +kernel) (by decide +kernel)
set_option maxRecDepth 20000 in
theorem gX2_least_X1_flowOf : GoodIn wsX2_least (wsV RX2 99 RX1 yX1_flowOf wsX1_flowOf) := goodIn_app (goodIn_of _ (by decide +kernel)) ggX2_least_X1_flowOf
theorem dX2_least_0 : decode cX2_least 0 = .ok (.aload_n 0, 1) := by decide +kernel
theorem dX2_least_1 : decode cX2_least 1 = .ok (.iload_n 1, 1) := by decide +kernel
theorem dX2_least_2 : decode cX2_least 2 = .ok (.invokevirtual 52, 3) := by decide +kernel
theorem dX2_least_5 : decode cX2_least 5 = .ok (.ifCond .ne 6, 3) := by decide +kernel
theorem dX2_least_8 : decode cX2_least 8 = .ok (.ldc 33, 2) := by decide +kernel
theorem dX2_least_10 : decode cX2_least 10 = .ok (.ireturn, 1) := by decide +kernel
theorem dX2_least_11 : decode cX2_least 11 = .ok (.aload_n 0, 1) := by decide +kernel
theorem dX2_least_12 : decode cX2_least 12 = .ok (.invokevirtual 71, 3) := by decide +kernel
theorem dX2_least_15 : decode cX2_least 15 = .ok (.istore_n 2, 1) := by decide +kernel
theorem dX2_least_16 : decode cX2_least 16 = .ok (.iload_n 2, 1) := by decide +kernel
theorem dX2_least_17 : decode cX2_least 17 = .ok (.ifCond .eq 5, 3) := by decide +kernel
theorem dX2_least_20 : decode cX2_least 20 = .ok (.iload_n 2, 1) := by decide +kernel
theorem dX2_least_21 : decode cX2_least 21 = .ok (.ireturn, 1) := by decide +kernel
theorem dX2_least_22 : decode cX2_least 22 = .ok (.aload_n 0, 1) := by decide +kernel
theorem dX2_least_23 : decode cX2_least 23 = .ok (.iload_n 1, 1) := by decide +kernel
theorem dX2_least_24 : decode cX2_least 24 = .ok (.iconst 1, 1) := by decide +kernel
theorem dX2_least_25 : decode cX2_least 25 = .ok (.invokevirtual 96, 3) := by decide +kernel
theorem dX2_least_28 : decode cX2_least 28 = .ok (.pop, 1) := by decide +kernel
theorem dX2_least_29 : decode cX2_least 29 = .ok (.aload_n 0, 1) := by decide +kernel
theorem dX2_least_30 : decode cX2_least 30 = .ok (.getfield 21, 3) := by decide +kernel
theorem dX2_least_33 : decode cX2_least 33 = .ok (.iload_n 1, 1) := by decide +kernel
theorem dX2_least_34 : decode cX2_least 34 = .ok (.invokevirtual 99, 3) := by decide +kernel
theorem dX2_least_37 : decode cX2_least 37 = .ok (.ireturn, 1) := by decide +kernel
set_option maxRecDepth 20000 in
theorem ggX2_most_X2_isArc : GoodIn wsX2_most wsX2_isArc := goodIn_r _ [8, 9, 10, 101, 102, 103, 104, 105, 106, 107, 108] (by decide +kernel) (by decide +kernel)
set_option maxRecDepth 20000 in
theorem gX2_most_X2_isArc : GoodIn wsX2_most (wsV RX2 52 RX2 yX2_isArc wsX2_isArc) := goodIn_app (goodIn_of _ (by decide +kernel)) ggX2_most_X2_isArc
set_option maxRecDepth 20000 in
theorem ggX2_most_X2_state : GoodIn wsX2_most wsX2_state := goodIn_r _ [14, 2, 15, 16, 17, 18, 19, 20, 21, 22, 23, 24, 25, 26, 27, 28, 29, 30, 31, 32, 33, 34, 35, 36, 37, 38, 39, 40, 41, 42, 43, 44, 45, 46, 47, 48, 49, 50, 51, 52, 53, 54, 55, 56, 57, 58, 59, 60, 61, 62, 63, 64, 65, 66, 67, 68, 69, 70, 71, 72, 73, 74, 75, 76, 77, 78, 79, 80, 81, 82, 83, 84, 85, 86, 87, 88, 101, 102, 109, 110, 111, 112, 113, 114, 115, 116, 103, 104, 105, 106, 107, 108] (by decide +kernel) (by decide +kernel)
set_option maxRecDepth 20000 in
theorem gX2_most_X2_state : GoodIn wsX2_most (wsV RX2 71 RX2 yX2_state wsX2_state) := goodIn_app (goodIn_of _ (by decide +kernel)) ggX2_most_X2_state
set_option maxRecDepth 20000 in
theorem ggX2_most_X2_routeTilted : GoodIn wsX2_most wsX2_routeTilted := goodIn_r _ [92, 2, 17, 18, 19, 20, 21, 22, 23, 24, 25, 26, 27, 28, 29, 93, 94, 95, 96, 30, 31, 32, 33, 34, 35, 36, 37, 38, 39, 40, 41, 42, 43, 44, 45, 46, 47, 48, 49, 50, 51, 52, 53, 54, 55, 56, 57, 58, 59, 60, 61, 62, 63, 64, 65, 66, 67, 68, 69, 70, 71, 72, 73, 74, 75, 76, 77, 78, 79, 80, 81, 82, 83, 84, 101, 102, 109, 110, 111, 112, 113, 114, 115, 116, 103, 104, 105, 106, 107, 108] (by decide +kernel) (by decide +kernel)
set_option maxRecDepth 20000 in
theorem gX2_most_X2_routeTilted : GoodIn wsX2_most (wsV RX2 96 RX2 yX2_routeTilted wsX2_routeTilted) := goodIn_app (goodIn_of _ (by decide +kernel)) ggX2_most_X2_routeTilted
set_option maxRecDepth 20000 in
theorem ggX2_most_X1_flowOf : GoodIn wsX2_most wsX1_flowOf := goodIn_r _ [100, 48, 109, 110, 111, 112, 113, 114, 115, 116] (by decide +kernel) (by decide +kernel)
set_option maxRecDepth 20000 in
theorem gX2_most_X1_flowOf : GoodIn wsX2_most (wsV RX2 99 RX1 yX1_flowOf wsX1_flowOf) := goodIn_app (goodIn_of _ (by decide +kernel)) ggX2_most_X1_flowOf
theorem dX2_most_0 : decode cX2_most 0 = .ok (.aload_n 0, 1) := by decide +kernel
theorem dX2_most_1 : decode cX2_most 1 = .ok (.iload_n 1, 1) := by decide +kernel
theorem dX2_most_2 : decode cX2_most 2 = .ok (.invokevirtual 52, 3) := by decide +kernel
theorem dX2_most_5 : decode cX2_most 5 = .ok (.ifCond .ne 6, 3) := by decide +kernel
theorem dX2_most_8 : decode cX2_most 8 = .ok (.ldc 33, 2) := by decide +kernel
theorem dX2_most_10 : decode cX2_most 10 = .ok (.ireturn, 1) := by decide +kernel
theorem dX2_most_11 : decode cX2_most 11 = .ok (.aload_n 0, 1) := by decide +kernel
theorem dX2_most_12 : decode cX2_most 12 = .ok (.invokevirtual 71, 3) := by decide +kernel
theorem dX2_most_15 : decode cX2_most 15 = .ok (.istore_n 2, 1) := by decide +kernel
theorem dX2_most_16 : decode cX2_most 16 = .ok (.iload_n 2, 1) := by decide +kernel
theorem dX2_most_17 : decode cX2_most 17 = .ok (.ifCond .eq 5, 3) := by decide +kernel
theorem dX2_most_20 : decode cX2_most 20 = .ok (.iload_n 2, 1) := by decide +kernel
theorem dX2_most_21 : decode cX2_most 21 = .ok (.ireturn, 1) := by decide +kernel
theorem dX2_most_22 : decode cX2_most 22 = .ok (.aload_n 0, 1) := by decide +kernel
theorem dX2_most_23 : decode cX2_most 23 = .ok (.iload_n 1, 1) := by decide +kernel
theorem dX2_most_24 : decode cX2_most 24 = .ok (.iconst (-1), 1) := by decide +kernel
theorem dX2_most_25 : decode cX2_most 25 = .ok (.invokevirtual 96, 3) := by decide +kernel
theorem dX2_most_28 : decode cX2_most 28 = .ok (.ifCond .eq 14, 3) := by decide +kernel
theorem dX2_most_31 : decode cX2_most 31 = .ok (.aload_n 0, 1) := by decide +kernel
theorem dX2_most_32 : decode cX2_most 32 = .ok (.getfield 21, 3) := by decide +kernel
theorem dX2_most_35 : decode cX2_most 35 = .ok (.iload_n 1, 1) := by decide +kernel
theorem dX2_most_36 : decode cX2_most 36 = .ok (.invokevirtual 99, 3) := by decide +kernel
theorem dX2_most_39 : decode cX2_most 39 = .ok (.goto 5, 3) := by decide +kernel
theorem dX2_most_42 : decode cX2_most 42 = .ok (.ldc 95, 2) := by decide +kernel
theorem dX2_most_44 : decode cX2_most 44 = .ok (.ireturn, 1) := by decide +kernel
set_option maxRecDepth 20000 in
theorem ggX2_slack_X2_most : GoodIn wsX2_slack wsX2_most := goodIn_r _ [16, 17, 4, 1, 18, 19, 20, 15, 21, 2, 22, 23, 24, 25, 26, 27, 28, 29, 30, 31, 32, 33, 34, 35, 36, 37, 38, 39, 40, 41, 42, 43, 44, 45, 46, 47, 48, 49, 50, 51, 52, 53, 54, 55, 56, 57, 58, 59, 60, 61, 62, 63, 64, 65, 66, 67, 68, 69, 70, 71, 72, 9, 10, 11, 73, 74, 75, 76, 77, 78, 79, 80, 81, 82, 83, 84, 85, 86, 87, 88, 89, 90, 91, 92, 93, 94, 95, 96, 97, 98, 99, 100, 101, 102, 103, 104, 105, 106, 107, 108, 109, 118, 119, 120, 121, 122, 123, 124, 125, 126, 127, 128, 129, 130, 131, 132, 133] (by decide +kernel) (by decide +kernel)
set_option maxRecDepth 20000 in
theorem gX2_slack_X2_most : GoodIn wsX2_slack (wsV RX2 102 RX2 yX2_most wsX2_most) := goodIn_app (goodIn_of _ (by decide +kernel)) ggX2_slack_X2_most
set_option maxRecDepth 20000 in
theorem ggX2_slack_X1_lay : GoodIn wsX2_slack wsX1_lay := goodIn_r _ [33, 34, 35, 36, 37, 38, 39, 40, 41, 126, 127, 128, 129, 130, 131, 132, 133, 120, 121, 122, 123, 124, 125] (by decide +kernel) (by decide +kernel)
set_option maxRecDepth 20000 in
theorem gX2_slack_X1_lay : GoodIn wsX2_slack (wsV RX2 58 RX1 yX1_lay wsX1_lay) := goodIn_app (goodIn_of _ (by decide +kernel)) ggX2_slack_X1_lay
set_option maxRecDepth 20000 in
theorem ggX2_slack_X1_canReach : GoodIn wsX2_slack wsX1_canReach := goodIn_r _ [113, 50, 81, 77, 78, 79, 32, 80, 71, 82, 83, 84, 85, 34, 35, 60, 36, 38, 40, 52, 53, 54, 55, 126, 127, 128, 129, 130, 131, 132, 133, 120, 121, 122, 123, 124, 125] (by decide +kernel) (by decide +kernel)
set_option maxRecDepth 20000 in
theorem gX2_slack_X1_canReach : GoodIn wsX2_slack (wsV RX2 87 RX1 yX1_canReach wsX1_canReach) := goodIn_app (goodIn_of _ (by decide +kernel)) ggX2_slack_X1_canReach
set_option maxRecDepth 20000 in
theorem ggX2_slack_X1_distanceTo : GoodIn wsX2_slack wsX1_distanceTo := goodIn_r _ [117, 50, 126, 127, 128, 129, 130, 131, 132, 133] (by decide +kernel) (by decide +kernel)
set_option maxRecDepth 20000 in
theorem gX2_slack_X1_distanceTo : GoodIn wsX2_slack (wsV RX2 91 RX1 yX1_distanceTo wsX1_distanceTo) := goodIn_app (goodIn_of _ (by decide +kernel)) ggX2_slack_X1_distanceTo
theorem dX2_slack_0 : decode cX2_slack 0 = .ok (.aload_n 0, 1) := by decide +kernel
theorem dX2_slack_1 : decode cX2_slack 1 = .ok (.iload_n 1, 1) := by decide +kernel
theorem dX2_slack_2 : decode cX2_slack 2 = .ok (.invokevirtual 102, 3) := by decide +kernel
theorem dX2_slack_5 : decode cX2_slack 5 = .ok (.istore_n 2, 1) := by decide +kernel
theorem dX2_slack_6 : decode cX2_slack 6 = .ok (.iload_n 2, 1) := by decide +kernel
theorem dX2_slack_7 : decode cX2_slack 7 = .ok (.ldc 95, 2) := by decide +kernel
theorem dX2_slack_9 : decode cX2_slack 9 = .ok (.if_icmp .ne 5, 3) := by decide +kernel
theorem dX2_slack_12 : decode cX2_slack 12 = .ok (.iconst 0, 1) := by decide +kernel
theorem dX2_slack_13 : decode cX2_slack 13 = .ok (.ireturn, 1) := by decide +kernel
theorem dX2_slack_14 : decode cX2_slack 14 = .ok (.iload_n 2, 1) := by decide +kernel
theorem dX2_slack_15 : decode cX2_slack 15 = .ok (.ifCond .ge 5, 3) := by decide +kernel
theorem dX2_slack_18 : decode cX2_slack 18 = .ok (.iload_n 2, 1) := by decide +kernel
theorem dX2_slack_19 : decode cX2_slack 19 = .ok (.ireturn, 1) := by decide +kernel
theorem dX2_slack_20 : decode cX2_slack 20 = .ok (.iload_n 2, 1) := by decide +kernel
theorem dX2_slack_21 : decode cX2_slack 21 = .ok (.aload_n 0, 1) := by decide +kernel
theorem dX2_slack_22 : decode cX2_slack 22 = .ok (.getfield 12, 3) := by decide +kernel
theorem dX2_slack_25 : decode cX2_slack 25 = .ok (.getfield 46, 3) := by decide +kernel
theorem dX2_slack_28 : decode cX2_slack 28 = .ok (.iload_n 1, 1) := by decide +kernel
theorem dX2_slack_29 : decode cX2_slack 29 = .ok (.iaload, 1) := by decide +kernel
theorem dX2_slack_30 : decode cX2_slack 30 = .ok (.if_icmp .ne 6, 3) := by decide +kernel
theorem dX2_slack_33 : decode cX2_slack 33 = .ok (.bipush 40, 2) := by decide +kernel
theorem dX2_slack_35 : decode cX2_slack 35 = .ok (.ireturn, 1) := by decide +kernel
theorem dX2_slack_36 : decode cX2_slack 36 = .ok (.aload_n 0, 1) := by decide +kernel
theorem dX2_slack_37 : decode cX2_slack 37 = .ok (.getfield 21, 3) := by decide +kernel
theorem dX2_slack_40 : decode cX2_slack 40 = .ok (.iconst 1, 1) := by decide +kernel
theorem dX2_slack_41 : decode cX2_slack 41 = .ok (.invokevirtual 58, 3) := by decide +kernel
theorem dX2_slack_44 : decode cX2_slack 44 = .ok (.aload_n 0, 1) := by decide +kernel
theorem dX2_slack_45 : decode cX2_slack 45 = .ok (.getfield 21, 3) := by decide +kernel
theorem dX2_slack_48 : decode cX2_slack 48 = .ok (.aload_n 0, 1) := by decide +kernel
theorem dX2_slack_49 : decode cX2_slack 49 = .ok (.getfield 12, 3) := by decide +kernel
theorem dX2_slack_52 : decode cX2_slack 52 = .ok (.getfield 43, 3) := by decide +kernel
theorem dX2_slack_55 : decode cX2_slack 55 = .ok (.iload_n 1, 1) := by decide +kernel
theorem dX2_slack_56 : decode cX2_slack 56 = .ok (.iaload, 1) := by decide +kernel
theorem dX2_slack_57 : decode cX2_slack 57 = .ok (.aload_n 0, 1) := by decide +kernel
theorem dX2_slack_58 : decode cX2_slack 58 = .ok (.getfield 12, 3) := by decide +kernel
theorem dX2_slack_61 : decode cX2_slack 61 = .ok (.getfield 39, 3) := by decide +kernel
theorem dX2_slack_64 : decode cX2_slack 64 = .ok (.iload_n 1, 1) := by decide +kernel
theorem dX2_slack_65 : decode cX2_slack 65 = .ok (.iaload, 1) := by decide +kernel
theorem dX2_slack_66 : decode cX2_slack 66 = .ok (.iload_n 1, 1) := by decide +kernel
theorem dX2_slack_67 : decode cX2_slack 67 = .ok (.invokevirtual 87, 3) := by decide +kernel
theorem dX2_slack_70 : decode cX2_slack 70 = .ok (.ifCond .ne 6, 3) := by decide +kernel
theorem dX2_slack_73 : decode cX2_slack 73 = .ok (.bipush 40, 2) := by decide +kernel
theorem dX2_slack_75 : decode cX2_slack 75 = .ok (.ireturn, 1) := by decide +kernel
theorem dX2_slack_76 : decode cX2_slack 76 = .ok (.aload_n 0, 1) := by decide +kernel
theorem dX2_slack_77 : decode cX2_slack 77 = .ok (.getfield 12, 3) := by decide +kernel
theorem dX2_slack_80 : decode cX2_slack 80 = .ok (.getfield 49, 3) := by decide +kernel
theorem dX2_slack_83 : decode cX2_slack 83 = .ok (.iload_n 1, 1) := by decide +kernel
theorem dX2_slack_84 : decode cX2_slack 84 = .ok (.iaload, 1) := by decide +kernel
theorem dX2_slack_85 : decode cX2_slack 85 = .ok (.aload_n 0, 1) := by decide +kernel
theorem dX2_slack_86 : decode cX2_slack 86 = .ok (.getfield 21, 3) := by decide +kernel
theorem dX2_slack_89 : decode cX2_slack 89 = .ok (.aload_n 0, 1) := by decide +kernel
theorem dX2_slack_90 : decode cX2_slack 90 = .ok (.getfield 12, 3) := by decide +kernel
theorem dX2_slack_93 : decode cX2_slack 93 = .ok (.getfield 39, 3) := by decide +kernel
theorem dX2_slack_96 : decode cX2_slack 96 = .ok (.iload_n 1, 1) := by decide +kernel
theorem dX2_slack_97 : decode cX2_slack 97 = .ok (.iaload, 1) := by decide +kernel
theorem dX2_slack_98 : decode cX2_slack 98 = .ok (.invokevirtual 91, 3) := by decide +kernel
theorem dX2_slack_101 : decode cX2_slack 101 = .ok (.iadd, 1) := by decide +kernel
theorem dX2_slack_102 : decode cX2_slack 102 = .ok (.istore_n 3, 1) := by decide +kernel
theorem dX2_slack_103 : decode cX2_slack 103 = .ok (.bipush 40, 2) := by decide +kernel
theorem dX2_slack_105 : decode cX2_slack 105 = .ok (.iload_n 3, 1) := by decide +kernel
theorem dX2_slack_106 : decode cX2_slack 106 = .ok (.invokestatic 105, 3) := by decide +kernel
theorem dX2_slack_109 : decode cX2_slack 109 = .ok (.ireturn, 1) := by decide +kernel
theorem dX2_isNode_0 : decode cX2_isNode 0 = .ok (.iload_n 0, 1) := by decide +kernel
theorem dX2_isNode_1 : decode cX2_isNode 1 = .ok (.ifCond .lt 13, 3) := by decide +kernel
theorem dX2_isNode_4 : decode cX2_isNode 4 = .ok (.iload_n 0, 1) := by decide +kernel
theorem dX2_isNode_5 : decode cX2_isNode 5 = .ok (.bipush 8, 2) := by decide +kernel
theorem dX2_isNode_7 : decode cX2_isNode 7 = .ok (.if_icmp .ge 7, 3) := by decide +kernel
theorem dX2_isNode_10 : decode cX2_isNode 10 = .ok (.iconst 1, 1) := by decide +kernel
theorem dX2_isNode_11 : decode cX2_isNode 11 = .ok (.goto 4, 3) := by decide +kernel
theorem dX2_isNode_14 : decode cX2_isNode 14 = .ok (.iconst 0, 1) := by decide +kernel
theorem dX2_isNode_15 : decode cX2_isNode 15 = .ok (.ireturn, 1) := by decide +kernel
theorem dX2_isArcData_0 : decode cX2_isArcData 0 = .ok (.iload_n 0, 1) := by decide +kernel
theorem dX2_isArcData_1 : decode cX2_isArcData 1 = .ok (.iconst (-1), 1) := by decide +kernel
theorem dX2_isArcData_2 : decode cX2_isArcData 2 = .ok (.if_icmp .lt 25, 3) := by decide +kernel
theorem dX2_isArcData_5 : decode cX2_isArcData 5 = .ok (.iload_n 0, 1) := by decide +kernel
theorem dX2_isArcData_6 : decode cX2_isArcData 6 = .ok (.bipush 30, 2) := by decide +kernel
theorem dX2_isArcData_8 : decode cX2_isArcData 8 = .ok (.if_icmp .gt 19, 3) := by decide +kernel
theorem dX2_isArcData_11 : decode cX2_isArcData 11 = .ok (.iload_n 1, 1) := by decide +kernel
theorem dX2_isArcData_12 : decode cX2_isArcData 12 = .ok (.bipush (-20), 2) := by decide +kernel
theorem dX2_isArcData_14 : decode cX2_isArcData 14 = .ok (.if_icmp .lt 13, 3) := by decide +kernel
theorem dX2_isArcData_17 : decode cX2_isArcData 17 = .ok (.iload_n 1, 1) := by decide +kernel
theorem dX2_isArcData_18 : decode cX2_isArcData 18 = .ok (.bipush 20, 2) := by decide +kernel
theorem dX2_isArcData_20 : decode cX2_isArcData 20 = .ok (.if_icmp .gt 7, 3) := by decide +kernel
theorem dX2_isArcData_23 : decode cX2_isArcData 23 = .ok (.iconst 1, 1) := by decide +kernel
theorem dX2_isArcData_24 : decode cX2_isArcData 24 = .ok (.goto 4, 3) := by decide +kernel
theorem dX2_isArcData_27 : decode cX2_isArcData 27 = .ok (.iconst 0, 1) := by decide +kernel
theorem dX2_isArcData_28 : decode cX2_isArcData 28 = .ok (.ireturn, 1) := by decide +kernel
theorem dX2_sumAboveZero_0 : decode cX2_sumAboveZero 0 = .ok (.iconst 0, 1) := by decide +kernel
theorem dX2_sumAboveZero_1 : decode cX2_sumAboveZero 1 = .ok (.istore_n 1, 1) := by decide +kernel
theorem dX2_sumAboveZero_2 : decode cX2_sumAboveZero 2 = .ok (.aload_n 0, 1) := by decide +kernel
theorem dX2_sumAboveZero_3 : decode cX2_sumAboveZero 3 = .ok (.astore_n 2, 1) := by decide +kernel
theorem dX2_sumAboveZero_4 : decode cX2_sumAboveZero 4 = .ok (.aload_n 2, 1) := by decide +kernel
theorem dX2_sumAboveZero_5 : decode cX2_sumAboveZero 5 = .ok (.arraylength, 1) := by decide +kernel
theorem dX2_sumAboveZero_6 : decode cX2_sumAboveZero 6 = .ok (.istore_n 3, 1) := by decide +kernel
theorem dX2_sumAboveZero_7 : decode cX2_sumAboveZero 7 = .ok (.iconst 0, 1) := by decide +kernel
theorem dX2_sumAboveZero_8 : decode cX2_sumAboveZero 8 = .ok (.istore 4, 2) := by decide +kernel
theorem dX2_sumAboveZero_10 : decode cX2_sumAboveZero 10 = .ok (.iload 4, 2) := by decide +kernel
theorem dX2_sumAboveZero_12 : decode cX2_sumAboveZero 12 = .ok (.iload_n 3, 1) := by decide +kernel
theorem dX2_sumAboveZero_13 : decode cX2_sumAboveZero 13 = .ok (.if_icmp .ge 24, 3) := by decide +kernel
theorem dX2_sumAboveZero_16 : decode cX2_sumAboveZero 16 = .ok (.aload_n 2, 1) := by decide +kernel
theorem dX2_sumAboveZero_17 : decode cX2_sumAboveZero 17 = .ok (.iload 4, 2) := by decide +kernel
theorem dX2_sumAboveZero_19 : decode cX2_sumAboveZero 19 = .ok (.iaload, 1) := by decide +kernel
theorem dX2_sumAboveZero_20 : decode cX2_sumAboveZero 20 = .ok (.istore 5, 2) := by decide +kernel
theorem dX2_sumAboveZero_22 : decode cX2_sumAboveZero 22 = .ok (.iload_n 1, 1) := by decide +kernel
theorem dX2_sumAboveZero_23 : decode cX2_sumAboveZero 23 = .ok (.iconst 0, 1) := by decide +kernel
theorem dX2_sumAboveZero_24 : decode cX2_sumAboveZero 24 = .ok (.iload 5, 2) := by decide +kernel
theorem dX2_sumAboveZero_26 : decode cX2_sumAboveZero 26 = .ok (.invokestatic 111, 3) := by decide +kernel
theorem dX2_sumAboveZero_29 : decode cX2_sumAboveZero 29 = .ok (.iadd, 1) := by decide +kernel
theorem dX2_sumAboveZero_30 : decode cX2_sumAboveZero 30 = .ok (.istore_n 1, 1) := by decide +kernel
theorem dX2_sumAboveZero_31 : decode cX2_sumAboveZero 31 = .ok (.iinc 4 1, 3) := by decide +kernel
theorem dX2_sumAboveZero_34 : decode cX2_sumAboveZero 34 = .ok (.goto (-24), 3) := by decide +kernel
theorem dX2_sumAboveZero_37 : decode cX2_sumAboveZero 37 = .ok (.iload_n 1, 1) := by decide +kernel
theorem dX2_sumAboveZero_38 : decode cX2_sumAboveZero 38 = .ok (.ireturn, 1) := by decide +kernel
theorem dX2_isArc_0 : decode cX2_isArc 0 = .ok (.iload_n 1, 1) := by decide +kernel
theorem dX2_isArc_1 : decode cX2_isArc 1 = .ok (.ifCond .lt 18, 3) := by decide +kernel
theorem dX2_isArc_4 : decode cX2_isArc 4 = .ok (.iload_n 1, 1) := by decide +kernel
theorem dX2_isArc_5 : decode cX2_isArc 5 = .ok (.aload_n 0, 1) := by decide +kernel
theorem dX2_isArc_6 : decode cX2_isArc 6 = .ok (.getfield 12, 3) := by decide +kernel
theorem dX2_isArc_9 : decode cX2_isArc 9 = .ok (.getfield 34, 3) := by decide +kernel
theorem dX2_isArc_12 : decode cX2_isArc 12 = .ok (.if_icmp .ge 7, 3) := by decide +kernel
theorem dX2_isArc_15 : decode cX2_isArc 15 = .ok (.iconst 1, 1) := by decide +kernel
theorem dX2_isArc_16 : decode cX2_isArc 16 = .ok (.goto 4, 3) := by decide +kernel
theorem dX2_isArc_19 : decode cX2_isArc 19 = .ok (.iconst 0, 1) := by decide +kernel
theorem dX2_isArc_20 : decode cX2_isArc 20 = .ok (.ireturn, 1) := by decide +kernel
set_option maxRecDepth 20000 in
theorem ggX2_routeTilted_X1_lay : GoodIn wsX2_routeTilted wsX1_lay := goodIn_r _ [6, 7, 8, 9, 10, 11, 12, 13, 14, 76, 77, 78, 79, 80, 81, 82, 83, 84, 85, 86, 87, 88, 89] (by decide +kernel) (by decide +kernel)
set_option maxRecDepth 20000 in
theorem gX2_routeTilted_X1_lay : GoodIn wsX2_routeTilted (wsV RX2 58 RX1 yX1_lay wsX1_lay) := goodIn_app (goodIn_of _ (by decide +kernel)) ggX2_routeTilted_X1_lay
set_option maxRecDepth 20000 in
theorem ggX2_routeTilted_X1_tilt : GoodIn wsX2_routeTilted wsX1_tilt := goodIn_r _ [18, 13, 76, 77, 78, 79, 80, 81, 82, 83] (by decide +kernel) (by decide +kernel)
set_option maxRecDepth 20000 in
theorem gX2_routeTilted_X1_tilt : GoodIn wsX2_routeTilted (wsV RX2 114 RX1 yX1_tilt wsX1_tilt) := goodIn_app (goodIn_of _ (by decide +kernel)) ggX2_routeTilted_X1_tilt
set_option maxRecDepth 20000 in
theorem ggX2_routeTilted_X1_route : GoodIn wsX2_routeTilted wsX1_route := goodIn_r _ [22, 23, 24, 25, 5, 26, 27, 7, 8, 28, 11, 9, 13, 29, 30, 31, 32, 33, 34, 35, 36, 37, 38, 39, 40, 41, 42, 43, 10, 12, 44, 45, 46, 47, 48, 49, 50, 51, 52, 53, 54, 55, 56, 57, 58, 59, 60, 61, 62, 63, 64, 65, 66, 67, 68, 69, 70, 71, 72, 73, 76, 77, 78, 79, 80, 81, 82, 83, 84, 85, 86, 87, 88, 89] (by decide +kernel) (by decide +kernel)
set_option maxRecDepth 20000 in
theorem gX2_routeTilted_X1_route : GoodIn wsX2_routeTilted (wsV RX2 62 RX1 yX1_route wsX1_route) := goodIn_app (goodIn_of _ (by decide +kernel)) ggX2_routeTilted_X1_route
theorem dX2_routeTilted_0 : decode cX2_routeTilted 0 = .ok (.aload_n 0, 1) := by decide +kernel
theorem dX2_routeTilted_1 : decode cX2_routeTilted 1 = .ok (.getfield 21, 3) := by decide +kernel
theorem dX2_routeTilted_4 : decode cX2_routeTilted 4 = .ok (.sipush 841, 3) := by decide +kernel
theorem dX2_routeTilted_7 : decode cX2_routeTilted 7 = .ok (.invokevirtual 58, 3) := by decide +kernel
theorem dX2_routeTilted_10 : decode cX2_routeTilted 10 = .ok (.aload_n 0, 1) := by decide +kernel
theorem dX2_routeTilted_11 : decode cX2_routeTilted 11 = .ok (.getfield 21, 3) := by decide +kernel
theorem dX2_routeTilted_14 : decode cX2_routeTilted 14 = .ok (.iload_n 1, 1) := by decide +kernel
theorem dX2_routeTilted_15 : decode cX2_routeTilted 15 = .ok (.iload_n 2, 1) := by decide +kernel
theorem dX2_routeTilted_16 : decode cX2_routeTilted 16 = .ok (.invokevirtual 114, 3) := by decide +kernel
theorem dX2_routeTilted_19 : decode cX2_routeTilted 19 = .ok (.aload_n 0, 1) := by decide +kernel
theorem dX2_routeTilted_20 : decode cX2_routeTilted 20 = .ok (.getfield 21, 3) := by decide +kernel
theorem dX2_routeTilted_23 : decode cX2_routeTilted 23 = .ok (.invokevirtual 62, 3) := by decide +kernel
theorem dX2_routeTilted_26 : decode cX2_routeTilted 26 = .ok (.ireturn, 1) := by decide +kernel
theorem dX3_init_0 : decode cX3_init 0 = .ok (.aload_n 0, 1) := by decide +kernel
theorem dX3_init_1 : decode cX3_init 1 = .ok (.invokespecial 1, 3) := by decide +kernel
theorem dX3_init_4 : decode cX3_init 4 = .ok (.aload_n 0, 1) := by decide +kernel
theorem dX3_init_5 : decode cX3_init 5 = .ok (.bipush 36, 2) := by decide +kernel
theorem dX3_init_7 : decode cX3_init 7 = .ok (.newarray .int, 2) := by decide +kernel
theorem dX3_init_9 : decode cX3_init 9 = .ok (.putfield 7, 3) := by decide +kernel
theorem dX3_init_12 : decode cX3_init 12 = .ok (.aload_n 0, 1) := by decide +kernel
theorem dX3_init_13 : decode cX3_init 13 = .ok (.bipush 36, 2) := by decide +kernel
theorem dX3_init_15 : decode cX3_init 15 = .ok (.newarray .int, 2) := by decide +kernel
theorem dX3_init_17 : decode cX3_init 17 = .ok (.putfield 13, 3) := by decide +kernel
theorem dX3_init_20 : decode cX3_init 20 = .ok (.aload_n 0, 1) := by decide +kernel
theorem dX3_init_21 : decode cX3_init 21 = .ok (.bipush 36, 2) := by decide +kernel
theorem dX3_init_23 : decode cX3_init 23 = .ok (.newarray .int, 2) := by decide +kernel
theorem dX3_init_25 : decode cX3_init 25 = .ok (.putfield 16, 3) := by decide +kernel
theorem dX3_init_28 : decode cX3_init 28 = .ok (.aload_n 0, 1) := by decide +kernel
theorem dX3_init_29 : decode cX3_init 29 = .ok (.bipush 36, 2) := by decide +kernel
theorem dX3_init_31 : decode cX3_init 31 = .ok (.newarray .int, 2) := by decide +kernel
theorem dX3_init_33 : decode cX3_init 33 = .ok (.putfield 19, 3) := by decide +kernel
theorem dX3_init_36 : decode cX3_init 36 = .ok (.aload_n 0, 1) := by decide +kernel
theorem dX3_init_37 : decode cX3_init 37 = .ok (.bipush 8, 2) := by decide +kernel
theorem dX3_init_39 : decode cX3_init 39 = .ok (.newarray .int, 2) := by decide +kernel
theorem dX3_init_41 : decode cX3_init 41 = .ok (.putfield 22, 3) := by decide +kernel
theorem dX3_init_44 : decode cX3_init 44 = .ok (.aload_n 0, 1) := by decide +kernel
theorem dX3_init_45 : decode cX3_init 45 = .ok (.bipush 36, 2) := by decide +kernel
theorem dX3_init_47 : decode cX3_init 47 = .ok (.newarray .int, 2) := by decide +kernel
theorem dX3_init_49 : decode cX3_init 49 = .ok (.putfield 25, 3) := by decide +kernel
theorem dX3_init_52 : decode cX3_init 52 = .ok (.aload_n 0, 1) := by decide +kernel
theorem dX3_init_53 : decode cX3_init 53 = .ok (.bipush 36, 2) := by decide +kernel
theorem dX3_init_55 : decode cX3_init 55 = .ok (.newarray .int, 2) := by decide +kernel
theorem dX3_init_57 : decode cX3_init 57 = .ok (.putfield 28, 3) := by decide +kernel
theorem dX3_init_60 : decode cX3_init 60 = .ok (.aload_n 0, 1) := by decide +kernel
theorem dX3_init_61 : decode cX3_init 61 = .ok (.bipush 10, 2) := by decide +kernel
theorem dX3_init_63 : decode cX3_init 63 = .ok (.newarray .boolean, 2) := by decide +kernel
theorem dX3_init_65 : decode cX3_init 65 = .ok (.putfield 31, 3) := by decide +kernel
theorem dX3_init_68 : decode cX3_init 68 = .ok (.aload_n 0, 1) := by decide +kernel
theorem dX3_init_69 : decode cX3_init 69 = .ok (.bipush 10, 2) := by decide +kernel
theorem dX3_init_71 : decode cX3_init 71 = .ok (.newarray .int, 2) := by decide +kernel
theorem dX3_init_73 : decode cX3_init 73 = .ok (.putfield 35, 3) := by decide +kernel
theorem dX3_init_76 : decode cX3_init 76 = .ok (.aload_n 0, 1) := by decide +kernel
theorem dX3_init_77 : decode cX3_init 77 = .ok (.bipush 10, 2) := by decide +kernel
theorem dX3_init_79 : decode cX3_init 79 = .ok (.newarray .int, 2) := by decide +kernel
theorem dX3_init_81 : decode cX3_init 81 = .ok (.putfield 38, 3) := by decide +kernel
theorem dX3_init_84 : decode cX3_init 84 = .ok (.aload_n 0, 1) := by decide +kernel
theorem dX3_init_85 : decode cX3_init 85 = .ok (.bipush 36, 2) := by decide +kernel
theorem dX3_init_87 : decode cX3_init 87 = .ok (.newarray .boolean, 2) := by decide +kernel
theorem dX3_init_89 : decode cX3_init 89 = .ok (.putfield 41, 3) := by decide +kernel
theorem dX3_init_92 : decode cX3_init 92 = .ok (.aload_n 0, 1) := by decide +kernel
theorem dX3_init_93 : decode cX3_init 93 = .ok (.bipush 10, 2) := by decide +kernel
theorem dX3_init_95 : decode cX3_init 95 = .ok (.newarray .int, 2) := by decide +kernel
theorem dX3_init_97 : decode cX3_init 97 = .ok (.putfield 44, 3) := by decide +kernel
theorem dX3_init_100 : decode cX3_init 100 = .ok (.aload_n 0, 1) := by decide +kernel
theorem dX3_init_101 : decode cX3_init 101 = .ok (.bipush 10, 2) := by decide +kernel
theorem dX3_init_103 : decode cX3_init 103 = .ok (.newarray .int, 2) := by decide +kernel
theorem dX3_init_105 : decode cX3_init 105 = .ok (.putfield 47, 3) := by decide +kernel
theorem dX3_init_108 : decode cX3_init 108 = .ok (.return_, 1) := by decide +kernel
theorem dX3_in_0 : decode cX3_in 0 = .ok (.iload_n 0, 1) := by decide +kernel
theorem dX3_in_1 : decode cX3_in 1 = .ok (.iload_n 1, 1) := by decide +kernel
theorem dX3_in_2 : decode cX3_in 2 = .ok (.if_icmp .lt 12, 3) := by decide +kernel
theorem dX3_in_5 : decode cX3_in 5 = .ok (.iload_n 0, 1) := by decide +kernel
theorem dX3_in_6 : decode cX3_in 6 = .ok (.iload_n 2, 1) := by decide +kernel
theorem dX3_in_7 : decode cX3_in 7 = .ok (.if_icmp .gt 7, 3) := by decide +kernel
theorem dX3_in_10 : decode cX3_in 10 = .ok (.iconst 1, 1) := by decide +kernel
theorem dX3_in_11 : decode cX3_in 11 = .ok (.goto 4, 3) := by decide +kernel
theorem dX3_in_14 : decode cX3_in 14 = .ok (.iconst 0, 1) := by decide +kernel
theorem dX3_in_15 : decode cX3_in 15 = .ok (.ireturn, 1) := by decide +kernel
set_option maxRecDepth 20000 in
theorem ggX3_add_X3_in : GoodIn wsX3_add wsX3_in := goodIn_r _ [12] (by decide +kernel) (by decide +kernel)
set_option maxRecDepth 20000 in
theorem gX3_add_X3_in : GoodIn wsX3_add (va_wsS RX3 50 yX3_in wsX3_in) := goodIn_app (goodIn_of _ (by decide +kernel)) ggX3_add_X3_in
theorem dX3_add_0 : decode cX3_add 0 = .ok (.iload_n 1, 1) := by decide +kernel
theorem dX3_add_1 : decode cX3_add 1 = .ok (.iconst 0, 1) := by decide +kernel
theorem dX3_add_2 : decode cX3_add 2 = .ok (.bipush 7, 2) := by decide +kernel
theorem dX3_add_4 : decode cX3_add 4 = .ok (.invokestatic 50, 3) := by decide +kernel
theorem dX3_add_7 : decode cX3_add 7 = .ok (.ifCond .eq 40, 3) := by decide +kernel
theorem dX3_add_10 : decode cX3_add 10 = .ok (.iload_n 2, 1) := by decide +kernel
theorem dX3_add_11 : decode cX3_add 11 = .ok (.iconst 0, 1) := by decide +kernel
theorem dX3_add_12 : decode cX3_add 12 = .ok (.bipush 7, 2) := by decide +kernel
theorem dX3_add_14 : decode cX3_add 14 = .ok (.invokestatic 50, 3) := by decide +kernel
theorem dX3_add_17 : decode cX3_add 17 = .ok (.ifCond .eq 30, 3) := by decide +kernel
theorem dX3_add_20 : decode cX3_add 20 = .ok (.iload_n 1, 1) := by decide +kernel
theorem dX3_add_21 : decode cX3_add 21 = .ok (.iload_n 2, 1) := by decide +kernel
theorem dX3_add_22 : decode cX3_add 22 = .ok (.if_icmp .eq 25, 3) := by decide +kernel
theorem dX3_add_25 : decode cX3_add 25 = .ok (.iload_n 3, 1) := by decide +kernel
theorem dX3_add_26 : decode cX3_add 26 = .ok (.iconst (-1), 1) := by decide +kernel
theorem dX3_add_27 : decode cX3_add 27 = .ok (.bipush 30, 2) := by decide +kernel
theorem dX3_add_29 : decode cX3_add 29 = .ok (.invokestatic 50, 3) := by decide +kernel
theorem dX3_add_32 : decode cX3_add 32 = .ok (.ifCond .eq 15, 3) := by decide +kernel
theorem dX3_add_35 : decode cX3_add 35 = .ok (.iload 4, 2) := by decide +kernel
theorem dX3_add_37 : decode cX3_add 37 = .ok (.bipush (-20), 2) := by decide +kernel
end
section
theorem dX3_add_39 : decode cX3_add 39 = .ok (.bipush 20, 2) := by decide +kernel
theorem dX3_add_41 : decode cX3_add 41 = .ok (.invokestatic 50, 3) := by decide +kernel
theorem dX3_add_44 : decode cX3_add 44 = .ok (.ifCond .ne 6, 3) := by decide +kernel
theorem dX3_add_47 : decode cX3_add 47 = .ok (.ldc 54, 2) := by decide +kernel
theorem dX3_add_49 : decode cX3_add 49 = .ok (.ireturn, 1) := by decide +kernel
theorem dX3_add_50 : decode cX3_add 50 = .ok (.aload_n 0, 1) := by decide +kernel
theorem dX3_add_51 : decode cX3_add 51 = .ok (.getfield 55, 3) := by decide +kernel
theorem dX3_add_54 : decode cX3_add 54 = .ok (.bipush 20, 2) := by decide +kernel
theorem dX3_add_56 : decode cX3_add 56 = .ok (.if_icmp .ne 6, 3) := by decide +kernel
theorem dX3_add_59 : decode cX3_add 59 = .ok (.ldc 59, 2) := by decide +kernel
theorem dX3_add_61 : decode cX3_add 61 = .ok (.ireturn, 1) := by decide +kernel
theorem dX3_add_62 : decode cX3_add 62 = .ok (.aload_n 0, 1) := by decide +kernel
theorem dX3_add_63 : decode cX3_add 63 = .ok (.getfield 7, 3) := by decide +kernel
theorem dX3_add_66 : decode cX3_add 66 = .ok (.aload_n 0, 1) := by decide +kernel
theorem dX3_add_67 : decode cX3_add 67 = .ok (.getfield 55, 3) := by decide +kernel
theorem dX3_add_70 : decode cX3_add 70 = .ok (.iload_n 1, 1) := by decide +kernel
theorem dX3_add_71 : decode cX3_add 71 = .ok (.iastore, 1) := by decide +kernel
theorem dX3_add_72 : decode cX3_add 72 = .ok (.aload_n 0, 1) := by decide +kernel
theorem dX3_add_73 : decode cX3_add 73 = .ok (.getfield 13, 3) := by decide +kernel
theorem dX3_add_76 : decode cX3_add 76 = .ok (.aload_n 0, 1) := by decide +kernel
theorem dX3_add_77 : decode cX3_add 77 = .ok (.getfield 55, 3) := by decide +kernel
theorem dX3_add_80 : decode cX3_add 80 = .ok (.iload_n 2, 1) := by decide +kernel
theorem dX3_add_81 : decode cX3_add 81 = .ok (.iastore, 1) := by decide +kernel
theorem dX3_add_82 : decode cX3_add 82 = .ok (.aload_n 0, 1) := by decide +kernel
theorem dX3_add_83 : decode cX3_add 83 = .ok (.getfield 16, 3) := by decide +kernel
theorem dX3_add_86 : decode cX3_add 86 = .ok (.aload_n 0, 1) := by decide +kernel
theorem dX3_add_87 : decode cX3_add 87 = .ok (.getfield 55, 3) := by decide +kernel
theorem dX3_add_90 : decode cX3_add 90 = .ok (.iload_n 3, 1) := by decide +kernel
theorem dX3_add_91 : decode cX3_add 91 = .ok (.ifCond .ge 8, 3) := by decide +kernel
theorem dX3_add_94 : decode cX3_add 94 = .ok (.ldc 60, 2) := by decide +kernel
theorem dX3_add_96 : decode cX3_add 96 = .ok (.goto 4, 3) := by decide +kernel
theorem dX3_add_99 : decode cX3_add 99 = .ok (.iload_n 3, 1) := by decide +kernel
theorem dX3_add_100 : decode cX3_add 100 = .ok (.iastore, 1) := by decide +kernel
theorem dX3_add_101 : decode cX3_add 101 = .ok (.aload_n 0, 1) := by decide +kernel
theorem dX3_add_102 : decode cX3_add 102 = .ok (.getfield 19, 3) := by decide +kernel
theorem dX3_add_105 : decode cX3_add 105 = .ok (.aload_n 0, 1) := by decide +kernel
theorem dX3_add_106 : decode cX3_add 106 = .ok (.getfield 55, 3) := by decide +kernel
theorem dX3_add_109 : decode cX3_add 109 = .ok (.iload 4, 2) := by decide +kernel
theorem dX3_add_111 : decode cX3_add 111 = .ok (.iastore, 1) := by decide +kernel
theorem dX3_add_112 : decode cX3_add 112 = .ok (.aload_n 0, 1) := by decide +kernel
theorem dX3_add_113 : decode cX3_add 113 = .ok (.dup, 1) := by decide +kernel
theorem dX3_add_114 : decode cX3_add 114 = .ok (.getfield 55, 3) := by decide +kernel
theorem dX3_add_117 : decode cX3_add 117 = .ok (.iconst 1, 1) := by decide +kernel
theorem dX3_add_118 : decode cX3_add 118 = .ok (.iadd, 1) := by decide +kernel
theorem dX3_add_119 : decode cX3_add 119 = .ok (.putfield 55, 3) := by decide +kernel
theorem dX3_add_122 : decode cX3_add 122 = .ok (.aload_n 0, 1) := by decide +kernel
theorem dX3_add_123 : decode cX3_add 123 = .ok (.getfield 55, 3) := by decide +kernel
theorem dX3_add_126 : decode cX3_add 126 = .ok (.iconst 1, 1) := by decide +kernel
theorem dX3_add_127 : decode cX3_add 127 = .ok (.isub, 1) := by decide +kernel
theorem dX3_add_128 : decode cX3_add 128 = .ok (.ireturn, 1) := by decide +kernel
set_option maxRecDepth 20000 in
theorem ggX3_change_X3_in : GoodIn wsX3_change wsX3_in := goodIn_r _ [8] (by decide +kernel) (by decide +kernel)
set_option maxRecDepth 20000 in
theorem gX3_change_X3_in : GoodIn wsX3_change (va_wsS RX3 50 yX3_in wsX3_in) := goodIn_app (goodIn_of _ (by decide +kernel)) ggX3_change_X3_in
theorem dX3_change_0 : decode cX3_change 0 = .ok (.iload_n 1, 1) := by decide +kernel
theorem dX3_change_1 : decode cX3_change 1 = .ok (.iconst 0, 1) := by decide +kernel
theorem dX3_change_2 : decode cX3_change 2 = .ok (.aload_n 0, 1) := by decide +kernel
theorem dX3_change_3 : decode cX3_change 3 = .ok (.getfield 55, 3) := by decide +kernel
theorem dX3_change_6 : decode cX3_change 6 = .ok (.iconst 1, 1) := by decide +kernel
theorem dX3_change_7 : decode cX3_change 7 = .ok (.isub, 1) := by decide +kernel
theorem dX3_change_8 : decode cX3_change 8 = .ok (.invokestatic 50, 3) := by decide +kernel
theorem dX3_change_11 : decode cX3_change 11 = .ok (.ifCond .eq 24, 3) := by decide +kernel
theorem dX3_change_14 : decode cX3_change 14 = .ok (.iload_n 2, 1) := by decide +kernel
theorem dX3_change_15 : decode cX3_change 15 = .ok (.iconst (-1), 1) := by decide +kernel
theorem dX3_change_16 : decode cX3_change 16 = .ok (.bipush 30, 2) := by decide +kernel
theorem dX3_change_18 : decode cX3_change 18 = .ok (.invokestatic 50, 3) := by decide +kernel
theorem dX3_change_21 : decode cX3_change 21 = .ok (.ifCond .eq 14, 3) := by decide +kernel
theorem dX3_change_24 : decode cX3_change 24 = .ok (.iload_n 3, 1) := by decide +kernel
theorem dX3_change_25 : decode cX3_change 25 = .ok (.bipush (-20), 2) := by decide +kernel
theorem dX3_change_27 : decode cX3_change 27 = .ok (.bipush 20, 2) := by decide +kernel
theorem dX3_change_29 : decode cX3_change 29 = .ok (.invokestatic 50, 3) := by decide +kernel
theorem dX3_change_32 : decode cX3_change 32 = .ok (.ifCond .ne 5, 3) := by decide +kernel
theorem dX3_change_35 : decode cX3_change 35 = .ok (.iconst 0, 1) := by decide +kernel
theorem dX3_change_36 : decode cX3_change 36 = .ok (.ireturn, 1) := by decide +kernel
theorem dX3_change_37 : decode cX3_change 37 = .ok (.aload_n 0, 1) := by decide +kernel
theorem dX3_change_38 : decode cX3_change 38 = .ok (.getfield 16, 3) := by decide +kernel
theorem dX3_change_41 : decode cX3_change 41 = .ok (.iload_n 1, 1) := by decide +kernel
theorem dX3_change_42 : decode cX3_change 42 = .ok (.iload_n 2, 1) := by decide +kernel
theorem dX3_change_43 : decode cX3_change 43 = .ok (.ifCond .ge 8, 3) := by decide +kernel
theorem dX3_change_46 : decode cX3_change 46 = .ok (.ldc 60, 2) := by decide +kernel
theorem dX3_change_48 : decode cX3_change 48 = .ok (.goto 4, 3) := by decide +kernel
theorem dX3_change_51 : decode cX3_change 51 = .ok (.iload_n 2, 1) := by decide +kernel
theorem dX3_change_52 : decode cX3_change 52 = .ok (.iastore, 1) := by decide +kernel
theorem dX3_change_53 : decode cX3_change 53 = .ok (.aload_n 0, 1) := by decide +kernel
theorem dX3_change_54 : decode cX3_change 54 = .ok (.getfield 19, 3) := by decide +kernel
theorem dX3_change_57 : decode cX3_change 57 = .ok (.iload_n 1, 1) := by decide +kernel
theorem dX3_change_58 : decode cX3_change 58 = .ok (.iload_n 3, 1) := by decide +kernel
theorem dX3_change_59 : decode cX3_change 59 = .ok (.iastore, 1) := by decide +kernel
theorem dX3_change_60 : decode cX3_change 60 = .ok (.iconst 1, 1) := by decide +kernel
theorem dX3_change_61 : decode cX3_change 61 = .ok (.ireturn, 1) := by decide +kernel
set_option maxRecDepth 20000 in
theorem ggX3_supply_X3_in : GoodIn wsX3_supply wsX3_in := goodIn_r _ [5] (by decide +kernel) (by decide +kernel)
set_option maxRecDepth 20000 in
theorem gX3_supply_X3_in : GoodIn wsX3_supply (va_wsS RX3 50 yX3_in wsX3_in) := goodIn_app (goodIn_of _ (by decide +kernel)) ggX3_supply_X3_in
theorem dX3_supply_0 : decode cX3_supply 0 = .ok (.iload_n 1, 1) := by decide +kernel
theorem dX3_supply_1 : decode cX3_supply 1 = .ok (.iconst 0, 1) := by decide +kernel
theorem dX3_supply_2 : decode cX3_supply 2 = .ok (.bipush 7, 2) := by decide +kernel
theorem dX3_supply_4 : decode cX3_supply 4 = .ok (.invokestatic 50, 3) := by decide +kernel
theorem dX3_supply_7 : decode cX3_supply 7 = .ok (.ifCond .eq 14, 3) := by decide +kernel
theorem dX3_supply_10 : decode cX3_supply 10 = .ok (.iload_n 2, 1) := by decide +kernel
theorem dX3_supply_11 : decode cX3_supply 11 = .ok (.bipush (-30), 2) := by decide +kernel
theorem dX3_supply_13 : decode cX3_supply 13 = .ok (.bipush 30, 2) := by decide +kernel
theorem dX3_supply_15 : decode cX3_supply 15 = .ok (.invokestatic 50, 3) := by decide +kernel
theorem dX3_supply_18 : decode cX3_supply 18 = .ok (.ifCond .ne 5, 3) := by decide +kernel
theorem dX3_supply_21 : decode cX3_supply 21 = .ok (.iconst 0, 1) := by decide +kernel
theorem dX3_supply_22 : decode cX3_supply 22 = .ok (.ireturn, 1) := by decide +kernel
theorem dX3_supply_23 : decode cX3_supply 23 = .ok (.aload_n 0, 1) := by decide +kernel
theorem dX3_supply_24 : decode cX3_supply 24 = .ok (.getfield 22, 3) := by decide +kernel
theorem dX3_supply_27 : decode cX3_supply 27 = .ok (.iload_n 1, 1) := by decide +kernel
theorem dX3_supply_28 : decode cX3_supply 28 = .ok (.iload_n 2, 1) := by decide +kernel
theorem dX3_supply_29 : decode cX3_supply 29 = .ok (.iastore, 1) := by decide +kernel
theorem dX3_supply_30 : decode cX3_supply 30 = .ok (.iconst 1, 1) := by decide +kernel
theorem dX3_supply_31 : decode cX3_supply 31 = .ok (.ireturn, 1) := by decide +kernel
theorem dX3_clear_0 : decode cX3_clear 0 = .ok (.aload_n 0, 1) := by decide +kernel
theorem dX3_clear_1 : decode cX3_clear 1 = .ok (.iconst 0, 1) := by decide +kernel
theorem dX3_clear_2 : decode cX3_clear 2 = .ok (.putfield 55, 3) := by decide +kernel
theorem dX3_clear_5 : decode cX3_clear 5 = .ok (.iconst 0, 1) := by decide +kernel
theorem dX3_clear_6 : decode cX3_clear 6 = .ok (.istore_n 1, 1) := by decide +kernel
theorem dX3_clear_7 : decode cX3_clear 7 = .ok (.iload_n 1, 1) := by decide +kernel
theorem dX3_clear_8 : decode cX3_clear 8 = .ok (.bipush 8, 2) := by decide +kernel
theorem dX3_clear_10 : decode cX3_clear 10 = .ok (.if_icmp .ge 16, 3) := by decide +kernel
theorem dX3_clear_13 : decode cX3_clear 13 = .ok (.aload_n 0, 1) := by decide +kernel
theorem dX3_clear_14 : decode cX3_clear 14 = .ok (.getfield 22, 3) := by decide +kernel
theorem dX3_clear_17 : decode cX3_clear 17 = .ok (.iload_n 1, 1) := by decide +kernel
theorem dX3_clear_18 : decode cX3_clear 18 = .ok (.iconst 0, 1) := by decide +kernel
theorem dX3_clear_19 : decode cX3_clear 19 = .ok (.iastore, 1) := by decide +kernel
theorem dX3_clear_20 : decode cX3_clear 20 = .ok (.iinc 1 1, 3) := by decide +kernel
theorem dX3_clear_23 : decode cX3_clear 23 = .ok (.goto (-16), 3) := by decide +kernel
theorem dX3_clear_26 : decode cX3_clear 26 = .ok (.return_, 1) := by decide +kernel
theorem dX3_arcs_0 : decode cX3_arcs 0 = .ok (.aload_n 0, 1) := by decide +kernel
theorem dX3_arcs_1 : decode cX3_arcs 1 = .ok (.getfield 55, 3) := by decide +kernel
theorem dX3_arcs_4 : decode cX3_arcs 4 = .ok (.ireturn, 1) := by decide +kernel
theorem dX3_lead_0 : decode cX3_lead 0 = .ok (.aload_n 0, 1) := by decide +kernel
theorem dX3_lead_1 : decode cX3_lead 1 = .ok (.getfield 7, 3) := by decide +kernel
theorem dX3_lead_4 : decode cX3_lead 4 = .ok (.aload_n 0, 1) := by decide +kernel
theorem dX3_lead_5 : decode cX3_lead 5 = .ok (.getfield 61, 3) := by decide +kernel
theorem dX3_lead_8 : decode cX3_lead 8 = .ok (.iload_n 1, 1) := by decide +kernel
theorem dX3_lead_9 : decode cX3_lead 9 = .ok (.iastore, 1) := by decide +kernel
theorem dX3_lead_10 : decode cX3_lead 10 = .ok (.aload_n 0, 1) := by decide +kernel
theorem dX3_lead_11 : decode cX3_lead 11 = .ok (.getfield 13, 3) := by decide +kernel
theorem dX3_lead_14 : decode cX3_lead 14 = .ok (.aload_n 0, 1) := by decide +kernel
theorem dX3_lead_15 : decode cX3_lead 15 = .ok (.getfield 61, 3) := by decide +kernel
theorem dX3_lead_18 : decode cX3_lead 18 = .ok (.iload_n 2, 1) := by decide +kernel
theorem dX3_lead_19 : decode cX3_lead 19 = .ok (.iastore, 1) := by decide +kernel
theorem dX3_lead_20 : decode cX3_lead 20 = .ok (.aload_n 0, 1) := by decide +kernel
theorem dX3_lead_21 : decode cX3_lead 21 = .ok (.getfield 16, 3) := by decide +kernel
theorem dX3_lead_24 : decode cX3_lead 24 = .ok (.aload_n 0, 1) := by decide +kernel
theorem dX3_lead_25 : decode cX3_lead 25 = .ok (.getfield 61, 3) := by decide +kernel
theorem dX3_lead_28 : decode cX3_lead 28 = .ok (.iload_n 3, 1) := by decide +kernel
theorem dX3_lead_29 : decode cX3_lead 29 = .ok (.iastore, 1) := by decide +kernel
theorem dX3_lead_30 : decode cX3_lead 30 = .ok (.aload_n 0, 1) := by decide +kernel
theorem dX3_lead_31 : decode cX3_lead 31 = .ok (.getfield 19, 3) := by decide +kernel
theorem dX3_lead_34 : decode cX3_lead 34 = .ok (.aload_n 0, 1) := by decide +kernel
theorem dX3_lead_35 : decode cX3_lead 35 = .ok (.getfield 61, 3) := by decide +kernel
theorem dX3_lead_38 : decode cX3_lead 38 = .ok (.iconst 0, 1) := by decide +kernel
theorem dX3_lead_39 : decode cX3_lead 39 = .ok (.iastore, 1) := by decide +kernel
theorem dX3_lead_40 : decode cX3_lead 40 = .ok (.aload_n 0, 1) := by decide +kernel
theorem dX3_lead_41 : decode cX3_lead 41 = .ok (.dup, 1) := by decide +kernel
theorem dX3_lead_42 : decode cX3_lead 42 = .ok (.getfield 61, 3) := by decide +kernel
theorem dX3_lead_45 : decode cX3_lead 45 = .ok (.iconst 1, 1) := by decide +kernel
theorem dX3_lead_46 : decode cX3_lead 46 = .ok (.iadd, 1) := by decide +kernel
theorem dX3_lead_47 : decode cX3_lead 47 = .ok (.putfield 61, 3) := by decide +kernel
theorem dX3_lead_50 : decode cX3_lead 50 = .ok (.return_, 1) := by decide +kernel
theorem dX3_leftFrom_0 : decode cX3_leftFrom 0 = .ok (.aload_n 0, 1) := by decide +kernel
theorem dX3_leftFrom_1 : decode cX3_leftFrom 1 = .ok (.getfield 41, 3) := by decide +kernel
theorem dX3_leftFrom_4 : decode cX3_leftFrom 4 = .ok (.iload_n 2, 1) := by decide +kernel
theorem dX3_leftFrom_5 : decode cX3_leftFrom 5 = .ok (.baload, 1) := by decide +kernel
theorem dX3_leftFrom_6 : decode cX3_leftFrom 6 = .ok (.ifCond .ne 7, 3) := by decide +kernel
theorem dX3_leftFrom_9 : decode cX3_leftFrom 9 = .ok (.iconst 0, 1) := by decide +kernel
theorem dX3_leftFrom_10 : decode cX3_leftFrom 10 = .ok (.goto 43, 3) := by decide +kernel
theorem dX3_leftFrom_13 : decode cX3_leftFrom 13 = .ok (.aload_n 0, 1) := by decide +kernel
theorem dX3_leftFrom_14 : decode cX3_leftFrom 14 = .ok (.getfield 7, 3) := by decide +kernel
theorem dX3_leftFrom_17 : decode cX3_leftFrom 17 = .ok (.iload_n 2, 1) := by decide +kernel
theorem dX3_leftFrom_18 : decode cX3_leftFrom 18 = .ok (.iaload, 1) := by decide +kernel
theorem dX3_leftFrom_19 : decode cX3_leftFrom 19 = .ok (.iload_n 3, 1) := by decide +kernel
theorem dX3_leftFrom_20 : decode cX3_leftFrom 20 = .ok (.if_icmp .ne 16, 3) := by decide +kernel
theorem dX3_leftFrom_23 : decode cX3_leftFrom 23 = .ok (.aload_n 0, 1) := by decide +kernel
theorem dX3_leftFrom_24 : decode cX3_leftFrom 24 = .ok (.getfield 16, 3) := by decide +kernel
theorem dX3_leftFrom_27 : decode cX3_leftFrom 27 = .ok (.iload_n 2, 1) := by decide +kernel
theorem dX3_leftFrom_28 : decode cX3_leftFrom 28 = .ok (.iaload, 1) := by decide +kernel
theorem dX3_leftFrom_29 : decode cX3_leftFrom 29 = .ok (.aload_n 1, 1) := by decide +kernel
theorem dX3_leftFrom_30 : decode cX3_leftFrom 30 = .ok (.iload_n 2, 1) := by decide +kernel
theorem dX3_leftFrom_31 : decode cX3_leftFrom 31 = .ok (.iaload, 1) := by decide +kernel
theorem dX3_leftFrom_32 : decode cX3_leftFrom 32 = .ok (.isub, 1) := by decide +kernel
theorem dX3_leftFrom_33 : decode cX3_leftFrom 33 = .ok (.goto 20, 3) := by decide +kernel
theorem dX3_leftFrom_36 : decode cX3_leftFrom 36 = .ok (.aload_n 0, 1) := by decide +kernel
theorem dX3_leftFrom_37 : decode cX3_leftFrom 37 = .ok (.getfield 13, 3) := by decide +kernel
theorem dX3_leftFrom_40 : decode cX3_leftFrom 40 = .ok (.iload_n 2, 1) := by decide +kernel
theorem dX3_leftFrom_41 : decode cX3_leftFrom 41 = .ok (.iaload, 1) := by decide +kernel
theorem dX3_leftFrom_42 : decode cX3_leftFrom 42 = .ok (.iload_n 3, 1) := by decide +kernel
theorem dX3_leftFrom_43 : decode cX3_leftFrom 43 = .ok (.if_icmp .ne 9, 3) := by decide +kernel
theorem dX3_leftFrom_46 : decode cX3_leftFrom 46 = .ok (.aload_n 1, 1) := by decide +kernel
theorem dX3_leftFrom_47 : decode cX3_leftFrom 47 = .ok (.iload_n 2, 1) := by decide +kernel
theorem dX3_leftFrom_48 : decode cX3_leftFrom 48 = .ok (.iaload, 1) := by decide +kernel
theorem dX3_leftFrom_49 : decode cX3_leftFrom 49 = .ok (.goto 4, 3) := by decide +kernel
theorem dX3_leftFrom_52 : decode cX3_leftFrom 52 = .ok (.iconst 0, 1) := by decide +kernel
theorem dX3_leftFrom_53 : decode cX3_leftFrom 53 = .ok (.ireturn, 1) := by decide +kernel
set_option maxRecDepth 20000 in
theorem ggX3_isReached_X3_leftFrom : GoodIn wsX3_isReached wsX3_leftFrom := goodIn_r _ [11, 12, 4, 13, 5, 14, 15, 16, 17, 18, 19, 20, 21, 22, 23, 24, 25, 26, 27, 28, 29] (by decide +kernel) (by decide +kernel)
set_option maxRecDepth 20000 in
theorem gX3_isReached_X3_leftFrom : GoodIn wsX3_isReached (wsV RX3 64 RX3 yX3_leftFrom wsX3_leftFrom) := goodIn_app (goodIn_of _ (by decide +kernel)) ggX3_isReached_X3_leftFrom
theorem dX3_isReached_0 : decode cX3_isReached 0 = .ok (.iconst 0, 1) := by decide +kernel
theorem dX3_isReached_1 : decode cX3_isReached 1 = .ok (.istore 4, 2) := by decide +kernel
theorem dX3_isReached_3 : decode cX3_isReached 3 = .ok (.iload 4, 2) := by decide +kernel
theorem dX3_isReached_5 : decode cX3_isReached 5 = .ok (.bipush 10, 2) := by decide +kernel
theorem dX3_isReached_7 : decode cX3_isReached 7 = .ok (.if_icmp .ge 27, 3) := by decide +kernel
theorem dX3_isReached_10 : decode cX3_isReached 10 = .ok (.aload_n 0, 1) := by decide +kernel
theorem dX3_isReached_11 : decode cX3_isReached 11 = .ok (.getfield 31, 3) := by decide +kernel
theorem dX3_isReached_14 : decode cX3_isReached 14 = .ok (.iload 4, 2) := by decide +kernel
theorem dX3_isReached_16 : decode cX3_isReached 16 = .ok (.iload 4, 2) := by decide +kernel
theorem dX3_isReached_18 : decode cX3_isReached 18 = .ok (.iload_n 2, 1) := by decide +kernel
theorem dX3_isReached_19 : decode cX3_isReached 19 = .ok (.if_icmp .ne 7, 3) := by decide +kernel
theorem dX3_isReached_22 : decode cX3_isReached 22 = .ok (.iconst 1, 1) := by decide +kernel
theorem dX3_isReached_23 : decode cX3_isReached 23 = .ok (.goto 4, 3) := by decide +kernel
theorem dX3_isReached_26 : decode cX3_isReached 26 = .ok (.iconst 0, 1) := by decide +kernel
theorem dX3_isReached_27 : decode cX3_isReached 27 = .ok (.bastore, 1) := by decide +kernel
theorem dX3_isReached_28 : decode cX3_isReached 28 = .ok (.iinc 4 1, 3) := by decide +kernel
theorem dX3_isReached_31 : decode cX3_isReached 31 = .ok (.goto (-28), 3) := by decide +kernel
theorem dX3_isReached_34 : decode cX3_isReached 34 = .ok (.aload_n 0, 1) := by decide +kernel
theorem dX3_isReached_35 : decode cX3_isReached 35 = .ok (.getfield 47, 3) := by decide +kernel
theorem dX3_isReached_38 : decode cX3_isReached 38 = .ok (.iconst 0, 1) := by decide +kernel
theorem dX3_isReached_39 : decode cX3_isReached 39 = .ok (.iload_n 2, 1) := by decide +kernel
theorem dX3_isReached_40 : decode cX3_isReached 40 = .ok (.iastore, 1) := by decide +kernel
theorem dX3_isReached_41 : decode cX3_isReached 41 = .ok (.iconst 1, 1) := by decide +kernel
theorem dX3_isReached_42 : decode cX3_isReached 42 = .ok (.istore 4, 2) := by decide +kernel
theorem dX3_isReached_44 : decode cX3_isReached 44 = .ok (.iconst 0, 1) := by decide +kernel
theorem dX3_isReached_45 : decode cX3_isReached 45 = .ok (.istore 5, 2) := by decide +kernel
theorem dX3_isReached_47 : decode cX3_isReached 47 = .ok (.iload 5, 2) := by decide +kernel
theorem dX3_isReached_49 : decode cX3_isReached 49 = .ok (.iload 4, 2) := by decide +kernel
theorem dX3_isReached_51 : decode cX3_isReached 51 = .ok (.if_icmp .ge 137, 3) := by decide +kernel
theorem dX3_isReached_54 : decode cX3_isReached 54 = .ok (.aload_n 0, 1) := by decide +kernel
theorem dX3_isReached_55 : decode cX3_isReached 55 = .ok (.getfield 47, 3) := by decide +kernel
theorem dX3_isReached_58 : decode cX3_isReached 58 = .ok (.iload 5, 2) := by decide +kernel
theorem dX3_isReached_60 : decode cX3_isReached 60 = .ok (.iaload, 1) := by decide +kernel
theorem dX3_isReached_61 : decode cX3_isReached 61 = .ok (.istore 6, 2) := by decide +kernel
theorem dX3_isReached_63 : decode cX3_isReached 63 = .ok (.iconst 0, 1) := by decide +kernel
theorem dX3_isReached_64 : decode cX3_isReached 64 = .ok (.istore 7, 2) := by decide +kernel
theorem dX3_isReached_66 : decode cX3_isReached 66 = .ok (.iload 7, 2) := by decide +kernel
theorem dX3_isReached_68 : decode cX3_isReached 68 = .ok (.aload_n 0, 1) := by decide +kernel
theorem dX3_isReached_69 : decode cX3_isReached 69 = .ok (.getfield 61, 3) := by decide +kernel
theorem dX3_isReached_72 : decode cX3_isReached 72 = .ok (.if_icmp .ge 110, 3) := by decide +kernel
theorem dX3_isReached_75 : decode cX3_isReached 75 = .ok (.aload_n 0, 1) := by decide +kernel
theorem dX3_isReached_76 : decode cX3_isReached 76 = .ok (.getfield 7, 3) := by decide +kernel
theorem dX3_isReached_79 : decode cX3_isReached 79 = .ok (.iload 7, 2) := by decide +kernel
theorem dX3_isReached_81 : decode cX3_isReached 81 = .ok (.iaload, 1) := by decide +kernel
theorem dX3_isReached_82 : decode cX3_isReached 82 = .ok (.iload 6, 2) := by decide +kernel
theorem dX3_isReached_84 : decode cX3_isReached 84 = .ok (.if_icmp .ne 13, 3) := by decide +kernel
theorem dX3_isReached_87 : decode cX3_isReached 87 = .ok (.aload_n 0, 1) := by decide +kernel
theorem dX3_isReached_88 : decode cX3_isReached 88 = .ok (.getfield 13, 3) := by decide +kernel
theorem dX3_isReached_91 : decode cX3_isReached 91 = .ok (.iload 7, 2) := by decide +kernel
theorem dX3_isReached_93 : decode cX3_isReached 93 = .ok (.iaload, 1) := by decide +kernel
theorem dX3_isReached_94 : decode cX3_isReached 94 = .ok (.goto 10, 3) := by decide +kernel
theorem dX3_isReached_97 : decode cX3_isReached 97 = .ok (.aload_n 0, 1) := by decide +kernel
theorem dX3_isReached_98 : decode cX3_isReached 98 = .ok (.getfield 7, 3) := by decide +kernel
theorem dX3_isReached_101 : decode cX3_isReached 101 = .ok (.iload 7, 2) := by decide +kernel
theorem dX3_isReached_103 : decode cX3_isReached 103 = .ok (.iaload, 1) := by decide +kernel
theorem dX3_isReached_104 : decode cX3_isReached 104 = .ok (.istore 8, 2) := by decide +kernel
theorem dX3_isReached_106 : decode cX3_isReached 106 = .ok (.aload_n 0, 1) := by decide +kernel
theorem dX3_isReached_107 : decode cX3_isReached 107 = .ok (.aload_n 1, 1) := by decide +kernel
theorem dX3_isReached_108 : decode cX3_isReached 108 = .ok (.iload 7, 2) := by decide +kernel
theorem dX3_isReached_110 : decode cX3_isReached 110 = .ok (.iload 6, 2) := by decide +kernel
theorem dX3_isReached_112 : decode cX3_isReached 112 = .ok (.invokevirtual 64, 3) := by decide +kernel
theorem dX3_isReached_115 : decode cX3_isReached 115 = .ok (.ifCond .le 61, 3) := by decide +kernel
theorem dX3_isReached_118 : decode cX3_isReached 118 = .ok (.aload_n 0, 1) := by decide +kernel
theorem dX3_isReached_119 : decode cX3_isReached 119 = .ok (.getfield 31, 3) := by decide +kernel
theorem dX3_isReached_122 : decode cX3_isReached 122 = .ok (.iload 8, 2) := by decide +kernel
theorem dX3_isReached_124 : decode cX3_isReached 124 = .ok (.baload, 1) := by decide +kernel
theorem dX3_isReached_125 : decode cX3_isReached 125 = .ok (.ifCond .ne 51, 3) := by decide +kernel
theorem dX3_isReached_128 : decode cX3_isReached 128 = .ok (.aload_n 0, 1) := by decide +kernel
theorem dX3_isReached_129 : decode cX3_isReached 129 = .ok (.getfield 31, 3) := by decide +kernel
theorem dX3_isReached_132 : decode cX3_isReached 132 = .ok (.iload 8, 2) := by decide +kernel
theorem dX3_isReached_134 : decode cX3_isReached 134 = .ok (.iconst 1, 1) := by decide +kernel
theorem dX3_isReached_135 : decode cX3_isReached 135 = .ok (.bastore, 1) := by decide +kernel
theorem dX3_isReached_136 : decode cX3_isReached 136 = .ok (.aload_n 0, 1) := by decide +kernel
theorem dX3_isReached_137 : decode cX3_isReached 137 = .ok (.getfield 44, 3) := by decide +kernel
theorem dX3_isReached_140 : decode cX3_isReached 140 = .ok (.iload 8, 2) := by decide +kernel
theorem dX3_isReached_142 : decode cX3_isReached 142 = .ok (.aload_n 0, 1) := by decide +kernel
theorem dX3_isReached_143 : decode cX3_isReached 143 = .ok (.getfield 7, 3) := by decide +kernel
theorem dX3_isReached_146 : decode cX3_isReached 146 = .ok (.iload 7, 2) := by decide +kernel
theorem dX3_isReached_148 : decode cX3_isReached 148 = .ok (.iaload, 1) := by decide +kernel
theorem dX3_isReached_149 : decode cX3_isReached 149 = .ok (.iload 6, 2) := by decide +kernel
theorem dX3_isReached_151 : decode cX3_isReached 151 = .ok (.if_icmp .ne 8, 3) := by decide +kernel
theorem dX3_isReached_154 : decode cX3_isReached 154 = .ok (.iload 7, 2) := by decide +kernel
theorem dX3_isReached_156 : decode cX3_isReached 156 = .ok (.goto 7, 3) := by decide +kernel
theorem dX3_isReached_159 : decode cX3_isReached 159 = .ok (.iconst (-1), 1) := by decide +kernel
theorem dX3_isReached_160 : decode cX3_isReached 160 = .ok (.iload 7, 2) := by decide +kernel
theorem dX3_isReached_162 : decode cX3_isReached 162 = .ok (.isub, 1) := by decide +kernel
theorem dX3_isReached_163 : decode cX3_isReached 163 = .ok (.iastore, 1) := by decide +kernel
theorem dX3_isReached_164 : decode cX3_isReached 164 = .ok (.aload_n 0, 1) := by decide +kernel
theorem dX3_isReached_165 : decode cX3_isReached 165 = .ok (.getfield 47, 3) := by decide +kernel
theorem dX3_isReached_168 : decode cX3_isReached 168 = .ok (.iload 4, 2) := by decide +kernel
theorem dX3_isReached_170 : decode cX3_isReached 170 = .ok (.iload 8, 2) := by decide +kernel
theorem dX3_isReached_172 : decode cX3_isReached 172 = .ok (.iastore, 1) := by decide +kernel
theorem dX3_isReached_173 : decode cX3_isReached 173 = .ok (.iinc 4 1, 3) := by decide +kernel
theorem dX3_isReached_176 : decode cX3_isReached 176 = .ok (.iinc 7 1, 3) := by decide +kernel
theorem dX3_isReached_179 : decode cX3_isReached 179 = .ok (.goto (-113), 3) := by decide +kernel
theorem dX3_isReached_182 : decode cX3_isReached 182 = .ok (.iinc 5 1, 3) := by decide +kernel
theorem dX3_isReached_185 : decode cX3_isReached 185 = .ok (.goto (-138), 3) := by decide +kernel
theorem dX3_isReached_188 : decode cX3_isReached 188 = .ok (.aload_n 0, 1) := by decide +kernel
theorem dX3_isReached_189 : decode cX3_isReached 189 = .ok (.getfield 31, 3) := by decide +kernel
theorem dX3_isReached_192 : decode cX3_isReached 192 = .ok (.iload_n 3, 1) := by decide +kernel
theorem dX3_isReached_193 : decode cX3_isReached 193 = .ok (.baload, 1) := by decide +kernel
theorem dX3_isReached_194 : decode cX3_isReached 194 = .ok (.ireturn, 1) := by decide +kernel
set_option maxRecDepth 20000 in
theorem ggX3_pushAll_X3_isReached : GoodIn wsX3_pushAll wsX3_isReached := goodIn_r _ [9, 10, 11, 12, 3, 4, 1, 13, 14, 15, 8, 16, 17, 2, 18, 19, 20, 21, 22, 23, 24, 25, 26, 27, 28, 29, 30, 31, 32, 33] (by decide +kernel) (by decide +kernel)
set_option maxRecDepth 20000 in
theorem gX3_pushAll_X3_isReached : GoodIn wsX3_pushAll (wsV RX3 68 RX3 yX3_isReached wsX3_isReached) := goodIn_app (goodIn_of _ (by decide +kernel)) ggX3_pushAll_X3_isReached
theorem dX3_pushAll_0 : decode cX3_pushAll 0 = .ok (.iconst 0, 1) := by decide +kernel
theorem dX3_pushAll_1 : decode cX3_pushAll 1 = .ok (.istore 5, 2) := by decide +kernel
theorem dX3_pushAll_3 : decode cX3_pushAll 3 = .ok (.iload 5, 2) := by decide +kernel
theorem dX3_pushAll_5 : decode cX3_pushAll 5 = .ok (.iload 4, 2) := by decide +kernel
theorem dX3_pushAll_7 : decode cX3_pushAll 7 = .ok (.if_icmp .ge 243, 3) := by decide +kernel
theorem dX3_pushAll_10 : decode cX3_pushAll 10 = .ok (.aload_n 0, 1) := by decide +kernel
theorem dX3_pushAll_11 : decode cX3_pushAll 11 = .ok (.aload_n 1, 1) := by decide +kernel
theorem dX3_pushAll_12 : decode cX3_pushAll 12 = .ok (.iload_n 2, 1) := by decide +kernel
theorem dX3_pushAll_13 : decode cX3_pushAll 13 = .ok (.iload_n 3, 1) := by decide +kernel
theorem dX3_pushAll_14 : decode cX3_pushAll 14 = .ok (.invokevirtual 68, 3) := by decide +kernel
theorem dX3_pushAll_17 : decode cX3_pushAll 17 = .ok (.ifCond .eq 233, 3) := by decide +kernel
theorem dX3_pushAll_20 : decode cX3_pushAll 20 = .ok (.iload 4, 2) := by decide +kernel
theorem dX3_pushAll_22 : decode cX3_pushAll 22 = .ok (.iload 5, 2) := by decide +kernel
theorem dX3_pushAll_24 : decode cX3_pushAll 24 = .ok (.isub, 1) := by decide +kernel
theorem dX3_pushAll_25 : decode cX3_pushAll 25 = .ok (.istore 6, 2) := by decide +kernel
theorem dX3_pushAll_27 : decode cX3_pushAll 27 = .ok (.iload_n 3, 1) := by decide +kernel
theorem dX3_pushAll_28 : decode cX3_pushAll 28 = .ok (.istore 7, 2) := by decide +kernel
theorem dX3_pushAll_30 : decode cX3_pushAll 30 = .ok (.iload 7, 2) := by decide +kernel
theorem dX3_pushAll_32 : decode cX3_pushAll 32 = .ok (.iload_n 2, 1) := by decide +kernel
theorem dX3_pushAll_33 : decode cX3_pushAll 33 = .ok (.if_icmp .eq 111, 3) := by decide +kernel
theorem dX3_pushAll_36 : decode cX3_pushAll 36 = .ok (.aload_n 0, 1) := by decide +kernel
theorem dX3_pushAll_37 : decode cX3_pushAll 37 = .ok (.getfield 44, 3) := by decide +kernel
theorem dX3_pushAll_40 : decode cX3_pushAll 40 = .ok (.iload 7, 2) := by decide +kernel
theorem dX3_pushAll_42 : decode cX3_pushAll 42 = .ok (.iaload, 1) := by decide +kernel
theorem dX3_pushAll_43 : decode cX3_pushAll 43 = .ok (.ifCond .lt 28, 3) := by decide +kernel
theorem dX3_pushAll_46 : decode cX3_pushAll 46 = .ok (.aload_n 0, 1) := by decide +kernel
theorem dX3_pushAll_47 : decode cX3_pushAll 47 = .ok (.getfield 16, 3) := by decide +kernel
theorem dX3_pushAll_50 : decode cX3_pushAll 50 = .ok (.aload_n 0, 1) := by decide +kernel
theorem dX3_pushAll_51 : decode cX3_pushAll 51 = .ok (.getfield 44, 3) := by decide +kernel
theorem dX3_pushAll_54 : decode cX3_pushAll 54 = .ok (.iload 7, 2) := by decide +kernel
theorem dX3_pushAll_56 : decode cX3_pushAll 56 = .ok (.iaload, 1) := by decide +kernel
theorem dX3_pushAll_57 : decode cX3_pushAll 57 = .ok (.iaload, 1) := by decide +kernel
theorem dX3_pushAll_58 : decode cX3_pushAll 58 = .ok (.aload_n 1, 1) := by decide +kernel
theorem dX3_pushAll_59 : decode cX3_pushAll 59 = .ok (.aload_n 0, 1) := by decide +kernel
theorem dX3_pushAll_60 : decode cX3_pushAll 60 = .ok (.getfield 44, 3) := by decide +kernel
theorem dX3_pushAll_63 : decode cX3_pushAll 63 = .ok (.iload 7, 2) := by decide +kernel
theorem dX3_pushAll_65 : decode cX3_pushAll 65 = .ok (.iaload, 1) := by decide +kernel
theorem dX3_pushAll_66 : decode cX3_pushAll 66 = .ok (.iaload, 1) := by decide +kernel
theorem dX3_pushAll_67 : decode cX3_pushAll 67 = .ok (.isub, 1) := by decide +kernel
theorem dX3_pushAll_68 : decode cX3_pushAll 68 = .ok (.goto 14, 3) := by decide +kernel
theorem dX3_pushAll_71 : decode cX3_pushAll 71 = .ok (.aload_n 1, 1) := by decide +kernel
theorem dX3_pushAll_72 : decode cX3_pushAll 72 = .ok (.iconst (-1), 1) := by decide +kernel
theorem dX3_pushAll_73 : decode cX3_pushAll 73 = .ok (.aload_n 0, 1) := by decide +kernel
theorem dX3_pushAll_74 : decode cX3_pushAll 74 = .ok (.getfield 44, 3) := by decide +kernel
theorem dX3_pushAll_77 : decode cX3_pushAll 77 = .ok (.iload 7, 2) := by decide +kernel
theorem dX3_pushAll_79 : decode cX3_pushAll 79 = .ok (.iaload, 1) := by decide +kernel
theorem dX3_pushAll_80 : decode cX3_pushAll 80 = .ok (.isub, 1) := by decide +kernel
theorem dX3_pushAll_81 : decode cX3_pushAll 81 = .ok (.iaload, 1) := by decide +kernel
theorem dX3_pushAll_82 : decode cX3_pushAll 82 = .ok (.istore 8, 2) := by decide +kernel
theorem dX3_pushAll_84 : decode cX3_pushAll 84 = .ok (.iload 8, 2) := by decide +kernel
theorem dX3_pushAll_86 : decode cX3_pushAll 86 = .ok (.iload 6, 2) := by decide +kernel
theorem dX3_pushAll_88 : decode cX3_pushAll 88 = .ok (.if_icmp .ge 8, 3) := by decide +kernel
theorem dX3_pushAll_91 : decode cX3_pushAll 91 = .ok (.iload 8, 2) := by decide +kernel
theorem dX3_pushAll_93 : decode cX3_pushAll 93 = .ok (.goto 5, 3) := by decide +kernel
theorem dX3_pushAll_96 : decode cX3_pushAll 96 = .ok (.iload 6, 2) := by decide +kernel
theorem dX3_pushAll_98 : decode cX3_pushAll 98 = .ok (.istore 6, 2) := by decide +kernel
theorem dX3_pushAll_100 : decode cX3_pushAll 100 = .ok (.aload_n 0, 1) := by decide +kernel
theorem dX3_pushAll_101 : decode cX3_pushAll 101 = .ok (.getfield 44, 3) := by decide +kernel
theorem dX3_pushAll_104 : decode cX3_pushAll 104 = .ok (.iload 7, 2) := by decide +kernel
theorem dX3_pushAll_106 : decode cX3_pushAll 106 = .ok (.iaload, 1) := by decide +kernel
theorem dX3_pushAll_107 : decode cX3_pushAll 107 = .ok (.ifCond .lt 18, 3) := by decide +kernel
theorem dX3_pushAll_110 : decode cX3_pushAll 110 = .ok (.aload_n 0, 1) := by decide +kernel
theorem dX3_pushAll_111 : decode cX3_pushAll 111 = .ok (.getfield 7, 3) := by decide +kernel
theorem dX3_pushAll_114 : decode cX3_pushAll 114 = .ok (.aload_n 0, 1) := by decide +kernel
theorem dX3_pushAll_115 : decode cX3_pushAll 115 = .ok (.getfield 44, 3) := by decide +kernel
theorem dX3_pushAll_118 : decode cX3_pushAll 118 = .ok (.iload 7, 2) := by decide +kernel
theorem dX3_pushAll_120 : decode cX3_pushAll 120 = .ok (.iaload, 1) := by decide +kernel
theorem dX3_pushAll_121 : decode cX3_pushAll 121 = .ok (.iaload, 1) := by decide +kernel
theorem dX3_pushAll_122 : decode cX3_pushAll 122 = .ok (.goto 17, 3) := by decide +kernel
theorem dX3_pushAll_125 : decode cX3_pushAll 125 = .ok (.aload_n 0, 1) := by decide +kernel
theorem dX3_pushAll_126 : decode cX3_pushAll 126 = .ok (.getfield 13, 3) := by decide +kernel
theorem dX3_pushAll_129 : decode cX3_pushAll 129 = .ok (.iconst (-1), 1) := by decide +kernel
theorem dX3_pushAll_130 : decode cX3_pushAll 130 = .ok (.aload_n 0, 1) := by decide +kernel
theorem dX3_pushAll_131 : decode cX3_pushAll 131 = .ok (.getfield 44, 3) := by decide +kernel
theorem dX3_pushAll_134 : decode cX3_pushAll 134 = .ok (.iload 7, 2) := by decide +kernel
theorem dX3_pushAll_136 : decode cX3_pushAll 136 = .ok (.iaload, 1) := by decide +kernel
theorem dX3_pushAll_137 : decode cX3_pushAll 137 = .ok (.isub, 1) := by decide +kernel
theorem dX3_pushAll_138 : decode cX3_pushAll 138 = .ok (.iaload, 1) := by decide +kernel
theorem dX3_pushAll_139 : decode cX3_pushAll 139 = .ok (.istore 7, 2) := by decide +kernel
theorem dX3_pushAll_141 : decode cX3_pushAll 141 = .ok (.goto (-111), 3) := by decide +kernel
theorem dX3_pushAll_144 : decode cX3_pushAll 144 = .ok (.iload_n 3, 1) := by decide +kernel
theorem dX3_pushAll_145 : decode cX3_pushAll 145 = .ok (.istore 7, 2) := by decide +kernel
theorem dX3_pushAll_147 : decode cX3_pushAll 147 = .ok (.iload 7, 2) := by decide +kernel
theorem dX3_pushAll_149 : decode cX3_pushAll 149 = .ok (.iload_n 2, 1) := by decide +kernel
theorem dX3_pushAll_150 : decode cX3_pushAll 150 = .ok (.if_icmp .eq 90, 3) := by decide +kernel
theorem dX3_pushAll_153 : decode cX3_pushAll 153 = .ok (.aload_n 0, 1) := by decide +kernel
theorem dX3_pushAll_154 : decode cX3_pushAll 154 = .ok (.getfield 44, 3) := by decide +kernel
theorem dX3_pushAll_157 : decode cX3_pushAll 157 = .ok (.iload 7, 2) := by decide +kernel
theorem dX3_pushAll_159 : decode cX3_pushAll 159 = .ok (.iaload, 1) := by decide +kernel
theorem dX3_pushAll_160 : decode cX3_pushAll 160 = .ok (.ifCond .lt 20, 3) := by decide +kernel
theorem dX3_pushAll_163 : decode cX3_pushAll 163 = .ok (.aload_n 1, 1) := by decide +kernel
theorem dX3_pushAll_164 : decode cX3_pushAll 164 = .ok (.aload_n 0, 1) := by decide +kernel
theorem dX3_pushAll_165 : decode cX3_pushAll 165 = .ok (.getfield 44, 3) := by decide +kernel
theorem dX3_pushAll_168 : decode cX3_pushAll 168 = .ok (.iload 7, 2) := by decide +kernel
theorem dX3_pushAll_170 : decode cX3_pushAll 170 = .ok (.iaload, 1) := by decide +kernel
theorem dX3_pushAll_171 : decode cX3_pushAll 171 = .ok (.dup2, 1) := by decide +kernel
theorem dX3_pushAll_172 : decode cX3_pushAll 172 = .ok (.iaload, 1) := by decide +kernel
theorem dX3_pushAll_173 : decode cX3_pushAll 173 = .ok (.iload 6, 2) := by decide +kernel
theorem dX3_pushAll_175 : decode cX3_pushAll 175 = .ok (.iadd, 1) := by decide +kernel
theorem dX3_pushAll_176 : decode cX3_pushAll 176 = .ok (.iastore, 1) := by decide +kernel
theorem dX3_pushAll_177 : decode cX3_pushAll 177 = .ok (.goto 19, 3) := by decide +kernel
theorem dX3_pushAll_180 : decode cX3_pushAll 180 = .ok (.aload_n 1, 1) := by decide +kernel
theorem dX3_pushAll_181 : decode cX3_pushAll 181 = .ok (.iconst (-1), 1) := by decide +kernel
theorem dX3_pushAll_182 : decode cX3_pushAll 182 = .ok (.aload_n 0, 1) := by decide +kernel
theorem dX3_pushAll_183 : decode cX3_pushAll 183 = .ok (.getfield 44, 3) := by decide +kernel
theorem dX3_pushAll_186 : decode cX3_pushAll 186 = .ok (.iload 7, 2) := by decide +kernel
theorem dX3_pushAll_188 : decode cX3_pushAll 188 = .ok (.iaload, 1) := by decide +kernel
theorem dX3_pushAll_189 : decode cX3_pushAll 189 = .ok (.isub, 1) := by decide +kernel
theorem dX3_pushAll_190 : decode cX3_pushAll 190 = .ok (.dup2, 1) := by decide +kernel
theorem dX3_pushAll_191 : decode cX3_pushAll 191 = .ok (.iaload, 1) := by decide +kernel
theorem dX3_pushAll_192 : decode cX3_pushAll 192 = .ok (.iload 6, 2) := by decide +kernel
theorem dX3_pushAll_194 : decode cX3_pushAll 194 = .ok (.isub, 1) := by decide +kernel
theorem dX3_pushAll_195 : decode cX3_pushAll 195 = .ok (.iastore, 1) := by decide +kernel
theorem dX3_pushAll_196 : decode cX3_pushAll 196 = .ok (.aload_n 0, 1) := by decide +kernel
theorem dX3_pushAll_197 : decode cX3_pushAll 197 = .ok (.getfield 44, 3) := by decide +kernel
theorem dX3_pushAll_200 : decode cX3_pushAll 200 = .ok (.iload 7, 2) := by decide +kernel
theorem dX3_pushAll_202 : decode cX3_pushAll 202 = .ok (.iaload, 1) := by decide +kernel
theorem dX3_pushAll_203 : decode cX3_pushAll 203 = .ok (.ifCond .lt 18, 3) := by decide +kernel
theorem dX3_pushAll_206 : decode cX3_pushAll 206 = .ok (.aload_n 0, 1) := by decide +kernel
theorem dX3_pushAll_207 : decode cX3_pushAll 207 = .ok (.getfield 7, 3) := by decide +kernel
theorem dX3_pushAll_210 : decode cX3_pushAll 210 = .ok (.aload_n 0, 1) := by decide +kernel
theorem dX3_pushAll_211 : decode cX3_pushAll 211 = .ok (.getfield 44, 3) := by decide +kernel
theorem dX3_pushAll_214 : decode cX3_pushAll 214 = .ok (.iload 7, 2) := by decide +kernel
theorem dX3_pushAll_216 : decode cX3_pushAll 216 = .ok (.iaload, 1) := by decide +kernel
theorem dX3_pushAll_217 : decode cX3_pushAll 217 = .ok (.iaload, 1) := by decide +kernel
theorem dX3_pushAll_218 : decode cX3_pushAll 218 = .ok (.goto 17, 3) := by decide +kernel
theorem dX3_pushAll_221 : decode cX3_pushAll 221 = .ok (.aload_n 0, 1) := by decide +kernel
theorem dX3_pushAll_222 : decode cX3_pushAll 222 = .ok (.getfield 13, 3) := by decide +kernel
theorem dX3_pushAll_225 : decode cX3_pushAll 225 = .ok (.iconst (-1), 1) := by decide +kernel
theorem dX3_pushAll_226 : decode cX3_pushAll 226 = .ok (.aload_n 0, 1) := by decide +kernel
theorem dX3_pushAll_227 : decode cX3_pushAll 227 = .ok (.getfield 44, 3) := by decide +kernel
theorem dX3_pushAll_230 : decode cX3_pushAll 230 = .ok (.iload 7, 2) := by decide +kernel
theorem dX3_pushAll_232 : decode cX3_pushAll 232 = .ok (.iaload, 1) := by decide +kernel
theorem dX3_pushAll_233 : decode cX3_pushAll 233 = .ok (.isub, 1) := by decide +kernel
theorem dX3_pushAll_234 : decode cX3_pushAll 234 = .ok (.iaload, 1) := by decide +kernel
theorem dX3_pushAll_235 : decode cX3_pushAll 235 = .ok (.istore 7, 2) := by decide +kernel
theorem dX3_pushAll_237 : decode cX3_pushAll 237 = .ok (.goto (-90), 3) := by decide +kernel
theorem dX3_pushAll_240 : decode cX3_pushAll 240 = .ok (.iload 5, 2) := by decide +kernel
theorem dX3_pushAll_242 : decode cX3_pushAll 242 = .ok (.iload 6, 2) := by decide +kernel
theorem dX3_pushAll_244 : decode cX3_pushAll 244 = .ok (.iadd, 1) := by decide +kernel
theorem dX3_pushAll_245 : decode cX3_pushAll 245 = .ok (.istore 5, 2) := by decide +kernel
theorem dX3_pushAll_247 : decode cX3_pushAll 247 = .ok (.goto (-244), 3) := by decide +kernel
theorem dX3_pushAll_250 : decode cX3_pushAll 250 = .ok (.iload 5, 2) := by decide +kernel
theorem dX3_pushAll_252 : decode cX3_pushAll 252 = .ok (.ireturn, 1) := by decide +kernel
set_option maxRecDepth 20000 in
theorem ggX3_fill_X3_lead : GoodIn wsX3_fill wsX3_lead := goodIn_r _ [11, 12, 2, 13, 14, 15, 31, 32, 33, 34, 35, 36, 37, 38, 39, 40, 41, 42, 43, 44, 45, 46] (by decide +kernel) (by decide +kernel)
set_option maxRecDepth 20000 in
theorem gX3_fill_X3_lead : GoodIn wsX3_fill (wsV RX3 72 RX3 yX3_lead wsX3_lead) := goodIn_app (goodIn_of _ (by decide +kernel)) ggX3_fill_X3_lead
set_option maxRecDepth 20000 in
theorem ggX3_fill_X3_pushAll : GoodIn wsX3_fill wsX3_pushAll := goodIn_r _ [19, 20, 14, 12, 13, 21, 22, 23, 10, 24, 25, 26, 2, 27, 28, 29, 30, 5, 31, 32, 33, 34, 35, 36, 37, 38, 39, 40, 41, 42, 43, 44, 45, 46] (by decide +kernel) (by decide +kernel)
set_option maxRecDepth 20000 in
theorem gX3_fill_X3_pushAll : GoodIn wsX3_fill (wsV RX3 76 RX3 yX3_pushAll wsX3_pushAll) := goodIn_app (goodIn_of _ (by decide +kernel)) ggX3_fill_X3_pushAll
theorem dX3_fill_0 : decode cX3_fill 0 = .ok (.aload_n 0, 1) := by decide +kernel
theorem dX3_fill_1 : decode cX3_fill 1 = .ok (.aload_n 0, 1) := by decide +kernel
theorem dX3_fill_2 : decode cX3_fill 2 = .ok (.getfield 55, 3) := by decide +kernel
theorem dX3_fill_5 : decode cX3_fill 5 = .ok (.putfield 61, 3) := by decide +kernel
theorem dX3_fill_8 : decode cX3_fill 8 = .ok (.iconst 0, 1) := by decide +kernel
theorem dX3_fill_9 : decode cX3_fill 9 = .ok (.istore_n 1, 1) := by decide +kernel
theorem dX3_fill_10 : decode cX3_fill 10 = .ok (.iload_n 1, 1) := by decide +kernel
theorem dX3_fill_11 : decode cX3_fill 11 = .ok (.bipush 8, 2) := by decide +kernel
theorem dX3_fill_13 : decode cX3_fill 13 = .ok (.if_icmp .ge 57, 3) := by decide +kernel
theorem dX3_fill_16 : decode cX3_fill 16 = .ok (.aload_n 0, 1) := by decide +kernel
theorem dX3_fill_17 : decode cX3_fill 17 = .ok (.getfield 22, 3) := by decide +kernel
theorem dX3_fill_20 : decode cX3_fill 20 = .ok (.iload_n 1, 1) := by decide +kernel
theorem dX3_fill_21 : decode cX3_fill 21 = .ok (.iaload, 1) := by decide +kernel
theorem dX3_fill_22 : decode cX3_fill 22 = .ok (.ifCond .le 19, 3) := by decide +kernel
theorem dX3_fill_25 : decode cX3_fill 25 = .ok (.aload_n 0, 1) := by decide +kernel
theorem dX3_fill_26 : decode cX3_fill 26 = .ok (.bipush 8, 2) := by decide +kernel
theorem dX3_fill_28 : decode cX3_fill 28 = .ok (.iload_n 1, 1) := by decide +kernel
theorem dX3_fill_29 : decode cX3_fill 29 = .ok (.aload_n 0, 1) := by decide +kernel
theorem dX3_fill_30 : decode cX3_fill 30 = .ok (.getfield 22, 3) := by decide +kernel
theorem dX3_fill_33 : decode cX3_fill 33 = .ok (.iload_n 1, 1) := by decide +kernel
theorem dX3_fill_34 : decode cX3_fill 34 = .ok (.iaload, 1) := by decide +kernel
theorem dX3_fill_35 : decode cX3_fill 35 = .ok (.invokevirtual 72, 3) := by decide +kernel
theorem dX3_fill_38 : decode cX3_fill 38 = .ok (.goto 26, 3) := by decide +kernel
theorem dX3_fill_41 : decode cX3_fill 41 = .ok (.aload_n 0, 1) := by decide +kernel
theorem dX3_fill_42 : decode cX3_fill 42 = .ok (.getfield 22, 3) := by decide +kernel
theorem dX3_fill_45 : decode cX3_fill 45 = .ok (.iload_n 1, 1) := by decide +kernel
theorem dX3_fill_46 : decode cX3_fill 46 = .ok (.iaload, 1) := by decide +kernel
theorem dX3_fill_47 : decode cX3_fill 47 = .ok (.ifCond .ge 17, 3) := by decide +kernel
theorem dX3_fill_50 : decode cX3_fill 50 = .ok (.aload_n 0, 1) := by decide +kernel
theorem dX3_fill_51 : decode cX3_fill 51 = .ok (.iload_n 1, 1) := by decide +kernel
theorem dX3_fill_52 : decode cX3_fill 52 = .ok (.bipush 9, 2) := by decide +kernel
theorem dX3_fill_54 : decode cX3_fill 54 = .ok (.aload_n 0, 1) := by decide +kernel
theorem dX3_fill_55 : decode cX3_fill 55 = .ok (.getfield 22, 3) := by decide +kernel
theorem dX3_fill_58 : decode cX3_fill 58 = .ok (.iload_n 1, 1) := by decide +kernel
theorem dX3_fill_59 : decode cX3_fill 59 = .ok (.iaload, 1) := by decide +kernel
theorem dX3_fill_60 : decode cX3_fill 60 = .ok (.ineg, 1) := by decide +kernel
theorem dX3_fill_61 : decode cX3_fill 61 = .ok (.invokevirtual 72, 3) := by decide +kernel
theorem dX3_fill_64 : decode cX3_fill 64 = .ok (.iinc 1 1, 3) := by decide +kernel
theorem dX3_fill_67 : decode cX3_fill 67 = .ok (.goto (-57), 3) := by decide +kernel
theorem dX3_fill_70 : decode cX3_fill 70 = .ok (.iconst 0, 1) := by decide +kernel
theorem dX3_fill_71 : decode cX3_fill 71 = .ok (.istore_n 1, 1) := by decide +kernel
theorem dX3_fill_72 : decode cX3_fill 72 = .ok (.iload_n 1, 1) := by decide +kernel
theorem dX3_fill_73 : decode cX3_fill 73 = .ok (.aload_n 0, 1) := by decide +kernel
theorem dX3_fill_74 : decode cX3_fill 74 = .ok (.getfield 61, 3) := by decide +kernel
theorem dX3_fill_77 : decode cX3_fill 77 = .ok (.if_icmp .ge 23, 3) := by decide +kernel
theorem dX3_fill_80 : decode cX3_fill 80 = .ok (.aload_n 0, 1) := by decide +kernel
theorem dX3_fill_81 : decode cX3_fill 81 = .ok (.getfield 25, 3) := by decide +kernel
theorem dX3_fill_84 : decode cX3_fill 84 = .ok (.iload_n 1, 1) := by decide +kernel
theorem dX3_fill_85 : decode cX3_fill 85 = .ok (.iconst 0, 1) := by decide +kernel
theorem dX3_fill_86 : decode cX3_fill 86 = .ok (.iastore, 1) := by decide +kernel
theorem dX3_fill_87 : decode cX3_fill 87 = .ok (.aload_n 0, 1) := by decide +kernel
theorem dX3_fill_88 : decode cX3_fill 88 = .ok (.getfield 41, 3) := by decide +kernel
theorem dX3_fill_91 : decode cX3_fill 91 = .ok (.iload_n 1, 1) := by decide +kernel
theorem dX3_fill_92 : decode cX3_fill 92 = .ok (.iconst 1, 1) := by decide +kernel
theorem dX3_fill_93 : decode cX3_fill 93 = .ok (.bastore, 1) := by decide +kernel
theorem dX3_fill_94 : decode cX3_fill 94 = .ok (.iinc 1 1, 3) := by decide +kernel
theorem dX3_fill_97 : decode cX3_fill 97 = .ok (.goto (-25), 3) := by decide +kernel
theorem dX3_fill_100 : decode cX3_fill 100 = .ok (.aload_n 0, 1) := by decide +kernel
theorem dX3_fill_101 : decode cX3_fill 101 = .ok (.aload_n 0, 1) := by decide +kernel
theorem dX3_fill_102 : decode cX3_fill 102 = .ok (.getfield 25, 3) := by decide +kernel
theorem dX3_fill_105 : decode cX3_fill 105 = .ok (.bipush 8, 2) := by decide +kernel
theorem dX3_fill_107 : decode cX3_fill 107 = .ok (.bipush 9, 2) := by decide +kernel
theorem dX3_fill_109 : decode cX3_fill 109 = .ok (.ldc 60, 2) := by decide +kernel
theorem dX3_fill_111 : decode cX3_fill 111 = .ok (.invokevirtual 76, 3) := by decide +kernel
theorem dX3_fill_114 : decode cX3_fill 114 = .ok (.ireturn, 1) := by decide +kernel
set_option maxRecDepth 20000 in
theorem ggX3_amount_X3_fill : GoodIn wsX3_amount wsX3_fill := goodIn_r _ [5, 6, 7, 8, 9, 10, 11, 12, 13, 14, 4, 15, 16, 17, 18, 19, 20, 21, 22, 23, 24, 25, 26, 27, 28, 29, 30, 31, 32, 33, 34, 35, 36, 37, 38, 39, 40, 41, 42, 43, 44, 45, 46, 47, 48, 49, 50] (by decide +kernel) (by decide +kernel)
set_option maxRecDepth 20000 in
theorem gX3_amount_X3_fill : GoodIn wsX3_amount (wsV RX3 80 RX3 yX3_fill wsX3_fill) := goodIn_app (goodIn_of _ (by decide +kernel)) ggX3_amount_X3_fill
theorem dX3_amount_0 : decode cX3_amount 0 = .ok (.aload_n 0, 1) := by decide +kernel
theorem dX3_amount_1 : decode cX3_amount 1 = .ok (.invokevirtual 80, 3) := by decide +kernel
theorem dX3_amount_4 : decode cX3_amount 4 = .ok (.ireturn, 1) := by decide +kernel
theorem dX3_bottleneck_0 : decode cX3_bottleneck 0 = .ok (.ldc 84, 2) := by decide +kernel
theorem dX3_bottleneck_2 : decode cX3_bottleneck 2 = .ok (.istore_n 1, 1) := by decide +kernel
theorem dX3_bottleneck_3 : decode cX3_bottleneck 3 = .ok (.iconst 0, 1) := by decide +kernel
theorem dX3_bottleneck_4 : decode cX3_bottleneck 4 = .ok (.istore_n 2, 1) := by decide +kernel
theorem dX3_bottleneck_5 : decode cX3_bottleneck 5 = .ok (.iconst 0, 1) := by decide +kernel
theorem dX3_bottleneck_6 : decode cX3_bottleneck 6 = .ok (.istore_n 3, 1) := by decide +kernel
theorem dX3_bottleneck_7 : decode cX3_bottleneck 7 = .ok (.iload_n 3, 1) := by decide +kernel
theorem dX3_bottleneck_8 : decode cX3_bottleneck 8 = .ok (.sipush 256, 3) := by decide +kernel
theorem dX3_bottleneck_11 : decode cX3_bottleneck 11 = .ok (.if_icmp .ge 214, 3) := by decide +kernel
theorem dX3_bottleneck_14 : decode cX3_bottleneck 14 = .ok (.iconst 0, 1) := by decide +kernel
theorem dX3_bottleneck_15 : decode cX3_bottleneck 15 = .ok (.istore 4, 2) := by decide +kernel
theorem dX3_bottleneck_17 : decode cX3_bottleneck 17 = .ok (.iconst 0, 1) := by decide +kernel
theorem dX3_bottleneck_18 : decode cX3_bottleneck 18 = .ok (.istore 5, 2) := by decide +kernel
theorem dX3_bottleneck_20 : decode cX3_bottleneck 20 = .ok (.iload 5, 2) := by decide +kernel
theorem dX3_bottleneck_22 : decode cX3_bottleneck 22 = .ok (.bipush 8, 2) := by decide +kernel
theorem dX3_bottleneck_24 : decode cX3_bottleneck 24 = .ok (.if_icmp .ge 83, 3) := by decide +kernel
theorem dX3_bottleneck_27 : decode cX3_bottleneck 27 = .ok (.iload_n 3, 1) := by decide +kernel
theorem dX3_bottleneck_28 : decode cX3_bottleneck 28 = .ok (.iload 5, 2) := by decide +kernel
theorem dX3_bottleneck_30 : decode cX3_bottleneck 30 = .ok (.ishr, 1) := by decide +kernel
theorem dX3_bottleneck_31 : decode cX3_bottleneck 31 = .ok (.iconst 1, 1) := by decide +kernel
theorem dX3_bottleneck_32 : decode cX3_bottleneck 32 = .ok (.iand, 1) := by decide +kernel
theorem dX3_bottleneck_33 : decode cX3_bottleneck 33 = .ok (.iconst 1, 1) := by decide +kernel
theorem dX3_bottleneck_34 : decode cX3_bottleneck 34 = .ok (.if_icmp .ne 7, 3) := by decide +kernel
theorem dX3_bottleneck_37 : decode cX3_bottleneck 37 = .ok (.iconst 1, 1) := by decide +kernel
theorem dX3_bottleneck_38 : decode cX3_bottleneck 38 = .ok (.goto 4, 3) := by decide +kernel
theorem dX3_bottleneck_41 : decode cX3_bottleneck 41 = .ok (.iconst 0, 1) := by decide +kernel
theorem dX3_bottleneck_42 : decode cX3_bottleneck 42 = .ok (.istore 6, 2) := by decide +kernel
theorem dX3_bottleneck_44 : decode cX3_bottleneck 44 = .ok (.iload 4, 2) := by decide +kernel
theorem dX3_bottleneck_46 : decode cX3_bottleneck 46 = .ok (.iload 6, 2) := by decide +kernel
theorem dX3_bottleneck_48 : decode cX3_bottleneck 48 = .ok (.ifCond .ne 23, 3) := by decide +kernel
theorem dX3_bottleneck_51 : decode cX3_bottleneck 51 = .ok (.aload_n 0, 1) := by decide +kernel
theorem dX3_bottleneck_52 : decode cX3_bottleneck 52 = .ok (.getfield 22, 3) := by decide +kernel
theorem dX3_bottleneck_55 : decode cX3_bottleneck 55 = .ok (.iload 5, 2) := by decide +kernel
theorem dX3_bottleneck_57 : decode cX3_bottleneck 57 = .ok (.iaload, 1) := by decide +kernel
theorem dX3_bottleneck_58 : decode cX3_bottleneck 58 = .ok (.ifCond .le 13, 3) := by decide +kernel
theorem dX3_bottleneck_61 : decode cX3_bottleneck 61 = .ok (.aload_n 0, 1) := by decide +kernel
theorem dX3_bottleneck_62 : decode cX3_bottleneck 62 = .ok (.getfield 22, 3) := by decide +kernel
theorem dX3_bottleneck_65 : decode cX3_bottleneck 65 = .ok (.iload 5, 2) := by decide +kernel
theorem dX3_bottleneck_67 : decode cX3_bottleneck 67 = .ok (.iaload, 1) := by decide +kernel
theorem dX3_bottleneck_68 : decode cX3_bottleneck 68 = .ok (.goto 30, 3) := by decide +kernel
theorem dX3_bottleneck_71 : decode cX3_bottleneck 71 = .ok (.iload 6, 2) := by decide +kernel
theorem dX3_bottleneck_73 : decode cX3_bottleneck 73 = .ok (.ifCond .eq 24, 3) := by decide +kernel
theorem dX3_bottleneck_76 : decode cX3_bottleneck 76 = .ok (.aload_n 0, 1) := by decide +kernel
theorem dX3_bottleneck_77 : decode cX3_bottleneck 77 = .ok (.getfield 22, 3) := by decide +kernel
theorem dX3_bottleneck_80 : decode cX3_bottleneck 80 = .ok (.iload 5, 2) := by decide +kernel
theorem dX3_bottleneck_82 : decode cX3_bottleneck 82 = .ok (.iaload, 1) := by decide +kernel
theorem dX3_bottleneck_83 : decode cX3_bottleneck 83 = .ok (.ifCond .ge 14, 3) := by decide +kernel
theorem dX3_bottleneck_86 : decode cX3_bottleneck 86 = .ok (.aload_n 0, 1) := by decide +kernel
theorem dX3_bottleneck_87 : decode cX3_bottleneck 87 = .ok (.getfield 22, 3) := by decide +kernel
theorem dX3_bottleneck_90 : decode cX3_bottleneck 90 = .ok (.iload 5, 2) := by decide +kernel
theorem dX3_bottleneck_92 : decode cX3_bottleneck 92 = .ok (.iaload, 1) := by decide +kernel
theorem dX3_bottleneck_93 : decode cX3_bottleneck 93 = .ok (.ineg, 1) := by decide +kernel
theorem dX3_bottleneck_94 : decode cX3_bottleneck 94 = .ok (.goto 4, 3) := by decide +kernel
theorem dX3_bottleneck_97 : decode cX3_bottleneck 97 = .ok (.iconst 0, 1) := by decide +kernel
theorem dX3_bottleneck_98 : decode cX3_bottleneck 98 = .ok (.iadd, 1) := by decide +kernel
theorem dX3_bottleneck_99 : decode cX3_bottleneck 99 = .ok (.istore 4, 2) := by decide +kernel
theorem dX3_bottleneck_101 : decode cX3_bottleneck 101 = .ok (.iinc 5 1, 3) := by decide +kernel
theorem dX3_bottleneck_104 : decode cX3_bottleneck 104 = .ok (.goto (-84), 3) := by decide +kernel
theorem dX3_bottleneck_107 : decode cX3_bottleneck 107 = .ok (.iconst 0, 1) := by decide +kernel
theorem dX3_bottleneck_108 : decode cX3_bottleneck 108 = .ok (.istore 5, 2) := by decide +kernel
theorem dX3_bottleneck_110 : decode cX3_bottleneck 110 = .ok (.iload 5, 2) := by decide +kernel
theorem dX3_bottleneck_112 : decode cX3_bottleneck 112 = .ok (.aload_n 0, 1) := by decide +kernel
theorem dX3_bottleneck_113 : decode cX3_bottleneck 113 = .ok (.getfield 55, 3) := by decide +kernel
theorem dX3_bottleneck_116 : decode cX3_bottleneck 116 = .ok (.if_icmp .ge 66, 3) := by decide +kernel
theorem dX3_bottleneck_119 : decode cX3_bottleneck 119 = .ok (.iload_n 3, 1) := by decide +kernel
theorem dX3_bottleneck_120 : decode cX3_bottleneck 120 = .ok (.aload_n 0, 1) := by decide +kernel
theorem dX3_bottleneck_121 : decode cX3_bottleneck 121 = .ok (.getfield 7, 3) := by decide +kernel
theorem dX3_bottleneck_124 : decode cX3_bottleneck 124 = .ok (.iload 5, 2) := by decide +kernel
theorem dX3_bottleneck_126 : decode cX3_bottleneck 126 = .ok (.iaload, 1) := by decide +kernel
theorem dX3_bottleneck_127 : decode cX3_bottleneck 127 = .ok (.ishr, 1) := by decide +kernel
theorem dX3_bottleneck_128 : decode cX3_bottleneck 128 = .ok (.iconst 1, 1) := by decide +kernel
theorem dX3_bottleneck_129 : decode cX3_bottleneck 129 = .ok (.iand, 1) := by decide +kernel
theorem dX3_bottleneck_130 : decode cX3_bottleneck 130 = .ok (.iconst 1, 1) := by decide +kernel
theorem dX3_bottleneck_131 : decode cX3_bottleneck 131 = .ok (.if_icmp .ne 21, 3) := by decide +kernel
theorem dX3_bottleneck_134 : decode cX3_bottleneck 134 = .ok (.iload_n 3, 1) := by decide +kernel
theorem dX3_bottleneck_135 : decode cX3_bottleneck 135 = .ok (.aload_n 0, 1) := by decide +kernel
theorem dX3_bottleneck_136 : decode cX3_bottleneck 136 = .ok (.getfield 13, 3) := by decide +kernel
theorem dX3_bottleneck_139 : decode cX3_bottleneck 139 = .ok (.iload 5, 2) := by decide +kernel
theorem dX3_bottleneck_141 : decode cX3_bottleneck 141 = .ok (.iaload, 1) := by decide +kernel
theorem dX3_bottleneck_142 : decode cX3_bottleneck 142 = .ok (.ishr, 1) := by decide +kernel
theorem dX3_bottleneck_143 : decode cX3_bottleneck 143 = .ok (.iconst 1, 1) := by decide +kernel
theorem dX3_bottleneck_144 : decode cX3_bottleneck 144 = .ok (.iand, 1) := by decide +kernel
theorem dX3_bottleneck_145 : decode cX3_bottleneck 145 = .ok (.ifCond .ne 7, 3) := by decide +kernel
theorem dX3_bottleneck_148 : decode cX3_bottleneck 148 = .ok (.iconst 1, 1) := by decide +kernel
theorem dX3_bottleneck_149 : decode cX3_bottleneck 149 = .ok (.goto 4, 3) := by decide +kernel
theorem dX3_bottleneck_152 : decode cX3_bottleneck 152 = .ok (.iconst 0, 1) := by decide +kernel
theorem dX3_bottleneck_153 : decode cX3_bottleneck 153 = .ok (.istore 6, 2) := by decide +kernel
theorem dX3_bottleneck_155 : decode cX3_bottleneck 155 = .ok (.iload 4, 2) := by decide +kernel
theorem dX3_bottleneck_157 : decode cX3_bottleneck 157 = .ok (.iload 6, 2) := by decide +kernel
theorem dX3_bottleneck_159 : decode cX3_bottleneck 159 = .ok (.ifCond .eq 13, 3) := by decide +kernel
theorem dX3_bottleneck_162 : decode cX3_bottleneck 162 = .ok (.aload_n 0, 1) := by decide +kernel
theorem dX3_bottleneck_163 : decode cX3_bottleneck 163 = .ok (.getfield 16, 3) := by decide +kernel
theorem dX3_bottleneck_166 : decode cX3_bottleneck 166 = .ok (.iload 5, 2) := by decide +kernel
theorem dX3_bottleneck_168 : decode cX3_bottleneck 168 = .ok (.iaload, 1) := by decide +kernel
theorem dX3_bottleneck_169 : decode cX3_bottleneck 169 = .ok (.goto 4, 3) := by decide +kernel
theorem dX3_bottleneck_172 : decode cX3_bottleneck 172 = .ok (.iconst 0, 1) := by decide +kernel
theorem dX3_bottleneck_173 : decode cX3_bottleneck 173 = .ok (.iadd, 1) := by decide +kernel
theorem dX3_bottleneck_174 : decode cX3_bottleneck 174 = .ok (.istore 4, 2) := by decide +kernel
theorem dX3_bottleneck_176 : decode cX3_bottleneck 176 = .ok (.iinc 5 1, 3) := by decide +kernel
theorem dX3_bottleneck_179 : decode cX3_bottleneck 179 = .ok (.goto (-69), 3) := by decide +kernel
theorem dX3_bottleneck_182 : decode cX3_bottleneck 182 = .ok (.iload 4, 2) := by decide +kernel
theorem dX3_bottleneck_184 : decode cX3_bottleneck 184 = .ok (.ldc 85, 2) := by decide +kernel
theorem dX3_bottleneck_186 : decode cX3_bottleneck 186 = .ok (.if_icmp .ge 33, 3) := by decide +kernel
theorem dX3_bottleneck_189 : decode cX3_bottleneck 189 = .ok (.iload_n 1, 1) := by decide +kernel
theorem dX3_bottleneck_190 : decode cX3_bottleneck 190 = .ok (.ldc 84, 2) := by decide +kernel
theorem dX3_bottleneck_192 : decode cX3_bottleneck 192 = .ok (.if_icmp .eq 9, 3) := by decide +kernel
theorem dX3_bottleneck_195 : decode cX3_bottleneck 195 = .ok (.iload 4, 2) := by decide +kernel
theorem dX3_bottleneck_197 : decode cX3_bottleneck 197 = .ok (.iload_n 2, 1) := by decide +kernel
theorem dX3_bottleneck_198 : decode cX3_bottleneck 198 = .ok (.if_icmp .ge 11, 3) := by decide +kernel
theorem dX3_bottleneck_201 : decode cX3_bottleneck 201 = .ok (.iload_n 3, 1) := by decide +kernel
theorem dX3_bottleneck_202 : decode cX3_bottleneck 202 = .ok (.istore_n 1, 1) := by decide +kernel
theorem dX3_bottleneck_203 : decode cX3_bottleneck 203 = .ok (.iload 4, 2) := by decide +kernel
theorem dX3_bottleneck_205 : decode cX3_bottleneck 205 = .ok (.istore_n 2, 1) := by decide +kernel
theorem dX3_bottleneck_206 : decode cX3_bottleneck 206 = .ok (.goto 13, 3) := by decide +kernel
theorem dX3_bottleneck_209 : decode cX3_bottleneck 209 = .ok (.iload 4, 2) := by decide +kernel
theorem dX3_bottleneck_211 : decode cX3_bottleneck 211 = .ok (.iload_n 2, 1) := by decide +kernel
theorem dX3_bottleneck_212 : decode cX3_bottleneck 212 = .ok (.if_icmp .ne 7, 3) := by decide +kernel
theorem dX3_bottleneck_215 : decode cX3_bottleneck 215 = .ok (.iload_n 1, 1) := by decide +kernel
theorem dX3_bottleneck_216 : decode cX3_bottleneck 216 = .ok (.iload_n 3, 1) := by decide +kernel
theorem dX3_bottleneck_217 : decode cX3_bottleneck 217 = .ok (.iand, 1) := by decide +kernel
theorem dX3_bottleneck_218 : decode cX3_bottleneck 218 = .ok (.istore_n 1, 1) := by decide +kernel
theorem dX3_bottleneck_219 : decode cX3_bottleneck 219 = .ok (.iinc 3 1, 3) := by decide +kernel
theorem dX3_bottleneck_222 : decode cX3_bottleneck 222 = .ok (.goto (-215), 3) := by decide +kernel
theorem dX3_bottleneck_225 : decode cX3_bottleneck 225 = .ok (.iload_n 1, 1) := by decide +kernel
theorem dX3_bottleneck_226 : decode cX3_bottleneck 226 = .ok (.ireturn, 1) := by decide +kernel
theorem dX3_findRound_0 : decode cX3_findRound 0 = .ok (.iconst 0, 1) := by decide +kernel
theorem dX3_findRound_1 : decode cX3_findRound 1 = .ok (.istore_n 2, 1) := by decide +kernel
theorem dX3_findRound_2 : decode cX3_findRound 2 = .ok (.iload_n 2, 1) := by decide +kernel
theorem dX3_findRound_3 : decode cX3_findRound 3 = .ok (.bipush 8, 2) := by decide +kernel
theorem dX3_findRound_5 : decode cX3_findRound 5 = .ok (.if_icmp .ge 24, 3) := by decide +kernel
theorem dX3_findRound_8 : decode cX3_findRound 8 = .ok (.aload_n 0, 1) := by decide +kernel
theorem dX3_findRound_9 : decode cX3_findRound 9 = .ok (.getfield 35, 3) := by decide +kernel
theorem dX3_findRound_12 : decode cX3_findRound 12 = .ok (.iload_n 2, 1) := by decide +kernel
theorem dX3_findRound_13 : decode cX3_findRound 13 = .ok (.iconst 0, 1) := by decide +kernel
theorem dX3_findRound_14 : decode cX3_findRound 14 = .ok (.iastore, 1) := by decide +kernel
theorem dX3_findRound_15 : decode cX3_findRound 15 = .ok (.aload_n 0, 1) := by decide +kernel
theorem dX3_findRound_16 : decode cX3_findRound 16 = .ok (.getfield 38, 3) := by decide +kernel
theorem dX3_findRound_19 : decode cX3_findRound 19 = .ok (.iload_n 2, 1) := by decide +kernel
theorem dX3_findRound_20 : decode cX3_findRound 20 = .ok (.ldc 84, 2) := by decide +kernel
theorem dX3_findRound_22 : decode cX3_findRound 22 = .ok (.iastore, 1) := by decide +kernel
theorem dX3_findRound_23 : decode cX3_findRound 23 = .ok (.iinc 2 1, 3) := by decide +kernel
theorem dX3_findRound_26 : decode cX3_findRound 26 = .ok (.goto (-24), 3) := by decide +kernel
theorem dX3_findRound_29 : decode cX3_findRound 29 = .ok (.ldc 84, 2) := by decide +kernel
theorem dX3_findRound_31 : decode cX3_findRound 31 = .ok (.istore_n 2, 1) := by decide +kernel
theorem dX3_findRound_32 : decode cX3_findRound 32 = .ok (.iconst 0, 1) := by decide +kernel
theorem dX3_findRound_33 : decode cX3_findRound 33 = .ok (.istore_n 3, 1) := by decide +kernel
theorem dX3_findRound_34 : decode cX3_findRound 34 = .ok (.iload_n 3, 1) := by decide +kernel
theorem dX3_findRound_35 : decode cX3_findRound 35 = .ok (.bipush 8, 2) := by decide +kernel
theorem dX3_findRound_37 : decode cX3_findRound 37 = .ok (.if_icmp .gt 277, 3) := by decide +kernel
theorem dX3_findRound_40 : decode cX3_findRound 40 = .ok (.ldc 84, 2) := by decide +kernel
theorem dX3_findRound_42 : decode cX3_findRound 42 = .ok (.istore_n 2, 1) := by decide +kernel
theorem dX3_findRound_43 : decode cX3_findRound 43 = .ok (.iconst 0, 1) := by decide +kernel
theorem dX3_findRound_44 : decode cX3_findRound 44 = .ok (.istore 4, 2) := by decide +kernel
theorem dX3_findRound_46 : decode cX3_findRound 46 = .ok (.iload 4, 2) := by decide +kernel
theorem dX3_findRound_48 : decode cX3_findRound 48 = .ok (.aload_n 0, 1) := by decide +kernel
theorem dX3_findRound_49 : decode cX3_findRound 49 = .ok (.getfield 55, 3) := by decide +kernel
theorem dX3_findRound_52 : decode cX3_findRound 52 = .ok (.if_icmp .ge 256, 3) := by decide +kernel
theorem dX3_findRound_55 : decode cX3_findRound 55 = .ok (.iload_n 1, 1) := by decide +kernel
theorem dX3_findRound_56 : decode cX3_findRound 56 = .ok (.ifCond .eq 23, 3) := by decide +kernel
theorem dX3_findRound_59 : decode cX3_findRound 59 = .ok (.aload_n 0, 1) := by decide +kernel
theorem dX3_findRound_60 : decode cX3_findRound 60 = .ok (.getfield 16, 3) := by decide +kernel
theorem dX3_findRound_63 : decode cX3_findRound 63 = .ok (.iload 4, 2) := by decide +kernel
theorem dX3_findRound_65 : decode cX3_findRound 65 = .ok (.iaload, 1) := by decide +kernel
theorem dX3_findRound_66 : decode cX3_findRound 66 = .ok (.ldc 60, 2) := by decide +kernel
theorem dX3_findRound_68 : decode cX3_findRound 68 = .ok (.if_icmp .ne 7, 3) := by decide +kernel
theorem dX3_findRound_71 : decode cX3_findRound 71 = .ok (.iconst 1, 1) := by decide +kernel
theorem dX3_findRound_72 : decode cX3_findRound 72 = .ok (.goto 29, 3) := by decide +kernel
theorem dX3_findRound_75 : decode cX3_findRound 75 = .ok (.iconst 0, 1) := by decide +kernel
theorem dX3_findRound_76 : decode cX3_findRound 76 = .ok (.goto 25, 3) := by decide +kernel
theorem dX3_findRound_79 : decode cX3_findRound 79 = .ok (.aload_n 0, 1) := by decide +kernel
theorem dX3_findRound_80 : decode cX3_findRound 80 = .ok (.getfield 25, 3) := by decide +kernel
theorem dX3_findRound_83 : decode cX3_findRound 83 = .ok (.iload 4, 2) := by decide +kernel
theorem dX3_findRound_85 : decode cX3_findRound 85 = .ok (.iaload, 1) := by decide +kernel
theorem dX3_findRound_86 : decode cX3_findRound 86 = .ok (.aload_n 0, 1) := by decide +kernel
theorem dX3_findRound_87 : decode cX3_findRound 87 = .ok (.getfield 16, 3) := by decide +kernel
theorem dX3_findRound_90 : decode cX3_findRound 90 = .ok (.iload 4, 2) := by decide +kernel
theorem dX3_findRound_92 : decode cX3_findRound 92 = .ok (.iaload, 1) := by decide +kernel
theorem dX3_findRound_93 : decode cX3_findRound 93 = .ok (.if_icmp .ge 7, 3) := by decide +kernel
theorem dX3_findRound_96 : decode cX3_findRound 96 = .ok (.iconst 1, 1) := by decide +kernel
theorem dX3_findRound_97 : decode cX3_findRound 97 = .ok (.goto 4, 3) := by decide +kernel
theorem dX3_findRound_100 : decode cX3_findRound 100 = .ok (.iconst 0, 1) := by decide +kernel
theorem dX3_findRound_101 : decode cX3_findRound 101 = .ok (.istore 5, 2) := by decide +kernel
theorem dX3_findRound_103 : decode cX3_findRound 103 = .ok (.iload 5, 2) := by decide +kernel
theorem dX3_findRound_105 : decode cX3_findRound 105 = .ok (.ifCond .eq 92, 3) := by decide +kernel
theorem dX3_findRound_108 : decode cX3_findRound 108 = .ok (.aload_n 0, 1) := by decide +kernel
theorem dX3_findRound_109 : decode cX3_findRound 109 = .ok (.getfield 35, 3) := by decide +kernel
theorem dX3_findRound_112 : decode cX3_findRound 112 = .ok (.aload_n 0, 1) := by decide +kernel
theorem dX3_findRound_113 : decode cX3_findRound 113 = .ok (.getfield 7, 3) := by decide +kernel
theorem dX3_findRound_116 : decode cX3_findRound 116 = .ok (.iload 4, 2) := by decide +kernel
theorem dX3_findRound_118 : decode cX3_findRound 118 = .ok (.iaload, 1) := by decide +kernel
theorem dX3_findRound_119 : decode cX3_findRound 119 = .ok (.iaload, 1) := by decide +kernel
theorem dX3_findRound_120 : decode cX3_findRound 120 = .ok (.aload_n 0, 1) := by decide +kernel
theorem dX3_findRound_121 : decode cX3_findRound 121 = .ok (.getfield 19, 3) := by decide +kernel
theorem dX3_findRound_124 : decode cX3_findRound 124 = .ok (.iload 4, 2) := by decide +kernel
theorem dX3_findRound_126 : decode cX3_findRound 126 = .ok (.iaload, 1) := by decide +kernel
theorem dX3_findRound_127 : decode cX3_findRound 127 = .ok (.iadd, 1) := by decide +kernel
theorem dX3_findRound_128 : decode cX3_findRound 128 = .ok (.aload_n 0, 1) := by decide +kernel
theorem dX3_findRound_129 : decode cX3_findRound 129 = .ok (.getfield 35, 3) := by decide +kernel
theorem dX3_findRound_132 : decode cX3_findRound 132 = .ok (.aload_n 0, 1) := by decide +kernel
theorem dX3_findRound_133 : decode cX3_findRound 133 = .ok (.getfield 13, 3) := by decide +kernel
theorem dX3_findRound_136 : decode cX3_findRound 136 = .ok (.iload 4, 2) := by decide +kernel
theorem dX3_findRound_138 : decode cX3_findRound 138 = .ok (.iaload, 1) := by decide +kernel
theorem dX3_findRound_139 : decode cX3_findRound 139 = .ok (.iaload, 1) := by decide +kernel
theorem dX3_findRound_140 : decode cX3_findRound 140 = .ok (.if_icmp .ge 57, 3) := by decide +kernel
theorem dX3_findRound_143 : decode cX3_findRound 143 = .ok (.aload_n 0, 1) := by decide +kernel
theorem dX3_findRound_144 : decode cX3_findRound 144 = .ok (.getfield 35, 3) := by decide +kernel
theorem dX3_findRound_147 : decode cX3_findRound 147 = .ok (.aload_n 0, 1) := by decide +kernel
theorem dX3_findRound_148 : decode cX3_findRound 148 = .ok (.getfield 13, 3) := by decide +kernel
theorem dX3_findRound_151 : decode cX3_findRound 151 = .ok (.iload 4, 2) := by decide +kernel
theorem dX3_findRound_153 : decode cX3_findRound 153 = .ok (.iaload, 1) := by decide +kernel
theorem dX3_findRound_154 : decode cX3_findRound 154 = .ok (.aload_n 0, 1) := by decide +kernel
theorem dX3_findRound_155 : decode cX3_findRound 155 = .ok (.getfield 35, 3) := by decide +kernel
theorem dX3_findRound_158 : decode cX3_findRound 158 = .ok (.aload_n 0, 1) := by decide +kernel
theorem dX3_findRound_159 : decode cX3_findRound 159 = .ok (.getfield 7, 3) := by decide +kernel
theorem dX3_findRound_162 : decode cX3_findRound 162 = .ok (.iload 4, 2) := by decide +kernel
theorem dX3_findRound_164 : decode cX3_findRound 164 = .ok (.iaload, 1) := by decide +kernel
theorem dX3_findRound_165 : decode cX3_findRound 165 = .ok (.iaload, 1) := by decide +kernel
theorem dX3_findRound_166 : decode cX3_findRound 166 = .ok (.aload_n 0, 1) := by decide +kernel
theorem dX3_findRound_167 : decode cX3_findRound 167 = .ok (.getfield 19, 3) := by decide +kernel
end
section
theorem dX3_findRound_170 : decode cX3_findRound 170 = .ok (.iload 4, 2) := by decide +kernel
theorem dX3_findRound_172 : decode cX3_findRound 172 = .ok (.iaload, 1) := by decide +kernel
theorem dX3_findRound_173 : decode cX3_findRound 173 = .ok (.iadd, 1) := by decide +kernel
theorem dX3_findRound_174 : decode cX3_findRound 174 = .ok (.iastore, 1) := by decide +kernel
theorem dX3_findRound_175 : decode cX3_findRound 175 = .ok (.aload_n 0, 1) := by decide +kernel
theorem dX3_findRound_176 : decode cX3_findRound 176 = .ok (.getfield 38, 3) := by decide +kernel
theorem dX3_findRound_179 : decode cX3_findRound 179 = .ok (.aload_n 0, 1) := by decide +kernel
theorem dX3_findRound_180 : decode cX3_findRound 180 = .ok (.getfield 13, 3) := by decide +kernel
theorem dX3_findRound_183 : decode cX3_findRound 183 = .ok (.iload 4, 2) := by decide +kernel
theorem dX3_findRound_185 : decode cX3_findRound 185 = .ok (.iaload, 1) := by decide +kernel
theorem dX3_findRound_186 : decode cX3_findRound 186 = .ok (.iload 4, 2) := by decide +kernel
theorem dX3_findRound_188 : decode cX3_findRound 188 = .ok (.iastore, 1) := by decide +kernel
theorem dX3_findRound_189 : decode cX3_findRound 189 = .ok (.aload_n 0, 1) := by decide +kernel
theorem dX3_findRound_190 : decode cX3_findRound 190 = .ok (.getfield 13, 3) := by decide +kernel
theorem dX3_findRound_193 : decode cX3_findRound 193 = .ok (.iload 4, 2) := by decide +kernel
theorem dX3_findRound_195 : decode cX3_findRound 195 = .ok (.iaload, 1) := by decide +kernel
theorem dX3_findRound_196 : decode cX3_findRound 196 = .ok (.istore_n 2, 1) := by decide +kernel
theorem dX3_findRound_197 : decode cX3_findRound 197 = .ok (.iload_n 1, 1) := by decide +kernel
theorem dX3_findRound_198 : decode cX3_findRound 198 = .ok (.ifCond .ne 104, 3) := by decide +kernel
theorem dX3_findRound_201 : decode cX3_findRound 201 = .ok (.aload_n 0, 1) := by decide +kernel
theorem dX3_findRound_202 : decode cX3_findRound 202 = .ok (.getfield 25, 3) := by decide +kernel
theorem dX3_findRound_205 : decode cX3_findRound 205 = .ok (.iload 4, 2) := by decide +kernel
theorem dX3_findRound_207 : decode cX3_findRound 207 = .ok (.iaload, 1) := by decide +kernel
theorem dX3_findRound_208 : decode cX3_findRound 208 = .ok (.ifCond .le 94, 3) := by decide +kernel
theorem dX3_findRound_211 : decode cX3_findRound 211 = .ok (.aload_n 0, 1) := by decide +kernel
theorem dX3_findRound_212 : decode cX3_findRound 212 = .ok (.getfield 35, 3) := by decide +kernel
theorem dX3_findRound_215 : decode cX3_findRound 215 = .ok (.aload_n 0, 1) := by decide +kernel
theorem dX3_findRound_216 : decode cX3_findRound 216 = .ok (.getfield 13, 3) := by decide +kernel
theorem dX3_findRound_219 : decode cX3_findRound 219 = .ok (.iload 4, 2) := by decide +kernel
theorem dX3_findRound_221 : decode cX3_findRound 221 = .ok (.iaload, 1) := by decide +kernel
theorem dX3_findRound_222 : decode cX3_findRound 222 = .ok (.iaload, 1) := by decide +kernel
theorem dX3_findRound_223 : decode cX3_findRound 223 = .ok (.aload_n 0, 1) := by decide +kernel
theorem dX3_findRound_224 : decode cX3_findRound 224 = .ok (.getfield 19, 3) := by decide +kernel
theorem dX3_findRound_227 : decode cX3_findRound 227 = .ok (.iload 4, 2) := by decide +kernel
theorem dX3_findRound_229 : decode cX3_findRound 229 = .ok (.iaload, 1) := by decide +kernel
theorem dX3_findRound_230 : decode cX3_findRound 230 = .ok (.isub, 1) := by decide +kernel
theorem dX3_findRound_231 : decode cX3_findRound 231 = .ok (.aload_n 0, 1) := by decide +kernel
theorem dX3_findRound_232 : decode cX3_findRound 232 = .ok (.getfield 35, 3) := by decide +kernel
theorem dX3_findRound_235 : decode cX3_findRound 235 = .ok (.aload_n 0, 1) := by decide +kernel
theorem dX3_findRound_236 : decode cX3_findRound 236 = .ok (.getfield 7, 3) := by decide +kernel
theorem dX3_findRound_239 : decode cX3_findRound 239 = .ok (.iload 4, 2) := by decide +kernel
theorem dX3_findRound_241 : decode cX3_findRound 241 = .ok (.iaload, 1) := by decide +kernel
theorem dX3_findRound_242 : decode cX3_findRound 242 = .ok (.iaload, 1) := by decide +kernel
theorem dX3_findRound_243 : decode cX3_findRound 243 = .ok (.if_icmp .ge 59, 3) := by decide +kernel
theorem dX3_findRound_246 : decode cX3_findRound 246 = .ok (.aload_n 0, 1) := by decide +kernel
theorem dX3_findRound_247 : decode cX3_findRound 247 = .ok (.getfield 35, 3) := by decide +kernel
theorem dX3_findRound_250 : decode cX3_findRound 250 = .ok (.aload_n 0, 1) := by decide +kernel
theorem dX3_findRound_251 : decode cX3_findRound 251 = .ok (.getfield 7, 3) := by decide +kernel
theorem dX3_findRound_254 : decode cX3_findRound 254 = .ok (.iload 4, 2) := by decide +kernel
theorem dX3_findRound_256 : decode cX3_findRound 256 = .ok (.iaload, 1) := by decide +kernel
theorem dX3_findRound_257 : decode cX3_findRound 257 = .ok (.aload_n 0, 1) := by decide +kernel
theorem dX3_findRound_258 : decode cX3_findRound 258 = .ok (.getfield 35, 3) := by decide +kernel
theorem dX3_findRound_261 : decode cX3_findRound 261 = .ok (.aload_n 0, 1) := by decide +kernel
theorem dX3_findRound_262 : decode cX3_findRound 262 = .ok (.getfield 13, 3) := by decide +kernel
theorem dX3_findRound_265 : decode cX3_findRound 265 = .ok (.iload 4, 2) := by decide +kernel
theorem dX3_findRound_267 : decode cX3_findRound 267 = .ok (.iaload, 1) := by decide +kernel
theorem dX3_findRound_268 : decode cX3_findRound 268 = .ok (.iaload, 1) := by decide +kernel
theorem dX3_findRound_269 : decode cX3_findRound 269 = .ok (.aload_n 0, 1) := by decide +kernel
theorem dX3_findRound_270 : decode cX3_findRound 270 = .ok (.getfield 19, 3) := by decide +kernel
theorem dX3_findRound_273 : decode cX3_findRound 273 = .ok (.iload 4, 2) := by decide +kernel
theorem dX3_findRound_275 : decode cX3_findRound 275 = .ok (.iaload, 1) := by decide +kernel
theorem dX3_findRound_276 : decode cX3_findRound 276 = .ok (.isub, 1) := by decide +kernel
theorem dX3_findRound_277 : decode cX3_findRound 277 = .ok (.iastore, 1) := by decide +kernel
theorem dX3_findRound_278 : decode cX3_findRound 278 = .ok (.aload_n 0, 1) := by decide +kernel
theorem dX3_findRound_279 : decode cX3_findRound 279 = .ok (.getfield 38, 3) := by decide +kernel
theorem dX3_findRound_282 : decode cX3_findRound 282 = .ok (.aload_n 0, 1) := by decide +kernel
theorem dX3_findRound_283 : decode cX3_findRound 283 = .ok (.getfield 7, 3) := by decide +kernel
theorem dX3_findRound_286 : decode cX3_findRound 286 = .ok (.iload 4, 2) := by decide +kernel
theorem dX3_findRound_288 : decode cX3_findRound 288 = .ok (.iaload, 1) := by decide +kernel
theorem dX3_findRound_289 : decode cX3_findRound 289 = .ok (.iconst (-1), 1) := by decide +kernel
theorem dX3_findRound_290 : decode cX3_findRound 290 = .ok (.iload 4, 2) := by decide +kernel
theorem dX3_findRound_292 : decode cX3_findRound 292 = .ok (.isub, 1) := by decide +kernel
theorem dX3_findRound_293 : decode cX3_findRound 293 = .ok (.iastore, 1) := by decide +kernel
theorem dX3_findRound_294 : decode cX3_findRound 294 = .ok (.aload_n 0, 1) := by decide +kernel
theorem dX3_findRound_295 : decode cX3_findRound 295 = .ok (.getfield 7, 3) := by decide +kernel
theorem dX3_findRound_298 : decode cX3_findRound 298 = .ok (.iload 4, 2) := by decide +kernel
theorem dX3_findRound_300 : decode cX3_findRound 300 = .ok (.iaload, 1) := by decide +kernel
theorem dX3_findRound_301 : decode cX3_findRound 301 = .ok (.istore_n 2, 1) := by decide +kernel
theorem dX3_findRound_302 : decode cX3_findRound 302 = .ok (.iinc 4 1, 3) := by decide +kernel
theorem dX3_findRound_305 : decode cX3_findRound 305 = .ok (.goto (-259), 3) := by decide +kernel
theorem dX3_findRound_308 : decode cX3_findRound 308 = .ok (.iinc 3 1, 3) := by decide +kernel
theorem dX3_findRound_311 : decode cX3_findRound 311 = .ok (.goto (-277), 3) := by decide +kernel
theorem dX3_findRound_314 : decode cX3_findRound 314 = .ok (.iload_n 2, 1) := by decide +kernel
theorem dX3_findRound_315 : decode cX3_findRound 315 = .ok (.ireturn, 1) := by decide +kernel
theorem dX3_before_0 : decode cX3_before 0 = .ok (.aload_n 0, 1) := by decide +kernel
theorem dX3_before_1 : decode cX3_before 1 = .ok (.getfield 38, 3) := by decide +kernel
theorem dX3_before_4 : decode cX3_before 4 = .ok (.iload_n 1, 1) := by decide +kernel
theorem dX3_before_5 : decode cX3_before 5 = .ok (.iaload, 1) := by decide +kernel
theorem dX3_before_6 : decode cX3_before 6 = .ok (.istore_n 2, 1) := by decide +kernel
theorem dX3_before_7 : decode cX3_before 7 = .ok (.iload_n 2, 1) := by decide +kernel
theorem dX3_before_8 : decode cX3_before 8 = .ok (.ifCond .lt 12, 3) := by decide +kernel
theorem dX3_before_11 : decode cX3_before 11 = .ok (.aload_n 0, 1) := by decide +kernel
theorem dX3_before_12 : decode cX3_before 12 = .ok (.getfield 7, 3) := by decide +kernel
theorem dX3_before_15 : decode cX3_before 15 = .ok (.iload_n 2, 1) := by decide +kernel
theorem dX3_before_16 : decode cX3_before 16 = .ok (.iaload, 1) := by decide +kernel
theorem dX3_before_17 : decode cX3_before 17 = .ok (.goto 11, 3) := by decide +kernel
theorem dX3_before_20 : decode cX3_before 20 = .ok (.aload_n 0, 1) := by decide +kernel
theorem dX3_before_21 : decode cX3_before 21 = .ok (.getfield 13, 3) := by decide +kernel
theorem dX3_before_24 : decode cX3_before 24 = .ok (.iconst (-1), 1) := by decide +kernel
theorem dX3_before_25 : decode cX3_before 25 = .ok (.iload_n 2, 1) := by decide +kernel
theorem dX3_before_26 : decode cX3_before 26 = .ok (.isub, 1) := by decide +kernel
theorem dX3_before_27 : decode cX3_before 27 = .ok (.iaload, 1) := by decide +kernel
theorem dX3_before_28 : decode cX3_before 28 = .ok (.ireturn, 1) := by decide +kernel
set_option maxRecDepth 20000 in
theorem ggX3_goRound_X3_before : GoodIn wsX3_goRound wsX3_before := goodIn_r _ [9, 2, 10, 11, 12, 13, 14, 15, 16, 17, 18, 19, 20, 21, 22, 23, 24, 25, 26, 27] (by decide +kernel) (by decide +kernel)
set_option maxRecDepth 20000 in
theorem gX3_goRound_X3_before : GoodIn wsX3_goRound (wsV RX3 86 RX3 yX3_before wsX3_before) := goodIn_app (goodIn_of _ (by decide +kernel)) ggX3_goRound_X3_before
theorem dX3_goRound_0 : decode cX3_goRound 0 = .ok (.iload_n 1, 1) := by decide +kernel
theorem dX3_goRound_1 : decode cX3_goRound 1 = .ok (.istore_n 2, 1) := by decide +kernel
theorem dX3_goRound_2 : decode cX3_goRound 2 = .ok (.iconst 0, 1) := by decide +kernel
theorem dX3_goRound_3 : decode cX3_goRound 3 = .ok (.istore_n 3, 1) := by decide +kernel
theorem dX3_goRound_4 : decode cX3_goRound 4 = .ok (.iload_n 3, 1) := by decide +kernel
theorem dX3_goRound_5 : decode cX3_goRound 5 = .ok (.bipush 8, 2) := by decide +kernel
theorem dX3_goRound_7 : decode cX3_goRound 7 = .ok (.if_icmp .ge 15, 3) := by decide +kernel
theorem dX3_goRound_10 : decode cX3_goRound 10 = .ok (.aload_n 0, 1) := by decide +kernel
theorem dX3_goRound_11 : decode cX3_goRound 11 = .ok (.iload_n 2, 1) := by decide +kernel
theorem dX3_goRound_12 : decode cX3_goRound 12 = .ok (.invokevirtual 86, 3) := by decide +kernel
theorem dX3_goRound_15 : decode cX3_goRound 15 = .ok (.istore_n 2, 1) := by decide +kernel
theorem dX3_goRound_16 : decode cX3_goRound 16 = .ok (.iinc 3 1, 3) := by decide +kernel
theorem dX3_goRound_19 : decode cX3_goRound 19 = .ok (.goto (-15), 3) := by decide +kernel
theorem dX3_goRound_22 : decode cX3_goRound 22 = .ok (.ldc 60, 2) := by decide +kernel
theorem dX3_goRound_24 : decode cX3_goRound 24 = .ok (.istore_n 3, 1) := by decide +kernel
theorem dX3_goRound_25 : decode cX3_goRound 25 = .ok (.iload_n 2, 1) := by decide +kernel
theorem dX3_goRound_26 : decode cX3_goRound 26 = .ok (.istore 4, 2) := by decide +kernel
theorem dX3_goRound_28 : decode cX3_goRound 28 = .ok (.iconst 1, 1) := by decide +kernel
theorem dX3_goRound_29 : decode cX3_goRound 29 = .ok (.istore 5, 2) := by decide +kernel
theorem dX3_goRound_31 : decode cX3_goRound 31 = .ok (.iload 5, 2) := by decide +kernel
theorem dX3_goRound_33 : decode cX3_goRound 33 = .ok (.ifCond .eq 83, 3) := by decide +kernel
theorem dX3_goRound_36 : decode cX3_goRound 36 = .ok (.aload_n 0, 1) := by decide +kernel
theorem dX3_goRound_37 : decode cX3_goRound 37 = .ok (.getfield 38, 3) := by decide +kernel
theorem dX3_goRound_40 : decode cX3_goRound 40 = .ok (.iload 4, 2) := by decide +kernel
theorem dX3_goRound_42 : decode cX3_goRound 42 = .ok (.iaload, 1) := by decide +kernel
theorem dX3_goRound_43 : decode cX3_goRound 43 = .ok (.istore 6, 2) := by decide +kernel
theorem dX3_goRound_45 : decode cX3_goRound 45 = .ok (.iload 6, 2) := by decide +kernel
theorem dX3_goRound_47 : decode cX3_goRound 47 = .ok (.ifCond .lt 21, 3) := by decide +kernel
theorem dX3_goRound_50 : decode cX3_goRound 50 = .ok (.aload_n 0, 1) := by decide +kernel
theorem dX3_goRound_51 : decode cX3_goRound 51 = .ok (.getfield 16, 3) := by decide +kernel
theorem dX3_goRound_54 : decode cX3_goRound 54 = .ok (.iload 6, 2) := by decide +kernel
theorem dX3_goRound_56 : decode cX3_goRound 56 = .ok (.iaload, 1) := by decide +kernel
theorem dX3_goRound_57 : decode cX3_goRound 57 = .ok (.aload_n 0, 1) := by decide +kernel
theorem dX3_goRound_58 : decode cX3_goRound 58 = .ok (.getfield 25, 3) := by decide +kernel
theorem dX3_goRound_61 : decode cX3_goRound 61 = .ok (.iload 6, 2) := by decide +kernel
theorem dX3_goRound_63 : decode cX3_goRound 63 = .ok (.iaload, 1) := by decide +kernel
theorem dX3_goRound_64 : decode cX3_goRound 64 = .ok (.isub, 1) := by decide +kernel
theorem dX3_goRound_65 : decode cX3_goRound 65 = .ok (.goto 12, 3) := by decide +kernel
theorem dX3_goRound_68 : decode cX3_goRound 68 = .ok (.aload_n 0, 1) := by decide +kernel
theorem dX3_goRound_69 : decode cX3_goRound 69 = .ok (.getfield 25, 3) := by decide +kernel
theorem dX3_goRound_72 : decode cX3_goRound 72 = .ok (.iconst (-1), 1) := by decide +kernel
theorem dX3_goRound_73 : decode cX3_goRound 73 = .ok (.iload 6, 2) := by decide +kernel
theorem dX3_goRound_75 : decode cX3_goRound 75 = .ok (.isub, 1) := by decide +kernel
theorem dX3_goRound_76 : decode cX3_goRound 76 = .ok (.iaload, 1) := by decide +kernel
theorem dX3_goRound_77 : decode cX3_goRound 77 = .ok (.istore 7, 2) := by decide +kernel
theorem dX3_goRound_79 : decode cX3_goRound 79 = .ok (.iload 7, 2) := by decide +kernel
theorem dX3_goRound_81 : decode cX3_goRound 81 = .ok (.iload_n 3, 1) := by decide +kernel
theorem dX3_goRound_82 : decode cX3_goRound 82 = .ok (.if_icmp .ge 8, 3) := by decide +kernel
theorem dX3_goRound_85 : decode cX3_goRound 85 = .ok (.iload 7, 2) := by decide +kernel
theorem dX3_goRound_87 : decode cX3_goRound 87 = .ok (.goto 4, 3) := by decide +kernel
theorem dX3_goRound_90 : decode cX3_goRound 90 = .ok (.iload_n 3, 1) := by decide +kernel
theorem dX3_goRound_91 : decode cX3_goRound 91 = .ok (.istore_n 3, 1) := by decide +kernel
theorem dX3_goRound_92 : decode cX3_goRound 92 = .ok (.aload_n 0, 1) := by decide +kernel
theorem dX3_goRound_93 : decode cX3_goRound 93 = .ok (.iload 4, 2) := by decide +kernel
theorem dX3_goRound_95 : decode cX3_goRound 95 = .ok (.invokevirtual 86, 3) := by decide +kernel
theorem dX3_goRound_98 : decode cX3_goRound 98 = .ok (.istore 4, 2) := by decide +kernel
theorem dX3_goRound_100 : decode cX3_goRound 100 = .ok (.iload 4, 2) := by decide +kernel
theorem dX3_goRound_102 : decode cX3_goRound 102 = .ok (.iload_n 2, 1) := by decide +kernel
theorem dX3_goRound_103 : decode cX3_goRound 103 = .ok (.if_icmp .eq 7, 3) := by decide +kernel
theorem dX3_goRound_106 : decode cX3_goRound 106 = .ok (.iconst 1, 1) := by decide +kernel
theorem dX3_goRound_107 : decode cX3_goRound 107 = .ok (.goto 4, 3) := by decide +kernel
theorem dX3_goRound_110 : decode cX3_goRound 110 = .ok (.iconst 0, 1) := by decide +kernel
theorem dX3_goRound_111 : decode cX3_goRound 111 = .ok (.istore 5, 2) := by decide +kernel
theorem dX3_goRound_113 : decode cX3_goRound 113 = .ok (.goto (-82), 3) := by decide +kernel
theorem dX3_goRound_116 : decode cX3_goRound 116 = .ok (.iconst 1, 1) := by decide +kernel
theorem dX3_goRound_117 : decode cX3_goRound 117 = .ok (.istore 5, 2) := by decide +kernel
theorem dX3_goRound_119 : decode cX3_goRound 119 = .ok (.iload 5, 2) := by decide +kernel
theorem dX3_goRound_121 : decode cX3_goRound 121 = .ok (.ifCond .eq 72, 3) := by decide +kernel
theorem dX3_goRound_124 : decode cX3_goRound 124 = .ok (.aload_n 0, 1) := by decide +kernel
theorem dX3_goRound_125 : decode cX3_goRound 125 = .ok (.getfield 38, 3) := by decide +kernel
theorem dX3_goRound_128 : decode cX3_goRound 128 = .ok (.iload 4, 2) := by decide +kernel
theorem dX3_goRound_130 : decode cX3_goRound 130 = .ok (.iaload, 1) := by decide +kernel
theorem dX3_goRound_131 : decode cX3_goRound 131 = .ok (.istore 6, 2) := by decide +kernel
theorem dX3_goRound_133 : decode cX3_goRound 133 = .ok (.aload_n 0, 1) := by decide +kernel
theorem dX3_goRound_134 : decode cX3_goRound 134 = .ok (.iload 4, 2) := by decide +kernel
theorem dX3_goRound_136 : decode cX3_goRound 136 = .ok (.invokevirtual 86, 3) := by decide +kernel
theorem dX3_goRound_139 : decode cX3_goRound 139 = .ok (.istore 7, 2) := by decide +kernel
theorem dX3_goRound_141 : decode cX3_goRound 141 = .ok (.iload 6, 2) := by decide +kernel
theorem dX3_goRound_143 : decode cX3_goRound 143 = .ok (.ifCond .lt 17, 3) := by decide +kernel
theorem dX3_goRound_146 : decode cX3_goRound 146 = .ok (.aload_n 0, 1) := by decide +kernel
theorem dX3_goRound_147 : decode cX3_goRound 147 = .ok (.getfield 25, 3) := by decide +kernel
theorem dX3_goRound_150 : decode cX3_goRound 150 = .ok (.iload 6, 2) := by decide +kernel
theorem dX3_goRound_152 : decode cX3_goRound 152 = .ok (.dup2, 1) := by decide +kernel
theorem dX3_goRound_153 : decode cX3_goRound 153 = .ok (.iaload, 1) := by decide +kernel
theorem dX3_goRound_154 : decode cX3_goRound 154 = .ok (.iload_n 3, 1) := by decide +kernel
theorem dX3_goRound_155 : decode cX3_goRound 155 = .ok (.iadd, 1) := by decide +kernel
theorem dX3_goRound_156 : decode cX3_goRound 156 = .ok (.iastore, 1) := by decide +kernel
theorem dX3_goRound_157 : decode cX3_goRound 157 = .ok (.goto 16, 3) := by decide +kernel
theorem dX3_goRound_160 : decode cX3_goRound 160 = .ok (.aload_n 0, 1) := by decide +kernel
theorem dX3_goRound_161 : decode cX3_goRound 161 = .ok (.getfield 25, 3) := by decide +kernel
theorem dX3_goRound_164 : decode cX3_goRound 164 = .ok (.iconst (-1), 1) := by decide +kernel
theorem dX3_goRound_165 : decode cX3_goRound 165 = .ok (.iload 6, 2) := by decide +kernel
theorem dX3_goRound_167 : decode cX3_goRound 167 = .ok (.isub, 1) := by decide +kernel
theorem dX3_goRound_168 : decode cX3_goRound 168 = .ok (.dup2, 1) := by decide +kernel
theorem dX3_goRound_169 : decode cX3_goRound 169 = .ok (.iaload, 1) := by decide +kernel
theorem dX3_goRound_170 : decode cX3_goRound 170 = .ok (.iload_n 3, 1) := by decide +kernel
theorem dX3_goRound_171 : decode cX3_goRound 171 = .ok (.isub, 1) := by decide +kernel
theorem dX3_goRound_172 : decode cX3_goRound 172 = .ok (.iastore, 1) := by decide +kernel
theorem dX3_goRound_173 : decode cX3_goRound 173 = .ok (.iload 7, 2) := by decide +kernel
theorem dX3_goRound_175 : decode cX3_goRound 175 = .ok (.istore 4, 2) := by decide +kernel
theorem dX3_goRound_177 : decode cX3_goRound 177 = .ok (.iload 4, 2) := by decide +kernel
theorem dX3_goRound_179 : decode cX3_goRound 179 = .ok (.iload_n 2, 1) := by decide +kernel
theorem dX3_goRound_180 : decode cX3_goRound 180 = .ok (.if_icmp .eq 7, 3) := by decide +kernel
theorem dX3_goRound_183 : decode cX3_goRound 183 = .ok (.iconst 1, 1) := by decide +kernel
theorem dX3_goRound_184 : decode cX3_goRound 184 = .ok (.goto 4, 3) := by decide +kernel
theorem dX3_goRound_187 : decode cX3_goRound 187 = .ok (.iconst 0, 1) := by decide +kernel
theorem dX3_goRound_188 : decode cX3_goRound 188 = .ok (.istore 5, 2) := by decide +kernel
theorem dX3_goRound_190 : decode cX3_goRound 190 = .ok (.goto (-71), 3) := by decide +kernel
theorem dX3_goRound_193 : decode cX3_goRound 193 = .ok (.return_, 1) := by decide +kernel
set_option maxRecDepth 20000 in
theorem ggX3_solve_X3_fill : GoodIn wsX3_solve wsX3_fill := goodIn_r _ [13, 6, 14, 1, 7, 15, 16, 17, 18, 19, 12, 20, 21, 22, 23, 8, 24, 25, 26, 27, 28, 29, 30, 31, 32, 33, 34, 35, 36, 37, 38, 53, 54, 55, 56, 57, 58, 59, 60, 61, 62, 63, 64, 65, 66, 67, 68] (by decide +kernel) (by decide +kernel)
set_option maxRecDepth 20000 in
theorem gX3_solve_X3_fill : GoodIn wsX3_solve (wsV RX3 80 RX3 yX3_fill wsX3_fill) := goodIn_app (goodIn_of _ (by decide +kernel)) ggX3_solve_X3_fill
set_option maxRecDepth 20000 in
theorem ggX3_solve_X3_findRound : GoodIn wsX3_solve wsX3_findRound := goodIn_r _ [42, 43, 44, 3, 6, 23, 16, 7, 21, 8, 22, 53, 54, 55, 56, 57, 58, 59, 60, 61, 62, 63, 64, 65, 66, 67, 68] (by decide +kernel) (by decide +kernel)
set_option maxRecDepth 20000 in
theorem gX3_solve_X3_findRound : GoodIn wsX3_solve (wsV RX3 91 RX3 yX3_findRound wsX3_findRound) := goodIn_app (goodIn_of _ (by decide +kernel)) ggX3_solve_X3_findRound
set_option maxRecDepth 20000 in
theorem ggX3_solve_X3_goRound : GoodIn wsX3_solve wsX3_goRound := goodIn_r _ [48, 16, 44, 23, 7, 49, 50, 51, 12, 52, 21, 22, 53, 54, 55, 56, 57, 58, 59, 60, 61, 62, 63, 64, 65, 66, 67, 68] (by decide +kernel) (by decide +kernel)
set_option maxRecDepth 20000 in
theorem gX3_solve_X3_goRound : GoodIn wsX3_solve (wsV RX3 96 RX3 yX3_goRound wsX3_goRound) := goodIn_app (goodIn_of _ (by decide +kernel)) ggX3_solve_X3_goRound
theorem dX3_solve_0 : decode cX3_solve 0 = .ok (.iconst 0, 1) := by decide +kernel
theorem dX3_solve_1 : decode cX3_solve 1 = .ok (.istore_n 1, 1) := by decide +kernel
theorem dX3_solve_2 : decode cX3_solve 2 = .ok (.iconst 0, 1) := by decide +kernel
theorem dX3_solve_3 : decode cX3_solve 3 = .ok (.istore_n 2, 1) := by decide +kernel
theorem dX3_solve_4 : decode cX3_solve 4 = .ok (.iconst 0, 1) := by decide +kernel
theorem dX3_solve_5 : decode cX3_solve 5 = .ok (.istore_n 3, 1) := by decide +kernel
theorem dX3_solve_6 : decode cX3_solve 6 = .ok (.iload_n 3, 1) := by decide +kernel
theorem dX3_solve_7 : decode cX3_solve 7 = .ok (.bipush 8, 2) := by decide +kernel
theorem dX3_solve_9 : decode cX3_solve 9 = .ok (.if_icmp .ge 54, 3) := by decide +kernel
theorem dX3_solve_12 : decode cX3_solve 12 = .ok (.iload_n 1, 1) := by decide +kernel
theorem dX3_solve_13 : decode cX3_solve 13 = .ok (.aload_n 0, 1) := by decide +kernel
theorem dX3_solve_14 : decode cX3_solve 14 = .ok (.getfield 22, 3) := by decide +kernel
theorem dX3_solve_17 : decode cX3_solve 17 = .ok (.iload_n 3, 1) := by decide +kernel
theorem dX3_solve_18 : decode cX3_solve 18 = .ok (.iaload, 1) := by decide +kernel
theorem dX3_solve_19 : decode cX3_solve 19 = .ok (.ifCond .le 12, 3) := by decide +kernel
theorem dX3_solve_22 : decode cX3_solve 22 = .ok (.aload_n 0, 1) := by decide +kernel
theorem dX3_solve_23 : decode cX3_solve 23 = .ok (.getfield 22, 3) := by decide +kernel
theorem dX3_solve_26 : decode cX3_solve 26 = .ok (.iload_n 3, 1) := by decide +kernel
theorem dX3_solve_27 : decode cX3_solve 27 = .ok (.iaload, 1) := by decide +kernel
theorem dX3_solve_28 : decode cX3_solve 28 = .ok (.goto 4, 3) := by decide +kernel
theorem dX3_solve_31 : decode cX3_solve 31 = .ok (.iconst 0, 1) := by decide +kernel
theorem dX3_solve_32 : decode cX3_solve 32 = .ok (.iadd, 1) := by decide +kernel
theorem dX3_solve_33 : decode cX3_solve 33 = .ok (.istore_n 1, 1) := by decide +kernel
theorem dX3_solve_34 : decode cX3_solve 34 = .ok (.iload_n 2, 1) := by decide +kernel
theorem dX3_solve_35 : decode cX3_solve 35 = .ok (.aload_n 0, 1) := by decide +kernel
theorem dX3_solve_36 : decode cX3_solve 36 = .ok (.getfield 22, 3) := by decide +kernel
theorem dX3_solve_39 : decode cX3_solve 39 = .ok (.iload_n 3, 1) := by decide +kernel
theorem dX3_solve_40 : decode cX3_solve 40 = .ok (.iaload, 1) := by decide +kernel
theorem dX3_solve_41 : decode cX3_solve 41 = .ok (.ifCond .ge 13, 3) := by decide +kernel
theorem dX3_solve_44 : decode cX3_solve 44 = .ok (.aload_n 0, 1) := by decide +kernel
theorem dX3_solve_45 : decode cX3_solve 45 = .ok (.getfield 22, 3) := by decide +kernel
theorem dX3_solve_48 : decode cX3_solve 48 = .ok (.iload_n 3, 1) := by decide +kernel
theorem dX3_solve_49 : decode cX3_solve 49 = .ok (.iaload, 1) := by decide +kernel
theorem dX3_solve_50 : decode cX3_solve 50 = .ok (.ineg, 1) := by decide +kernel
theorem dX3_solve_51 : decode cX3_solve 51 = .ok (.goto 4, 3) := by decide +kernel
theorem dX3_solve_54 : decode cX3_solve 54 = .ok (.iconst 0, 1) := by decide +kernel
theorem dX3_solve_55 : decode cX3_solve 55 = .ok (.iadd, 1) := by decide +kernel
theorem dX3_solve_56 : decode cX3_solve 56 = .ok (.istore_n 2, 1) := by decide +kernel
theorem dX3_solve_57 : decode cX3_solve 57 = .ok (.iinc 3 1, 3) := by decide +kernel
theorem dX3_solve_60 : decode cX3_solve 60 = .ok (.goto (-54), 3) := by decide +kernel
theorem dX3_solve_63 : decode cX3_solve 63 = .ok (.iload_n 1, 1) := by decide +kernel
theorem dX3_solve_64 : decode cX3_solve 64 = .ok (.iload_n 2, 1) := by decide +kernel
theorem dX3_solve_65 : decode cX3_solve 65 = .ok (.if_icmp .ne 11, 3) := by decide +kernel
theorem dX3_solve_68 : decode cX3_solve 68 = .ok (.aload_n 0, 1) := by decide +kernel
theorem dX3_solve_69 : decode cX3_solve 69 = .ok (.invokevirtual 80, 3) := by decide +kernel
theorem dX3_solve_72 : decode cX3_solve 72 = .ok (.iload_n 1, 1) := by decide +kernel
theorem dX3_solve_73 : decode cX3_solve 73 = .ok (.if_icmp .eq 6, 3) := by decide +kernel
theorem dX3_solve_76 : decode cX3_solve 76 = .ok (.ldc 90, 2) := by decide +kernel
theorem dX3_solve_78 : decode cX3_solve 78 = .ok (.ireturn, 1) := by decide +kernel
theorem dX3_solve_79 : decode cX3_solve 79 = .ok (.aload_n 0, 1) := by decide +kernel
theorem dX3_solve_80 : decode cX3_solve 80 = .ok (.iconst 1, 1) := by decide +kernel
theorem dX3_solve_81 : decode cX3_solve 81 = .ok (.invokevirtual 91, 3) := by decide +kernel
theorem dX3_solve_84 : decode cX3_solve 84 = .ok (.ldc 84, 2) := by decide +kernel
theorem dX3_solve_86 : decode cX3_solve 86 = .ok (.if_icmp .eq 6, 3) := by decide +kernel
theorem dX3_solve_89 : decode cX3_solve 89 = .ok (.ldc 95, 2) := by decide +kernel
theorem dX3_solve_91 : decode cX3_solve 91 = .ok (.ireturn, 1) := by decide +kernel
theorem dX3_solve_92 : decode cX3_solve 92 = .ok (.aload_n 0, 1) := by decide +kernel
theorem dX3_solve_93 : decode cX3_solve 93 = .ok (.iconst 0, 1) := by decide +kernel
theorem dX3_solve_94 : decode cX3_solve 94 = .ok (.invokevirtual 91, 3) := by decide +kernel
theorem dX3_solve_97 : decode cX3_solve 97 = .ok (.istore_n 3, 1) := by decide +kernel
theorem dX3_solve_98 : decode cX3_solve 98 = .ok (.iload_n 3, 1) := by decide +kernel
theorem dX3_solve_99 : decode cX3_solve 99 = .ok (.ldc 84, 2) := by decide +kernel
theorem dX3_solve_101 : decode cX3_solve 101 = .ok (.if_icmp .eq 17, 3) := by decide +kernel
theorem dX3_solve_104 : decode cX3_solve 104 = .ok (.aload_n 0, 1) := by decide +kernel
theorem dX3_solve_105 : decode cX3_solve 105 = .ok (.iload_n 3, 1) := by decide +kernel
theorem dX3_solve_106 : decode cX3_solve 106 = .ok (.invokevirtual 96, 3) := by decide +kernel
theorem dX3_solve_109 : decode cX3_solve 109 = .ok (.aload_n 0, 1) := by decide +kernel
theorem dX3_solve_110 : decode cX3_solve 110 = .ok (.iconst 0, 1) := by decide +kernel
theorem dX3_solve_111 : decode cX3_solve 111 = .ok (.invokevirtual 91, 3) := by decide +kernel
theorem dX3_solve_114 : decode cX3_solve 114 = .ok (.istore_n 3, 1) := by decide +kernel
theorem dX3_solve_115 : decode cX3_solve 115 = .ok (.goto (-17), 3) := by decide +kernel
theorem dX3_solve_118 : decode cX3_solve 118 = .ok (.aload_n 0, 1) := by decide +kernel
theorem dX3_solve_119 : decode cX3_solve 119 = .ok (.iconst 0, 1) := by decide +kernel
theorem dX3_solve_120 : decode cX3_solve 120 = .ok (.putfield 100, 3) := by decide +kernel
theorem dX3_solve_123 : decode cX3_solve 123 = .ok (.iconst 0, 1) := by decide +kernel
theorem dX3_solve_124 : decode cX3_solve 124 = .ok (.istore 4, 2) := by decide +kernel
theorem dX3_solve_126 : decode cX3_solve 126 = .ok (.iload 4, 2) := by decide +kernel
theorem dX3_solve_128 : decode cX3_solve 128 = .ok (.aload_n 0, 1) := by decide +kernel
theorem dX3_solve_129 : decode cX3_solve 129 = .ok (.getfield 55, 3) := by decide +kernel
theorem dX3_solve_132 : decode cX3_solve 132 = .ok (.if_icmp .ge 33, 3) := by decide +kernel
theorem dX3_solve_135 : decode cX3_solve 135 = .ok (.aload_n 0, 1) := by decide +kernel
theorem dX3_solve_136 : decode cX3_solve 136 = .ok (.dup, 1) := by decide +kernel
theorem dX3_solve_137 : decode cX3_solve 137 = .ok (.getfield 100, 3) := by decide +kernel
theorem dX3_solve_140 : decode cX3_solve 140 = .ok (.aload_n 0, 1) := by decide +kernel
theorem dX3_solve_141 : decode cX3_solve 141 = .ok (.getfield 25, 3) := by decide +kernel
theorem dX3_solve_144 : decode cX3_solve 144 = .ok (.iload 4, 2) := by decide +kernel
theorem dX3_solve_146 : decode cX3_solve 146 = .ok (.iaload, 1) := by decide +kernel
theorem dX3_solve_147 : decode cX3_solve 147 = .ok (.aload_n 0, 1) := by decide +kernel
theorem dX3_solve_148 : decode cX3_solve 148 = .ok (.getfield 19, 3) := by decide +kernel
theorem dX3_solve_151 : decode cX3_solve 151 = .ok (.iload 4, 2) := by decide +kernel
theorem dX3_solve_153 : decode cX3_solve 153 = .ok (.iaload, 1) := by decide +kernel
theorem dX3_solve_154 : decode cX3_solve 154 = .ok (.imul, 1) := by decide +kernel
theorem dX3_solve_155 : decode cX3_solve 155 = .ok (.iadd, 1) := by decide +kernel
theorem dX3_solve_156 : decode cX3_solve 156 = .ok (.putfield 100, 3) := by decide +kernel
theorem dX3_solve_159 : decode cX3_solve 159 = .ok (.iinc 4 1, 3) := by decide +kernel
theorem dX3_solve_162 : decode cX3_solve 162 = .ok (.goto (-36), 3) := by decide +kernel
theorem dX3_solve_165 : decode cX3_solve 165 = .ok (.iconst 0, 1) := by decide +kernel
theorem dX3_solve_166 : decode cX3_solve 166 = .ok (.ireturn, 1) := by decide +kernel
set_option maxRecDepth 20000 in
theorem ggX3_state_X3_solve : GoodIn wsX3_state wsX3_solve := goodIn_r _ [5, 6, 7, 8, 9, 10, 11, 12, 13, 14, 15, 16, 4, 17, 18, 19, 20, 21, 22, 23, 24, 25, 26, 27, 28, 29, 30, 31, 32, 33, 34, 35, 36, 37, 38, 39, 40, 41, 42, 43, 44, 45, 46, 47, 48, 49, 50, 51, 52, 53, 54, 55, 56, 57, 58, 59, 60, 61, 62, 63, 64, 65, 66, 67, 68, 69, 70, 71, 72] (by decide +kernel) (by decide +kernel)
set_option maxRecDepth 20000 in
theorem gX3_state_X3_solve : GoodIn wsX3_state (wsV RX3 103 RX3 yX3_solve wsX3_solve) := goodIn_app (goodIn_of _ (by decide +kernel)) ggX3_state_X3_solve
theorem dX3_state_0 : decode cX3_state 0 = .ok (.aload_n 0, 1) := by decide +kernel
theorem dX3_state_1 : decode cX3_state 1 = .ok (.invokevirtual 103, 3) := by decide +kernel
theorem dX3_state_4 : decode cX3_state 4 = .ok (.ireturn, 1) := by decide +kernel
set_option maxRecDepth 20000 in
theorem ggX3_cost_X3_solve : GoodIn wsX3_cost wsX3_solve := goodIn_r _ [6, 7, 8, 9, 10, 1, 11, 12, 13, 14, 15, 16, 5, 17, 18, 19, 20, 21, 22, 23, 24, 25, 26, 27, 28, 29, 30, 31, 32, 33, 34, 35, 36, 37, 38, 39, 40, 41, 42, 43, 44, 45, 46, 47, 48, 49, 50, 51, 52, 53, 54, 55, 56, 57, 58, 59, 60, 61, 62, 63, 64, 65, 66, 67, 68, 69, 70, 71, 72] (by decide +kernel) (by decide +kernel)
set_option maxRecDepth 20000 in
theorem gX3_cost_X3_solve : GoodIn wsX3_cost (wsV RX3 103 RX3 yX3_solve wsX3_solve) := goodIn_app (goodIn_of _ (by decide +kernel)) ggX3_cost_X3_solve
theorem dX3_cost_0 : decode cX3_cost 0 = .ok (.aload_n 0, 1) := by decide +kernel
theorem dX3_cost_1 : decode cX3_cost 1 = .ok (.invokevirtual 103, 3) := by decide +kernel
theorem dX3_cost_4 : decode cX3_cost 4 = .ok (.istore_n 1, 1) := by decide +kernel
theorem dX3_cost_5 : decode cX3_cost 5 = .ok (.iload_n 1, 1) := by decide +kernel
theorem dX3_cost_6 : decode cX3_cost 6 = .ok (.ifCond .ge 7, 3) := by decide +kernel
theorem dX3_cost_9 : decode cX3_cost 9 = .ok (.iload_n 1, 1) := by decide +kernel
theorem dX3_cost_10 : decode cX3_cost 10 = .ok (.goto 7, 3) := by decide +kernel
theorem dX3_cost_13 : decode cX3_cost 13 = .ok (.aload_n 0, 1) := by decide +kernel
theorem dX3_cost_14 : decode cX3_cost 14 = .ok (.getfield 100, 3) := by decide +kernel
theorem dX3_cost_17 : decode cX3_cost 17 = .ok (.ireturn, 1) := by decide +kernel
set_option maxRecDepth 20000 in
theorem ggX3_marginal_X3_in : GoodIn wsX3_marginal wsX3_in := goodIn_r _ [8] (by decide +kernel) (by decide +kernel)
set_option maxRecDepth 20000 in
theorem gX3_marginal_X3_in : GoodIn wsX3_marginal (va_wsS RX3 50 yX3_in wsX3_in) := goodIn_app (goodIn_of _ (by decide +kernel)) ggX3_marginal_X3_in
set_option maxRecDepth 20000 in
theorem ggX3_marginal_X3_solve : GoodIn wsX3_marginal wsX3_solve := goodIn_r _ [12, 3, 13, 4, 14, 2, 15, 16, 17, 18, 19, 20, 7, 21, 22, 23, 24, 25, 26, 27, 28, 29, 30, 31, 32, 33, 34, 35, 36, 37, 38, 39, 40, 41, 42, 43, 44, 45, 46, 47, 48, 49, 50, 51, 52, 53, 54, 55, 56, 57, 58, 59, 60, 61, 62, 63, 64, 65, 66, 67, 68, 69, 70, 71, 72, 73, 74, 75, 76] (by decide +kernel) (by decide +kernel)
set_option maxRecDepth 20000 in
theorem gX3_marginal_X3_solve : GoodIn wsX3_marginal (wsV RX3 103 RX3 yX3_solve wsX3_solve) := goodIn_app (goodIn_of _ (by decide +kernel)) ggX3_marginal_X3_solve
theorem dX3_marginal_0 : decode cX3_marginal 0 = .ok (.iload_n 1, 1) := by decide +kernel
theorem dX3_marginal_1 : decode cX3_marginal 1 = .ok (.iconst 0, 1) := by decide +kernel
theorem dX3_marginal_2 : decode cX3_marginal 2 = .ok (.bipush 7, 2) := by decide +kernel
theorem dX3_marginal_4 : decode cX3_marginal 4 = .ok (.invokestatic 50, 3) := by decide +kernel
theorem dX3_marginal_7 : decode cX3_marginal 7 = .ok (.ifCond .eq 13, 3) := by decide +kernel
theorem dX3_marginal_10 : decode cX3_marginal 10 = .ok (.iload_n 2, 1) := by decide +kernel
theorem dX3_marginal_11 : decode cX3_marginal 11 = .ok (.iconst 0, 1) := by decide +kernel
theorem dX3_marginal_12 : decode cX3_marginal 12 = .ok (.bipush 7, 2) := by decide +kernel
theorem dX3_marginal_14 : decode cX3_marginal 14 = .ok (.invokestatic 50, 3) := by decide +kernel
theorem dX3_marginal_17 : decode cX3_marginal 17 = .ok (.ifCond .ne 6, 3) := by decide +kernel
theorem dX3_marginal_20 : decode cX3_marginal 20 = .ok (.ldc 54, 2) := by decide +kernel
theorem dX3_marginal_22 : decode cX3_marginal 22 = .ok (.ireturn, 1) := by decide +kernel
theorem dX3_marginal_23 : decode cX3_marginal 23 = .ok (.aload_n 0, 1) := by decide +kernel
theorem dX3_marginal_24 : decode cX3_marginal 24 = .ok (.invokevirtual 103, 3) := by decide +kernel
theorem dX3_marginal_27 : decode cX3_marginal 27 = .ok (.istore_n 3, 1) := by decide +kernel
theorem dX3_marginal_28 : decode cX3_marginal 28 = .ok (.iload_n 3, 1) := by decide +kernel
theorem dX3_marginal_29 : decode cX3_marginal 29 = .ok (.ifCond .lt 8, 3) := by decide +kernel
theorem dX3_marginal_32 : decode cX3_marginal 32 = .ok (.iload_n 1, 1) := by decide +kernel
theorem dX3_marginal_33 : decode cX3_marginal 33 = .ok (.iload_n 2, 1) := by decide +kernel
theorem dX3_marginal_34 : decode cX3_marginal 34 = .ok (.if_icmp .ne 5, 3) := by decide +kernel
theorem dX3_marginal_37 : decode cX3_marginal 37 = .ok (.iload_n 3, 1) := by decide +kernel
theorem dX3_marginal_38 : decode cX3_marginal 38 = .ok (.ireturn, 1) := by decide +kernel
theorem dX3_marginal_39 : decode cX3_marginal 39 = .ok (.aload_n 0, 1) := by decide +kernel
theorem dX3_marginal_40 : decode cX3_marginal 40 = .ok (.getfield 100, 3) := by decide +kernel
theorem dX3_marginal_43 : decode cX3_marginal 43 = .ok (.istore 4, 2) := by decide +kernel
theorem dX3_marginal_45 : decode cX3_marginal 45 = .ok (.aload_n 0, 1) := by decide +kernel
theorem dX3_marginal_46 : decode cX3_marginal 46 = .ok (.getfield 22, 3) := by decide +kernel
theorem dX3_marginal_49 : decode cX3_marginal 49 = .ok (.iload_n 1, 1) := by decide +kernel
theorem dX3_marginal_50 : decode cX3_marginal 50 = .ok (.dup2, 1) := by decide +kernel
theorem dX3_marginal_51 : decode cX3_marginal 51 = .ok (.iaload, 1) := by decide +kernel
theorem dX3_marginal_52 : decode cX3_marginal 52 = .ok (.iconst 1, 1) := by decide +kernel
theorem dX3_marginal_53 : decode cX3_marginal 53 = .ok (.iadd, 1) := by decide +kernel
theorem dX3_marginal_54 : decode cX3_marginal 54 = .ok (.iastore, 1) := by decide +kernel
theorem dX3_marginal_55 : decode cX3_marginal 55 = .ok (.aload_n 0, 1) := by decide +kernel
theorem dX3_marginal_56 : decode cX3_marginal 56 = .ok (.getfield 22, 3) := by decide +kernel
theorem dX3_marginal_59 : decode cX3_marginal 59 = .ok (.iload_n 2, 1) := by decide +kernel
theorem dX3_marginal_60 : decode cX3_marginal 60 = .ok (.dup2, 1) := by decide +kernel
theorem dX3_marginal_61 : decode cX3_marginal 61 = .ok (.iaload, 1) := by decide +kernel
theorem dX3_marginal_62 : decode cX3_marginal 62 = .ok (.iconst 1, 1) := by decide +kernel
theorem dX3_marginal_63 : decode cX3_marginal 63 = .ok (.isub, 1) := by decide +kernel
theorem dX3_marginal_64 : decode cX3_marginal 64 = .ok (.iastore, 1) := by decide +kernel
theorem dX3_marginal_65 : decode cX3_marginal 65 = .ok (.aload_n 0, 1) := by decide +kernel
theorem dX3_marginal_66 : decode cX3_marginal 66 = .ok (.invokevirtual 103, 3) := by decide +kernel
theorem dX3_marginal_69 : decode cX3_marginal 69 = .ok (.istore_n 3, 1) := by decide +kernel
theorem dX3_marginal_70 : decode cX3_marginal 70 = .ok (.aload_n 0, 1) := by decide +kernel
theorem dX3_marginal_71 : decode cX3_marginal 71 = .ok (.getfield 22, 3) := by decide +kernel
theorem dX3_marginal_74 : decode cX3_marginal 74 = .ok (.iload_n 1, 1) := by decide +kernel
theorem dX3_marginal_75 : decode cX3_marginal 75 = .ok (.dup2, 1) := by decide +kernel
theorem dX3_marginal_76 : decode cX3_marginal 76 = .ok (.iaload, 1) := by decide +kernel
theorem dX3_marginal_77 : decode cX3_marginal 77 = .ok (.iconst 1, 1) := by decide +kernel
theorem dX3_marginal_78 : decode cX3_marginal 78 = .ok (.isub, 1) := by decide +kernel
theorem dX3_marginal_79 : decode cX3_marginal 79 = .ok (.iastore, 1) := by decide +kernel
theorem dX3_marginal_80 : decode cX3_marginal 80 = .ok (.aload_n 0, 1) := by decide +kernel
theorem dX3_marginal_81 : decode cX3_marginal 81 = .ok (.getfield 22, 3) := by decide +kernel
theorem dX3_marginal_84 : decode cX3_marginal 84 = .ok (.iload_n 2, 1) := by decide +kernel
theorem dX3_marginal_85 : decode cX3_marginal 85 = .ok (.dup2, 1) := by decide +kernel
theorem dX3_marginal_86 : decode cX3_marginal 86 = .ok (.iaload, 1) := by decide +kernel
theorem dX3_marginal_87 : decode cX3_marginal 87 = .ok (.iconst 1, 1) := by decide +kernel
theorem dX3_marginal_88 : decode cX3_marginal 88 = .ok (.iadd, 1) := by decide +kernel
theorem dX3_marginal_89 : decode cX3_marginal 89 = .ok (.iastore, 1) := by decide +kernel
theorem dX3_marginal_90 : decode cX3_marginal 90 = .ok (.iload_n 3, 1) := by decide +kernel
theorem dX3_marginal_91 : decode cX3_marginal 91 = .ok (.ifCond .ge 8, 3) := by decide +kernel
theorem dX3_marginal_94 : decode cX3_marginal 94 = .ok (.ldc 84, 2) := by decide +kernel
theorem dX3_marginal_96 : decode cX3_marginal 96 = .ok (.goto 10, 3) := by decide +kernel
theorem dX3_marginal_99 : decode cX3_marginal 99 = .ok (.aload_n 0, 1) := by decide +kernel
theorem dX3_marginal_100 : decode cX3_marginal 100 = .ok (.getfield 100, 3) := by decide +kernel
theorem dX3_marginal_103 : decode cX3_marginal 103 = .ok (.iload 4, 2) := by decide +kernel
theorem dX3_marginal_105 : decode cX3_marginal 105 = .ok (.isub, 1) := by decide +kernel
theorem dX3_marginal_106 : decode cX3_marginal 106 = .ok (.ireturn, 1) := by decide +kernel
theorem dX3_isFree_0 : decode cX3_isFree 0 = .ok (.aload_n 0, 1) := by decide +kernel
theorem dX3_isFree_1 : decode cX3_isFree 1 = .ok (.getfield 19, 3) := by decide +kernel
theorem dX3_isFree_4 : decode cX3_isFree 4 = .ok (.iload_n 1, 1) := by decide +kernel
theorem dX3_isFree_5 : decode cX3_isFree 5 = .ok (.iaload, 1) := by decide +kernel
theorem dX3_isFree_6 : decode cX3_isFree 6 = .ok (.aload_n 0, 1) := by decide +kernel
theorem dX3_isFree_7 : decode cX3_isFree 7 = .ok (.getfield 35, 3) := by decide +kernel
theorem dX3_isFree_10 : decode cX3_isFree 10 = .ok (.aload_n 0, 1) := by decide +kernel
theorem dX3_isFree_11 : decode cX3_isFree 11 = .ok (.getfield 7, 3) := by decide +kernel
theorem dX3_isFree_14 : decode cX3_isFree 14 = .ok (.iload_n 1, 1) := by decide +kernel
theorem dX3_isFree_15 : decode cX3_isFree 15 = .ok (.iaload, 1) := by decide +kernel
theorem dX3_isFree_16 : decode cX3_isFree 16 = .ok (.iaload, 1) := by decide +kernel
theorem dX3_isFree_17 : decode cX3_isFree 17 = .ok (.iadd, 1) := by decide +kernel
theorem dX3_isFree_18 : decode cX3_isFree 18 = .ok (.aload_n 0, 1) := by decide +kernel
theorem dX3_isFree_19 : decode cX3_isFree 19 = .ok (.getfield 35, 3) := by decide +kernel
theorem dX3_isFree_22 : decode cX3_isFree 22 = .ok (.aload_n 0, 1) := by decide +kernel
theorem dX3_isFree_23 : decode cX3_isFree 23 = .ok (.getfield 13, 3) := by decide +kernel
theorem dX3_isFree_26 : decode cX3_isFree 26 = .ok (.iload_n 1, 1) := by decide +kernel
theorem dX3_isFree_27 : decode cX3_isFree 27 = .ok (.iaload, 1) := by decide +kernel
theorem dX3_isFree_28 : decode cX3_isFree 28 = .ok (.iaload, 1) := by decide +kernel
theorem dX3_isFree_29 : decode cX3_isFree 29 = .ok (.isub, 1) := by decide +kernel
theorem dX3_isFree_30 : decode cX3_isFree 30 = .ok (.ifCond .ne 7, 3) := by decide +kernel
theorem dX3_isFree_33 : decode cX3_isFree 33 = .ok (.iconst 1, 1) := by decide +kernel
theorem dX3_isFree_34 : decode cX3_isFree 34 = .ok (.goto 4, 3) := by decide +kernel
theorem dX3_isFree_37 : decode cX3_isFree 37 = .ok (.iconst 0, 1) := by decide +kernel
theorem dX3_isFree_38 : decode cX3_isFree 38 = .ok (.ireturn, 1) := by decide +kernel
set_option maxRecDepth 20000 in
theorem ggX3_room_X3_findRound : GoodIn wsX3_room wsX3_findRound := goodIn_r _ [11, 12, 13, 4, 1, 14, 15, 6, 16, 17, 18, 38, 39, 40, 41, 42, 43, 44, 45, 46, 47, 48, 49, 50, 51, 52, 53] (by decide +kernel) (by decide +kernel)
set_option maxRecDepth 20000 in
theorem gX3_room_X3_findRound : GoodIn wsX3_room (wsV RX3 91 RX3 yX3_findRound wsX3_findRound) := goodIn_app (goodIn_of _ (by decide +kernel)) ggX3_room_X3_findRound
set_option maxRecDepth 20000 in
theorem ggX3_room_X3_isFree : GoodIn wsX3_room wsX3_isFree := goodIn_r _ [22, 17, 12, 16, 18, 38, 39, 40, 41, 42, 43, 44, 45, 46, 47, 48, 49, 50, 51, 52, 53] (by decide +kernel) (by decide +kernel)
set_option maxRecDepth 20000 in
theorem gX3_room_X3_isFree : GoodIn wsX3_room (wsV RX3 106 RX3 yX3_isFree wsX3_isFree) := goodIn_app (goodIn_of _ (by decide +kernel)) ggX3_room_X3_isFree
set_option maxRecDepth 20000 in
theorem ggX3_room_X3_pushAll : GoodIn wsX3_room wsX3_pushAll := goodIn_r _ [26, 27, 14, 16, 18, 28, 29, 30, 10, 31, 32, 33, 2, 34, 35, 36, 37, 3, 38, 39, 40, 41, 42, 43, 44, 45, 46, 47, 48, 49, 50, 51, 52, 53] (by decide +kernel) (by decide +kernel)
set_option maxRecDepth 20000 in
theorem gX3_room_X3_pushAll : GoodIn wsX3_room (wsV RX3 76 RX3 yX3_pushAll wsX3_pushAll) := goodIn_app (goodIn_of _ (by decide +kernel)) ggX3_room_X3_pushAll
theorem dX3_room_0 : decode cX3_room 0 = .ok (.aload_n 0, 1) := by decide +kernel
theorem dX3_room_1 : decode cX3_room 1 = .ok (.iconst 0, 1) := by decide +kernel
theorem dX3_room_2 : decode cX3_room 2 = .ok (.invokevirtual 91, 3) := by decide +kernel
theorem dX3_room_5 : decode cX3_room 5 = .ok (.istore 5, 2) := by decide +kernel
theorem dX3_room_7 : decode cX3_room 7 = .ok (.aload_n 0, 1) := by decide +kernel
theorem dX3_room_8 : decode cX3_room 8 = .ok (.aload_n 0, 1) := by decide +kernel
theorem dX3_room_9 : decode cX3_room 9 = .ok (.getfield 55, 3) := by decide +kernel
theorem dX3_room_12 : decode cX3_room 12 = .ok (.putfield 61, 3) := by decide +kernel
theorem dX3_room_15 : decode cX3_room 15 = .ok (.iconst 0, 1) := by decide +kernel
theorem dX3_room_16 : decode cX3_room 16 = .ok (.istore 6, 2) := by decide +kernel
theorem dX3_room_18 : decode cX3_room 18 = .ok (.iload 6, 2) := by decide +kernel
theorem dX3_room_20 : decode cX3_room 20 = .ok (.aload_n 0, 1) := by decide +kernel
theorem dX3_room_21 : decode cX3_room 21 = .ok (.getfield 55, 3) := by decide +kernel
theorem dX3_room_24 : decode cX3_room 24 = .ok (.if_icmp .ge 57, 3) := by decide +kernel
theorem dX3_room_27 : decode cX3_room 27 = .ok (.aload_n 0, 1) := by decide +kernel
theorem dX3_room_28 : decode cX3_room 28 = .ok (.getfield 41, 3) := by decide +kernel
theorem dX3_room_31 : decode cX3_room 31 = .ok (.iload 6, 2) := by decide +kernel
theorem dX3_room_33 : decode cX3_room 33 = .ok (.iload 6, 2) := by decide +kernel
theorem dX3_room_35 : decode cX3_room 35 = .ok (.iload_n 1, 1) := by decide +kernel
theorem dX3_room_36 : decode cX3_room 36 = .ok (.if_icmp .eq 23, 3) := by decide +kernel
theorem dX3_room_39 : decode cX3_room 39 = .ok (.aload_n 0, 1) := by decide +kernel
theorem dX3_room_40 : decode cX3_room 40 = .ok (.iload 6, 2) := by decide +kernel
theorem dX3_room_42 : decode cX3_room 42 = .ok (.invokevirtual 106, 3) := by decide +kernel
theorem dX3_room_45 : decode cX3_room 45 = .ok (.ifCond .eq 14, 3) := by decide +kernel
theorem dX3_room_48 : decode cX3_room 48 = .ok (.iload 5, 2) := by decide +kernel
theorem dX3_room_50 : decode cX3_room 50 = .ok (.ldc 84, 2) := by decide +kernel
theorem dX3_room_52 : decode cX3_room 52 = .ok (.if_icmp .ne 7, 3) := by decide +kernel
theorem dX3_room_55 : decode cX3_room 55 = .ok (.iconst 1, 1) := by decide +kernel
theorem dX3_room_56 : decode cX3_room 56 = .ok (.goto 4, 3) := by decide +kernel
theorem dX3_room_59 : decode cX3_room 59 = .ok (.iconst 0, 1) := by decide +kernel
theorem dX3_room_60 : decode cX3_room 60 = .ok (.bastore, 1) := by decide +kernel
theorem dX3_room_61 : decode cX3_room 61 = .ok (.aload_n 0, 1) := by decide +kernel
theorem dX3_room_62 : decode cX3_room 62 = .ok (.getfield 28, 3) := by decide +kernel
theorem dX3_room_65 : decode cX3_room 65 = .ok (.iload 6, 2) := by decide +kernel
theorem dX3_room_67 : decode cX3_room 67 = .ok (.aload_n 0, 1) := by decide +kernel
theorem dX3_room_68 : decode cX3_room 68 = .ok (.getfield 25, 3) := by decide +kernel
theorem dX3_room_71 : decode cX3_room 71 = .ok (.iload 6, 2) := by decide +kernel
theorem dX3_room_73 : decode cX3_room 73 = .ok (.iaload, 1) := by decide +kernel
theorem dX3_room_74 : decode cX3_room 74 = .ok (.iastore, 1) := by decide +kernel
theorem dX3_room_75 : decode cX3_room 75 = .ok (.iinc 6 1, 3) := by decide +kernel
theorem dX3_room_78 : decode cX3_room 78 = .ok (.goto (-60), 3) := by decide +kernel
theorem dX3_room_81 : decode cX3_room 81 = .ok (.iload 4, 2) := by decide +kernel
theorem dX3_room_83 : decode cX3_room 83 = .ok (.ifCond .gt 7, 3) := by decide +kernel
theorem dX3_room_86 : decode cX3_room 86 = .ok (.iconst 0, 1) := by decide +kernel
theorem dX3_room_87 : decode cX3_room 87 = .ok (.goto 15, 3) := by decide +kernel
theorem dX3_room_90 : decode cX3_room 90 = .ok (.aload_n 0, 1) := by decide +kernel
theorem dX3_room_91 : decode cX3_room 91 = .ok (.aload_n 0, 1) := by decide +kernel
theorem dX3_room_92 : decode cX3_room 92 = .ok (.getfield 28, 3) := by decide +kernel
theorem dX3_room_95 : decode cX3_room 95 = .ok (.iload_n 2, 1) := by decide +kernel
theorem dX3_room_96 : decode cX3_room 96 = .ok (.iload_n 3, 1) := by decide +kernel
theorem dX3_room_97 : decode cX3_room 97 = .ok (.iload 4, 2) := by decide +kernel
theorem dX3_room_99 : decode cX3_room 99 = .ok (.invokevirtual 76, 3) := by decide +kernel
theorem dX3_room_102 : decode cX3_room 102 = .ok (.ireturn, 1) := by decide +kernel
set_option maxRecDepth 20000 in
theorem ggX3_least_X3_in : GoodIn wsX3_least wsX3_in := goodIn_r _ [9] (by decide +kernel) (by decide +kernel)
set_option maxRecDepth 20000 in
theorem gX3_least_X3_in : GoodIn wsX3_least (va_wsS RX3 50 yX3_in wsX3_in) := goodIn_app (goodIn_of _ (by decide +kernel)) ggX3_least_X3_in
set_option maxRecDepth 20000 in
theorem ggX3_least_X3_solve : GoodIn wsX3_least wsX3_solve := goodIn_r _ [13, 14, 15, 16, 17, 18, 1, 3, 19, 20, 21, 22, 8, 23, 24, 25, 26, 27, 28, 29, 30, 4, 5, 31, 32, 33, 34, 35, 36, 37, 38, 39, 40, 41, 42, 43, 44, 45, 46, 47, 48, 49, 50, 51, 52, 53, 54, 55, 56, 57, 58, 59, 60, 70, 71, 72, 73, 74, 75, 76, 77, 78, 79, 80, 81, 82, 83, 84, 85] (by decide +kernel) (by decide +kernel)
set_option maxRecDepth 20000 in
theorem gX3_least_X3_solve : GoodIn wsX3_least (wsV RX3 103 RX3 yX3_solve wsX3_solve) := goodIn_app (goodIn_of _ (by decide +kernel)) ggX3_least_X3_solve
set_option maxRecDepth 20000 in
theorem ggX3_least_X3_findRound : GoodIn wsX3_least wsX3_findRound := goodIn_r _ [50, 51, 52, 16, 1, 31, 26, 3, 4, 19, 5, 70, 71, 72, 73, 74, 75, 76, 77, 78, 79, 80, 81, 82, 83, 84, 85] (by decide +kernel) (by decide +kernel)
set_option maxRecDepth 20000 in
theorem gX3_least_X3_findRound : GoodIn wsX3_least (wsV RX3 91 RX3 yX3_findRound wsX3_findRound) := goodIn_app (goodIn_of _ (by decide +kernel)) ggX3_least_X3_findRound
set_option maxRecDepth 20000 in
theorem ggX3_least_X3_isFree : GoodIn wsX3_least wsX3_isFree := goodIn_r _ [64, 19, 51, 4, 5, 70, 71, 72, 73, 74, 75, 76, 77, 78, 79, 80, 81, 82, 83, 84, 85] (by decide +kernel) (by decide +kernel)
set_option maxRecDepth 20000 in
theorem gX3_least_X3_isFree : GoodIn wsX3_least (wsV RX3 106 RX3 yX3_isFree wsX3_isFree) := goodIn_app (goodIn_of _ (by decide +kernel)) ggX3_least_X3_isFree
set_option maxRecDepth 20000 in
theorem ggX3_least_X3_room : GoodIn wsX3_least wsX3_room := goodIn_r _ [68, 1, 24, 25, 16, 69, 3, 47, 48, 49, 8, 50, 51, 52, 31, 26, 4, 19, 5, 61, 62, 63, 64, 32, 33, 34, 35, 36, 37, 38, 39, 40, 41, 42, 43, 44, 45, 46, 70, 71, 72, 73, 74, 75, 76, 77, 78, 79, 80, 81, 82, 83, 84, 85] (by decide +kernel) (by decide +kernel)
set_option maxRecDepth 20000 in
theorem gX3_least_X3_room : GoodIn wsX3_least (wsV RX3 110 RX3 yX3_room wsX3_room) := goodIn_app (goodIn_of _ (by decide +kernel)) ggX3_least_X3_room
theorem dX3_least_0 : decode cX3_least 0 = .ok (.iload_n 1, 1) := by decide +kernel
theorem dX3_least_1 : decode cX3_least 1 = .ok (.iconst 0, 1) := by decide +kernel
theorem dX3_least_2 : decode cX3_least 2 = .ok (.aload_n 0, 1) := by decide +kernel
theorem dX3_least_3 : decode cX3_least 3 = .ok (.getfield 55, 3) := by decide +kernel
theorem dX3_least_6 : decode cX3_least 6 = .ok (.iconst 1, 1) := by decide +kernel
theorem dX3_least_7 : decode cX3_least 7 = .ok (.isub, 1) := by decide +kernel
theorem dX3_least_8 : decode cX3_least 8 = .ok (.invokestatic 50, 3) := by decide +kernel
theorem dX3_least_11 : decode cX3_least 11 = .ok (.ifCond .ne 6, 3) := by decide +kernel
theorem dX3_least_14 : decode cX3_least 14 = .ok (.ldc 54, 2) := by decide +kernel
theorem dX3_least_16 : decode cX3_least 16 = .ok (.ireturn, 1) := by decide +kernel
theorem dX3_least_17 : decode cX3_least 17 = .ok (.aload_n 0, 1) := by decide +kernel
theorem dX3_least_18 : decode cX3_least 18 = .ok (.invokevirtual 103, 3) := by decide +kernel
theorem dX3_least_21 : decode cX3_least 21 = .ok (.istore_n 2, 1) := by decide +kernel
theorem dX3_least_22 : decode cX3_least 22 = .ok (.iload_n 2, 1) := by decide +kernel
theorem dX3_least_23 : decode cX3_least 23 = .ok (.ifCond .ge 5, 3) := by decide +kernel
theorem dX3_least_26 : decode cX3_least 26 = .ok (.iload_n 2, 1) := by decide +kernel
theorem dX3_least_27 : decode cX3_least 27 = .ok (.ireturn, 1) := by decide +kernel
theorem dX3_least_28 : decode cX3_least 28 = .ok (.aload_n 0, 1) := by decide +kernel
theorem dX3_least_29 : decode cX3_least 29 = .ok (.iconst 0, 1) := by decide +kernel
theorem dX3_least_30 : decode cX3_least 30 = .ok (.invokevirtual 91, 3) := by decide +kernel
theorem dX3_least_33 : decode cX3_least 33 = .ok (.pop, 1) := by decide +kernel
theorem dX3_least_34 : decode cX3_least 34 = .ok (.aload_n 0, 1) := by decide +kernel
theorem dX3_least_35 : decode cX3_least 35 = .ok (.iload_n 1, 1) := by decide +kernel
theorem dX3_least_36 : decode cX3_least 36 = .ok (.invokevirtual 106, 3) := by decide +kernel
theorem dX3_least_39 : decode cX3_least 39 = .ok (.ifCond .eq 36, 3) := by decide +kernel
theorem dX3_least_42 : decode cX3_least 42 = .ok (.aload_n 0, 1) := by decide +kernel
theorem dX3_least_43 : decode cX3_least 43 = .ok (.getfield 25, 3) := by decide +kernel
theorem dX3_least_46 : decode cX3_least 46 = .ok (.iload_n 1, 1) := by decide +kernel
theorem dX3_least_47 : decode cX3_least 47 = .ok (.iaload, 1) := by decide +kernel
theorem dX3_least_48 : decode cX3_least 48 = .ok (.aload_n 0, 1) := by decide +kernel
theorem dX3_least_49 : decode cX3_least 49 = .ok (.iload_n 1, 1) := by decide +kernel
theorem dX3_least_50 : decode cX3_least 50 = .ok (.aload_n 0, 1) := by decide +kernel
theorem dX3_least_51 : decode cX3_least 51 = .ok (.getfield 7, 3) := by decide +kernel
theorem dX3_least_54 : decode cX3_least 54 = .ok (.iload_n 1, 1) := by decide +kernel
theorem dX3_least_55 : decode cX3_least 55 = .ok (.iaload, 1) := by decide +kernel
theorem dX3_least_56 : decode cX3_least 56 = .ok (.aload_n 0, 1) := by decide +kernel
theorem dX3_least_57 : decode cX3_least 57 = .ok (.getfield 13, 3) := by decide +kernel
theorem dX3_least_60 : decode cX3_least 60 = .ok (.iload_n 1, 1) := by decide +kernel
theorem dX3_least_61 : decode cX3_least 61 = .ok (.iaload, 1) := by decide +kernel
theorem dX3_least_62 : decode cX3_least 62 = .ok (.aload_n 0, 1) := by decide +kernel
theorem dX3_least_63 : decode cX3_least 63 = .ok (.getfield 25, 3) := by decide +kernel
theorem dX3_least_66 : decode cX3_least 66 = .ok (.iload_n 1, 1) := by decide +kernel
theorem dX3_least_67 : decode cX3_least 67 = .ok (.iaload, 1) := by decide +kernel
theorem dX3_least_68 : decode cX3_least 68 = .ok (.invokevirtual 110, 3) := by decide +kernel
theorem dX3_least_71 : decode cX3_least 71 = .ok (.isub, 1) := by decide +kernel
theorem dX3_least_72 : decode cX3_least 72 = .ok (.goto 9, 3) := by decide +kernel
theorem dX3_least_75 : decode cX3_least 75 = .ok (.aload_n 0, 1) := by decide +kernel
theorem dX3_least_76 : decode cX3_least 76 = .ok (.getfield 25, 3) := by decide +kernel
theorem dX3_least_79 : decode cX3_least 79 = .ok (.iload_n 1, 1) := by decide +kernel
theorem dX3_least_80 : decode cX3_least 80 = .ok (.iaload, 1) := by decide +kernel
theorem dX3_least_81 : decode cX3_least 81 = .ok (.ireturn, 1) := by decide +kernel
set_option maxRecDepth 20000 in
theorem ggX3_mostOf_X3_findRound : GoodIn wsX3_mostOf wsX3_findRound := goodIn_r _ [11, 12, 13, 6, 14, 4, 15, 1, 3, 16, 2, 43, 44, 45, 46, 47, 48, 49, 50, 51, 52, 53, 54, 55, 56, 57, 58] (by decide +kernel) (by decide +kernel)
set_option maxRecDepth 20000 in
theorem gX3_mostOf_X3_findRound : GoodIn wsX3_mostOf (wsV RX3 91 RX3 yX3_findRound wsX3_findRound) := goodIn_app (goodIn_of _ (by decide +kernel)) ggX3_mostOf_X3_findRound
set_option maxRecDepth 20000 in
theorem ggX3_mostOf_X3_isFree : GoodIn wsX3_mostOf wsX3_isFree := goodIn_r _ [20, 16, 12, 3, 2, 43, 44, 45, 46, 47, 48, 49, 50, 51, 52, 53, 54, 55, 56, 57, 58] (by decide +kernel) (by decide +kernel)
set_option maxRecDepth 20000 in
theorem gX3_mostOf_X3_isFree : GoodIn wsX3_mostOf (wsV RX3 106 RX3 yX3_isFree wsX3_isFree) := goodIn_app (goodIn_of _ (by decide +kernel)) ggX3_mostOf_X3_isFree
set_option maxRecDepth 20000 in
theorem ggX3_mostOf_X3_room : GoodIn wsX3_mostOf wsX3_room := goodIn_r _ [24, 14, 25, 26, 6, 27, 1, 7, 8, 9, 10, 11, 12, 13, 4, 15, 3, 16, 2, 17, 18, 19, 20, 28, 29, 30, 31, 32, 33, 34, 35, 36, 37, 38, 39, 40, 41, 42, 43, 44, 45, 46, 47, 48, 49, 50, 51, 52, 53, 54, 55, 56, 57, 58] (by decide +kernel) (by decide +kernel)
set_option maxRecDepth 20000 in
theorem gX3_mostOf_X3_room : GoodIn wsX3_mostOf (wsV RX3 110 RX3 yX3_room wsX3_room) := goodIn_app (goodIn_of _ (by decide +kernel)) ggX3_mostOf_X3_room
theorem dX3_mostOf_0 : decode cX3_mostOf 0 = .ok (.aload_n 0, 1) := by decide +kernel
theorem dX3_mostOf_1 : decode cX3_mostOf 1 = .ok (.iconst 0, 1) := by decide +kernel
theorem dX3_mostOf_2 : decode cX3_mostOf 2 = .ok (.invokevirtual 91, 3) := by decide +kernel
theorem dX3_mostOf_5 : decode cX3_mostOf 5 = .ok (.pop, 1) := by decide +kernel
theorem dX3_mostOf_6 : decode cX3_mostOf 6 = .ok (.aload_n 0, 1) := by decide +kernel
theorem dX3_mostOf_7 : decode cX3_mostOf 7 = .ok (.iload_n 1, 1) := by decide +kernel
theorem dX3_mostOf_8 : decode cX3_mostOf 8 = .ok (.invokevirtual 106, 3) := by decide +kernel
theorem dX3_mostOf_11 : decode cX3_mostOf 11 = .ok (.ifCond .ne 10, 3) := by decide +kernel
theorem dX3_mostOf_14 : decode cX3_mostOf 14 = .ok (.aload_n 0, 1) := by decide +kernel
theorem dX3_mostOf_15 : decode cX3_mostOf 15 = .ok (.getfield 25, 3) := by decide +kernel
theorem dX3_mostOf_18 : decode cX3_mostOf 18 = .ok (.iload_n 1, 1) := by decide +kernel
theorem dX3_mostOf_19 : decode cX3_mostOf 19 = .ok (.iaload, 1) := by decide +kernel
theorem dX3_mostOf_20 : decode cX3_mostOf 20 = .ok (.ireturn, 1) := by decide +kernel
theorem dX3_mostOf_21 : decode cX3_mostOf 21 = .ok (.aload_n 0, 1) := by decide +kernel
theorem dX3_mostOf_22 : decode cX3_mostOf 22 = .ok (.iload_n 1, 1) := by decide +kernel
theorem dX3_mostOf_23 : decode cX3_mostOf 23 = .ok (.aload_n 0, 1) := by decide +kernel
theorem dX3_mostOf_24 : decode cX3_mostOf 24 = .ok (.getfield 13, 3) := by decide +kernel
theorem dX3_mostOf_27 : decode cX3_mostOf 27 = .ok (.iload_n 1, 1) := by decide +kernel
theorem dX3_mostOf_28 : decode cX3_mostOf 28 = .ok (.iaload, 1) := by decide +kernel
theorem dX3_mostOf_29 : decode cX3_mostOf 29 = .ok (.aload_n 0, 1) := by decide +kernel
theorem dX3_mostOf_30 : decode cX3_mostOf 30 = .ok (.getfield 7, 3) := by decide +kernel
theorem dX3_mostOf_33 : decode cX3_mostOf 33 = .ok (.iload_n 1, 1) := by decide +kernel
theorem dX3_mostOf_34 : decode cX3_mostOf 34 = .ok (.iaload, 1) := by decide +kernel
theorem dX3_mostOf_35 : decode cX3_mostOf 35 = .ok (.aload_n 0, 1) := by decide +kernel
theorem dX3_mostOf_36 : decode cX3_mostOf 36 = .ok (.getfield 16, 3) := by decide +kernel
theorem dX3_mostOf_39 : decode cX3_mostOf 39 = .ok (.iload_n 1, 1) := by decide +kernel
theorem dX3_mostOf_40 : decode cX3_mostOf 40 = .ok (.iaload, 1) := by decide +kernel
theorem dX3_mostOf_41 : decode cX3_mostOf 41 = .ok (.aload_n 0, 1) := by decide +kernel
theorem dX3_mostOf_42 : decode cX3_mostOf 42 = .ok (.getfield 25, 3) := by decide +kernel
theorem dX3_mostOf_45 : decode cX3_mostOf 45 = .ok (.iload_n 1, 1) := by decide +kernel
theorem dX3_mostOf_46 : decode cX3_mostOf 46 = .ok (.iaload, 1) := by decide +kernel
theorem dX3_mostOf_47 : decode cX3_mostOf 47 = .ok (.isub, 1) := by decide +kernel
theorem dX3_mostOf_48 : decode cX3_mostOf 48 = .ok (.invokevirtual 110, 3) := by decide +kernel
theorem dX3_mostOf_51 : decode cX3_mostOf 51 = .ok (.istore_n 2, 1) := by decide +kernel
theorem dX3_mostOf_52 : decode cX3_mostOf 52 = .ok (.iload_n 2, 1) := by decide +kernel
theorem dX3_mostOf_53 : decode cX3_mostOf 53 = .ok (.ldc 85, 2) := by decide +kernel
theorem dX3_mostOf_55 : decode cX3_mostOf 55 = .ok (.if_icmp .lt 8, 3) := by decide +kernel
theorem dX3_mostOf_58 : decode cX3_mostOf 58 = .ok (.ldc 84, 2) := by decide +kernel
theorem dX3_mostOf_60 : decode cX3_mostOf 60 = .ok (.goto 11, 3) := by decide +kernel
theorem dX3_mostOf_63 : decode cX3_mostOf 63 = .ok (.aload_n 0, 1) := by decide +kernel
theorem dX3_mostOf_64 : decode cX3_mostOf 64 = .ok (.getfield 25, 3) := by decide +kernel
theorem dX3_mostOf_67 : decode cX3_mostOf 67 = .ok (.iload_n 1, 1) := by decide +kernel
theorem dX3_mostOf_68 : decode cX3_mostOf 68 = .ok (.iaload, 1) := by decide +kernel
theorem dX3_mostOf_69 : decode cX3_mostOf 69 = .ok (.iload_n 2, 1) := by decide +kernel
theorem dX3_mostOf_70 : decode cX3_mostOf 70 = .ok (.iadd, 1) := by decide +kernel
theorem dX3_mostOf_71 : decode cX3_mostOf 71 = .ok (.ireturn, 1) := by decide +kernel
set_option maxRecDepth 20000 in
theorem ggX3_most_X3_in : GoodIn wsX3_most wsX3_in := goodIn_r _ [6] (by decide +kernel) (by decide +kernel)
set_option maxRecDepth 20000 in
theorem gX3_most_X3_in : GoodIn wsX3_most (va_wsS RX3 50 yX3_in wsX3_in) := goodIn_app (goodIn_of _ (by decide +kernel)) ggX3_most_X3_in
set_option maxRecDepth 20000 in
theorem ggX3_most_X3_solve : GoodIn wsX3_most wsX3_solve := goodIn_r _ [10, 11, 12, 13, 14, 15, 1, 16, 17, 18, 19, 20, 5, 21, 22, 23, 24, 25, 26, 27, 28, 29, 30, 31, 32, 33, 34, 35, 36, 37, 38, 39, 40, 41, 42, 43, 44, 45, 46, 47, 48, 49, 50, 51, 52, 53, 54, 55, 56, 57, 58, 59, 60, 75, 76, 77, 78, 79, 80, 81, 82, 83, 84, 85, 86, 87, 88, 89, 90] (by decide +kernel) (by decide +kernel)
set_option maxRecDepth 20000 in
theorem gX3_most_X3_solve : GoodIn wsX3_most (wsV RX3 103 RX3 yX3_solve wsX3_solve) := goodIn_app (goodIn_of _ (by decide +kernel)) ggX3_most_X3_solve
set_option maxRecDepth 20000 in
theorem ggX3_most_X3_mostOf : GoodIn wsX3_most wsX3_mostOf := goodIn_r _ [64, 16, 30, 29, 31, 65, 13, 47, 48, 49, 5, 50, 51, 52, 1, 24, 17, 66, 67, 68, 69, 70, 71, 72, 73, 22, 23, 74, 32, 33, 34, 35, 36, 37, 38, 39, 40, 41, 42, 43, 44, 45, 46, 75, 76, 77, 78, 79, 80, 81, 82, 83, 84, 85, 86, 87, 88, 89, 90] (by decide +kernel) (by decide +kernel)
set_option maxRecDepth 20000 in
theorem gX3_most_X3_mostOf : GoodIn wsX3_most (wsV RX3 114 RX3 yX3_mostOf wsX3_mostOf) := goodIn_app (goodIn_of _ (by decide +kernel)) ggX3_most_X3_mostOf
theorem dX3_most_0 : decode cX3_most 0 = .ok (.iload_n 1, 1) := by decide +kernel
theorem dX3_most_1 : decode cX3_most 1 = .ok (.iconst 0, 1) := by decide +kernel
theorem dX3_most_2 : decode cX3_most 2 = .ok (.aload_n 0, 1) := by decide +kernel
theorem dX3_most_3 : decode cX3_most 3 = .ok (.getfield 55, 3) := by decide +kernel
theorem dX3_most_6 : decode cX3_most 6 = .ok (.iconst 1, 1) := by decide +kernel
theorem dX3_most_7 : decode cX3_most 7 = .ok (.isub, 1) := by decide +kernel
theorem dX3_most_8 : decode cX3_most 8 = .ok (.invokestatic 50, 3) := by decide +kernel
theorem dX3_most_11 : decode cX3_most 11 = .ok (.ifCond .ne 6, 3) := by decide +kernel
theorem dX3_most_14 : decode cX3_most 14 = .ok (.ldc 54, 2) := by decide +kernel
theorem dX3_most_16 : decode cX3_most 16 = .ok (.ireturn, 1) := by decide +kernel
theorem dX3_most_17 : decode cX3_most 17 = .ok (.aload_n 0, 1) := by decide +kernel
theorem dX3_most_18 : decode cX3_most 18 = .ok (.invokevirtual 103, 3) := by decide +kernel
theorem dX3_most_21 : decode cX3_most 21 = .ok (.istore_n 2, 1) := by decide +kernel
theorem dX3_most_22 : decode cX3_most 22 = .ok (.iload_n 2, 1) := by decide +kernel
theorem dX3_most_23 : decode cX3_most 23 = .ok (.ifCond .ge 7, 3) := by decide +kernel
theorem dX3_most_26 : decode cX3_most 26 = .ok (.iload_n 2, 1) := by decide +kernel
theorem dX3_most_27 : decode cX3_most 27 = .ok (.goto 8, 3) := by decide +kernel
theorem dX3_most_30 : decode cX3_most 30 = .ok (.aload_n 0, 1) := by decide +kernel
theorem dX3_most_31 : decode cX3_most 31 = .ok (.iload_n 1, 1) := by decide +kernel
theorem dX3_most_32 : decode cX3_most 32 = .ok (.invokevirtual 114, 3) := by decide +kernel
theorem dX3_most_35 : decode cX3_most 35 = .ok (.ireturn, 1) := by decide +kernel
set_option maxRecDepth 20000 in
theorem ggX3_slack_X3_in : GoodIn wsX3_slack wsX3_in := goodIn_r _ [9] (by decide +kernel) (by decide +kernel)
set_option maxRecDepth 20000 in
theorem gX3_slack_X3_in : GoodIn wsX3_slack (va_wsS RX3 50 yX3_in wsX3_in) := goodIn_app (goodIn_of _ (by decide +kernel)) ggX3_slack_X3_in
set_option maxRecDepth 20000 in
theorem ggX3_slack_X3_solve : GoodIn wsX3_slack wsX3_solve := goodIn_r _ [13, 14, 15, 5, 16, 3, 1, 17, 4, 18, 19, 20, 8, 21, 22, 23, 24, 25, 26, 27, 28, 29, 30, 31, 32, 33, 34, 35, 36, 37, 38, 39, 40, 41, 42, 43, 44, 45, 46, 47, 48, 49, 50, 51, 52, 53, 54, 55, 56, 57, 58, 59, 60, 75, 76, 77, 78, 79, 80, 81, 82, 83, 84, 85, 86, 87, 88, 89, 90] (by decide +kernel) (by decide +kernel)
set_option maxRecDepth 20000 in
theorem gX3_slack_X3_solve : GoodIn wsX3_slack (wsV RX3 103 RX3 yX3_solve wsX3_solve) := goodIn_app (goodIn_of _ (by decide +kernel)) ggX3_slack_X3_solve
set_option maxRecDepth 20000 in
theorem ggX3_slack_X3_mostOf : GoodIn wsX3_slack wsX3_mostOf := goodIn_r _ [64, 17, 30, 29, 31, 65, 5, 47, 48, 49, 8, 50, 51, 52, 1, 24, 4, 66, 67, 68, 69, 70, 71, 72, 73, 22, 23, 74, 32, 33, 34, 35, 36, 37, 38, 39, 40, 41, 42, 43, 44, 45, 46, 75, 76, 77, 78, 79, 80, 81, 82, 83, 84, 85, 86, 87, 88, 89, 90] (by decide +kernel) (by decide +kernel)
set_option maxRecDepth 20000 in
theorem gX3_slack_X3_mostOf : GoodIn wsX3_slack (wsV RX3 114 RX3 yX3_mostOf wsX3_mostOf) := goodIn_app (goodIn_of _ (by decide +kernel)) ggX3_slack_X3_mostOf
theorem dX3_slack_0 : decode cX3_slack 0 = .ok (.iload_n 1, 1) := by decide +kernel
theorem dX3_slack_1 : decode cX3_slack 1 = .ok (.iconst 0, 1) := by decide +kernel
theorem dX3_slack_2 : decode cX3_slack 2 = .ok (.aload_n 0, 1) := by decide +kernel
theorem dX3_slack_3 : decode cX3_slack 3 = .ok (.getfield 55, 3) := by decide +kernel
theorem dX3_slack_6 : decode cX3_slack 6 = .ok (.iconst 1, 1) := by decide +kernel
theorem dX3_slack_7 : decode cX3_slack 7 = .ok (.isub, 1) := by decide +kernel
theorem dX3_slack_8 : decode cX3_slack 8 = .ok (.invokestatic 50, 3) := by decide +kernel
theorem dX3_slack_11 : decode cX3_slack 11 = .ok (.ifCond .ne 6, 3) := by decide +kernel
theorem dX3_slack_14 : decode cX3_slack 14 = .ok (.ldc 54, 2) := by decide +kernel
theorem dX3_slack_16 : decode cX3_slack 16 = .ok (.ireturn, 1) := by decide +kernel
theorem dX3_slack_17 : decode cX3_slack 17 = .ok (.aload_n 0, 1) := by decide +kernel
theorem dX3_slack_18 : decode cX3_slack 18 = .ok (.invokevirtual 103, 3) := by decide +kernel
theorem dX3_slack_21 : decode cX3_slack 21 = .ok (.istore_n 2, 1) := by decide +kernel
theorem dX3_slack_22 : decode cX3_slack 22 = .ok (.iload_n 2, 1) := by decide +kernel
theorem dX3_slack_23 : decode cX3_slack 23 = .ok (.ifCond .ge 5, 3) := by decide +kernel
theorem dX3_slack_26 : decode cX3_slack 26 = .ok (.iload_n 2, 1) := by decide +kernel
theorem dX3_slack_27 : decode cX3_slack 27 = .ok (.ireturn, 1) := by decide +kernel
theorem dX3_slack_28 : decode cX3_slack 28 = .ok (.aload_n 0, 1) := by decide +kernel
theorem dX3_slack_29 : decode cX3_slack 29 = .ok (.getfield 100, 3) := by decide +kernel
theorem dX3_slack_32 : decode cX3_slack 32 = .ok (.istore_n 3, 1) := by decide +kernel
theorem dX3_slack_33 : decode cX3_slack 33 = .ok (.aload_n 0, 1) := by decide +kernel
theorem dX3_slack_34 : decode cX3_slack 34 = .ok (.iload_n 1, 1) := by decide +kernel
theorem dX3_slack_35 : decode cX3_slack 35 = .ok (.invokevirtual 114, 3) := by decide +kernel
theorem dX3_slack_38 : decode cX3_slack 38 = .ok (.istore 4, 2) := by decide +kernel
theorem dX3_slack_40 : decode cX3_slack 40 = .ok (.aload_n 0, 1) := by decide +kernel
theorem dX3_slack_41 : decode cX3_slack 41 = .ok (.getfield 19, 3) := by decide +kernel
theorem dX3_slack_44 : decode cX3_slack 44 = .ok (.iload_n 1, 1) := by decide +kernel
theorem dX3_slack_45 : decode cX3_slack 45 = .ok (.iaload, 1) := by decide +kernel
theorem dX3_slack_46 : decode cX3_slack 46 = .ok (.istore 5, 2) := by decide +kernel
theorem dX3_slack_48 : decode cX3_slack 48 = .ok (.iconst 0, 1) := by decide +kernel
theorem dX3_slack_49 : decode cX3_slack 49 = .ok (.istore 6, 2) := by decide +kernel
theorem dX3_slack_51 : decode cX3_slack 51 = .ok (.bipush 40, 2) := by decide +kernel
theorem dX3_slack_53 : decode cX3_slack 53 = .ok (.istore 7, 2) := by decide +kernel
theorem dX3_slack_55 : decode cX3_slack 55 = .ok (.iload 7, 2) := by decide +kernel
theorem dX3_slack_57 : decode cX3_slack 57 = .ok (.ifCond .le 61, 3) := by decide +kernel
theorem dX3_slack_60 : decode cX3_slack 60 = .ok (.iload 6, 2) := by decide +kernel
theorem dX3_slack_62 : decode cX3_slack 62 = .ok (.ifCond .ne 56, 3) := by decide +kernel
theorem dX3_slack_65 : decode cX3_slack 65 = .ok (.iload 4, 2) := by decide +kernel
theorem dX3_slack_67 : decode cX3_slack 67 = .ok (.ldc 84, 2) := by decide +kernel
theorem dX3_slack_69 : decode cX3_slack 69 = .ok (.if_icmp .eq 49, 3) := by decide +kernel
theorem dX3_slack_72 : decode cX3_slack 72 = .ok (.aload_n 0, 1) := by decide +kernel
theorem dX3_slack_73 : decode cX3_slack 73 = .ok (.getfield 19, 3) := by decide +kernel
theorem dX3_slack_76 : decode cX3_slack 76 = .ok (.iload_n 1, 1) := by decide +kernel
theorem dX3_slack_77 : decode cX3_slack 77 = .ok (.iload 5, 2) := by decide +kernel
theorem dX3_slack_79 : decode cX3_slack 79 = .ok (.iload 7, 2) := by decide +kernel
theorem dX3_slack_81 : decode cX3_slack 81 = .ok (.isub, 1) := by decide +kernel
theorem dX3_slack_82 : decode cX3_slack 82 = .ok (.iastore, 1) := by decide +kernel
theorem dX3_slack_83 : decode cX3_slack 83 = .ok (.aload_n 0, 1) := by decide +kernel
theorem dX3_slack_84 : decode cX3_slack 84 = .ok (.invokevirtual 103, 3) := by decide +kernel
theorem dX3_slack_87 : decode cX3_slack 87 = .ok (.ifCond .ne 22, 3) := by decide +kernel
theorem dX3_slack_90 : decode cX3_slack 90 = .ok (.aload_n 0, 1) := by decide +kernel
theorem dX3_slack_91 : decode cX3_slack 91 = .ok (.getfield 100, 3) := by decide +kernel
theorem dX3_slack_94 : decode cX3_slack 94 = .ok (.iload_n 3, 1) := by decide +kernel
theorem dX3_slack_95 : decode cX3_slack 95 = .ok (.iload 7, 2) := by decide +kernel
theorem dX3_slack_97 : decode cX3_slack 97 = .ok (.iload 4, 2) := by decide +kernel
theorem dX3_slack_99 : decode cX3_slack 99 = .ok (.imul, 1) := by decide +kernel
theorem dX3_slack_100 : decode cX3_slack 100 = .ok (.isub, 1) := by decide +kernel
theorem dX3_slack_101 : decode cX3_slack 101 = .ok (.if_icmp .ne 8, 3) := by decide +kernel
theorem dX3_slack_104 : decode cX3_slack 104 = .ok (.iload 7, 2) := by decide +kernel
theorem dX3_slack_106 : decode cX3_slack 106 = .ok (.goto 4, 3) := by decide +kernel
theorem dX3_slack_109 : decode cX3_slack 109 = .ok (.iconst 0, 1) := by decide +kernel
theorem dX3_slack_110 : decode cX3_slack 110 = .ok (.istore 6, 2) := by decide +kernel
theorem dX3_slack_112 : decode cX3_slack 112 = .ok (.iinc 7 (-1), 3) := by decide +kernel
theorem dX3_slack_115 : decode cX3_slack 115 = .ok (.goto (-60), 3) := by decide +kernel
theorem dX3_slack_118 : decode cX3_slack 118 = .ok (.aload_n 0, 1) := by decide +kernel
theorem dX3_slack_119 : decode cX3_slack 119 = .ok (.getfield 19, 3) := by decide +kernel
theorem dX3_slack_122 : decode cX3_slack 122 = .ok (.iload_n 1, 1) := by decide +kernel
theorem dX3_slack_123 : decode cX3_slack 123 = .ok (.iload 5, 2) := by decide +kernel
theorem dX3_slack_125 : decode cX3_slack 125 = .ok (.iastore, 1) := by decide +kernel
theorem dX3_slack_126 : decode cX3_slack 126 = .ok (.iload 6, 2) := by decide +kernel
theorem dX3_slack_128 : decode cX3_slack 128 = .ok (.ireturn, 1) := by decide +kernel
theorem dJ9_max_7cf53_0 : decode cJ9_max_7cf53 0 = .ok (.iload_n 0, 1) := by decide +kernel
theorem dJ9_max_7cf53_1 : decode cJ9_max_7cf53 1 = .ok (.iload_n 1, 1) := by decide +kernel
theorem dJ9_max_7cf53_2 : decode cJ9_max_7cf53 2 = .ok (.if_icmp .lt 7, 3) := by decide +kernel
theorem dJ9_max_7cf53_5 : decode cJ9_max_7cf53 5 = .ok (.iload_n 0, 1) := by decide +kernel
theorem dJ9_max_7cf53_6 : decode cJ9_max_7cf53 6 = .ok (.goto 4, 3) := by decide +kernel
theorem dJ9_max_7cf53_9 : decode cJ9_max_7cf53 9 = .ok (.iload_n 1, 1) := by decide +kernel
theorem dJ9_max_7cf53_10 : decode cJ9_max_7cf53 10 = .ok (.ireturn, 1) := by decide +kernel
theorem dJ9_min_7cf53_0 : decode cJ9_min_7cf53 0 = .ok (.iload_n 0, 1) := by decide +kernel
theorem dJ9_min_7cf53_1 : decode cJ9_min_7cf53 1 = .ok (.iload_n 1, 1) := by decide +kernel
theorem dJ9_min_7cf53_2 : decode cJ9_min_7cf53 2 = .ok (.if_icmp .gt 7, 3) := by decide +kernel
theorem dJ9_min_7cf53_5 : decode cJ9_min_7cf53 5 = .ok (.iload_n 0, 1) := by decide +kernel
theorem dJ9_min_7cf53_6 : decode cJ9_min_7cf53 6 = .ok (.goto 4, 3) := by decide +kernel
theorem dJ9_min_7cf53_9 : decode cJ9_min_7cf53 9 = .ok (.iload_n 1, 1) := by decide +kernel
theorem dJ9_min_7cf53_10 : decode cJ9_min_7cf53 10 = .ok (.ireturn, 1) := by decide +kernel
end
section
/-! the state of a system as numbers: row k, place j; what a contract is in these words -/
abbrev fl_St : Type := Nat → Nat → Int32
def st (σ : fl_St) (k j : Nat) (x : Int32) : fl_St := fun k' => if k' = k then upd (σ k) j x else σ k'
/-- reading and writing a row of n places -/
def fl_rd (σ : fl_St) (k n : Nat) (i : Int32) : Option Int32 := if i < 0 ∨ n ≤ i.toNatClampNeg then none else some (σ k i.toNatClampNeg)
def fl_wr (σ : fl_St) (k n : Nat) (i x : Int32) : Option fl_St := if i < 0 ∨ n ≤ i.toNatClampNeg then none else some (st σ k i.toNatClampNeg x)
def fl_N : Nat := 2000000
theorem fl_rd_b {α : Type} {σ : fl_St} {k n : Nat} {i : Int32} {K : Int32 → Option α} {o : α} (h : (fl_rd σ k n i).bind K = some o) : ∃ v : Int32, vp_in i n ∧ σ k i.toNatClampNeg = v ∧ K v = some o := by
  unfold fl_rd at h
  by_cases hc : i < 0 ∨ n ≤ i.toNatClampNeg
  · rw [if_pos hc] at h; cases h
  · rw [if_neg hc] at h; exact ⟨_, hc, rfl, h⟩
theorem fl_wr_b {α : Type} {σ : fl_St} {k n : Nat} {i x : Int32} {K : fl_St → Option α} {o : α} (h : (fl_wr σ k n i x).bind K = some o) : ∃ σ1 : fl_St, vp_in i n ∧ st σ k i.toNatClampNeg x = σ1 ∧ K σ1 = some o := by
  unfold fl_wr at h
  by_cases hc : i < 0 ∨ n ≤ i.toNatClampNeg
  · rw [if_pos hc] at h; cases h
  · rw [if_neg hc] at h; exact ⟨_, hc, rfl, h⟩
theorem fl_bnd {α β : Type} {x : Option β} {K : β → Option α} {o : α} (h : x.bind K = some o) : ∃ v : β, x = some v ∧ K v = some o := by
  cases x with
  | none => cases h
  | some v => exact ⟨v, rfl, h⟩
theorem fl_sto {α : Type} {σ σ' : fl_St} {K : fl_St → Option α} {o : α} (e : σ = σ') (h : K σ = some o) : K σ' = some o := e ▸ h
/-- the cells of a system, where the law's start stands: what holds of the heap -/
def gS (D : va_G) (wf : fl_St → va_W) (A : Nat → Prop) (H0 : Heap) (σ : fl_St) (H : Heap) (locs : List Loc) : Prop := va_P D vwCl (wf σ) H ∧ va_D A (wf σ) ∧ va_S A H0 H locs
abbrev gN : Type := String × Nat × MethodName × String
def gK (D : va_G) (tys : List (ClassId × FieldType)) (nl : List gN) (U : State) : Prop := va_K D vwCl tys U ∧ ∀ q ∈ nl, va_Nw (.methodLinkNest q.1 q.2.1 q.2.2.1 q.2.2.2) U
def gPc (D : va_G) (wf : fl_St → va_W) (tys : List (ClassId × FieldType)) (nl : List gN) (av : List Value) (σ : fl_St) (sz : Nat) : Array Value → State → Prop := va_Pc av (fun U => U.heap.size = sz ∧ va_P D vwCl (wf σ) U.heap ∧ gK D tys nl U ∧ va_D (fun _ => True) (wf σ))
def gB (D : va_G) (wf : fl_St → va_W) (A : Nat → Prop) (σ2 : fl_St) (t : State) : Prop := va_P D vwCl (wf σ2) t.heap ∧ va_D A (wf σ2)
/-- the method y, called with av where the cells hold σ, answers r and leaves σ' -/
def gMi (l : Launch) (y : MethodName) (ws : List Cond) (rm : Room) (D : va_G) (wf : fl_St → va_W) (tys : List (ClassId × FieldType)) (nl : List gN) (av : List Value) (σ : fl_St) (r : Int32) (σ' : fl_St) : Prop :=
  ∀ sz : Nat, Met l y ws rm (gPc D wf tys nl av σ sz) (va_Qi (fun (r2 : Int32) (σ2 : fl_St) => r2 = r ∧ σ2 = σ') (gB D wf (va_A (wf σ) sz)) (va_A (wf σ) sz)) 0 0 (va_A (wf σ) sz)
def gMv (l : Launch) (y : MethodName) (ws : List Cond) (rm : Room) (D : va_G) (wf : fl_St → va_W) (tys : List (ClassId × FieldType)) (nl : List gN) (av : List Value) (σ : fl_St) (σ' : fl_St) : Prop :=
  ∀ sz : Nat, Met l y ws rm (gPc D wf tys nl av σ sz) (va_Qv (fun (σ2 : fl_St) => σ2 = σ') (gB D wf (va_A (wf σ) sz)) (va_A (wf σ) sz)) 0 0 (va_A (wf σ) sz)
theorem gK.warm {D : va_G} {tys : List (ClassId × FieldType)} {nl : List gN} {s U : State} (h : gK D tys nl s) (hW : s.WarmedH U.vm) : gK D tys nl U := ⟨va_K.moved hW.alike h.1, fun q hq => va_Nw.warmM hW (h.2 q hq)⟩
theorem gK.call {D : va_G} {tys : List (ClassId × FieldType)} {nl : List gN} {U : State} {g : JFrame} {mk : MethodId} {a : Array Value} (h : gK D tys nl U) : gK D tys nl (U.calling g mk a) := ⟨va_K.moved (u := U) (U := U.calling g mk a) (Vm.Alike.refl U.vm) h.1, fun q hq => va_Nw.same rfl rfl (h.2 q hq)⟩
theorem gPc.blind {D : va_G} {wf : fl_St → va_W} {tys : List (ClassId × FieldType)} {nl : List gN} {av : List Value} {σ : fl_St} {sz : Nat} : FrameBlind (gPc D wf tys nl av σ sz) := fun a U g mk q => by
  obtain ⟨q0, q1, qP, qK, qD⟩ := q
  exact ⟨q0, q1, qP, gK.call qK, qD⟩
theorem gMi_of {l : Launch} {y : MethodName} {ws ws' : List Cond} {rm : Room} {D : va_G} {wf : fl_St → va_W} {tys : List (ClassId × FieldType)} {nl : List gN} {av : List Value} {σ : fl_St} {r : Int32} {σ' : fl_St} {cc : ByteArray} {maxL : Nat} {ty : FieldType} (hy : plainName y.cls = true) (hw : ws = Cond.code y cc maxL (some ty) :: ws') (hlen : (lg_sl av).length ≤ maxL)
    (body : ∀ (p : Program) (e : Env) (s : State) (m : MethodId) (args : Array Value) (below : List Frame) (meth : Method) (c : Code) (A : Nat → Prop) (Q : State → Prop) (ls : Array Slot),
      p.tables.exec = Jvm.exec → c.code = cc → c.maxLocals = maxL → s.vm.findClass y.cls = some m.cls → (∀ w ∈ ws, w.before args s = true) → gK D tys nl s → (∀ q : Nat, s.heap.size ≤ q → A q) → gS D wf A s.heap σ s.heap [] → lv_has ls maxL (lv_args 0 av) →
      (∀ (v : Int32) (σ1 : fl_St) (H : Heap) (locs : List Loc) (pc : Nat) (ls : Array Slot), some (v, σ1) = some (r, σ') → gS D wf A s.heap σ1 H locs → narrow ty (.int v) = .int v → decode cc pc = .ok (.ireturn, 1) → W p l e rm s m args below meth c H locs 0 0 Q (F0 m pc ls [.int v])) →
      W p l e rm s m args below meth c s.heap [] 0 0 Q (F0 m 0 ls [])) : gMi l y ws rm D wf tys nl av σ r σ' := by
  intro sz
  refine Met.ofW (cc := cc) (maxL := maxL) (ret := some ty) hy hw ?_
  intro p e s m args below meth c s₁ B hml hv
  obtain ⟨rfl, hsz, hP, hK, hD0⟩ := hv
  subst hsz
  have hD := hD0.self (sz := s.heap.size)
  have hl := lv_entry av (n := maxL) hlen
  rw [lg_entry_eq]
  generalize (lg_sl av ++ List.replicate (maxL - (lg_sl av).length) Slot.unset).toArray = ls at hl ⊢
  refine body p e s m _ below meth c (va_A (wf σ) s.heap.size) _ ls B.exec B.bytes hml (findClass_of_methodNamed B.named) (atoms_spec (ws := ws) B.pre) hK (fun q h => Or.inr h) ⟨hP, hD, va_S.rf⟩ hl ?_
  intro v σ1 H locs pc ls he hS hn hd
  obtain ⟨rfl, rfl⟩ := Prod.mk.inj (Option.some.inj he)
  have hlocks := B.notSynchronized
  exact W.zret B.exec B.bytes B.returns hn (fun t ht hW => ⟨⟨v, σ1, rfl, ⟨rfl, rfl⟩, by rw [ht]; exact hS.1, hS.2.1⟩, hS.2.2.F ht⟩) hS.2.2.2.2 hd
theorem gMv_of {l : Launch} {y : MethodName} {ws ws' : List Cond} {rm : Room} {D : va_G} {wf : fl_St → va_W} {tys : List (ClassId × FieldType)} {nl : List gN} {av : List Value} {σ : fl_St} {σ' : fl_St} {cc : ByteArray} {maxL : Nat} (hy : plainName y.cls = true) (hw : ws = Cond.code y cc maxL none :: ws') (hlen : (lg_sl av).length ≤ maxL)
    (body : ∀ (p : Program) (e : Env) (s : State) (m : MethodId) (args : Array Value) (below : List Frame) (meth : Method) (c : Code) (A : Nat → Prop) (Q : State → Prop) (ls : Array Slot),
      p.tables.exec = Jvm.exec → c.code = cc → c.maxLocals = maxL → s.vm.findClass y.cls = some m.cls → (∀ w ∈ ws, w.before args s = true) → gK D tys nl s → (∀ q : Nat, s.heap.size ≤ q → A q) → gS D wf A s.heap σ s.heap [] → lv_has ls maxL (lv_args 0 av) →
      (∀ (σ1 : fl_St) (H : Heap) (locs : List Loc) (pc : Nat) (ls : Array Slot), some σ1 = some σ' → gS D wf A s.heap σ1 H locs → decode cc pc = .ok (.return_, 1) → W p l e rm s m args below meth c H locs 0 0 Q (F0 m pc ls [])) →
      W p l e rm s m args below meth c s.heap [] 0 0 Q (F0 m 0 ls [])) : gMv l y ws rm D wf tys nl av σ σ' := by
  intro sz
  refine Met.ofW (cc := cc) (maxL := maxL) (ret := none) hy hw ?_
  intro p e s m args below meth c s₁ B hml hv
  obtain ⟨rfl, hsz, hP, hK, hD0⟩ := hv
  subst hsz
  have hD := hD0.self (sz := s.heap.size)
  have hl := lv_entry av (n := maxL) hlen
  rw [lg_entry_eq]
  generalize (lg_sl av ++ List.replicate (maxL - (lg_sl av).length) Slot.unset).toArray = ls at hl ⊢
  refine body p e s m _ below meth c (va_A (wf σ) s.heap.size) _ ls B.exec B.bytes hml (findClass_of_methodNamed B.named) (atoms_spec (ws := ws) B.pre) hK (fun q h => Or.inr h) ⟨hP, hD, va_S.rf⟩ hl ?_
  intro σ1 H locs pc ls he hS hd
  obtain rfl := Option.some.inj he
  have hlocks := B.notSynchronized
  exact W.vret B.exec B.bytes B.returns (fun t ht hW => ⟨⟨σ1, rfl, rfl, by rw [ht]; exact hS.1, hS.2.1⟩, hS.2.2.F ht⟩) hS.2.2.2.2 hd
section G
variable {p : Program} {l : Launch} {e : Env} {R : Room} {s : State} {m : MethodId} {args : Array Value} {below : List Frame} {meth : Method} {c : Code} {H H0 : Heap} {locs : List Loc} {cells slots : Nat} {Q : State → Prop}
variable {D : va_G} {wf : fl_St → va_W} {tys : List (ClassId × FieldType)} {nl : List gN} {A : Nat → Prop} {σ σ' : fl_St} {cc : ByteArray} {pc : Nat} {ls : Array Slot} {rest stk : List Value}
variable {y : MethodName} {bytes : ByteArray} {maxL nL n index : Nat} {ret : Option FieldType} {ws : List Cond} {rm : Room} {Ts : List Cond} {own C host : String} {b : Addr} {As : List Value} {r : Int32}
theorem gS.free (hA : ∀ q : Nat, H0.size ≤ q → A q) (hg : gS D wf A H0 σ H locs) : ∀ q, va_A (wf σ) H.size q → A q := fun q h => by
  rcases h with ⟨k, e, h⟩ | h
  · exact hg.2.1.2 k _ h
  · exact hA q (Nat.le_trans hg.2.2.1 h)
theorem g_ld {k q0 t0 a : Nat} {cA : ClassId} {i v : Int32} (hx : p.tables.exec = Jvm.exec) (hb : c.code = cc) (hK : gK D tys nl s) (hg : gS D wf A H0 σ H locs) (ha : (wf σ)[q0]? = some (a, .inl (cA, n, .inl (σ k)))) (ht : tys[t0]? = some (cA, .int)) (hin : vp_in i n) (hv : σ k i.toNatClampNeg = v) (hdg : decode cc pc = .ok (.iaload, 1))
    (kk : W p l e R s m args below meth c H locs cells slots Q (F0 m (pc + 1) ls (.int v :: rest))) : W p l e R s m args below meth c H locs cells slots Q (F0 m pc ls (.int i :: .ref a :: rest)) := by
  subst hv
  exact va_iald hx hb hK.1 hg.1 q0 t0 ha ht hin hdg kk
theorem g_ldz {k q0 t0 a : Nat} {cA : ClassId} {i v : Int32} (hx : p.tables.exec = Jvm.exec) (hb : c.code = cc) (hK : gK D tys nl s) (hg : gS D wf A H0 σ H locs) (ha : (wf σ)[q0]? = some (a, .inl (cA, n, .inl (σ k)))) (ht : tys[t0]? = some (cA, .boolean)) (hin : vp_in i n) (hv : σ k i.toNatClampNeg = v) (hdg : decode cc pc = .ok (.baload, 1))
    (kk : W p l e R s m args below meth c H locs cells slots Q (F0 m (pc + 1) ls (.int v :: rest))) : W p l e R s m args below meth c H locs cells slots Q (F0 m pc ls (.int i :: .ref a :: rest)) := by
  subst hv
  exact va_zald hx hb hK.1 hg.1 q0 t0 ha ht hin hdg kk
theorem g_st {k q0 t0 a : Nat} {cA : ClassId} {i x : Int32} (hx : p.tables.exec = Jvm.exec) (hb : c.code = cc) (hK : gK D tys nl s) (hg : gS D wf A H0 σ H locs) (ha : (wf σ)[q0]? = some (a, .inl (cA, n, .inl (σ k)))) (hs : ∀ (j : Nat) (z : Int32), (wf σ).set q0 (a, .inl (cA, n, .inl (upd (σ k) j z))) = wf (st σ k j z)) (ht : tys[t0]? = some (cA, .int)) (hin : vp_in i n) (he : st σ k i.toNatClampNeg x = σ') (hdg : decode cc pc = .ok (.iastore, 1))
    (kk : ∀ (H1 : Heap) (locs1 : List Loc), gS D wf A H0 σ' H1 locs1 → W p l e R s m args below meth c H1 locs1 cells slots Q (F0 m (pc + 1) ls rest)) : W p l e R s m args below meth c H locs cells slots Q (F0 m pc ls (.int x :: .int i :: .ref a :: rest)) := by
  subst he
  refine va_iast hx hb hK.1 hg.1 hg.2.1 hg.2.2 q0 t0 ha ht hin hdg (fun H1 locs1 h1 h2 h3 => kk H1 locs1 ⟨?_, ?_, h3⟩)
  · rw [hs] at h1; exact h1
  · rw [hs] at h2; exact h2
theorem g_stz {k q0 t0 a : Nat} {cA : ClassId} {i x : Int32} (hx : p.tables.exec = Jvm.exec) (hb : c.code = cc) (hK : gK D tys nl s) (hg : gS D wf A H0 σ H locs) (ha : (wf σ)[q0]? = some (a, .inl (cA, n, .inl (σ k)))) (hs : ∀ (j : Nat) (z : Int32), (wf σ).set q0 (a, .inl (cA, n, .inl (upd (σ k) j z))) = wf (st σ k j z)) (ht : tys[t0]? = some (cA, .boolean)) (hn : vp_nar .boolean x = x) (hin : vp_in i n) (he : st σ k i.toNatClampNeg x = σ') (hdg : decode cc pc = .ok (.bastore, 1))
    (kk : ∀ (H1 : Heap) (locs1 : List Loc), gS D wf A H0 σ' H1 locs1 → W p l e R s m args below meth c H1 locs1 cells slots Q (F0 m (pc + 1) ls rest)) : W p l e R s m args below meth c H locs cells slots Q (F0 m pc ls (.int x :: .int i :: .ref a :: rest)) := by
  subst he
  refine va_zast hx hb hK.1 hg.1 hg.2.1 hg.2.2 q0 t0 ha ht hin hdg (fun H1 locs1 h1 h2 h3 => kk H1 locs1 ⟨?_, ?_, h3⟩)
  · rw [hn, hs] at h1; exact h1
  · rw [hn, hs] at h2; exact h2
theorem g_callVi (S : CallFix p m c cc nL s args Ts own) (hM : gMi l y ws rm D wf tys nl (.ref b :: As) σ r σ') (cw : CallW R s args own C index y bytes maxL ret ws rm 0 0 n) (hr : ∃ cell : Cell, H[b]? = some cell ∧ cell.vm.isStatics = false ∧ s.vm.findClass C = some cell.cls) (hK : gK D tys nl s) (hA : ∀ q : Nat, H0.size ≤ q → A q) (hg : gS D wf A H0 σ H locs) (hn : As.length = n) (hsize : ls.size = nL) (hst : stk = As.reverse ++ .ref b :: rest) (hroom : (rest.map fun v => v.category).sum ≤ 8) (hdg : decode cc pc = .ok (.invokevirtual index, 3)) (hf : cells ≤ R.cells ∧ slots ≤ R.slots)
    (kk : ∀ (H1 : Heap) (locs1 : List Loc), gS D wf A H0 σ' H1 locs1 → W p l e R s m args below meth c H1 locs1 cells slots Q (F0 m (pc + 3) ls (.int r :: rest))) : W p l e R s m args below meth c H locs cells slots Q (F0 m pc ls stk) := by
  have hFc := gS.free hA hg
  refine va_calli (va_runV (As := As) (rest := rest) S (hM H.size) cw ⟨gPc.blind, hr, fun U hU hW => ⟨rfl, by rw [hU], by rw [hU]; exact hg.1, hK.warm hW, hg.2.1.weaken (fun _ _ _ _ => trivial)⟩⟩ rfl hn hsize hst (lv_room hroom) hdg hf) hg.2.2 (fun q _ h => hFc q h) hFc (fun r2 u t H1 locs1 ht hvm hw hB hz1 hk1 hS => ?_)
  obtain ⟨rfl, rfl⟩ := hw
  exact kk H1 locs1 ⟨by have h := hB.1; rw [ht] at h; exact h, hB.2.weaken (fun _ q _ h => hFc q.1 h), hS⟩
theorem g_callVv (S : CallFix p m c cc nL s args Ts own) (hM : gMv l y ws rm D wf tys nl (.ref b :: As) σ σ') (cw : CallW R s args own C index y bytes maxL ret ws rm 0 0 n) (hr : ∃ cell : Cell, H[b]? = some cell ∧ cell.vm.isStatics = false ∧ s.vm.findClass C = some cell.cls) (hK : gK D tys nl s) (hA : ∀ q : Nat, H0.size ≤ q → A q) (hg : gS D wf A H0 σ H locs) (hn : As.length = n) (hsize : ls.size = nL) (hst : stk = As.reverse ++ .ref b :: rest) (hroom : (rest.map fun v => v.category).sum ≤ 8) (hdg : decode cc pc = .ok (.invokevirtual index, 3)) (hf : cells ≤ R.cells ∧ slots ≤ R.slots)
    (kk : ∀ (H1 : Heap) (locs1 : List Loc), gS D wf A H0 σ' H1 locs1 → W p l e R s m args below meth c H1 locs1 cells slots Q (F0 m (pc + 3) ls rest)) : W p l e R s m args below meth c H locs cells slots Q (F0 m pc ls stk) := by
  have hFc := gS.free hA hg
  refine va_callv (va_runV (As := As) (rest := rest) S (hM H.size) cw ⟨gPc.blind, hr, fun U hU hW => ⟨rfl, by rw [hU], by rw [hU]; exact hg.1, hK.warm hW, hg.2.1.weaken (fun _ _ _ _ => trivial)⟩⟩ rfl hn hsize hst (lv_room hroom) hdg hf) hg.2.2 (fun q _ h => hFc q h) hFc (fun u t H1 locs1 ht hvm hw hB hz1 hk1 hS => ?_)
  obtain rfl := hw
  exact kk H1 locs1 ⟨by have h := hB.1; rw [ht] at h; exact h, hB.2.weaken (fun _ q _ h => hFc q.1 h), hS⟩
theorem g_callSi (S : CallFix p m c cc nL s args Ts own) (hM : gMi l y ws rm D wf tys nl As σ r σ') (cw : CallB R s args own index y bytes maxL ret ws rm 0 0 n ∧ (Cond.static y).before args s = true) (hK : gK D tys nl s) (hA : ∀ q : Nat, H0.size ≤ q → A q) (hg : gS D wf A H0 σ H locs) (hn : As.length = n) (hsize : ls.size = nL) (hst : stk = As.reverse ++ rest) (hroom : (rest.map fun v => v.category).sum ≤ 8) (hdg : decode cc pc = .ok (.invokestatic index, 3)) (hf : cells ≤ R.cells ∧ slots ≤ R.slots)
    (kk : ∀ (H1 : Heap) (locs1 : List Loc), gS D wf A H0 σ' H1 locs1 → W p l e R s m args below meth c H1 locs1 cells slots Q (F0 m (pc + 3) ls (.int r :: rest))) : W p l e R s m args below meth c H locs cells slots Q (F0 m pc ls stk) := by
  have hFc := gS.free hA hg
  refine va_calli (va_runS (As := As) (rest := rest) S (hM H.size) cw ⟨gPc.blind, fun U hU hW => ⟨rfl, by rw [hU], by rw [hU]; exact hg.1, hK.warm hW, hg.2.1.weaken (fun _ _ _ _ => trivial)⟩⟩ rfl hn hsize hst (lv_room hroom) hdg hf) hg.2.2 (fun q _ h => hFc q h) hFc (fun r2 u t H1 locs1 ht hvm hw hB hz1 hk1 hS => ?_)
  obtain ⟨rfl, rfl⟩ := hw
  exact kk H1 locs1 ⟨by have h := hB.1; rw [ht] at h; exact h, hB.2.weaken (fun _ q _ h => hFc q.1 h), hS⟩
theorem g_callNi (S : CallFix p m c cc nL s args Ts own) (hM : gMi l y ws rm D wf tys nl As σ r σ') (cw : va_CN R s args own index y host bytes maxL ret ws rm 0 0 n ∧ (Cond.static y).before args s = true ∧ True) (hK : gK D tys nl s) (hA : ∀ q : Nat, H0.size ≤ q → A q) (hg : gS D wf A H0 σ H locs) (hn : As.length = n) (hsize : ls.size = nL) (hst : stk = As.reverse ++ rest) (hroom : (rest.map fun v => v.category).sum ≤ 8) (hdg : decode cc pc = .ok (.invokestatic index, 3)) (hf : cells ≤ R.cells ∧ slots ≤ R.slots)
    (kk : ∀ (H1 : Heap) (locs1 : List Loc), gS D wf A H0 σ' H1 locs1 → W p l e R s m args below meth c H1 locs1 cells slots Q (F0 m (pc + 3) ls (.int r :: rest))) : W p l e R s m args below meth c H locs cells slots Q (F0 m pc ls stk) := by
  have hFc := gS.free hA hg
  refine va_calli (va_runSN (As := As) (rest := rest) S (hM H.size) cw ⟨gPc.blind, fun U hU hW => ⟨rfl, by rw [hU], by rw [hU]; exact hg.1, hK.warm hW, hg.2.1.weaken (fun _ _ _ _ => trivial)⟩⟩ rfl hn hsize hst (lv_room hroom) hdg hf) hg.2.2 (fun q _ h => hFc q h) hFc (fun r2 u t H1 locs1 ht hvm hw hB hz1 hk1 hS => ?_)
  obtain ⟨rfl, rfl⟩ := hw
  exact kk H1 locs1 ⟨by have h := hB.1; rw [ht] at h; exact h, hB.2.weaken (fun _ q _ h => hFc q.1 h), hS⟩
end G
/-- FlowLedger: rows 0 from, 1 to, 2 capacity, 3 cost (20), 4 supply (8), 5 tail, 6 head, 7 weight, 8 room (40), 9 excess, 10 distance, 11 entry (8); 12, place 0: count -/
def wc (ad : Nat → Nat) (cz : Nat → ClassId) (σ : fl_St) : va_W := [(ad 0, .inr (2, [.ref (ad 1), .ref (ad 2)])), (ad 1, .inr (0, [.ref (ad 3), .ref (ad 4), .ref (ad 5), .ref (ad 6), .ref (ad 7), .int (σ 12 0)])), (ad 2, .inr (1, [.ref (ad 1), .ref (ad 8), .ref (ad 9), .ref (ad 10), .ref (ad 11), .ref (ad 12), .ref (ad 13), .ref (ad 14)])), (ad 3, .inl (cz 0, 20, .inl (σ 0))), (ad 4, .inl (cz 1, 20, .inl (σ 1))), (ad 5, .inl (cz 2, 20, .inl (σ 2))), (ad 6, .inl (cz 3, 20, .inl (σ 3))), (ad 7, .inl (cz 4, 8, .inl (σ 4))), (ad 8, .inl (cz 5, 40, .inl (σ 5))), (ad 9, .inl (cz 6, 40, .inl (σ 6))), (ad 10, .inl (cz 7, 40, .inl (σ 7))), (ad 11, .inl (cz 8, 40, .inl (σ 8))), (ad 12, .inl (cz 9, 8, .inl (σ 9))), (ad 13, .inl (cz 10, 8, .inl (σ 10))), (ad 14, .inl (cz 11, 8, .inl (σ 11)))]
def wcT (cz : Nat → ClassId) : List (ClassId × FieldType) := [(cz 0, .int), (cz 1, .int), (cz 2, .int), (cz 3, .int), (cz 4, .int), (cz 5, .int), (cz 6, .int), (cz 7, .int), (cz 8, .int), (cz 9, .int), (cz 10, .int), (cz 11, .int)]
def wcN : List gN := [(RX0, 27, yX2_sumAboveZero, RX2), (RX1, 65, yX2_sumAboveZero, RX2)]
theorem wc_a0 (ad : Nat → Nat) (cz : Nat → ClassId) (σ : fl_St) : (wc ad cz σ)[3]? = some (ad 3, .inl (cz 0, 20, .inl (σ 0))) := rfl
theorem wc_s0 (ad : Nat → Nat) (cz : Nat → ClassId) (σ : fl_St) (j : Nat) (z : Int32) : (wc ad cz σ).set 3 (ad 3, .inl (cz 0, 20, .inl (upd (σ 0) j z))) = wc ad cz (st σ 0 j z) := rfl
theorem wc_a1 (ad : Nat → Nat) (cz : Nat → ClassId) (σ : fl_St) : (wc ad cz σ)[4]? = some (ad 4, .inl (cz 1, 20, .inl (σ 1))) := rfl
theorem wc_s1 (ad : Nat → Nat) (cz : Nat → ClassId) (σ : fl_St) (j : Nat) (z : Int32) : (wc ad cz σ).set 4 (ad 4, .inl (cz 1, 20, .inl (upd (σ 1) j z))) = wc ad cz (st σ 1 j z) := rfl
theorem wc_a2 (ad : Nat → Nat) (cz : Nat → ClassId) (σ : fl_St) : (wc ad cz σ)[5]? = some (ad 5, .inl (cz 2, 20, .inl (σ 2))) := rfl
theorem wc_s2 (ad : Nat → Nat) (cz : Nat → ClassId) (σ : fl_St) (j : Nat) (z : Int32) : (wc ad cz σ).set 5 (ad 5, .inl (cz 2, 20, .inl (upd (σ 2) j z))) = wc ad cz (st σ 2 j z) := rfl
theorem wc_a3 (ad : Nat → Nat) (cz : Nat → ClassId) (σ : fl_St) : (wc ad cz σ)[6]? = some (ad 6, .inl (cz 3, 20, .inl (σ 3))) := rfl
theorem wc_s3 (ad : Nat → Nat) (cz : Nat → ClassId) (σ : fl_St) (j : Nat) (z : Int32) : (wc ad cz σ).set 6 (ad 6, .inl (cz 3, 20, .inl (upd (σ 3) j z))) = wc ad cz (st σ 3 j z) := rfl
theorem wc_a4 (ad : Nat → Nat) (cz : Nat → ClassId) (σ : fl_St) : (wc ad cz σ)[7]? = some (ad 7, .inl (cz 4, 8, .inl (σ 4))) := rfl
theorem wc_s4 (ad : Nat → Nat) (cz : Nat → ClassId) (σ : fl_St) (j : Nat) (z : Int32) : (wc ad cz σ).set 7 (ad 7, .inl (cz 4, 8, .inl (upd (σ 4) j z))) = wc ad cz (st σ 4 j z) := rfl
theorem wc_a5 (ad : Nat → Nat) (cz : Nat → ClassId) (σ : fl_St) : (wc ad cz σ)[8]? = some (ad 8, .inl (cz 5, 40, .inl (σ 5))) := rfl
theorem wc_s5 (ad : Nat → Nat) (cz : Nat → ClassId) (σ : fl_St) (j : Nat) (z : Int32) : (wc ad cz σ).set 8 (ad 8, .inl (cz 5, 40, .inl (upd (σ 5) j z))) = wc ad cz (st σ 5 j z) := rfl
theorem wc_a6 (ad : Nat → Nat) (cz : Nat → ClassId) (σ : fl_St) : (wc ad cz σ)[9]? = some (ad 9, .inl (cz 6, 40, .inl (σ 6))) := rfl
theorem wc_s6 (ad : Nat → Nat) (cz : Nat → ClassId) (σ : fl_St) (j : Nat) (z : Int32) : (wc ad cz σ).set 9 (ad 9, .inl (cz 6, 40, .inl (upd (σ 6) j z))) = wc ad cz (st σ 6 j z) := rfl
theorem wc_a7 (ad : Nat → Nat) (cz : Nat → ClassId) (σ : fl_St) : (wc ad cz σ)[10]? = some (ad 10, .inl (cz 7, 40, .inl (σ 7))) := rfl
theorem wc_s7 (ad : Nat → Nat) (cz : Nat → ClassId) (σ : fl_St) (j : Nat) (z : Int32) : (wc ad cz σ).set 10 (ad 10, .inl (cz 7, 40, .inl (upd (σ 7) j z))) = wc ad cz (st σ 7 j z) := rfl
theorem wc_a8 (ad : Nat → Nat) (cz : Nat → ClassId) (σ : fl_St) : (wc ad cz σ)[11]? = some (ad 11, .inl (cz 8, 40, .inl (σ 8))) := rfl
theorem wc_s8 (ad : Nat → Nat) (cz : Nat → ClassId) (σ : fl_St) (j : Nat) (z : Int32) : (wc ad cz σ).set 11 (ad 11, .inl (cz 8, 40, .inl (upd (σ 8) j z))) = wc ad cz (st σ 8 j z) := rfl
theorem wc_a9 (ad : Nat → Nat) (cz : Nat → ClassId) (σ : fl_St) : (wc ad cz σ)[12]? = some (ad 12, .inl (cz 9, 8, .inl (σ 9))) := rfl
theorem wc_s9 (ad : Nat → Nat) (cz : Nat → ClassId) (σ : fl_St) (j : Nat) (z : Int32) : (wc ad cz σ).set 12 (ad 12, .inl (cz 9, 8, .inl (upd (σ 9) j z))) = wc ad cz (st σ 9 j z) := rfl
theorem wc_a10 (ad : Nat → Nat) (cz : Nat → ClassId) (σ : fl_St) : (wc ad cz σ)[13]? = some (ad 13, .inl (cz 10, 8, .inl (σ 10))) := rfl
theorem wc_s10 (ad : Nat → Nat) (cz : Nat → ClassId) (σ : fl_St) (j : Nat) (z : Int32) : (wc ad cz σ).set 13 (ad 13, .inl (cz 10, 8, .inl (upd (σ 10) j z))) = wc ad cz (st σ 10 j z) := rfl
theorem wc_a11 (ad : Nat → Nat) (cz : Nat → ClassId) (σ : fl_St) : (wc ad cz σ)[14]? = some (ad 14, .inl (cz 11, 8, .inl (σ 11))) := rfl
theorem wc_s11 (ad : Nat → Nat) (cz : Nat → ClassId) (σ : fl_St) (j : Nat) (z : Int32) : (wc ad cz σ).set 14 (ad 14, .inl (cz 11, 8, .inl (upd (σ 11) j z))) = wc ad cz (st σ 11 j z) := rfl
theorem wc_c (ad : Nat → Nat) (cz : Nat → ClassId) (σ : fl_St) (z : Int32) : (wc ad cz σ).set 1 (ad 1, .inr (0, [.ref (ad 3), .ref (ad 4), .ref (ad 5), .ref (ad 6), .ref (ad 7), .int z])) = wc ad cz (st σ 12 0 z) := rfl
/-- FlowLedgerModel: rows 0 froms, 1 tos, 2 capacities, 3 costs (36), 4 supplies (8), 5 flow, 6 other (36), 7 seen, 8 far, 9 by (10), 10 allowed (36), 11 way, 12 row (10); 13: place 0 arcs, 1 all, 2 total -/
def wm (ad : Nat → Nat) (cz : Nat → ClassId) (σ : fl_St) : va_W := [(ad 0, .inr (3, [.int (σ 13 0), .ref (ad 1), .ref (ad 2), .ref (ad 3), .ref (ad 4), .ref (ad 5), .ref (ad 6), .ref (ad 7), .int (σ 13 1), .ref (ad 8), .ref (ad 9), .ref (ad 10), .ref (ad 11), .int (σ 13 2), .ref (ad 12), .ref (ad 13)])), (ad 1, .inl (cz 0, 36, .inl (σ 0))), (ad 2, .inl (cz 1, 36, .inl (σ 1))), (ad 3, .inl (cz 2, 36, .inl (σ 2))), (ad 4, .inl (cz 3, 36, .inl (σ 3))), (ad 5, .inl (cz 4, 8, .inl (σ 4))), (ad 6, .inl (cz 5, 36, .inl (σ 5))), (ad 7, .inl (cz 6, 36, .inl (σ 6))), (ad 8, .inl (cz 7, 10, .inl (σ 7))), (ad 9, .inl (cz 8, 10, .inl (σ 8))), (ad 10, .inl (cz 9, 10, .inl (σ 9))), (ad 11, .inl (cz 10, 36, .inl (σ 10))), (ad 12, .inl (cz 11, 10, .inl (σ 11))), (ad 13, .inl (cz 12, 10, .inl (σ 12)))]
def wmT (cz : Nat → ClassId) : List (ClassId × FieldType) := [(cz 0, .int), (cz 1, .int), (cz 2, .int), (cz 3, .int), (cz 4, .int), (cz 5, .int), (cz 6, .int), (cz 7, .boolean), (cz 8, .int), (cz 9, .int), (cz 10, .boolean), (cz 11, .int), (cz 12, .int)]
theorem wm_a0 (ad : Nat → Nat) (cz : Nat → ClassId) (σ : fl_St) : (wm ad cz σ)[1]? = some (ad 1, .inl (cz 0, 36, .inl (σ 0))) := rfl
theorem wm_s0 (ad : Nat → Nat) (cz : Nat → ClassId) (σ : fl_St) (j : Nat) (z : Int32) : (wm ad cz σ).set 1 (ad 1, .inl (cz 0, 36, .inl (upd (σ 0) j z))) = wm ad cz (st σ 0 j z) := rfl
theorem wm_a1 (ad : Nat → Nat) (cz : Nat → ClassId) (σ : fl_St) : (wm ad cz σ)[2]? = some (ad 2, .inl (cz 1, 36, .inl (σ 1))) := rfl
theorem wm_s1 (ad : Nat → Nat) (cz : Nat → ClassId) (σ : fl_St) (j : Nat) (z : Int32) : (wm ad cz σ).set 2 (ad 2, .inl (cz 1, 36, .inl (upd (σ 1) j z))) = wm ad cz (st σ 1 j z) := rfl
theorem wm_a2 (ad : Nat → Nat) (cz : Nat → ClassId) (σ : fl_St) : (wm ad cz σ)[3]? = some (ad 3, .inl (cz 2, 36, .inl (σ 2))) := rfl
theorem wm_s2 (ad : Nat → Nat) (cz : Nat → ClassId) (σ : fl_St) (j : Nat) (z : Int32) : (wm ad cz σ).set 3 (ad 3, .inl (cz 2, 36, .inl (upd (σ 2) j z))) = wm ad cz (st σ 2 j z) := rfl
theorem wm_a3 (ad : Nat → Nat) (cz : Nat → ClassId) (σ : fl_St) : (wm ad cz σ)[4]? = some (ad 4, .inl (cz 3, 36, .inl (σ 3))) := rfl
theorem wm_s3 (ad : Nat → Nat) (cz : Nat → ClassId) (σ : fl_St) (j : Nat) (z : Int32) : (wm ad cz σ).set 4 (ad 4, .inl (cz 3, 36, .inl (upd (σ 3) j z))) = wm ad cz (st σ 3 j z) := rfl
theorem wm_a4 (ad : Nat → Nat) (cz : Nat → ClassId) (σ : fl_St) : (wm ad cz σ)[5]? = some (ad 5, .inl (cz 4, 8, .inl (σ 4))) := rfl
theorem wm_s4 (ad : Nat → Nat) (cz : Nat → ClassId) (σ : fl_St) (j : Nat) (z : Int32) : (wm ad cz σ).set 5 (ad 5, .inl (cz 4, 8, .inl (upd (σ 4) j z))) = wm ad cz (st σ 4 j z) := rfl
theorem wm_a5 (ad : Nat → Nat) (cz : Nat → ClassId) (σ : fl_St) : (wm ad cz σ)[6]? = some (ad 6, .inl (cz 5, 36, .inl (σ 5))) := rfl
theorem wm_s5 (ad : Nat → Nat) (cz : Nat → ClassId) (σ : fl_St) (j : Nat) (z : Int32) : (wm ad cz σ).set 6 (ad 6, .inl (cz 5, 36, .inl (upd (σ 5) j z))) = wm ad cz (st σ 5 j z) := rfl
theorem wm_a6 (ad : Nat → Nat) (cz : Nat → ClassId) (σ : fl_St) : (wm ad cz σ)[7]? = some (ad 7, .inl (cz 6, 36, .inl (σ 6))) := rfl
theorem wm_s6 (ad : Nat → Nat) (cz : Nat → ClassId) (σ : fl_St) (j : Nat) (z : Int32) : (wm ad cz σ).set 7 (ad 7, .inl (cz 6, 36, .inl (upd (σ 6) j z))) = wm ad cz (st σ 6 j z) := rfl
theorem wm_a7 (ad : Nat → Nat) (cz : Nat → ClassId) (σ : fl_St) : (wm ad cz σ)[8]? = some (ad 8, .inl (cz 7, 10, .inl (σ 7))) := rfl
theorem wm_s7 (ad : Nat → Nat) (cz : Nat → ClassId) (σ : fl_St) (j : Nat) (z : Int32) : (wm ad cz σ).set 8 (ad 8, .inl (cz 7, 10, .inl (upd (σ 7) j z))) = wm ad cz (st σ 7 j z) := rfl
theorem wm_a8 (ad : Nat → Nat) (cz : Nat → ClassId) (σ : fl_St) : (wm ad cz σ)[9]? = some (ad 9, .inl (cz 8, 10, .inl (σ 8))) := rfl
theorem wm_s8 (ad : Nat → Nat) (cz : Nat → ClassId) (σ : fl_St) (j : Nat) (z : Int32) : (wm ad cz σ).set 9 (ad 9, .inl (cz 8, 10, .inl (upd (σ 8) j z))) = wm ad cz (st σ 8 j z) := rfl
theorem wm_a9 (ad : Nat → Nat) (cz : Nat → ClassId) (σ : fl_St) : (wm ad cz σ)[10]? = some (ad 10, .inl (cz 9, 10, .inl (σ 9))) := rfl
theorem wm_s9 (ad : Nat → Nat) (cz : Nat → ClassId) (σ : fl_St) (j : Nat) (z : Int32) : (wm ad cz σ).set 10 (ad 10, .inl (cz 9, 10, .inl (upd (σ 9) j z))) = wm ad cz (st σ 9 j z) := rfl
theorem wm_a10 (ad : Nat → Nat) (cz : Nat → ClassId) (σ : fl_St) : (wm ad cz σ)[11]? = some (ad 11, .inl (cz 10, 36, .inl (σ 10))) := rfl
theorem wm_s10 (ad : Nat → Nat) (cz : Nat → ClassId) (σ : fl_St) (j : Nat) (z : Int32) : (wm ad cz σ).set 11 (ad 11, .inl (cz 10, 36, .inl (upd (σ 10) j z))) = wm ad cz (st σ 10 j z) := rfl
theorem wm_a11 (ad : Nat → Nat) (cz : Nat → ClassId) (σ : fl_St) : (wm ad cz σ)[12]? = some (ad 12, .inl (cz 11, 10, .inl (σ 11))) := rfl
theorem wm_s11 (ad : Nat → Nat) (cz : Nat → ClassId) (σ : fl_St) (j : Nat) (z : Int32) : (wm ad cz σ).set 12 (ad 12, .inl (cz 11, 10, .inl (upd (σ 11) j z))) = wm ad cz (st σ 11 j z) := rfl
theorem wm_a12 (ad : Nat → Nat) (cz : Nat → ClassId) (σ : fl_St) : (wm ad cz σ)[13]? = some (ad 13, .inl (cz 12, 10, .inl (σ 12))) := rfl
theorem wm_s12 (ad : Nat → Nat) (cz : Nat → ClassId) (σ : fl_St) (j : Nat) (z : Int32) : (wm ad cz σ).set 13 (ad 13, .inl (cz 12, 10, .inl (upd (σ 12) j z))) = wm ad cz (st σ 12 j z) := rfl
theorem wm_c0 (ad : Nat → Nat) (cz : Nat → ClassId) (σ : fl_St) (z : Int32) : (wm ad cz σ).set 0 (ad 0, .inr (3, [.int z, .ref (ad 1), .ref (ad 2), .ref (ad 3), .ref (ad 4), .ref (ad 5), .ref (ad 6), .ref (ad 7), .int (σ 13 1), .ref (ad 8), .ref (ad 9), .ref (ad 10), .ref (ad 11), .int (σ 13 2), .ref (ad 12), .ref (ad 13)])) = wm ad cz (st σ 13 0 z) := rfl
theorem wm_c1 (ad : Nat → Nat) (cz : Nat → ClassId) (σ : fl_St) (z : Int32) : (wm ad cz σ).set 0 (ad 0, .inr (3, [.int (σ 13 0), .ref (ad 1), .ref (ad 2), .ref (ad 3), .ref (ad 4), .ref (ad 5), .ref (ad 6), .ref (ad 7), .int z, .ref (ad 8), .ref (ad 9), .ref (ad 10), .ref (ad 11), .int (σ 13 2), .ref (ad 12), .ref (ad 13)])) = wm ad cz (st σ 13 1 z) := rfl
theorem wm_c2 (ad : Nat → Nat) (cz : Nat → ClassId) (σ : fl_St) (z : Int32) : (wm ad cz σ).set 0 (ad 0, .inr (3, [.int (σ 13 0), .ref (ad 1), .ref (ad 2), .ref (ad 3), .ref (ad 4), .ref (ad 5), .ref (ad 6), .ref (ad 7), .int (σ 13 1), .ref (ad 8), .ref (ad 9), .ref (ad 10), .ref (ad 11), .int z, .ref (ad 12), .ref (ad 13)])) = wm ad cz (st σ 13 2 z) := rfl
theorem wm_af {fi : Nat} (hfi : fi = 5 ∨ fi = 6) (ad : Nat → Nat) (cz : Nat → ClassId) (σ : fl_St) : (wm ad cz σ)[fi + 1]? = some (ad (fi + 1), .inl (cz fi, 36, .inl (σ fi))) := by rcases hfi with rfl | rfl <;> rfl
theorem wm_sf {fi : Nat} (hfi : fi = 5 ∨ fi = 6) (ad : Nat → Nat) (cz : Nat → ClassId) (σ : fl_St) (j : Nat) (z : Int32) : (wm ad cz σ).set (fi + 1) (ad (fi + 1), .inl (cz fi, 36, .inl (upd (σ fi) j z))) = wm ad cz (st σ fi j z) := by rcases hfi with rfl | rfl <;> rfl
theorem wm_tf {fi : Nat} (hfi : fi = 5 ∨ fi = 6) (cz : Nat → ClassId) : (wmT cz)[fi]? = some (cz fi, .int) := by rcases hfi with rfl | rfl <;> rfl
def fl_b2 {α β γ : Type} (x : Option (α × β)) (K : α → β → Option γ) : Option γ := x.bind fun q => K q.1 q.2
def fl_b3 {α β δ γ : Type} (x : Option (α × β × δ)) (K : α → β → δ → Option γ) : Option γ := x.bind fun q => K q.1 q.2.1 q.2.2
def fl_b4 {α β δ ε γ : Type} (x : Option (α × β × δ × ε)) (K : α → β → δ → ε → Option γ) : Option γ := x.bind fun q => K q.1 q.2.1 q.2.2.1 q.2.2.2
def fl_b5 {α β δ ε ζ γ : Type} (x : Option (α × β × δ × ε × ζ)) (K : α → β → δ → ε → ζ → Option γ) : Option γ := x.bind fun q => K q.1 q.2.1 q.2.2.1 q.2.2.2.1 q.2.2.2.2
theorem fl_b2_b {α β γ : Type} {x : Option (α × β)} {K : α → β → Option γ} {o : γ} (h : fl_b2 x K = some o) : ∃ a b, x = some (a, b) ∧ K a b = some o := by
  obtain ⟨⟨a, b⟩, e, h⟩ := fl_bnd h
  exact ⟨a, b, e, h⟩
theorem fl_b3_b {α β δ γ : Type} {x : Option (α × β × δ)} {K : α → β → δ → Option γ} {o : γ} (h : fl_b3 x K = some o) : ∃ a b d, x = some (a, b, d) ∧ K a b d = some o := by
  obtain ⟨⟨a, b, d⟩, e, h⟩ := fl_bnd h
  exact ⟨a, b, d, e, h⟩
theorem fl_b4_b {α β δ ε γ : Type} {x : Option (α × β × δ × ε)} {K : α → β → δ → ε → Option γ} {o : γ} (h : fl_b4 x K = some o) : ∃ a b d e, x = some (a, b, d, e) ∧ K a b d e = some o := by
  obtain ⟨⟨a, b, d, f⟩, e, h⟩ := fl_bnd h
  exact ⟨a, b, d, f, e, h⟩
theorem fl_b5_b {α β δ ε ζ γ : Type} {x : Option (α × β × δ × ε × ζ)} {K : α → β → δ → ε → ζ → Option γ} {o : γ} (h : fl_b5 x K = some o) : ∃ a b d e f, x = some (a, b, d, e, f) ∧ K a b d e f = some o := by
  obtain ⟨⟨a, b, d, f, g⟩, e, h⟩ := fl_bnd h
  exact ⟨a, b, d, f, g, e, h⟩
theorem fl_s1 {α : Type} {a b : α} (h : some a = some b) : a = b := Option.some.inj h
theorem fl_s2 {α β : Type} {a c : α} {b d : β} (h : some (a, b) = some (c, d)) : a = c ∧ b = d := Prod.mk.inj (Option.some.inj h)
theorem fl_s3 {α β γ : Type} {a a' : α} {b b' : β} {c c' : γ} (h : some (a, b, c) = some (a', b', c')) : a = a' ∧ b = b' ∧ c = c' := by
  obtain ⟨h1, h2⟩ := fl_s2 h
  exact ⟨h1, Prod.mk.inj h2⟩
theorem fl_s4 {α β γ δ : Type} {a a' : α} {b b' : β} {c c' : γ} {d d' : δ} (h : some (a, b, c, d) = some (a', b', c', d')) : a = a' ∧ b = b' ∧ c = c' ∧ d = d' := by
  obtain ⟨h1, h2, h3⟩ := fl_s3 h
  exact ⟨h1, h2, Prod.mk.inj h3⟩
theorem fl_s5 {α β γ δ ε : Type} {a a' : α} {b b' : β} {c c' : γ} {d d' : δ} {e e' : ε} (h : some (a, b, c, d, e) = some (a', b', c', d', e')) : a = a' ∧ b = b' ∧ c = c' ∧ d = d' ∧ e = e' := by
  obtain ⟨h1, h2, h3, h4⟩ := fl_s4 h
  exact ⟨h1, h2, h3, Prod.mk.inj h4⟩
theorem fl_ifp {α : Type} {c : Prop} [Decidable c] {a b : Option α} {o : α} (hc : c) (h : (if c then a else b) = some o) : a = some o := by rwa [if_pos hc] at h
theorem fl_ifn {α : Type} {c : Prop} [Decidable c] {a b : Option α} {o : α} (hc : ¬ c) (h : (if c then a else b) = some o) : b = some o := by rwa [if_neg hc] at h
section G2
variable {p : Program} {l : Launch} {e : Env} {R : Room} {s : State} {m : MethodId} {args : Array Value} {below : List Frame} {meth : Method} {c : Code} {H H0 : Heap} {locs : List Loc} {cells slots : Nat} {Q : State → Prop}
variable {D : va_G} {wf : fl_St → va_W} {tys : List (ClassId × FieldType)} {nl : List gN} {A : Nat → Prop} {σ σ' : fl_St} {cc : ByteArray} {pc : Nat} {ls : Array Slot} {rest : List Value}
theorem g_put {own ref C : String} {T : u_T} {N ci index a : Nat} {z : Int32} {Ts : List Cond} (hx : p.tables.exec = Jvm.exec) (hb : c.code = cc) (hts : ∀ w ∈ Ts, w.before args s = true) (hin : ∀ w ∈ u_ws C T N, w ∈ Ts) (ty0 : Nat → FieldType) (hty : ∀ k, k < N → parseFieldDescriptor (T k).2.2.1 = some (ty0 k)) (hnm : ∀ a, a < N → ∀ b, b < N → a ≠ b → (T a).2.1 ≠ (T b).2.1) (hown : s.vm.findClass own = some m.cls) (hK : gK D tys nl s) (hg : gS D wf A H0 σ H locs) (q0 : Nat) {fs : List Value} (he : (wf σ)[q0]? = some (a, .inr (ci, fs))) (hc : vwCl[ci]? = some (C, T, N)) (k : Nat) (hk : k < N) (hlink : (Cond.fieldLink own index ref (T k).2.1 (T k).2.2.1).before args s = true) (hsame : ∀ x, s.fieldFound? (T k).1 (T k).2.1 (T k).2.2.1 = some x → s.fieldFound? ref (T k).2.1 (T k).2.2.1 = some x) (hfin : (T k).2.2.2 = false) (hd : parseFieldDescriptor (T k).2.2.1 = some .int) (hl : k < fs.length) (hs : (wf σ).set q0 (a, .inr (ci, fs.set k (.int z))) = wf σ')
    (hdg : decode cc pc = .ok (.putfield index, 3)) (kk : ∀ (H1 : Heap) (locs1 : List Loc), gS D wf A H0 σ' H1 locs1 → W p l e R s m args below meth c H1 locs1 cells slots Q (F0 m (pc + 3) ls rest)) : W p l e R s m args below meth c H locs cells slots Q (F0 m pc ls (.int z :: .ref a :: rest)) := by
  refine va_put hx hb hts hin ty0 hty hnm hown hK.1 hg.1 hg.2.1 hg.2.2 q0 he hc k hk hlink hsame hfin hd rfl rfl hl hdg (fun H1 locs1 h1 h2 h3 => kk H1 locs1 ⟨?_, ?_, h3⟩)
  · rw [hs] at h1; exact h1
  · rw [hs] at h2; exact h2
end G2
theorem fl_bool {α : Type} {v : Int32} {K : Option α} {o : α} (h : (if ¬ (v = 0 ∨ v = 1) then none else K) = some o) : (v = 0 ∨ v = 1) ∧ K = some o := by
  by_cases hc : v = 0 ∨ v = 1
  · rw [if_neg (fun q => q hc)] at h
    exact ⟨hc, h⟩
  · rw [if_pos hc] at h
    cases h
theorem fl_nar {v : Int32} (h : v = 0 ∨ v = 1) : vp_nar .boolean v = v := by rcases h with rfl | rfl <;> rfl
theorem fl_nar2 {v : Int32} (h : v = 0 ∨ v = 1) : narrow .boolean (.int v) = .int v := by rcases h with rfl | rfl <;> rfl
theorem wc_af {fi : Nat} (hfi : fi = 4 ∨ fi = 9) (ad : Nat → Nat) (cz : Nat → ClassId) (σ : fl_St) : (wc ad cz σ)[fi + 3]? = some (ad (fi + 3), .inl (cz fi, 8, .inl (σ fi))) := by rcases hfi with rfl | rfl <;> rfl
theorem wc_tf {fi : Nat} (hfi : fi = 4 ∨ fi = 9) (cz : Nat → ClassId) : (wcT cz)[fi]? = some (cz fi, .int) := by rcases hfi with rfl | rfl <;> rfl
end
section
/-! pure rows: sums of integers over the first n numbers -/
def fl_S : Nat → (Nat → Int) → Int
  | 0, _ => 0
  | n + 1, f => fl_S n f + f n
theorem fl_S_0 (f : Nat → Int) : fl_S 0 f = 0 := rfl
theorem fl_S_s (n : Nat) (f : Nat → Int) : fl_S (n + 1) f = fl_S n f + f n := rfl
theorem fl_S_congr {n : Nat} {f g : Nat → Int} (h : ∀ i, i < n → f i = g i) : fl_S n f = fl_S n g := by
  induction n with
  | zero => rfl
  | succ n ih => rw [fl_S_s, fl_S_s, ih (fun i hi => h i (by omega)), h n (by omega)]
theorem fl_S_zero (n : Nat) : fl_S n (fun _ => 0) = 0 := by
  induction n with
  | zero => rfl
  | succ n ih => rw [fl_S_s, ih]; rfl
theorem fl_S_add (n : Nat) (f g : Nat → Int) : fl_S n (fun i => f i + g i) = fl_S n f + fl_S n g := by
  induction n with
  | zero => rfl
  | succ n ih => simp only [fl_S_s, ih]; omega
theorem fl_S_sub (n : Nat) (f g : Nat → Int) : fl_S n (fun i => f i - g i) = fl_S n f - fl_S n g := by
  induction n with
  | zero => rfl
  | succ n ih => simp only [fl_S_s, ih]; omega
theorem fl_S_mul (n : Nat) (k : Int) (f : Nat → Int) : fl_S n (fun i => k * f i) = k * fl_S n f := by
  induction n with
  | zero => simp [fl_S]
  | succ n ih => rw [fl_S_s, fl_S_s, ih, Int.mul_add]
theorem fl_S_swap (n m : Nat) (f : Nat → Nat → Int) : fl_S n (fun i => fl_S m (fun j => f i j)) = fl_S m (fun j => fl_S n (fun i => f i j)) := by
  induction n with
  | zero => simp only [fl_S_0]; exact (fl_S_zero m).symm
  | succ n ih => simp only [fl_S_s, ih, fl_S_add]
theorem fl_S_le {n : Nat} {f g : Nat → Int} (h : ∀ i, i < n → f i ≤ g i) : fl_S n f ≤ fl_S n g := by
  induction n with
  | zero => exact Int.le_refl _
  | succ n ih =>
    have h1 := ih (fun i hi => h i (by omega))
    have h2 := h n (by omega)
    simp only [fl_S_s]; omega
theorem fl_S_nonneg {n : Nat} {f : Nat → Int} (h : ∀ i, i < n → 0 ≤ f i) : 0 ≤ fl_S n f := by
  have := fl_S_le (f := fun _ => 0) (g := f) h
  rwa [fl_S_zero] at this
theorem fl_S_out {n k : Nat} (hk : n ≤ k) (f : Nat → Int) : fl_S n (fun i => if i = k then f i else 0) = 0 := by
  rw [fl_S_congr (g := fun _ => 0) (fun i hi => if_neg (by omega)), fl_S_zero]
theorem fl_S_pick {n k : Nat} (hk : k < n) (f : Nat → Int) : fl_S n (fun i => if i = k then f i else 0) = f k := by
  induction n with
  | zero => omega
  | succ n ih =>
    rw [fl_S_s]
    by_cases h : n = k
    · subst h; rw [fl_S_out (Nat.le_refl n)]; simp
    · rw [ih (by omega), if_neg h]; omega
theorem fl_S_pick' {n k : Nat} (hk : k < n) (f : Nat → Int) : fl_S n (fun i => if k = i then f i else 0) = f k := by
  rw [← fl_S_pick hk f]
  exact fl_S_congr (fun i _ => by by_cases h : k = i <;> simp [h, eq_comm])
def fl_up (f : Nat → Int) (k : Nat) (x : Int) : Nat → Int := fun j => if j = k then x else f j
theorem fl_up_s (f : Nat → Int) (k : Nat) (x : Int) : fl_up f k x k = x := if_pos rfl
theorem fl_up_n (f : Nat → Int) {k j : Nat} (x : Int) (h : j ≠ k) : fl_up f k x j = f j := if_neg h
theorem fl_S_up {n k : Nat} (hk : k < n) (f : Nat → Int) (x : Int) : fl_S n (fl_up f k x) = fl_S n f + (x - f k) := by
  have h : fl_S n (fl_up f k x) = fl_S n (fun i => f i + (if i = k then (fun j => x - f j) i else 0)) :=
    fl_S_congr (fun i _ => by by_cases h : i = k <;> simp [fl_up, h] <;> omega)
  rw [h, fl_S_add, fl_S_pick hk]
/-- how many of the first n have less than v -/
def fl_cnt (n : Nat) (t : Nat → Nat) (v : Nat) : Int := fl_S n (fun u => if t u < t v then 1 else 0)
theorem fl_cnt_lt {n : Nat} {t : Nat → Nat} {u v : Nat} (hu : u < n) (h : t u < t v) : fl_cnt n t u < fl_cnt n t v := by
  have h1 : fl_cnt n t u + fl_S n (fun i => if i = u then (fun _ => 1) i else 0) ≤ fl_cnt n t v := by
    unfold fl_cnt
    rw [← fl_S_add]
    refine fl_S_le (fun i _ => ?_)
    by_cases e : i = u
    · subst e; simp [h]
    · simp only [e, if_false]
      by_cases h2 : t i < t u
      · rw [if_pos h2, if_pos (by omega)]; omega
      · rw [if_neg h2]; split <;> omega
  rw [fl_S_pick hu] at h1
  omega
theorem fl_cnt_max {n : Nat} {t : Nat → Nat} {v : Nat} (hv : v < n) : fl_cnt n t v + 1 ≤ n := by
  have h1 : fl_cnt n t v + fl_S n (fun i => if i = v then (fun _ => 1) i else 0) ≤ fl_S n (fun _ => 1) := by
    unfold fl_cnt
    rw [← fl_S_add]
    refine fl_S_le (fun i _ => ?_)
    by_cases e : i = v
    · subst e; simp
    · simp only [e, if_false]; split <;> omega
  have h2 : ∀ k : Nat, fl_S k (fun _ => 1) = k := by
    intro k
    induction k with
    | zero => rfl
    | succ k ih => rw [fl_S_s, ih]; omega
  rw [fl_S_pick hv, h2] at h1
  omega
theorem fl_cnt_0 {n : Nat} {t : Nat → Nat} {v : Nat} : 0 ≤ fl_cnt n t v := fl_S_nonneg (fun i _ => by split <;> omega)
/-- a list of different numbers below n has at most n of them -/
theorem fl_nodup_len : ∀ (n : Nat) (l : List Nat), l.Nodup → (∀ x ∈ l, x < n) → l.length ≤ n := by
  intro n
  induction n with
  | zero =>
    intro l _ h
    cases l with
    | nil => simp
    | cons a l => exact absurd (h a (by simp)) (by omega)
  | succ n ih =>
    intro l hd h
    have h1 : (l.erase n).length ≤ n := by
      refine ih _ (hd.erase n) (fun x hx => ?_)
      have hx1 : x ∈ l := List.mem_of_mem_erase hx
      have hx2 : x ≠ n := fun e => by
        subst e
        exact (List.Nodup.not_mem_erase hd) hx
      have := h x hx1
      omega
    have h2 := List.length_erase (a := n) (l := l)
    split at h2 <;> omega
end
section
def f_X2_sumAboveZero_l10 (fi : Nat) (x3 : Int32) (σ : fl_St) : Nat → Int32 → Int32 → Option (Int32)
  | 0, _, _ => none
  | n + 1, x1, x4 => if x3 ≤ x4 then (some (x1)) else ((fl_rd σ fi 8 x4).bind fun v2 => f_X2_sumAboveZero_l10 fi x3 σ n (x1 + (if (0) < v2 then v2 else (0))) (x4 + 1))
def f_X2_sumAboveZero (fi : Nat) (σ : fl_St) : Option (Int32) := (f_X2_sumAboveZero_l10 fi (8) σ fl_N (0) (0)).bind fun (w5 : Int32) => some w5
def rm_X2_sumAboveZero : Room := { frames := 1, cells := 0, slots := 0, locals := 21 }
set_option maxHeartbeats 4000000 in
set_option maxRecDepth 100000 in
theorem c_X2_sumAboveZero (l : Launch) (D : va_G) (ad : Nat → Nat) (cz : Nat → ClassId) {fi : Nat} (hfi : fi = 4 ∨ fi = 9) (σ : fl_St) {r : Int32} (h : f_X2_sumAboveZero fi σ = some r) : gMi l yX2_sumAboveZero wsX2_sumAboveZero rm_X2_sumAboveZero D (wc ad cz) (wcT cz) wcN [.ref (ad (fi + 3))] σ r σ := by
  refine gMi_of (cc := cX2_sumAboveZero) (maxL := 6) (by decide) rfl (Nat.le_of_ble_eq_true rfl) ?_
  intro p e s m args below meth c A Q ls hx hb hml hown hts hK hA hg hl hret
  have hown : s.vm.findClass RX2 = some m.cls := hown
  have hl : lv_has ls 6 [(0, .ref (ad (fi + 3)))] := hl
  have k_0 := hts (.methodLink RX2 111 Lib.Math.max.name) (by decide +kernel)
  have k_1 := hts (.static Lib.Math.max.name) (by decide +kernel)
  have k_2 := hts (.initialized "java/lang/Math") (by decide +kernel)
  have k_3 := hts (.code Lib.Math.max.name Lib.Math.max.code 2 (some .int)) (by decide +kernel)
  have L10 : ∀ (n : Nat) (x3 : Int32) (σ : fl_St) (x1 : Int32) (x4 : Int32) (o1 : Int32) (H : Heap) (locs : List Loc) (ls : Array Slot), f_X2_sumAboveZero_l10 fi x3 σ n x1 x4 = some (o1) → gS D (wc ad cz) A s.heap σ H locs → lv_has ls 6 [(1, .int x1), (2, .ref (ad (fi + 3))), (3, .int x3), (4, .int x4)] → (∀ (H : Heap) (locs : List Loc) (ls : Array Slot), gS D (wc ad cz) A s.heap σ H locs → lv_has ls 6 [(1, .int o1)] → W p l e rm_X2_sumAboveZero s m args below meth c H locs 0 0 Q (F0 m 37 ls [])) → W p l e rm_X2_sumAboveZero s m args below meth c H locs 0 0 Q (F0 m 10 ls []) := by
    intro n
    induction n with
    | zero =>
      intro x3 σ x1 x4 o1 H locs ls h hg hl kk0
      rw [f_X2_sumAboveZero_l10] at h
      cases h
    | succ n ih =>
      intro x3 σ x1 x4 o1 H locs ls h hg hl kk0
      rw [f_X2_sumAboveZero_l10] at h
      refine lv_iload hx hb dX2_sumAboveZero_10 (lv_at hl 3 rfl) ?_
      refine lv_iload_n hx hb dX2_sumAboveZero_12 rfl (lv_at hl 2 rfl) ?_
      refine lv_icmp_ge (tgt := 37) hx hb dX2_sumAboveZero_13 (by decide) (fun c1 => ?_) (fun c1 => ?_)
      · have h := fl_ifp c1 h
        obtain rfl := fl_s1 h
        exact kk0 H locs ls hg (lv_sub hl [0] rfl)
      · have h := fl_ifn c1 h
        refine lv_aload_n hx hb dX2_sumAboveZero_16 rfl (lv_at hl 1 rfl) ?_
        refine lv_iload hx hb dX2_sumAboveZero_17 (lv_at hl 3 rfl) ?_
        obtain ⟨v2, i3, e4, h⟩ := fl_rd_b h
        refine g_ld (n := 8) (t0 := fi) hx hb hK hg (wc_af hfi ad cz _) (wc_tf hfi cz) i3 e4 dX2_sumAboveZero_19 ?_
        refine lv_istore (lv' := [(5, .int v2), (1, .int x1), (2, .ref (ad (fi + 3))), (3, .int x3), (4, .int x4)]) hx hb dX2_sumAboveZero_20 hl (by decide) rfl (fun ls hl => ?_)
        refine lv_iload_n hx hb dX2_sumAboveZero_22 rfl (lv_at hl 1 rfl) ?_
        refine lv_iconst (v := (0)) hx hb dX2_sumAboveZero_23 (by decide) ?_
        refine lv_iload hx hb dX2_sumAboveZero_24 (lv_at hl 0 rfl) ?_
        refine va_mmax (rest := [.int x1]) hx hb (hml.trans hl.1.symm) hown k_0 k_1 k_2 k_3 (Nat.le_of_ble_eq_true rfl) (Nat.le_of_ble_eq_true rfl) (Nat.le_of_ble_eq_true rfl) (Nat.le_of_ble_eq_true rfl) dX2_sumAboveZero_26 ?_
        refine lv_iadd hx hb dX2_sumAboveZero_29 ?_
        refine lv_istore_n (lv' := [(1, .int (x1 + (if (0) < v2 then v2 else (0)))), (5, .int v2), (2, .ref (ad (fi + 3))), (3, .int x3), (4, .int x4)]) hx hb dX2_sumAboveZero_30 rfl hl (by decide) rfl (fun ls hl => ?_)
        refine lv_iinc (v := (x4 + 1)) (lv' := [(4, .int (x4 + 1)), (1, .int (x1 + (if (0) < v2 then v2 else (0)))), (5, .int v2), (2, .ref (ad (fi + 3))), (3, .int x3)]) hx hb dX2_sumAboveZero_31 hl (k := 4) rfl rfl (by decide) rfl (fun ls hl => ?_)
        refine lv_goto (tgt := 10) hx hb dX2_sumAboveZero_34 (by decide) ?_
        exact ih _ _ _ _ _ _ _ _ h hg (lv_sub hl [1, 3, 4, 0] rfl) kk0
  unfold f_X2_sumAboveZero at h
  have W0 : ∀ (H : Heap) (locs : List Loc), gS D (wc ad cz) A s.heap σ H locs → W p l e rm_X2_sumAboveZero s m args below meth c H locs 0 0 Q (F0 m 0 ls []) := by
    intro H locs hg
    refine lv_iconst (v := (0)) hx hb dX2_sumAboveZero_0 (by decide) ?_
    refine lv_istore_n (lv' := [(1, .int (0)), (0, .ref (ad (fi + 3)))]) hx hb dX2_sumAboveZero_1 rfl hl (by decide) rfl (fun ls hl => ?_)
    refine lv_aload_n hx hb dX2_sumAboveZero_2 rfl (lv_at hl 1 rfl) ?_
    refine lv_astore_n (lv' := [(2, .ref (ad (fi + 3))), (1, .int (0)), (0, .ref (ad (fi + 3)))]) hx hb dX2_sumAboveZero_3 rfl hl (by decide) rfl (fun ls hl => ?_)
    refine lv_aload_n hx hb dX2_sumAboveZero_4 rfl (lv_at hl 0 rfl) ?_
    refine va_alen (v := (8)) hx hb hK.1 hg.1 (fi + 3) (fi) (wc_af hfi ad cz _) (ty := .int) (wc_tf hfi cz) rfl dX2_sumAboveZero_5 ?_
    refine lv_istore_n (lv' := [(3, .int (8)), (2, .ref (ad (fi + 3))), (1, .int (0)), (0, .ref (ad (fi + 3)))]) hx hb dX2_sumAboveZero_6 rfl hl (by decide) rfl (fun ls hl => ?_)
    refine lv_iconst (v := (0)) hx hb dX2_sumAboveZero_7 (by decide) ?_
    refine lv_istore (lv' := [(4, .int (0)), (3, .int (8)), (2, .ref (ad (fi + 3))), (1, .int (0)), (0, .ref (ad (fi + 3)))]) hx hb dX2_sumAboveZero_8 hl (by decide) rfl (fun ls hl => ?_)
    obtain ⟨w5, hB6, h⟩ := fl_bnd h
    refine L10 fl_N _ _ _ _ _ H locs ls hB6 hg (lv_sub hl [3, 2, 1, 0] rfl) (fun H locs ls hg hl => ?_)
    refine lv_iload_n hx hb dX2_sumAboveZero_37 rfl (lv_at hl 0 rfl) ?_
    exact hret _ _ _ _ _ _ (congrArg (Option.map (fun q => (q, σ))) h) hg rfl dX2_sumAboveZero_38
  exact W0 _ _ hg
def f_X0_totalSupply (σ : fl_St) : Option (Int32) := (f_X2_sumAboveZero 4 σ).bind fun r2 => some r2
def rm_X0_totalSupply : Room := { frames := 2, cells := 0, slots := 0, locals := 46 }
set_option maxHeartbeats 4000000 in
set_option maxRecDepth 100000 in
theorem c_X0_totalSupply (l : Launch) (D : va_G) (ad : Nat → Nat) (cz : Nat → ClassId) (σ : fl_St) {r : Int32} (h : f_X0_totalSupply σ = some r) : gMi l yX0_totalSupply wsX0_totalSupply rm_X0_totalSupply D (wc ad cz) (wcT cz) wcN [.ref (ad 1)] σ r σ := by
  refine gMi_of (cc := cX0_totalSupply) (maxL := 1) (by decide) rfl (Nat.le_of_ble_eq_true rfl) ?_
  intro p e s m args below meth c A Q ls hx hb hml hown hts hK hA hg hl hret
  have hown : s.vm.findClass RX0 = some m.cls := hown
  have hl : lv_has ls 1 [(0, .ref (ad 1))] := hl
  have k_0 := hts (.fieldLink RX0 24 "FlowLedger$Network" "supply" "[I") (by decide +kernel)
  have k_1 := (by decide +kernel : ∀ w ∈ wsX00, w ∈ wsX0_totalSupply)
  have k_2 := hts (.initialized RX2) (by decide +kernel)
  have k_3 := hts (.static yX2_sumAboveZero) (by decide +kernel)
  unfold f_X0_totalSupply at h
  have W0 : ∀ (H : Heap) (locs : List Loc), gS D (wc ad cz) A s.heap σ H locs → W p l e rm_X0_totalSupply s m args below meth c H locs 0 0 Q (F0 m 0 ls []) := by
    intro H locs hg
    refine lv_aload_n hx hb dX0_totalSupply_0 rfl (lv_at hl 0 rfl) ?_
    refine va_get (D := D) (ci := 0) (v := .ref (ad 7)) (C := RX0) (T := TX0) (N := 6) hx hb hts k_1 hown hK.1 hg.1 1 rfl rfl 4 (by decide) k_0 (fun _ h9 => h9) rfl dX0_totalSupply_1 ?_
    obtain ⟨r2, e1, h⟩ := fl_bnd h
    refine g_callNi (As := [.ref (ad 7)]) (rest := []) (host := RX2) ⟨hx, hb, hml, hown, hts⟩ (c_X2_sumAboveZero l D ad cz (Or.inl rfl) (σ) e1) ⟨va_cnB 1 hts gX0_totalSupply_X2_sumAboveZero_n27 rfl rfl rfl (hK.2 (RX0, 27, yX2_sumAboveZero, RX2) (by simp [wcN])) k_2 (by decide +kernel) ⟨Nat.le_of_ble_eq_true rfl, Nat.le_of_ble_eq_true rfl⟩, k_3, trivial⟩ hK hA hg rfl hl.1 rfl (Nat.le_of_ble_eq_true rfl) dX0_totalSupply_4 ⟨Nat.le_of_ble_eq_true rfl, Nat.le_of_ble_eq_true rfl⟩ (fun H locs hg => ?_)
    exact hret _ _ _ _ _ _ (congrArg (Option.map (fun q => (q, σ))) h) hg rfl dX0_totalSupply_7
  exact W0 _ _ hg
def f_X2_isNode (x0 : Int32) (σ : fl_St) : Option (Int32) := (if x0 < 0 then (some ((0))) else (if (8) ≤ x0 then (some ((0))) else (some ((1))))).bind fun (t2 : Int32) => if ¬ (t2 = 0 ∨ t2 = 1) then none else some t2
def rm_X2_isNode : Room := { frames := 0, cells := 0, slots := 0, locals := 0 }
set_option maxHeartbeats 4000000 in
set_option maxRecDepth 100000 in
theorem c_X2_isNode (l : Launch) (D : va_G) (ad : Nat → Nat) (cz : Nat → ClassId) (x0 : Int32) (σ : fl_St) {r : Int32} (h : f_X2_isNode x0 σ = some r) : gMi l yX2_isNode wsX2_isNode rm_X2_isNode D (wc ad cz) (wcT cz) wcN [.int x0] σ r σ := by
  refine gMi_of (cc := cX2_isNode) (maxL := 1) (by decide) rfl (Nat.le_of_ble_eq_true rfl) ?_
  intro p e s m args below meth c A Q ls hx hb hml hown hts hK hA hg hl hret
  have hown : s.vm.findClass RX2 = some m.cls := hown
  have hl : lv_has ls 1 [(0, .int x0)] := hl
  unfold f_X2_isNode at h
  have W0 : ∀ (H : Heap) (locs : List Loc), gS D (wc ad cz) A s.heap σ H locs → W p l e rm_X2_isNode s m args below meth c H locs 0 0 Q (F0 m 0 ls []) := by
    intro H locs hg
    refine lv_iload_n hx hb dX2_isNode_0 rfl (lv_at hl 0 rfl) ?_
    obtain ⟨t2, hB4, h⟩ := fl_bnd h
    have J3 : ∀ (H : Heap) (locs : List Loc) (ls : Array Slot), gS D (wc ad cz) A s.heap σ H locs → lv_has ls 1 [] → W p l e rm_X2_isNode s m args below meth c H locs 0 0 Q (F0 m 15 ls [.int t2]) := by
      intro H locs ls hg hl
      obtain ⟨z5, h⟩ := fl_bool h
      exact hret _ _ _ _ _ _ (congrArg (Option.map (fun q => (q, σ))) h) hg (fl_nar2 z5) dX2_isNode_15
    clear h
    have h := hB4
    refine lv_if_lt (tgt := 14) hx hb dX2_isNode_1 (by decide) (fun c1 => ?_) (fun c1 => ?_)
    · have h := fl_ifp c1 h
      refine lv_iconst (v := (0)) hx hb dX2_isNode_14 (by decide) ?_
      obtain rfl := fl_s1 h
      exact J3 H locs ls hg (lv_sub hl [] rfl)
    · have h := fl_ifn c1 h
      refine lv_iload_n hx hb dX2_isNode_4 rfl (lv_at hl 0 rfl) ?_
      refine lv_bipush (v := (8)) hx hb dX2_isNode_5 (by decide) ?_
      refine lv_icmp_ge (tgt := 14) hx hb dX2_isNode_7 (by decide) (fun c6 => ?_) (fun c6 => ?_)
      · have h := fl_ifp c6 h
        refine lv_iconst (v := (0)) hx hb dX2_isNode_14 (by decide) ?_
        obtain rfl := fl_s1 h
        exact J3 H locs ls hg (lv_sub hl [] rfl)
      · have h := fl_ifn c6 h
        refine lv_iconst (v := (1)) hx hb dX2_isNode_10 (by decide) ?_
        refine lv_goto (tgt := 15) hx hb dX2_isNode_11 (by decide) ?_
        obtain rfl := fl_s1 h
        exact J3 H locs ls hg (lv_sub hl [] rfl)
  exact W0 _ _ hg
def f_X2_isArcData (x0 : Int32) (x1 : Int32) (σ : fl_St) : Option (Int32) := (if x0 < (-1) then (some ((0))) else (if (30) < x0 then (some ((0))) else (if x1 < (-20) then (some ((0))) else (if (20) < x1 then (some ((0))) else (some ((1))))))).bind fun (t2 : Int32) => if ¬ (t2 = 0 ∨ t2 = 1) then none else some t2
def rm_X2_isArcData : Room := { frames := 0, cells := 0, slots := 0, locals := 0 }
set_option maxHeartbeats 4000000 in
set_option maxRecDepth 100000 in
theorem c_X2_isArcData (l : Launch) (D : va_G) (ad : Nat → Nat) (cz : Nat → ClassId) (x0 : Int32) (x1 : Int32) (σ : fl_St) {r : Int32} (h : f_X2_isArcData x0 x1 σ = some r) : gMi l yX2_isArcData wsX2_isArcData rm_X2_isArcData D (wc ad cz) (wcT cz) wcN [.int x0, .int x1] σ r σ := by
  refine gMi_of (cc := cX2_isArcData) (maxL := 2) (by decide) rfl (Nat.le_of_ble_eq_true rfl) ?_
  intro p e s m args below meth c A Q ls hx hb hml hown hts hK hA hg hl hret
  have hown : s.vm.findClass RX2 = some m.cls := hown
  have hl : lv_has ls 2 [(0, .int x0), (1, .int x1)] := hl
  unfold f_X2_isArcData at h
  have W0 : ∀ (H : Heap) (locs : List Loc), gS D (wc ad cz) A s.heap σ H locs → W p l e rm_X2_isArcData s m args below meth c H locs 0 0 Q (F0 m 0 ls []) := by
    intro H locs hg
    refine lv_iload_n hx hb dX2_isArcData_0 rfl (lv_at hl 0 rfl) ?_
    refine lv_iconst (v := (-1)) hx hb dX2_isArcData_1 (by decide) ?_
    obtain ⟨t2, hB4, h⟩ := fl_bnd h
    have J3 : ∀ (H : Heap) (locs : List Loc) (ls : Array Slot), gS D (wc ad cz) A s.heap σ H locs → lv_has ls 2 [] → W p l e rm_X2_isArcData s m args below meth c H locs 0 0 Q (F0 m 28 ls [.int t2]) := by
      intro H locs ls hg hl
      obtain ⟨z5, h⟩ := fl_bool h
      exact hret _ _ _ _ _ _ (congrArg (Option.map (fun q => (q, σ))) h) hg (fl_nar2 z5) dX2_isArcData_28
    clear h
    have h := hB4
    refine lv_icmp_lt (tgt := 27) hx hb dX2_isArcData_2 (by decide) (fun c1 => ?_) (fun c1 => ?_)
    · have h := fl_ifp c1 h
      refine lv_iconst (v := (0)) hx hb dX2_isArcData_27 (by decide) ?_
      obtain rfl := fl_s1 h
      exact J3 H locs ls hg (lv_sub hl [] rfl)
    · have h := fl_ifn c1 h
      refine lv_iload_n hx hb dX2_isArcData_5 rfl (lv_at hl 0 rfl) ?_
      refine lv_bipush (v := (30)) hx hb dX2_isArcData_6 (by decide) ?_
      refine lv_icmp_gt (tgt := 27) hx hb dX2_isArcData_8 (by decide) (fun c6 => ?_) (fun c6 => ?_)
      · have h := fl_ifp c6 h
        refine lv_iconst (v := (0)) hx hb dX2_isArcData_27 (by decide) ?_
        obtain rfl := fl_s1 h
        exact J3 H locs ls hg (lv_sub hl [] rfl)
      · have h := fl_ifn c6 h
        refine lv_iload_n hx hb dX2_isArcData_11 rfl (lv_at hl 1 rfl) ?_
        refine lv_bipush (v := (-20)) hx hb dX2_isArcData_12 (by decide) ?_
        refine lv_icmp_lt (tgt := 27) hx hb dX2_isArcData_14 (by decide) (fun c7 => ?_) (fun c7 => ?_)
        · have h := fl_ifp c7 h
          refine lv_iconst (v := (0)) hx hb dX2_isArcData_27 (by decide) ?_
          obtain rfl := fl_s1 h
          exact J3 H locs ls hg (lv_sub hl [] rfl)
        · have h := fl_ifn c7 h
          refine lv_iload_n hx hb dX2_isArcData_17 rfl (lv_at hl 1 rfl) ?_
          refine lv_bipush (v := (20)) hx hb dX2_isArcData_18 (by decide) ?_
          refine lv_icmp_gt (tgt := 27) hx hb dX2_isArcData_20 (by decide) (fun c8 => ?_) (fun c8 => ?_)
          · have h := fl_ifp c8 h
            refine lv_iconst (v := (0)) hx hb dX2_isArcData_27 (by decide) ?_
            obtain rfl := fl_s1 h
            exact J3 H locs ls hg (lv_sub hl [] rfl)
          · have h := fl_ifn c8 h
            refine lv_iconst (v := (1)) hx hb dX2_isArcData_23 (by decide) ?_
            refine lv_goto (tgt := 28) hx hb dX2_isArcData_24 (by decide) ?_
            obtain rfl := fl_s1 h
            exact J3 H locs ls hg (lv_sub hl [] rfl)
  exact W0 _ _ hg
def f_X2_isArc (x1 : Int32) (σ : fl_St) : Option (Int32) := (if x1 < 0 then (some ((0))) else (if (σ 12 0) ≤ x1 then (some ((0))) else (some ((1))))).bind fun (t2 : Int32) => if ¬ (t2 = 0 ∨ t2 = 1) then none else some t2
def rm_X2_isArc : Room := { frames := 0, cells := 0, slots := 0, locals := 0 }
set_option maxHeartbeats 4000000 in
set_option maxRecDepth 100000 in
theorem c_X2_isArc (l : Launch) (D : va_G) (ad : Nat → Nat) (cz : Nat → ClassId) (x1 : Int32) (σ : fl_St) {r : Int32} (h : f_X2_isArc x1 σ = some r) : gMi l yX2_isArc wsX2_isArc rm_X2_isArc D (wc ad cz) (wcT cz) wcN [.ref (ad 0), .int x1] σ r σ := by
  refine gMi_of (cc := cX2_isArc) (maxL := 2) (by decide) rfl (Nat.le_of_ble_eq_true rfl) ?_
  intro p e s m args below meth c A Q ls hx hb hml hown hts hK hA hg hl hret
  have hown : s.vm.findClass RX2 = some m.cls := hown
  have hl : lv_has ls 2 [(0, .ref (ad 0)), (1, .int x1)] := hl
  have k_0 := hts (.fieldLink RX2 12 "FlowLedger" "network" "LFlowLedger$Network;") (by decide +kernel)
  have k_1 := (by decide +kernel : ∀ w ∈ wsX20, w ∈ wsX2_isArc)
  have k_2 := hts (.fieldLink RX2 34 "FlowLedger$Network" "count" "I") (by decide +kernel)
  have k_3 := (by decide +kernel : ∀ w ∈ wsX00, w ∈ wsX2_isArc)
  unfold f_X2_isArc at h
  have W0 : ∀ (H : Heap) (locs : List Loc), gS D (wc ad cz) A s.heap σ H locs → W p l e rm_X2_isArc s m args below meth c H locs 0 0 Q (F0 m 0 ls []) := by
    intro H locs hg
    refine lv_iload_n hx hb dX2_isArc_0 rfl (lv_at hl 1 rfl) ?_
    obtain ⟨t2, hB4, h⟩ := fl_bnd h
    have J3 : ∀ (H : Heap) (locs : List Loc) (ls : Array Slot), gS D (wc ad cz) A s.heap σ H locs → lv_has ls 2 [] → W p l e rm_X2_isArc s m args below meth c H locs 0 0 Q (F0 m 20 ls [.int t2]) := by
      intro H locs ls hg hl
      obtain ⟨z5, h⟩ := fl_bool h
      exact hret _ _ _ _ _ _ (congrArg (Option.map (fun q => (q, σ))) h) hg (fl_nar2 z5) dX2_isArc_20
    clear h
    have h := hB4
    refine lv_if_lt (tgt := 19) hx hb dX2_isArc_1 (by decide) (fun c1 => ?_) (fun c1 => ?_)
    · have h := fl_ifp c1 h
      refine lv_iconst (v := (0)) hx hb dX2_isArc_19 (by decide) ?_
      obtain rfl := fl_s1 h
      exact J3 H locs ls hg (lv_sub hl [] rfl)
    · have h := fl_ifn c1 h
      refine lv_iload_n hx hb dX2_isArc_4 rfl (lv_at hl 1 rfl) ?_
      refine lv_aload_n hx hb dX2_isArc_5 rfl (lv_at hl 0 rfl) ?_
      refine va_get (D := D) (ci := 2) (v := .ref (ad 1)) (C := RX2) (T := TX2) (N := 2) hx hb hts k_1 hown hK.1 hg.1 0 rfl rfl 0 (by decide) k_0 (fun _ h9 => h9) rfl dX2_isArc_6 ?_
      refine va_get (D := D) (ci := 0) (v := .int (σ 12 0)) (C := RX0) (T := TX0) (N := 6) hx hb hts k_3 hown hK.1 hg.1 1 rfl rfl 5 (by decide) k_2 (fun _ h9 => h9) rfl dX2_isArc_9 ?_
      refine lv_icmp_ge (tgt := 19) hx hb dX2_isArc_12 (by decide) (fun c6 => ?_) (fun c6 => ?_)
      · have h := fl_ifp c6 h
        refine lv_iconst (v := (0)) hx hb dX2_isArc_19 (by decide) ?_
        obtain rfl := fl_s1 h
        exact J3 H locs ls hg (lv_sub hl [] rfl)
      · have h := fl_ifn c6 h
        refine lv_iconst (v := (1)) hx hb dX2_isArc_15 (by decide) ?_
        refine lv_goto (tgt := 20) hx hb dX2_isArc_16 (by decide) ?_
        obtain rfl := fl_s1 h
        exact J3 H locs ls hg (lv_sub hl [] rfl)
  exact W0 _ _ hg
def f_X2_add (x1 : Int32) (x2 : Int32) (x3 : Int32) (x4 : Int32) (σ : fl_St) : Option (Int32 × fl_St) := (f_X2_isNode x1 σ).bind fun r2 => if r2 = 0 then (some ((-1000000), σ)) else ((f_X2_isNode x2 σ).bind fun r5 => if r5 = 0 then (some ((-1000000), σ)) else (if x1 = x2 then (some ((-1000000), σ)) else ((f_X2_isArcData x3 x4 σ).bind fun r9 => if r9 = 0 then (some ((-1000000), σ)) else (if (σ 12 0) < (20) then ((fl_wr σ 0 20 (σ 12 0) x1).bind fun σ12 => (fl_wr σ12 1 20 (σ 12 0) x2).bind fun σ15 => (fl_wr σ15 2 20 (σ 12 0) x3).bind fun σ18 => (fl_wr σ18 3 20 (σ 12 0) x4).bind fun σ21 => (some (st σ21 12 0 ((σ21 12 0) + (1)))).bind fun σ24 => some ((σ 12 0), σ24)) else (some ((-1000001), σ))))))
def rm_X2_add : Room := { frames := 1, cells := 0, slots := 0, locals := 21 }
set_option maxHeartbeats 4000000 in
set_option maxRecDepth 100000 in
theorem c_X2_add (l : Launch) (D : va_G) (ad : Nat → Nat) (cz : Nat → ClassId) (x1 : Int32) (x2 : Int32) (x3 : Int32) (x4 : Int32) (σ : fl_St) {r : Int32} {σ' : fl_St} (h : f_X2_add x1 x2 x3 x4 σ = some (r, σ')) : gMi l yX2_add wsX2_add rm_X2_add D (wc ad cz) (wcT cz) wcN [.ref (ad 0), .int x1, .int x2, .int x3, .int x4] σ r σ' := by
  refine gMi_of (cc := cX2_add) (maxL := 6) (by decide) rfl (Nat.le_of_ble_eq_true rfl) ?_
  intro p e s m args below meth c A Q ls hx hb hml hown hts hK hA hg hl hret
  have hown : s.vm.findClass RX2 = some m.cls := hown
  have hl : lv_has ls 6 [(0, .ref (ad 0)), (1, .int x1), (2, .int x2), (3, .int x3), (4, .int x4)] := hl
  have k_0 := hts (.constant RX2 33 (-1000000)) (by decide +kernel)
  have k_1 := hts (.fieldLink RX2 12 "FlowLedger" "network" "LFlowLedger$Network;") (by decide +kernel)
  have k_2 := (by decide +kernel : ∀ w ∈ wsX20, w ∈ wsX2_add)
  have k_3 := hts (.fieldLink RX2 34 "FlowLedger$Network" "count" "I") (by decide +kernel)
  have k_4 := (by decide +kernel : ∀ w ∈ wsX00, w ∈ wsX2_add)
  have k_5 := hts (.fieldLink RX2 39 "FlowLedger$Network" "from" "[I") (by decide +kernel)
  have k_6 := hts (.fieldLink RX2 43 "FlowLedger$Network" "to" "[I") (by decide +kernel)
  have k_7 := hts (.fieldLink RX2 46 "FlowLedger$Network" "capacity" "[I") (by decide +kernel)
  have k_8 := hts (.fieldLink RX2 49 "FlowLedger$Network" "cost" "[I") (by decide +kernel)
  have k_9 := hts (.constant RX2 38 (-1000001)) (by decide +kernel)
  unfold f_X2_add at h
  have W0 : ∀ (H : Heap) (locs : List Loc), gS D (wc ad cz) A s.heap σ H locs → W p l e rm_X2_add s m args below meth c H locs 0 0 Q (F0 m 0 ls []) := by
    intro H locs hg
    refine lv_iload_n hx hb dX2_add_0 rfl (lv_at hl 1 rfl) ?_
    obtain ⟨r2, e1, h⟩ := fl_bnd h
    refine g_callSi (As := [.int x1]) (rest := []) ⟨hx, hb, hml, hown, hts⟩ (c_X2_isNode l D ad cz (x1) (σ) e1) (cwS 1 hts gX2_add_X2_isNode rfl rfl rfl (by decide +kernel) ⟨Nat.le_of_ble_eq_true rfl, Nat.le_of_ble_eq_true rfl⟩) hK hA hg rfl hl.1 rfl (Nat.le_of_ble_eq_true rfl) dX2_add_1 ⟨Nat.le_of_ble_eq_true rfl, Nat.le_of_ble_eq_true rfl⟩ (fun H locs hg => ?_)
    refine lv_if_eq (tgt := 28) hx hb dX2_add_4 (by decide) (fun c3 => ?_) (fun c3 => ?_)
    · have h := fl_ifp c3 h
      refine lv_ldc hx hb hown k_0 dX2_add_28 ?_
      exact hret _ _ _ _ _ _ h hg rfl dX2_add_30
    · have h := fl_ifn c3 h
      refine lv_iload_n hx hb dX2_add_7 rfl (lv_at hl 2 rfl) ?_
      obtain ⟨r5, e4, h⟩ := fl_bnd h
      refine g_callSi (As := [.int x2]) (rest := []) ⟨hx, hb, hml, hown, hts⟩ (c_X2_isNode l D ad cz (x2) (σ) e4) (cwS 1 hts gX2_add_X2_isNode rfl rfl rfl (by decide +kernel) ⟨Nat.le_of_ble_eq_true rfl, Nat.le_of_ble_eq_true rfl⟩) hK hA hg rfl hl.1 rfl (Nat.le_of_ble_eq_true rfl) dX2_add_8 ⟨Nat.le_of_ble_eq_true rfl, Nat.le_of_ble_eq_true rfl⟩ (fun H locs hg => ?_)
      refine lv_if_eq (tgt := 28) hx hb dX2_add_11 (by decide) (fun c6 => ?_) (fun c6 => ?_)
      · have h := fl_ifp c6 h
        refine lv_ldc hx hb hown k_0 dX2_add_28 ?_
        exact hret _ _ _ _ _ _ h hg rfl dX2_add_30
      · have h := fl_ifn c6 h
        refine lv_iload_n hx hb dX2_add_14 rfl (lv_at hl 1 rfl) ?_
        refine lv_iload_n hx hb dX2_add_15 rfl (lv_at hl 2 rfl) ?_
        refine lv_icmp_eq (tgt := 28) hx hb dX2_add_16 (by decide) (fun c7 => ?_) (fun c7 => ?_)
        · have h := fl_ifp c7 h
          refine lv_ldc hx hb hown k_0 dX2_add_28 ?_
          exact hret _ _ _ _ _ _ h hg rfl dX2_add_30
        · have h := fl_ifn c7 h
          refine lv_iload_n hx hb dX2_add_19 rfl (lv_at hl 3 rfl) ?_
          refine lv_iload hx hb dX2_add_20 (lv_at hl 4 rfl) ?_
          obtain ⟨r9, e8, h⟩ := fl_bnd h
          refine g_callSi (As := [.int x3, .int x4]) (rest := []) ⟨hx, hb, hml, hown, hts⟩ (c_X2_isArcData l D ad cz (x3) (x4) (σ) e8) (cwS 2 hts gX2_add_X2_isArcData rfl rfl rfl (by decide +kernel) ⟨Nat.le_of_ble_eq_true rfl, Nat.le_of_ble_eq_true rfl⟩) hK hA hg rfl hl.1 rfl (Nat.le_of_ble_eq_true rfl) dX2_add_22 ⟨Nat.le_of_ble_eq_true rfl, Nat.le_of_ble_eq_true rfl⟩ (fun H locs hg => ?_)
          refine lv_if_ne (tgt := 31) hx hb dX2_add_25 (by decide) (fun c10 => ?_) (fun c10 => ?_)
          · have h := fl_ifn c10 h
            refine lv_aload_n hx hb dX2_add_31 rfl (lv_at hl 0 rfl) ?_
            refine va_get (D := D) (ci := 2) (v := .ref (ad 1)) (C := RX2) (T := TX2) (N := 2) hx hb hts k_2 hown hK.1 hg.1 0 rfl rfl 0 (by decide) k_1 (fun _ h9 => h9) rfl dX2_add_32 ?_
            refine va_get (D := D) (ci := 0) (v := .int (σ 12 0)) (C := RX0) (T := TX0) (N := 6) hx hb hts k_4 hown hK.1 hg.1 1 rfl rfl 5 (by decide) k_3 (fun _ h9 => h9) rfl dX2_add_35 ?_
            refine lv_bipush (v := (20)) hx hb dX2_add_38 (by decide) ?_
            refine lv_icmp_lt (tgt := 46) hx hb dX2_add_40 (by decide) (fun c11 => ?_) (fun c11 => ?_)
            · have h := fl_ifp c11 h
              refine lv_aload_n hx hb dX2_add_46 rfl (lv_at hl 0 rfl) ?_
              refine va_get (D := D) (ci := 2) (v := .ref (ad 1)) (C := RX2) (T := TX2) (N := 2) hx hb hts k_2 hown hK.1 hg.1 0 rfl rfl 0 (by decide) k_1 (fun _ h9 => h9) rfl dX2_add_47 ?_
              refine va_get (D := D) (ci := 0) (v := .int (σ 12 0)) (C := RX0) (T := TX0) (N := 6) hx hb hts k_4 hown hK.1 hg.1 1 rfl rfl 5 (by decide) k_3 (fun _ h9 => h9) rfl dX2_add_50 ?_
              refine lv_istore (lv' := [(5, .int (σ 12 0)), (0, .ref (ad 0)), (1, .int x1), (2, .int x2), (3, .int x3), (4, .int x4)]) hx hb dX2_add_53 hl (by decide) rfl (fun ls hl => ?_)
              refine lv_aload_n hx hb dX2_add_55 rfl (lv_at hl 1 rfl) ?_
              refine va_get (D := D) (ci := 2) (v := .ref (ad 1)) (C := RX2) (T := TX2) (N := 2) hx hb hts k_2 hown hK.1 hg.1 0 rfl rfl 0 (by decide) k_1 (fun _ h9 => h9) rfl dX2_add_56 ?_
              refine va_get (D := D) (ci := 0) (v := .ref (ad 3)) (C := RX0) (T := TX0) (N := 6) hx hb hts k_4 hown hK.1 hg.1 1 rfl rfl 0 (by decide) k_5 (fun _ h9 => h9) rfl dX2_add_59 ?_
              refine lv_iload hx hb dX2_add_62 (lv_at hl 0 rfl) ?_
              refine lv_iload_n hx hb dX2_add_64 rfl (lv_at hl 2 rfl) ?_
              obtain ⟨σ12, i13, e14, h⟩ := fl_wr_b h
              refine g_st (n := 20) (t0 := 0) hx hb hK hg (wc_a0 ad cz _) (wc_s0 ad cz _) rfl i13 e14 dX2_add_65 (fun H locs hg => ?_)
              refine lv_aload_n hx hb dX2_add_66 rfl (lv_at hl 1 rfl) ?_
              refine va_get (D := D) (ci := 2) (v := .ref (ad 1)) (C := RX2) (T := TX2) (N := 2) hx hb hts k_2 hown hK.1 hg.1 0 rfl rfl 0 (by decide) k_1 (fun _ h9 => h9) rfl dX2_add_67 ?_
              refine va_get (D := D) (ci := 0) (v := .ref (ad 4)) (C := RX0) (T := TX0) (N := 6) hx hb hts k_4 hown hK.1 hg.1 1 rfl rfl 1 (by decide) k_6 (fun _ h9 => h9) rfl dX2_add_70 ?_
              refine lv_iload hx hb dX2_add_73 (lv_at hl 0 rfl) ?_
              refine lv_iload_n hx hb dX2_add_75 rfl (lv_at hl 3 rfl) ?_
              obtain ⟨σ15, i16, e17, h⟩ := fl_wr_b h
              refine g_st (n := 20) (t0 := 1) hx hb hK hg (wc_a1 ad cz _) (wc_s1 ad cz _) rfl i16 e17 dX2_add_76 (fun H locs hg => ?_)
              refine lv_aload_n hx hb dX2_add_77 rfl (lv_at hl 1 rfl) ?_
              refine va_get (D := D) (ci := 2) (v := .ref (ad 1)) (C := RX2) (T := TX2) (N := 2) hx hb hts k_2 hown hK.1 hg.1 0 rfl rfl 0 (by decide) k_1 (fun _ h9 => h9) rfl dX2_add_78 ?_
              refine va_get (D := D) (ci := 0) (v := .ref (ad 5)) (C := RX0) (T := TX0) (N := 6) hx hb hts k_4 hown hK.1 hg.1 1 rfl rfl 2 (by decide) k_7 (fun _ h9 => h9) rfl dX2_add_81 ?_
              refine lv_iload hx hb dX2_add_84 (lv_at hl 0 rfl) ?_
              refine lv_iload_n hx hb dX2_add_86 rfl (lv_at hl 4 rfl) ?_
              obtain ⟨σ18, i19, e20, h⟩ := fl_wr_b h
              refine g_st (n := 20) (t0 := 2) hx hb hK hg (wc_a2 ad cz _) (wc_s2 ad cz _) rfl i19 e20 dX2_add_87 (fun H locs hg => ?_)
              refine lv_aload_n hx hb dX2_add_88 rfl (lv_at hl 1 rfl) ?_
              refine va_get (D := D) (ci := 2) (v := .ref (ad 1)) (C := RX2) (T := TX2) (N := 2) hx hb hts k_2 hown hK.1 hg.1 0 rfl rfl 0 (by decide) k_1 (fun _ h9 => h9) rfl dX2_add_89 ?_
              refine va_get (D := D) (ci := 0) (v := .ref (ad 6)) (C := RX0) (T := TX0) (N := 6) hx hb hts k_4 hown hK.1 hg.1 1 rfl rfl 3 (by decide) k_8 (fun _ h9 => h9) rfl dX2_add_92 ?_
              refine lv_iload hx hb dX2_add_95 (lv_at hl 0 rfl) ?_
              refine lv_iload hx hb dX2_add_97 (lv_at hl 5 rfl) ?_
              obtain ⟨σ21, i22, e23, h⟩ := fl_wr_b h
              refine g_st (n := 20) (t0 := 3) hx hb hK hg (wc_a3 ad cz _) (wc_s3 ad cz _) rfl i22 e23 dX2_add_99 (fun H locs hg => ?_)
              refine lv_aload_n hx hb dX2_add_100 rfl (lv_at hl 1 rfl) ?_
              refine va_get (D := D) (ci := 2) (v := .ref (ad 1)) (C := RX2) (T := TX2) (N := 2) hx hb hts k_2 hown hK.1 hg.1 0 rfl rfl 0 (by decide) k_1 (fun _ h9 => h9) rfl dX2_add_101 ?_
              refine lv_dup hx hb dX2_add_104 rfl ?_
              refine va_get (D := D) (ci := 0) (v := .int (σ21 12 0)) (C := RX0) (T := TX0) (N := 6) hx hb hts k_4 hown hK.1 hg.1 1 rfl rfl 5 (by decide) k_3 (fun _ h9 => h9) rfl dX2_add_105 ?_
              refine lv_iconst (v := (1)) hx hb dX2_add_108 (by decide) ?_
              refine lv_iadd hx hb dX2_add_109 ?_
              obtain ⟨σ24, e25, h⟩ := fl_bnd h
              have e25 := fl_s1 e25
              refine g_put (σ' := σ24) (ci := 0) (C := RX0) (T := TX0) (N := 6) (z := ((σ21 12 0) + (1))) hx hb hts k_4 tyX0 tyX0_ok nmX0 hown hK hg 1 rfl rfl 5 (by decide) k_3 (fun _ h9 => h9) rfl (by decide +kernel) (Nat.le_of_ble_eq_true rfl) (by rw [← e25]; exact wc_c ad cz _ _) dX2_add_110 (fun H locs hg => ?_)
              refine lv_iload hx hb dX2_add_113 (lv_at hl 0 rfl) ?_
              exact hret _ _ _ _ _ _ h hg rfl dX2_add_115
            · have h := fl_ifn c11 h
              refine lv_ldc hx hb hown k_9 dX2_add_43 ?_
              exact hret _ _ _ _ _ _ h hg rfl dX2_add_45
          · have h := fl_ifp c10 h
            refine lv_ldc hx hb hown k_0 dX2_add_28 ?_
            exact hret _ _ _ _ _ _ h hg rfl dX2_add_30
  exact W0 _ _ hg
def f_X2_change (x1 : Int32) (x2 : Int32) (x3 : Int32) (σ : fl_St) : Option (Int32 × fl_St) := (f_X2_isArc x1 σ).bind fun r2 => if r2 = 0 then (some ((0), σ)) else ((f_X2_isArcData x2 x3 σ).bind fun r5 => if r5 = 0 then (some ((0), σ)) else ((fl_wr σ 2 20 x1 x2).bind fun σ7 => (fl_wr σ7 3 20 x1 x3).bind fun σ10 => some ((1), σ10)))
def rm_X2_change : Room := { frames := 1, cells := 0, slots := 0, locals := 21 }
set_option maxHeartbeats 4000000 in
set_option maxRecDepth 100000 in
theorem c_X2_change (l : Launch) (D : va_G) (ad : Nat → Nat) (cz : Nat → ClassId) (x1 : Int32) (x2 : Int32) (x3 : Int32) (σ : fl_St) {r : Int32} {σ' : fl_St} (h : f_X2_change x1 x2 x3 σ = some (r, σ')) : gMi l yX2_change wsX2_change rm_X2_change D (wc ad cz) (wcT cz) wcN [.ref (ad 0), .int x1, .int x2, .int x3] σ r σ' := by
  refine gMi_of (cc := cX2_change) (maxL := 4) (by decide) rfl (Nat.le_of_ble_eq_true rfl) ?_
  intro p e s m args below meth c A Q ls hx hb hml hown hts hK hA hg hl hret
  have hown : s.vm.findClass RX2 = some m.cls := hown
  have hl : lv_has ls 4 [(0, .ref (ad 0)), (1, .int x1), (2, .int x2), (3, .int x3)] := hl
  have k_0 := hts (.fieldLink RX2 12 "FlowLedger" "network" "LFlowLedger$Network;") (by decide +kernel)
  have k_1 := (by decide +kernel : ∀ w ∈ wsX20, w ∈ wsX2_change)
  have k_2 := hts (.fieldLink RX2 46 "FlowLedger$Network" "capacity" "[I") (by decide +kernel)
  have k_3 := (by decide +kernel : ∀ w ∈ wsX00, w ∈ wsX2_change)
  have k_4 := hts (.fieldLink RX2 49 "FlowLedger$Network" "cost" "[I") (by decide +kernel)
  unfold f_X2_change at h
  have W0 : ∀ (H : Heap) (locs : List Loc), gS D (wc ad cz) A s.heap σ H locs → W p l e rm_X2_change s m args below meth c H locs 0 0 Q (F0 m 0 ls []) := by
    intro H locs hg
    refine lv_aload_n hx hb dX2_change_0 rfl (lv_at hl 0 rfl) ?_
    refine lv_iload_n hx hb dX2_change_1 rfl (lv_at hl 1 rfl) ?_
    obtain ⟨r2, e1, h⟩ := fl_bnd h
    refine g_callVi (As := [.int x1]) (rest := []) ⟨hx, hb, hml, hown, hts⟩ (c_X2_isArc l D ad cz (x1) (σ) e1) (cwV 1 hts gX2_change_X2_isArc rfl rfl rfl (by decide +kernel) ⟨Nat.le_of_ble_eq_true rfl, Nat.le_of_ble_eq_true rfl⟩) (va_recv hK.1 hg.1 (ci := 2) (q0 := 0) rfl rfl) hK hA hg rfl hl.1 rfl (Nat.le_of_ble_eq_true rfl) dX2_change_2 ⟨Nat.le_of_ble_eq_true rfl, Nat.le_of_ble_eq_true rfl⟩ (fun H locs hg => ?_)
    refine lv_if_eq (tgt := 16) hx hb dX2_change_5 (by decide) (fun c3 => ?_) (fun c3 => ?_)
    · have h := fl_ifp c3 h
      refine lv_iconst (v := (0)) hx hb dX2_change_16 (by decide) ?_
      exact hret _ _ _ _ _ _ h hg rfl dX2_change_17
    · have h := fl_ifn c3 h
      refine lv_iload_n hx hb dX2_change_8 rfl (lv_at hl 2 rfl) ?_
      refine lv_iload_n hx hb dX2_change_9 rfl (lv_at hl 3 rfl) ?_
      obtain ⟨r5, e4, h⟩ := fl_bnd h
      refine g_callSi (As := [.int x2, .int x3]) (rest := []) ⟨hx, hb, hml, hown, hts⟩ (c_X2_isArcData l D ad cz (x2) (x3) (σ) e4) (cwS 2 hts gX2_change_X2_isArcData rfl rfl rfl (by decide +kernel) ⟨Nat.le_of_ble_eq_true rfl, Nat.le_of_ble_eq_true rfl⟩) hK hA hg rfl hl.1 rfl (Nat.le_of_ble_eq_true rfl) dX2_change_10 ⟨Nat.le_of_ble_eq_true rfl, Nat.le_of_ble_eq_true rfl⟩ (fun H locs hg => ?_)
      refine lv_if_ne (tgt := 18) hx hb dX2_change_13 (by decide) (fun c6 => ?_) (fun c6 => ?_)
      · have h := fl_ifn c6 h
        refine lv_aload_n hx hb dX2_change_18 rfl (lv_at hl 0 rfl) ?_
        refine va_get (D := D) (ci := 2) (v := .ref (ad 1)) (C := RX2) (T := TX2) (N := 2) hx hb hts k_1 hown hK.1 hg.1 0 rfl rfl 0 (by decide) k_0 (fun _ h9 => h9) rfl dX2_change_19 ?_
        refine va_get (D := D) (ci := 0) (v := .ref (ad 5)) (C := RX0) (T := TX0) (N := 6) hx hb hts k_3 hown hK.1 hg.1 1 rfl rfl 2 (by decide) k_2 (fun _ h9 => h9) rfl dX2_change_22 ?_
        refine lv_iload_n hx hb dX2_change_25 rfl (lv_at hl 1 rfl) ?_
        refine lv_iload_n hx hb dX2_change_26 rfl (lv_at hl 2 rfl) ?_
        obtain ⟨σ7, i8, e9, h⟩ := fl_wr_b h
        refine g_st (n := 20) (t0 := 2) hx hb hK hg (wc_a2 ad cz _) (wc_s2 ad cz _) rfl i8 e9 dX2_change_27 (fun H locs hg => ?_)
        refine lv_aload_n hx hb dX2_change_28 rfl (lv_at hl 0 rfl) ?_
        refine va_get (D := D) (ci := 2) (v := .ref (ad 1)) (C := RX2) (T := TX2) (N := 2) hx hb hts k_1 hown hK.1 hg.1 0 rfl rfl 0 (by decide) k_0 (fun _ h9 => h9) rfl dX2_change_29 ?_
        refine va_get (D := D) (ci := 0) (v := .ref (ad 6)) (C := RX0) (T := TX0) (N := 6) hx hb hts k_3 hown hK.1 hg.1 1 rfl rfl 3 (by decide) k_4 (fun _ h9 => h9) rfl dX2_change_32 ?_
        refine lv_iload_n hx hb dX2_change_35 rfl (lv_at hl 1 rfl) ?_
        refine lv_iload_n hx hb dX2_change_36 rfl (lv_at hl 3 rfl) ?_
        obtain ⟨σ10, i11, e12, h⟩ := fl_wr_b h
        refine g_st (n := 20) (t0 := 3) hx hb hK hg (wc_a3 ad cz _) (wc_s3 ad cz _) rfl i11 e12 dX2_change_37 (fun H locs hg => ?_)
        refine lv_iconst (v := (1)) hx hb dX2_change_38 (by decide) ?_
        exact hret _ _ _ _ _ _ h hg rfl dX2_change_39
      · have h := fl_ifp c6 h
        refine lv_iconst (v := (0)) hx hb dX2_change_16 (by decide) ?_
        exact hret _ _ _ _ _ _ h hg rfl dX2_change_17
  exact W0 _ _ hg
def f_X2_supply (x1 : Int32) (x2 : Int32) (σ : fl_St) : Option (Int32 × fl_St) := (f_X2_isNode x1 σ).bind fun r2 => if r2 = 0 then (some ((0), σ)) else (if x2 < (-30) then (some ((0), σ)) else (if x2 ≤ (30) then ((fl_wr σ 4 8 x1 x2).bind fun σ6 => some ((1), σ6)) else (some ((0), σ))))
def rm_X2_supply : Room := { frames := 1, cells := 0, slots := 0, locals := 20 }
set_option maxHeartbeats 4000000 in
set_option maxRecDepth 100000 in
theorem c_X2_supply (l : Launch) (D : va_G) (ad : Nat → Nat) (cz : Nat → ClassId) (x1 : Int32) (x2 : Int32) (σ : fl_St) {r : Int32} {σ' : fl_St} (h : f_X2_supply x1 x2 σ = some (r, σ')) : gMi l yX2_supply wsX2_supply rm_X2_supply D (wc ad cz) (wcT cz) wcN [.ref (ad 0), .int x1, .int x2] σ r σ' := by
  refine gMi_of (cc := cX2_supply) (maxL := 3) (by decide) rfl (Nat.le_of_ble_eq_true rfl) ?_
  intro p e s m args below meth c A Q ls hx hb hml hown hts hK hA hg hl hret
  have hown : s.vm.findClass RX2 = some m.cls := hown
  have hl : lv_has ls 3 [(0, .ref (ad 0)), (1, .int x1), (2, .int x2)] := hl
  have k_0 := hts (.fieldLink RX2 12 "FlowLedger" "network" "LFlowLedger$Network;") (by decide +kernel)
  have k_1 := (by decide +kernel : ∀ w ∈ wsX20, w ∈ wsX2_supply)
  have k_2 := hts (.fieldLink RX2 55 "FlowLedger$Network" "supply" "[I") (by decide +kernel)
  have k_3 := (by decide +kernel : ∀ w ∈ wsX00, w ∈ wsX2_supply)
  unfold f_X2_supply at h
  have W0 : ∀ (H : Heap) (locs : List Loc), gS D (wc ad cz) A s.heap σ H locs → W p l e rm_X2_supply s m args below meth c H locs 0 0 Q (F0 m 0 ls []) := by
    intro H locs hg
    refine lv_iload_n hx hb dX2_supply_0 rfl (lv_at hl 1 rfl) ?_
    obtain ⟨r2, e1, h⟩ := fl_bnd h
    refine g_callSi (As := [.int x1]) (rest := []) ⟨hx, hb, hml, hown, hts⟩ (c_X2_isNode l D ad cz (x1) (σ) e1) (cwS 1 hts gX2_supply_X2_isNode rfl rfl rfl (by decide +kernel) ⟨Nat.le_of_ble_eq_true rfl, Nat.le_of_ble_eq_true rfl⟩) hK hA hg rfl hl.1 rfl (Nat.le_of_ble_eq_true rfl) dX2_supply_1 ⟨Nat.le_of_ble_eq_true rfl, Nat.le_of_ble_eq_true rfl⟩ (fun H locs hg => ?_)
    refine lv_if_eq (tgt := 19) hx hb dX2_supply_4 (by decide) (fun c3 => ?_) (fun c3 => ?_)
    · have h := fl_ifp c3 h
      refine lv_iconst (v := (0)) hx hb dX2_supply_19 (by decide) ?_
      exact hret _ _ _ _ _ _ h hg rfl dX2_supply_20
    · have h := fl_ifn c3 h
      refine lv_iload_n hx hb dX2_supply_7 rfl (lv_at hl 2 rfl) ?_
      refine lv_bipush (v := (-30)) hx hb dX2_supply_8 (by decide) ?_
      refine lv_icmp_lt (tgt := 19) hx hb dX2_supply_10 (by decide) (fun c4 => ?_) (fun c4 => ?_)
      · have h := fl_ifp c4 h
        refine lv_iconst (v := (0)) hx hb dX2_supply_19 (by decide) ?_
        exact hret _ _ _ _ _ _ h hg rfl dX2_supply_20
      · have h := fl_ifn c4 h
        refine lv_iload_n hx hb dX2_supply_13 rfl (lv_at hl 2 rfl) ?_
        refine lv_bipush (v := (30)) hx hb dX2_supply_14 (by decide) ?_
        refine lv_icmp_le (tgt := 21) hx hb dX2_supply_16 (by decide) (fun c5 => ?_) (fun c5 => ?_)
        · have h := fl_ifp c5 h
          refine lv_aload_n hx hb dX2_supply_21 rfl (lv_at hl 0 rfl) ?_
          refine va_get (D := D) (ci := 2) (v := .ref (ad 1)) (C := RX2) (T := TX2) (N := 2) hx hb hts k_1 hown hK.1 hg.1 0 rfl rfl 0 (by decide) k_0 (fun _ h9 => h9) rfl dX2_supply_22 ?_
          refine va_get (D := D) (ci := 0) (v := .ref (ad 7)) (C := RX0) (T := TX0) (N := 6) hx hb hts k_3 hown hK.1 hg.1 1 rfl rfl 4 (by decide) k_2 (fun _ h9 => h9) rfl dX2_supply_25 ?_
          refine lv_iload_n hx hb dX2_supply_28 rfl (lv_at hl 1 rfl) ?_
          refine lv_iload_n hx hb dX2_supply_29 rfl (lv_at hl 2 rfl) ?_
          obtain ⟨σ6, i7, e8, h⟩ := fl_wr_b h
          refine g_st (n := 8) (t0 := 4) hx hb hK hg (wc_a4 ad cz _) (wc_s4 ad cz _) rfl i7 e8 dX2_supply_30 (fun H locs hg => ?_)
          refine lv_iconst (v := (1)) hx hb dX2_supply_31 (by decide) ?_
          exact hret _ _ _ _ _ _ h hg rfl dX2_supply_32
        · have h := fl_ifn c5 h
          refine lv_iconst (v := (0)) hx hb dX2_supply_19 (by decide) ?_
          exact hret _ _ _ _ _ _ h hg rfl dX2_supply_20
  exact W0 _ _ hg
def f_X2_clear_l10 : Nat → Int32 → fl_St → Option (fl_St)
  | 0, _, _ => none
  | n + 1, x1, σ => if (8) ≤ x1 then (some (σ)) else ((fl_wr σ 4 8 x1 (0)).bind fun σ4 => f_X2_clear_l10 n (x1 + 1) σ4)
def f_X2_clear (σ : fl_St) : Option (fl_St) := (some (st σ 12 0 (0))).bind fun σ1 => (f_X2_clear_l10 fl_N (0) σ1).bind fun (σ7 : fl_St) => some σ7
def rm_X2_clear : Room := { frames := 0, cells := 0, slots := 0, locals := 0 }
set_option maxHeartbeats 4000000 in
set_option maxRecDepth 100000 in
theorem c_X2_clear (l : Launch) (D : va_G) (ad : Nat → Nat) (cz : Nat → ClassId) (σ : fl_St) {σ' : fl_St} (h : f_X2_clear σ = some σ') : gMv l yX2_clear wsX2_clear rm_X2_clear D (wc ad cz) (wcT cz) wcN [.ref (ad 0)] σ σ' := by
  refine gMv_of (cc := cX2_clear) (maxL := 2) (by decide) rfl (Nat.le_of_ble_eq_true rfl) ?_
  intro p e s m args below meth c A Q ls hx hb hml hown hts hK hA hg hl hret
  have hown : s.vm.findClass RX2 = some m.cls := hown
  have hl : lv_has ls 2 [(0, .ref (ad 0))] := hl
  have k_0 := hts (.fieldLink RX2 12 "FlowLedger" "network" "LFlowLedger$Network;") (by decide +kernel)
  have k_1 := (by decide +kernel : ∀ w ∈ wsX20, w ∈ wsX2_clear)
  have k_2 := hts (.fieldLink RX2 34 "FlowLedger$Network" "count" "I") (by decide +kernel)
  have k_3 := (by decide +kernel : ∀ w ∈ wsX00, w ∈ wsX2_clear)
  have k_4 := hts (.fieldLink RX2 55 "FlowLedger$Network" "supply" "[I") (by decide +kernel)
  have L10 : ∀ (n : Nat) (x1 : Int32) (σ : fl_St) (σo : fl_St) (H : Heap) (locs : List Loc) (ls : Array Slot), f_X2_clear_l10 n x1 σ = some (σo) → gS D (wc ad cz) A s.heap σ H locs → lv_has ls 2 [(0, .ref (ad 0)), (1, .int x1)] → (∀ (H : Heap) (locs : List Loc) (ls : Array Slot), gS D (wc ad cz) A s.heap σo H locs → lv_has ls 2 [] → W p l e rm_X2_clear s m args below meth c H locs 0 0 Q (F0 m 32 ls [])) → W p l e rm_X2_clear s m args below meth c H locs 0 0 Q (F0 m 10 ls []) := by
    intro n
    induction n with
    | zero =>
      intro x1 σ σo H locs ls h hg hl kk0
      rw [f_X2_clear_l10] at h
      cases h
    | succ n ih =>
      intro x1 σ σo H locs ls h hg hl kk0
      rw [f_X2_clear_l10] at h
      refine lv_iload_n hx hb dX2_clear_10 rfl (lv_at hl 1 rfl) ?_
      refine lv_bipush (v := (8)) hx hb dX2_clear_11 (by decide) ?_
      refine lv_icmp_ge (tgt := 32) hx hb dX2_clear_13 (by decide) (fun c3 => ?_) (fun c3 => ?_)
      · have h := fl_ifp c3 h
        obtain rfl := fl_s1 h
        exact kk0 H locs ls hg (lv_sub hl [] rfl)
      · have h := fl_ifn c3 h
        refine lv_aload_n hx hb dX2_clear_16 rfl (lv_at hl 0 rfl) ?_
        refine va_get (D := D) (ci := 2) (v := .ref (ad 1)) (C := RX2) (T := TX2) (N := 2) hx hb hts k_1 hown hK.1 hg.1 0 rfl rfl 0 (by decide) k_0 (fun _ h9 => h9) rfl dX2_clear_17 ?_
        refine va_get (D := D) (ci := 0) (v := .ref (ad 7)) (C := RX0) (T := TX0) (N := 6) hx hb hts k_3 hown hK.1 hg.1 1 rfl rfl 4 (by decide) k_4 (fun _ h9 => h9) rfl dX2_clear_20 ?_
        refine lv_iload_n hx hb dX2_clear_23 rfl (lv_at hl 1 rfl) ?_
        refine lv_iconst (v := (0)) hx hb dX2_clear_24 (by decide) ?_
        obtain ⟨σ4, i5, e6, h⟩ := fl_wr_b h
        refine g_st (n := 8) (t0 := 4) hx hb hK hg (wc_a4 ad cz _) (wc_s4 ad cz _) rfl i5 e6 dX2_clear_25 (fun H locs hg => ?_)
        refine lv_iinc (v := (x1 + 1)) (lv' := [(1, .int (x1 + 1)), (0, .ref (ad 0))]) hx hb dX2_clear_26 hl (k := 1) rfl rfl (by decide) rfl (fun ls hl => ?_)
        refine lv_goto (tgt := 10) hx hb dX2_clear_29 (by decide) ?_
        exact ih _ _ _ _ _ _ h hg (lv_sub hl [1, 0] rfl) kk0
  unfold f_X2_clear at h
  have W0 : ∀ (H : Heap) (locs : List Loc), gS D (wc ad cz) A s.heap σ H locs → W p l e rm_X2_clear s m args below meth c H locs 0 0 Q (F0 m 0 ls []) := by
    intro H locs hg
    refine lv_aload_n hx hb dX2_clear_0 rfl (lv_at hl 0 rfl) ?_
    refine va_get (D := D) (ci := 2) (v := .ref (ad 1)) (C := RX2) (T := TX2) (N := 2) hx hb hts k_1 hown hK.1 hg.1 0 rfl rfl 0 (by decide) k_0 (fun _ h9 => h9) rfl dX2_clear_1 ?_
    refine lv_iconst (v := (0)) hx hb dX2_clear_4 (by decide) ?_
    obtain ⟨σ1, e2, h⟩ := fl_bnd h
    have e2 := fl_s1 e2
    refine g_put (σ' := σ1) (ci := 0) (C := RX0) (T := TX0) (N := 6) (z := (0)) hx hb hts k_3 tyX0 tyX0_ok nmX0 hown hK hg 1 rfl rfl 5 (by decide) k_2 (fun _ h9 => h9) rfl (by decide +kernel) (Nat.le_of_ble_eq_true rfl) (by rw [← e2]; exact wc_c ad cz _ _) dX2_clear_5 (fun H locs hg => ?_)
    refine lv_iconst (v := (0)) hx hb dX2_clear_8 (by decide) ?_
    refine lv_istore_n (lv' := [(1, .int (0)), (0, .ref (ad 0))]) hx hb dX2_clear_9 rfl hl (by decide) rfl (fun ls hl => ?_)
    obtain ⟨σ7, hB8, h⟩ := fl_bnd h
    refine L10 fl_N _ _ _ H locs ls hB8 hg (lv_sub hl [1, 0] rfl) (fun H locs ls hg hl => ?_)
    exact hret _ _ _ _ _ h hg dX2_clear_32
  exact W0 _ _ hg
def f_X2_arcs (σ : fl_St) : Option (Int32) := some (σ 12 0)
def rm_X2_arcs : Room := { frames := 0, cells := 0, slots := 0, locals := 0 }
set_option maxHeartbeats 4000000 in
set_option maxRecDepth 100000 in
theorem c_X2_arcs (l : Launch) (D : va_G) (ad : Nat → Nat) (cz : Nat → ClassId) (σ : fl_St) {r : Int32} (h : f_X2_arcs σ = some r) : gMi l yX2_arcs wsX2_arcs rm_X2_arcs D (wc ad cz) (wcT cz) wcN [.ref (ad 0)] σ r σ := by
  refine gMi_of (cc := cX2_arcs) (maxL := 1) (by decide) rfl (Nat.le_of_ble_eq_true rfl) ?_
  intro p e s m args below meth c A Q ls hx hb hml hown hts hK hA hg hl hret
  have hown : s.vm.findClass RX2 = some m.cls := hown
  have hl : lv_has ls 1 [(0, .ref (ad 0))] := hl
  have k_0 := hts (.fieldLink RX2 12 "FlowLedger" "network" "LFlowLedger$Network;") (by decide +kernel)
  have k_1 := (by decide +kernel : ∀ w ∈ wsX20, w ∈ wsX2_arcs)
  have k_2 := hts (.fieldLink RX2 34 "FlowLedger$Network" "count" "I") (by decide +kernel)
  have k_3 := (by decide +kernel : ∀ w ∈ wsX00, w ∈ wsX2_arcs)
  unfold f_X2_arcs at h
  have W0 : ∀ (H : Heap) (locs : List Loc), gS D (wc ad cz) A s.heap σ H locs → W p l e rm_X2_arcs s m args below meth c H locs 0 0 Q (F0 m 0 ls []) := by
    intro H locs hg
    refine lv_aload_n hx hb dX2_arcs_0 rfl (lv_at hl 0 rfl) ?_
    refine va_get (D := D) (ci := 2) (v := .ref (ad 1)) (C := RX2) (T := TX2) (N := 2) hx hb hts k_1 hown hK.1 hg.1 0 rfl rfl 0 (by decide) k_0 (fun _ h9 => h9) rfl dX2_arcs_1 ?_
    refine va_get (D := D) (ci := 0) (v := .int (σ 12 0)) (C := RX0) (T := TX0) (N := 6) hx hb hts k_3 hown hK.1 hg.1 1 rfl rfl 5 (by decide) k_2 (fun _ h9 => h9) rfl dX2_arcs_4 ?_
    exact hret _ _ _ _ _ _ (congrArg (Option.map (fun q => (q, σ))) h) hg rfl dX2_arcs_7
  exact W0 _ _ hg
end
section
def f_X1_tilt (x1 : Int32) (x2 : Int32) (σ : fl_St) : Option (fl_St) := (fl_rd σ 7 40 ((2) * x1)).bind fun v1 => (fl_wr σ 7 40 ((2) * x1) (v1 + x2)).bind fun σ4 => (fl_rd σ4 7 40 (((2) * x1) + (1))).bind fun v7 => (fl_wr σ4 7 40 (((2) * x1) + (1)) (v7 - x2)).bind fun σ10 => some σ10
def rm_X1_tilt : Room := { frames := 0, cells := 0, slots := 0, locals := 0 }
set_option maxHeartbeats 4000000 in
set_option maxRecDepth 100000 in
theorem c_X1_tilt (l : Launch) (D : va_G) (ad : Nat → Nat) (cz : Nat → ClassId) (x1 : Int32) (x2 : Int32) (σ : fl_St) {σ' : fl_St} (h : f_X1_tilt x1 x2 σ = some σ') : gMv l yX1_tilt wsX1_tilt rm_X1_tilt D (wc ad cz) (wcT cz) wcN [.ref (ad 2), .int x1, .int x2] σ σ' := by
  refine gMv_of (cc := cX1_tilt) (maxL := 3) (by decide) rfl (Nat.le_of_ble_eq_true rfl) ?_
  intro p e s m args below meth c A Q ls hx hb hml hown hts hK hA hg hl hret
  have hown : s.vm.findClass RX1 = some m.cls := hown
  have hl : lv_has ls 3 [(0, .ref (ad 2)), (1, .int x1), (2, .int x2)] := hl
  have k_0 := hts (.fieldLink RX1 18 "FlowLedger$Router" "weight" "[I") (by decide +kernel)
  have k_1 := (by decide +kernel : ∀ w ∈ wsX10, w ∈ wsX1_tilt)
  unfold f_X1_tilt at h
  have W0 : ∀ (H : Heap) (locs : List Loc), gS D (wc ad cz) A s.heap σ H locs → W p l e rm_X1_tilt s m args below meth c H locs 0 0 Q (F0 m 0 ls []) := by
    intro H locs hg
    refine lv_aload_n hx hb dX1_tilt_0 rfl (lv_at hl 0 rfl) ?_
    refine va_get (D := D) (ci := 1) (v := .ref (ad 10)) (C := RX1) (T := TX1) (N := 8) hx hb hts k_1 hown hK.1 hg.1 2 rfl rfl 3 (by decide) k_0 (fun _ h9 => h9) rfl dX1_tilt_1 ?_
    refine lv_iconst (v := (2)) hx hb dX1_tilt_4 (by decide) ?_
    refine lv_iload_n hx hb dX1_tilt_5 rfl (lv_at hl 1 rfl) ?_
    refine lv_imul hx hb dX1_tilt_6 ?_
    refine lv_dup2_11 hx hb dX1_tilt_7 rfl rfl ?_
    obtain ⟨v1, i2, e3, h⟩ := fl_rd_b h
    refine g_ld (n := 40) (t0 := 7) hx hb hK hg (wc_a7 ad cz _) rfl i2 e3 dX1_tilt_8 ?_
    refine lv_iload_n hx hb dX1_tilt_9 rfl (lv_at hl 2 rfl) ?_
    refine lv_iadd hx hb dX1_tilt_10 ?_
    obtain ⟨σ4, i5, e6, h⟩ := fl_wr_b h
    refine g_st (n := 40) (t0 := 7) hx hb hK hg (wc_a7 ad cz _) (wc_s7 ad cz _) rfl i5 e6 dX1_tilt_11 (fun H locs hg => ?_)
    refine lv_aload_n hx hb dX1_tilt_12 rfl (lv_at hl 0 rfl) ?_
    refine va_get (D := D) (ci := 1) (v := .ref (ad 10)) (C := RX1) (T := TX1) (N := 8) hx hb hts k_1 hown hK.1 hg.1 2 rfl rfl 3 (by decide) k_0 (fun _ h9 => h9) rfl dX1_tilt_13 ?_
    refine lv_iconst (v := (2)) hx hb dX1_tilt_16 (by decide) ?_
    refine lv_iload_n hx hb dX1_tilt_17 rfl (lv_at hl 1 rfl) ?_
    refine lv_imul hx hb dX1_tilt_18 ?_
    refine lv_iconst (v := (1)) hx hb dX1_tilt_19 (by decide) ?_
    refine lv_iadd hx hb dX1_tilt_20 ?_
    refine lv_dup2_11 hx hb dX1_tilt_21 rfl rfl ?_
    obtain ⟨v7, i8, e9, h⟩ := fl_rd_b h
    refine g_ld (n := 40) (t0 := 7) hx hb hK hg (wc_a7 ad cz _) rfl i8 e9 dX1_tilt_22 ?_
    refine lv_iload_n hx hb dX1_tilt_23 rfl (lv_at hl 2 rfl) ?_
    refine lv_isub hx hb dX1_tilt_24 ?_
    obtain ⟨σ10, i11, e12, h⟩ := fl_wr_b h
    refine g_st (n := 40) (t0 := 7) hx hb hK hg (wc_a7 ad cz _) (wc_s7 ad cz _) rfl i11 e12 dX1_tilt_25 (fun H locs hg => ?_)
    exact hret _ _ _ _ _ h hg dX1_tilt_26
  exact W0 _ _ hg
def f_X1_flowOf (x1 : Int32) (σ : fl_St) : Option (Int32) := (fl_rd σ 8 40 (((2) * x1) + (1))).bind fun v1 => some v1
def rm_X1_flowOf : Room := { frames := 0, cells := 0, slots := 0, locals := 0 }
set_option maxHeartbeats 4000000 in
set_option maxRecDepth 100000 in
theorem c_X1_flowOf (l : Launch) (D : va_G) (ad : Nat → Nat) (cz : Nat → ClassId) (x1 : Int32) (σ : fl_St) {r : Int32} (h : f_X1_flowOf x1 σ = some r) : gMi l yX1_flowOf wsX1_flowOf rm_X1_flowOf D (wc ad cz) (wcT cz) wcN [.ref (ad 2), .int x1] σ r σ := by
  refine gMi_of (cc := cX1_flowOf) (maxL := 2) (by decide) rfl (Nat.le_of_ble_eq_true rfl) ?_
  intro p e s m args below meth c A Q ls hx hb hml hown hts hK hA hg hl hret
  have hown : s.vm.findClass RX1 = some m.cls := hown
  have hl : lv_has ls 2 [(0, .ref (ad 2)), (1, .int x1)] := hl
  have k_0 := hts (.fieldLink RX1 21 "FlowLedger$Router" "room" "[I") (by decide +kernel)
  have k_1 := (by decide +kernel : ∀ w ∈ wsX10, w ∈ wsX1_flowOf)
  unfold f_X1_flowOf at h
  have W0 : ∀ (H : Heap) (locs : List Loc), gS D (wc ad cz) A s.heap σ H locs → W p l e rm_X1_flowOf s m args below meth c H locs 0 0 Q (F0 m 0 ls []) := by
    intro H locs hg
    refine lv_aload_n hx hb dX1_flowOf_0 rfl (lv_at hl 0 rfl) ?_
    refine va_get (D := D) (ci := 1) (v := .ref (ad 11)) (C := RX1) (T := TX1) (N := 8) hx hb hts k_1 hown hK.1 hg.1 2 rfl rfl 4 (by decide) k_0 (fun _ h9 => h9) rfl dX1_flowOf_1 ?_
    refine lv_iconst (v := (2)) hx hb dX1_flowOf_4 (by decide) ?_
    refine lv_iload_n hx hb dX1_flowOf_5 rfl (lv_at hl 1 rfl) ?_
    refine lv_imul hx hb dX1_flowOf_6 ?_
    refine lv_iconst (v := (1)) hx hb dX1_flowOf_7 (by decide) ?_
    refine lv_iadd hx hb dX1_flowOf_8 ?_
    obtain ⟨v1, i2, e3, h⟩ := fl_rd_b h
    refine g_ld (n := 40) (t0 := 8) hx hb hK hg (wc_a8 ad cz _) rfl i2 e3 dX1_flowOf_9 ?_
    exact hret _ _ _ _ _ _ (congrArg (Option.map (fun q => (q, σ))) h) hg rfl dX1_flowOf_10
  exact W0 _ _ hg
def f_X1_distanceTo (x1 : Int32) (σ : fl_St) : Option (Int32) := (fl_rd σ 10 8 x1).bind fun v1 => some v1
def rm_X1_distanceTo : Room := { frames := 0, cells := 0, slots := 0, locals := 0 }
set_option maxHeartbeats 4000000 in
set_option maxRecDepth 100000 in
theorem c_X1_distanceTo (l : Launch) (D : va_G) (ad : Nat → Nat) (cz : Nat → ClassId) (x1 : Int32) (σ : fl_St) {r : Int32} (h : f_X1_distanceTo x1 σ = some r) : gMi l yX1_distanceTo wsX1_distanceTo rm_X1_distanceTo D (wc ad cz) (wcT cz) wcN [.ref (ad 2), .int x1] σ r σ := by
  refine gMi_of (cc := cX1_distanceTo) (maxL := 2) (by decide) rfl (Nat.le_of_ble_eq_true rfl) ?_
  intro p e s m args below meth c A Q ls hx hb hml hown hts hK hA hg hl hret
  have hown : s.vm.findClass RX1 = some m.cls := hown
  have hl : lv_has ls 2 [(0, .ref (ad 2)), (1, .int x1)] := hl
  have k_0 := hts (.fieldLink RX1 27 "FlowLedger$Router" "distance" "[I") (by decide +kernel)
  have k_1 := (by decide +kernel : ∀ w ∈ wsX10, w ∈ wsX1_distanceTo)
  unfold f_X1_distanceTo at h
  have W0 : ∀ (H : Heap) (locs : List Loc), gS D (wc ad cz) A s.heap σ H locs → W p l e rm_X1_distanceTo s m args below meth c H locs 0 0 Q (F0 m 0 ls []) := by
    intro H locs hg
    refine lv_aload_n hx hb dX1_distanceTo_0 rfl (lv_at hl 0 rfl) ?_
    refine va_get (D := D) (ci := 1) (v := .ref (ad 13)) (C := RX1) (T := TX1) (N := 8) hx hb hts k_1 hown hK.1 hg.1 2 rfl rfl 6 (by decide) k_0 (fun _ h9 => h9) rfl dX1_distanceTo_1 ?_
    refine lv_iload_n hx hb dX1_distanceTo_4 rfl (lv_at hl 1 rfl) ?_
    obtain ⟨v1, i2, e3, h⟩ := fl_rd_b h
    refine g_ld (n := 8) (t0 := 10) hx hb hK hg (wc_a10 ad cz _) rfl i2 e3 dX1_distanceTo_5 ?_
    exact hret _ _ _ _ _ _ (congrArg (Option.map (fun q => (q, σ))) h) hg rfl dX1_distanceTo_6
  exact W0 _ _ hg
def f_X1_isShortcut (x1 : Int32) (σ : fl_St) : Option (Int32) := (fl_rd σ 5 40 x1).bind fun v1 => (fl_rd σ 10 8 v1).bind fun v4 => (fl_rd σ 7 40 x1).bind fun v7 => (fl_rd σ 6 40 x1).bind fun v10 => (fl_rd σ 10 8 v10).bind fun v13 => (if v13 ≤ (v4 + v7) then (some ((0))) else (some ((1)))).bind fun (t17 : Int32) => if ¬ (t17 = 0 ∨ t17 = 1) then none else some t17
def rm_X1_isShortcut : Room := { frames := 0, cells := 0, slots := 0, locals := 0 }
set_option maxHeartbeats 4000000 in
set_option maxRecDepth 100000 in
theorem c_X1_isShortcut (l : Launch) (D : va_G) (ad : Nat → Nat) (cz : Nat → ClassId) (x1 : Int32) (σ : fl_St) {r : Int32} (h : f_X1_isShortcut x1 σ = some r) : gMi l yX1_isShortcut wsX1_isShortcut rm_X1_isShortcut D (wc ad cz) (wcT cz) wcN [.ref (ad 2), .int x1] σ r σ := by
  refine gMi_of (cc := cX1_isShortcut) (maxL := 2) (by decide) rfl (Nat.le_of_ble_eq_true rfl) ?_
  intro p e s m args below meth c A Q ls hx hb hml hown hts hK hA hg hl hret
  have hown : s.vm.findClass RX1 = some m.cls := hown
  have hl : lv_has ls 2 [(0, .ref (ad 2)), (1, .int x1)] := hl
  have k_0 := hts (.fieldLink RX1 27 "FlowLedger$Router" "distance" "[I") (by decide +kernel)
  have k_1 := (by decide +kernel : ∀ w ∈ wsX10, w ∈ wsX1_isShortcut)
  have k_2 := hts (.fieldLink RX1 9 "FlowLedger$Router" "tail" "[I") (by decide +kernel)
  have k_3 := hts (.fieldLink RX1 18 "FlowLedger$Router" "weight" "[I") (by decide +kernel)
  have k_4 := hts (.fieldLink RX1 15 "FlowLedger$Router" "head" "[I") (by decide +kernel)
  unfold f_X1_isShortcut at h
  have W0 : ∀ (H : Heap) (locs : List Loc), gS D (wc ad cz) A s.heap σ H locs → W p l e rm_X1_isShortcut s m args below meth c H locs 0 0 Q (F0 m 0 ls []) := by
    intro H locs hg
    refine lv_aload_n hx hb dX1_isShortcut_0 rfl (lv_at hl 0 rfl) ?_
    refine va_get (D := D) (ci := 1) (v := .ref (ad 13)) (C := RX1) (T := TX1) (N := 8) hx hb hts k_1 hown hK.1 hg.1 2 rfl rfl 6 (by decide) k_0 (fun _ h9 => h9) rfl dX1_isShortcut_1 ?_
    refine lv_aload_n hx hb dX1_isShortcut_4 rfl (lv_at hl 0 rfl) ?_
    refine va_get (D := D) (ci := 1) (v := .ref (ad 8)) (C := RX1) (T := TX1) (N := 8) hx hb hts k_1 hown hK.1 hg.1 2 rfl rfl 1 (by decide) k_2 (fun _ h9 => h9) rfl dX1_isShortcut_5 ?_
    refine lv_iload_n hx hb dX1_isShortcut_8 rfl (lv_at hl 1 rfl) ?_
    obtain ⟨v1, i2, e3, h⟩ := fl_rd_b h
    refine g_ld (n := 40) (t0 := 5) hx hb hK hg (wc_a5 ad cz _) rfl i2 e3 dX1_isShortcut_9 ?_
    obtain ⟨v4, i5, e6, h⟩ := fl_rd_b h
    refine g_ld (n := 8) (t0 := 10) hx hb hK hg (wc_a10 ad cz _) rfl i5 e6 dX1_isShortcut_10 ?_
    refine lv_aload_n hx hb dX1_isShortcut_11 rfl (lv_at hl 0 rfl) ?_
    refine va_get (D := D) (ci := 1) (v := .ref (ad 10)) (C := RX1) (T := TX1) (N := 8) hx hb hts k_1 hown hK.1 hg.1 2 rfl rfl 3 (by decide) k_3 (fun _ h9 => h9) rfl dX1_isShortcut_12 ?_
    refine lv_iload_n hx hb dX1_isShortcut_15 rfl (lv_at hl 1 rfl) ?_
    obtain ⟨v7, i8, e9, h⟩ := fl_rd_b h
    refine g_ld (n := 40) (t0 := 7) hx hb hK hg (wc_a7 ad cz _) rfl i8 e9 dX1_isShortcut_16 ?_
    refine lv_iadd hx hb dX1_isShortcut_17 ?_
    refine lv_aload_n hx hb dX1_isShortcut_18 rfl (lv_at hl 0 rfl) ?_
    refine va_get (D := D) (ci := 1) (v := .ref (ad 13)) (C := RX1) (T := TX1) (N := 8) hx hb hts k_1 hown hK.1 hg.1 2 rfl rfl 6 (by decide) k_0 (fun _ h9 => h9) rfl dX1_isShortcut_19 ?_
    refine lv_aload_n hx hb dX1_isShortcut_22 rfl (lv_at hl 0 rfl) ?_
    refine va_get (D := D) (ci := 1) (v := .ref (ad 9)) (C := RX1) (T := TX1) (N := 8) hx hb hts k_1 hown hK.1 hg.1 2 rfl rfl 2 (by decide) k_4 (fun _ h9 => h9) rfl dX1_isShortcut_23 ?_
    refine lv_iload_n hx hb dX1_isShortcut_26 rfl (lv_at hl 1 rfl) ?_
    obtain ⟨v10, i11, e12, h⟩ := fl_rd_b h
    refine g_ld (n := 40) (t0 := 6) hx hb hK hg (wc_a6 ad cz _) rfl i11 e12 dX1_isShortcut_27 ?_
    obtain ⟨v13, i14, e15, h⟩ := fl_rd_b h
    refine g_ld (n := 8) (t0 := 10) hx hb hK hg (wc_a10 ad cz _) rfl i14 e15 dX1_isShortcut_28 ?_
    obtain ⟨t17, hB19, h⟩ := fl_bnd h
    have J18 : ∀ (H : Heap) (locs : List Loc) (ls : Array Slot), gS D (wc ad cz) A s.heap σ H locs → lv_has ls 2 [] → W p l e rm_X1_isShortcut s m args below meth c H locs 0 0 Q (F0 m 37 ls [.int t17]) := by
      intro H locs ls hg hl
      obtain ⟨z20, h⟩ := fl_bool h
      exact hret _ _ _ _ _ _ (congrArg (Option.map (fun q => (q, σ))) h) hg (fl_nar2 z20) dX1_isShortcut_37
    clear h
    have h := hB19
    refine lv_icmp_ge (tgt := 36) hx hb dX1_isShortcut_29 (by decide) (fun c16 => ?_) (fun c16 => ?_)
    · have h := fl_ifp c16 h
      refine lv_iconst (v := (0)) hx hb dX1_isShortcut_36 (by decide) ?_
      obtain rfl := fl_s1 h
      exact J18 H locs ls hg (lv_sub hl [] rfl)
    · have h := fl_ifn c16 h
      refine lv_iconst (v := (1)) hx hb dX1_isShortcut_32 (by decide) ?_
      refine lv_goto (tgt := 37) hx hb dX1_isShortcut_33 (by decide) ?_
      obtain rfl := fl_s1 h
      exact J18 H locs ls hg (lv_sub hl [] rfl)
  exact W0 _ _ hg
def f_X1_setStart (x1 : Int32) (x2 : Int32) (σ : fl_St) : Option (fl_St) := (if x2 = 0 then (some ((1000000000))) else (some ((0)))).bind fun (t2 : Int32) => (fl_wr σ 10 8 x1 t2).bind fun σ5 => (fl_wr σ5 11 8 x1 (-1)).bind fun σ8 => some σ8
def rm_X1_setStart : Room := { frames := 0, cells := 0, slots := 0, locals := 0 }
set_option maxHeartbeats 4000000 in
set_option maxRecDepth 100000 in
theorem c_X1_setStart (l : Launch) (D : va_G) (ad : Nat → Nat) (cz : Nat → ClassId) (x1 : Int32) (x2 : Int32) (σ : fl_St) {σ' : fl_St} (h : f_X1_setStart x1 x2 σ = some σ') : gMv l yX1_setStart wsX1_setStart rm_X1_setStart D (wc ad cz) (wcT cz) wcN [.ref (ad 2), .int x1, .int x2] σ σ' := by
  refine gMv_of (cc := cX1_setStart) (maxL := 3) (by decide) rfl (Nat.le_of_ble_eq_true rfl) ?_
  intro p e s m args below meth c A Q ls hx hb hml hown hts hK hA hg hl hret
  have hown : s.vm.findClass RX1 = some m.cls := hown
  have hl : lv_has ls 3 [(0, .ref (ad 2)), (1, .int x1), (2, .int x2)] := hl
  have k_0 := hts (.fieldLink RX1 27 "FlowLedger$Router" "distance" "[I") (by decide +kernel)
  have k_1 := (by decide +kernel : ∀ w ∈ wsX10, w ∈ wsX1_setStart)
  have k_2 := hts (.fieldLink RX1 30 "FlowLedger$Router" "entry" "[I") (by decide +kernel)
  have k_3 := hts (.constant RX1 76 (1000000000)) (by decide +kernel)
  unfold f_X1_setStart at h
  have W0 : ∀ (H : Heap) (locs : List Loc), gS D (wc ad cz) A s.heap σ H locs → W p l e rm_X1_setStart s m args below meth c H locs 0 0 Q (F0 m 0 ls []) := by
    intro H locs hg
    refine lv_aload_n hx hb dX1_setStart_0 rfl (lv_at hl 0 rfl) ?_
    refine va_get (D := D) (ci := 1) (v := .ref (ad 13)) (C := RX1) (T := TX1) (N := 8) hx hb hts k_1 hown hK.1 hg.1 2 rfl rfl 6 (by decide) k_0 (fun _ h9 => h9) rfl dX1_setStart_1 ?_
    refine lv_iload_n hx hb dX1_setStart_4 rfl (lv_at hl 1 rfl) ?_
    refine lv_iload_n hx hb dX1_setStart_5 rfl (lv_at hl 2 rfl) ?_
    obtain ⟨t2, hB4, h⟩ := fl_bnd h
    have J3 : ∀ (H : Heap) (locs : List Loc) (ls : Array Slot), gS D (wc ad cz) A s.heap σ H locs → lv_has ls 3 [(0, .ref (ad 2)), (1, .int x1)] → W p l e rm_X1_setStart s m args below meth c H locs 0 0 Q (F0 m 15 ls [.int t2, .int x1, .ref (ad 13)]) := by
      intro H locs ls hg hl
      obtain ⟨σ5, i6, e7, h⟩ := fl_wr_b h
      refine g_st (n := 8) (t0 := 10) hx hb hK hg (wc_a10 ad cz _) (wc_s10 ad cz _) rfl i6 e7 dX1_setStart_15 (fun H locs hg => ?_)
      refine lv_aload_n hx hb dX1_setStart_16 rfl (lv_at hl 0 rfl) ?_
      refine va_get (D := D) (ci := 1) (v := .ref (ad 14)) (C := RX1) (T := TX1) (N := 8) hx hb hts k_1 hown hK.1 hg.1 2 rfl rfl 7 (by decide) k_2 (fun _ h9 => h9) rfl dX1_setStart_17 ?_
      refine lv_iload_n hx hb dX1_setStart_20 rfl (lv_at hl 1 rfl) ?_
      refine lv_iconst (v := (-1)) hx hb dX1_setStart_21 (by decide) ?_
      obtain ⟨σ8, i9, e10, h⟩ := fl_wr_b h
      refine g_st (n := 8) (t0 := 11) hx hb hK hg (wc_a11 ad cz _) (wc_s11 ad cz _) rfl i9 e10 dX1_setStart_22 (fun H locs hg => ?_)
      exact hret _ _ _ _ _ h hg dX1_setStart_23
    clear h
    have h := hB4
    refine lv_if_eq (tgt := 13) hx hb dX1_setStart_6 (by decide) (fun c1 => ?_) (fun c1 => ?_)
    · have h := fl_ifp c1 h
      refine lv_ldc hx hb hown k_3 dX1_setStart_13 ?_
      obtain rfl := fl_s1 h
      exact J3 H locs ls hg (lv_sub hl [0, 1] rfl)
    · have h := fl_ifn c1 h
      refine lv_iconst (v := (0)) hx hb dX1_setStart_9 (by decide) ?_
      refine lv_goto (tgt := 15) hx hb dX1_setStart_10 (by decide) ?_
      obtain rfl := fl_s1 h
      exact J3 H locs ls hg (lv_sub hl [0, 1] rfl)
  exact W0 _ _ hg
def f_X1_lay_l2 (x1 : Int32) : Nat → Int32 → fl_St → Option (fl_St)
  | 0, _, _ => none
  | n + 1, x2, σ => if (σ 12 0) ≤ x2 then (some (σ)) else ((fl_rd σ 0 20 x2).bind fun v2 => (fl_wr σ 5 40 ((2) * x2) v2).bind fun σ5 => (fl_rd σ5 1 20 x2).bind fun v8 => (fl_wr σ5 6 40 ((2) * x2) v8).bind fun σ11 => (fl_rd σ11 3 20 x2).bind fun v14 => (fl_wr σ11 7 40 ((2) * x2) (x1 * v14)).bind fun σ17 => (fl_rd σ17 6 40 ((2) * x2)).bind fun v20 => (fl_wr σ17 5 40 (((2) * x2) + (1)) v20).bind fun σ23 => (fl_rd σ23 5 40 ((2) * x2)).bind fun v26 => (fl_wr σ23 6 40 (((2) * x2) + (1)) v26).bind fun σ29 => (fl_rd σ29 7 40 ((2) * x2)).bind fun v32 => (fl_wr σ29 7 40 (((2) * x2) + (1)) (-v32)).bind fun σ35 => f_X1_lay_l2 x1 n (x2 + 1) σ35)
def f_X1_lay (x1 : Int32) (σ : fl_St) : Option (fl_St) := (f_X1_lay_l2 x1 fl_N (0) σ).bind fun (σ38 : fl_St) => some σ38
def rm_X1_lay : Room := { frames := 0, cells := 0, slots := 0, locals := 0 }
set_option maxHeartbeats 4000000 in
set_option maxRecDepth 100000 in
theorem c_X1_lay (l : Launch) (D : va_G) (ad : Nat → Nat) (cz : Nat → ClassId) (x1 : Int32) (σ : fl_St) {σ' : fl_St} (h : f_X1_lay x1 σ = some σ') : gMv l yX1_lay wsX1_lay rm_X1_lay D (wc ad cz) (wcT cz) wcN [.ref (ad 2), .int x1] σ σ' := by
  refine gMv_of (cc := cX1_lay) (maxL := 4) (by decide) rfl (Nat.le_of_ble_eq_true rfl) ?_
  intro p e s m args below meth c A Q ls hx hb hml hown hts hK hA hg hl hret
  have hown : s.vm.findClass RX1 = some m.cls := hown
  have hl : lv_has ls 4 [(0, .ref (ad 2)), (1, .int x1)] := hl
  have k_0 := hts (.fieldLink RX1 33 "FlowLedger$Router" "network" "LFlowLedger$Network;") (by decide +kernel)
  have k_1 := (by decide +kernel : ∀ w ∈ wsX10, w ∈ wsX1_lay)
  have k_2 := hts (.fieldLink RX1 37 "FlowLedger$Network" "count" "I") (by decide +kernel)
  have k_3 := (by decide +kernel : ∀ w ∈ wsX00, w ∈ wsX1_lay)
  have k_4 := hts (.fieldLink RX1 9 "FlowLedger$Router" "tail" "[I") (by decide +kernel)
  have k_5 := hts (.fieldLink RX1 43 "FlowLedger$Network" "from" "[I") (by decide +kernel)
  have k_6 := hts (.fieldLink RX1 15 "FlowLedger$Router" "head" "[I") (by decide +kernel)
  have k_7 := hts (.fieldLink RX1 46 "FlowLedger$Network" "to" "[I") (by decide +kernel)
  have k_8 := hts (.fieldLink RX1 18 "FlowLedger$Router" "weight" "[I") (by decide +kernel)
  have k_9 := hts (.fieldLink RX1 49 "FlowLedger$Network" "cost" "[I") (by decide +kernel)
  have L2 : ∀ (n : Nat) (x1 : Int32) (x2 : Int32) (σ : fl_St) (σo : fl_St) (H : Heap) (locs : List Loc) (ls : Array Slot), f_X1_lay_l2 x1 n x2 σ = some (σo) → gS D (wc ad cz) A s.heap σ H locs → lv_has ls 4 [(0, .ref (ad 2)), (1, .int x1), (2, .int x2)] → (∀ (H : Heap) (locs : List Loc) (ls : Array Slot), gS D (wc ad cz) A s.heap σo H locs → lv_has ls 4 [] → W p l e rm_X1_lay s m args below meth c H locs 0 0 Q (F0 m 113 ls [])) → W p l e rm_X1_lay s m args below meth c H locs 0 0 Q (F0 m 2 ls []) := by
    intro n
    induction n with
    | zero =>
      intro x1 x2 σ σo H locs ls h hg hl kk0
      rw [f_X1_lay_l2] at h
      cases h
    | succ n ih =>
      intro x1 x2 σ σo H locs ls h hg hl kk0
      rw [f_X1_lay_l2] at h
      refine lv_iload_n hx hb dX1_lay_2 rfl (lv_at hl 2 rfl) ?_
      refine lv_aload_n hx hb dX1_lay_3 rfl (lv_at hl 0 rfl) ?_
      refine va_get (D := D) (ci := 1) (v := .ref (ad 1)) (C := RX1) (T := TX1) (N := 8) hx hb hts k_1 hown hK.1 hg.1 2 rfl rfl 0 (by decide) k_0 (fun _ h9 => h9) rfl dX1_lay_4 ?_
      refine va_get (D := D) (ci := 0) (v := .int (σ 12 0)) (C := RX0) (T := TX0) (N := 6) hx hb hts k_3 hown hK.1 hg.1 1 rfl rfl 5 (by decide) k_2 (fun _ h9 => h9) rfl dX1_lay_7 ?_
      refine lv_icmp_ge (tgt := 113) hx hb dX1_lay_10 (by decide) (fun c1 => ?_) (fun c1 => ?_)
      · have h := fl_ifp c1 h
        obtain rfl := fl_s1 h
        exact kk0 H locs ls hg (lv_sub hl [] rfl)
      · have h := fl_ifn c1 h
        refine lv_iconst (v := (2)) hx hb dX1_lay_13 (by decide) ?_
        refine lv_iload_n hx hb dX1_lay_14 rfl (lv_at hl 2 rfl) ?_
        refine lv_imul hx hb dX1_lay_15 ?_
        refine lv_istore_n (lv' := [(3, .int ((2) * x2)), (0, .ref (ad 2)), (1, .int x1), (2, .int x2)]) hx hb dX1_lay_16 rfl hl (by decide) rfl (fun ls hl => ?_)
        refine lv_aload_n hx hb dX1_lay_17 rfl (lv_at hl 1 rfl) ?_
        refine va_get (D := D) (ci := 1) (v := .ref (ad 8)) (C := RX1) (T := TX1) (N := 8) hx hb hts k_1 hown hK.1 hg.1 2 rfl rfl 1 (by decide) k_4 (fun _ h9 => h9) rfl dX1_lay_18 ?_
        refine lv_iload_n hx hb dX1_lay_21 rfl (lv_at hl 0 rfl) ?_
        refine lv_aload_n hx hb dX1_lay_22 rfl (lv_at hl 1 rfl) ?_
        refine va_get (D := D) (ci := 1) (v := .ref (ad 1)) (C := RX1) (T := TX1) (N := 8) hx hb hts k_1 hown hK.1 hg.1 2 rfl rfl 0 (by decide) k_0 (fun _ h9 => h9) rfl dX1_lay_23 ?_
        refine va_get (D := D) (ci := 0) (v := .ref (ad 3)) (C := RX0) (T := TX0) (N := 6) hx hb hts k_3 hown hK.1 hg.1 1 rfl rfl 0 (by decide) k_5 (fun _ h9 => h9) rfl dX1_lay_26 ?_
        refine lv_iload_n hx hb dX1_lay_29 rfl (lv_at hl 3 rfl) ?_
        obtain ⟨v2, i3, e4, h⟩ := fl_rd_b h
        refine g_ld (n := 20) (t0 := 0) hx hb hK hg (wc_a0 ad cz _) rfl i3 e4 dX1_lay_30 ?_
        obtain ⟨σ5, i6, e7, h⟩ := fl_wr_b h
        refine g_st (n := 40) (t0 := 5) hx hb hK hg (wc_a5 ad cz _) (wc_s5 ad cz _) rfl i6 e7 dX1_lay_31 (fun H locs hg => ?_)
        refine lv_aload_n hx hb dX1_lay_32 rfl (lv_at hl 1 rfl) ?_
        refine va_get (D := D) (ci := 1) (v := .ref (ad 9)) (C := RX1) (T := TX1) (N := 8) hx hb hts k_1 hown hK.1 hg.1 2 rfl rfl 2 (by decide) k_6 (fun _ h9 => h9) rfl dX1_lay_33 ?_
        refine lv_iload_n hx hb dX1_lay_36 rfl (lv_at hl 0 rfl) ?_
        refine lv_aload_n hx hb dX1_lay_37 rfl (lv_at hl 1 rfl) ?_
        refine va_get (D := D) (ci := 1) (v := .ref (ad 1)) (C := RX1) (T := TX1) (N := 8) hx hb hts k_1 hown hK.1 hg.1 2 rfl rfl 0 (by decide) k_0 (fun _ h9 => h9) rfl dX1_lay_38 ?_
        refine va_get (D := D) (ci := 0) (v := .ref (ad 4)) (C := RX0) (T := TX0) (N := 6) hx hb hts k_3 hown hK.1 hg.1 1 rfl rfl 1 (by decide) k_7 (fun _ h9 => h9) rfl dX1_lay_41 ?_
        refine lv_iload_n hx hb dX1_lay_44 rfl (lv_at hl 3 rfl) ?_
        obtain ⟨v8, i9, e10, h⟩ := fl_rd_b h
        refine g_ld (n := 20) (t0 := 1) hx hb hK hg (wc_a1 ad cz _) rfl i9 e10 dX1_lay_45 ?_
        obtain ⟨σ11, i12, e13, h⟩ := fl_wr_b h
        refine g_st (n := 40) (t0 := 6) hx hb hK hg (wc_a6 ad cz _) (wc_s6 ad cz _) rfl i12 e13 dX1_lay_46 (fun H locs hg => ?_)
        refine lv_aload_n hx hb dX1_lay_47 rfl (lv_at hl 1 rfl) ?_
        refine va_get (D := D) (ci := 1) (v := .ref (ad 10)) (C := RX1) (T := TX1) (N := 8) hx hb hts k_1 hown hK.1 hg.1 2 rfl rfl 3 (by decide) k_8 (fun _ h9 => h9) rfl dX1_lay_48 ?_
        refine lv_iload_n hx hb dX1_lay_51 rfl (lv_at hl 0 rfl) ?_
        refine lv_iload_n hx hb dX1_lay_52 rfl (lv_at hl 2 rfl) ?_
        refine lv_aload_n hx hb dX1_lay_53 rfl (lv_at hl 1 rfl) ?_
        refine va_get (D := D) (ci := 1) (v := .ref (ad 1)) (C := RX1) (T := TX1) (N := 8) hx hb hts k_1 hown hK.1 hg.1 2 rfl rfl 0 (by decide) k_0 (fun _ h9 => h9) rfl dX1_lay_54 ?_
        refine va_get (D := D) (ci := 0) (v := .ref (ad 6)) (C := RX0) (T := TX0) (N := 6) hx hb hts k_3 hown hK.1 hg.1 1 rfl rfl 3 (by decide) k_9 (fun _ h9 => h9) rfl dX1_lay_57 ?_
        refine lv_iload_n hx hb dX1_lay_60 rfl (lv_at hl 3 rfl) ?_
        obtain ⟨v14, i15, e16, h⟩ := fl_rd_b h
        refine g_ld (n := 20) (t0 := 3) hx hb hK hg (wc_a3 ad cz _) rfl i15 e16 dX1_lay_61 ?_
        refine lv_imul hx hb dX1_lay_62 ?_
        obtain ⟨σ17, i18, e19, h⟩ := fl_wr_b h
        refine g_st (n := 40) (t0 := 7) hx hb hK hg (wc_a7 ad cz _) (wc_s7 ad cz _) rfl i18 e19 dX1_lay_63 (fun H locs hg => ?_)
        refine lv_aload_n hx hb dX1_lay_64 rfl (lv_at hl 1 rfl) ?_
        refine va_get (D := D) (ci := 1) (v := .ref (ad 8)) (C := RX1) (T := TX1) (N := 8) hx hb hts k_1 hown hK.1 hg.1 2 rfl rfl 1 (by decide) k_4 (fun _ h9 => h9) rfl dX1_lay_65 ?_
        refine lv_iload_n hx hb dX1_lay_68 rfl (lv_at hl 0 rfl) ?_
        refine lv_iconst (v := (1)) hx hb dX1_lay_69 (by decide) ?_
        refine lv_iadd hx hb dX1_lay_70 ?_
        refine lv_aload_n hx hb dX1_lay_71 rfl (lv_at hl 1 rfl) ?_
        refine va_get (D := D) (ci := 1) (v := .ref (ad 9)) (C := RX1) (T := TX1) (N := 8) hx hb hts k_1 hown hK.1 hg.1 2 rfl rfl 2 (by decide) k_6 (fun _ h9 => h9) rfl dX1_lay_72 ?_
        refine lv_iload_n hx hb dX1_lay_75 rfl (lv_at hl 0 rfl) ?_
        obtain ⟨v20, i21, e22, h⟩ := fl_rd_b h
        refine g_ld (n := 40) (t0 := 6) hx hb hK hg (wc_a6 ad cz _) rfl i21 e22 dX1_lay_76 ?_
        obtain ⟨σ23, i24, e25, h⟩ := fl_wr_b h
        refine g_st (n := 40) (t0 := 5) hx hb hK hg (wc_a5 ad cz _) (wc_s5 ad cz _) rfl i24 e25 dX1_lay_77 (fun H locs hg => ?_)
        refine lv_aload_n hx hb dX1_lay_78 rfl (lv_at hl 1 rfl) ?_
        refine va_get (D := D) (ci := 1) (v := .ref (ad 9)) (C := RX1) (T := TX1) (N := 8) hx hb hts k_1 hown hK.1 hg.1 2 rfl rfl 2 (by decide) k_6 (fun _ h9 => h9) rfl dX1_lay_79 ?_
        refine lv_iload_n hx hb dX1_lay_82 rfl (lv_at hl 0 rfl) ?_
        refine lv_iconst (v := (1)) hx hb dX1_lay_83 (by decide) ?_
        refine lv_iadd hx hb dX1_lay_84 ?_
        refine lv_aload_n hx hb dX1_lay_85 rfl (lv_at hl 1 rfl) ?_
        refine va_get (D := D) (ci := 1) (v := .ref (ad 8)) (C := RX1) (T := TX1) (N := 8) hx hb hts k_1 hown hK.1 hg.1 2 rfl rfl 1 (by decide) k_4 (fun _ h9 => h9) rfl dX1_lay_86 ?_
        refine lv_iload_n hx hb dX1_lay_89 rfl (lv_at hl 0 rfl) ?_
        obtain ⟨v26, i27, e28, h⟩ := fl_rd_b h
        refine g_ld (n := 40) (t0 := 5) hx hb hK hg (wc_a5 ad cz _) rfl i27 e28 dX1_lay_90 ?_
        obtain ⟨σ29, i30, e31, h⟩ := fl_wr_b h
        refine g_st (n := 40) (t0 := 6) hx hb hK hg (wc_a6 ad cz _) (wc_s6 ad cz _) rfl i30 e31 dX1_lay_91 (fun H locs hg => ?_)
        refine lv_aload_n hx hb dX1_lay_92 rfl (lv_at hl 1 rfl) ?_
        refine va_get (D := D) (ci := 1) (v := .ref (ad 10)) (C := RX1) (T := TX1) (N := 8) hx hb hts k_1 hown hK.1 hg.1 2 rfl rfl 3 (by decide) k_8 (fun _ h9 => h9) rfl dX1_lay_93 ?_
        refine lv_iload_n hx hb dX1_lay_96 rfl (lv_at hl 0 rfl) ?_
        refine lv_iconst (v := (1)) hx hb dX1_lay_97 (by decide) ?_
        refine lv_iadd hx hb dX1_lay_98 ?_
        refine lv_aload_n hx hb dX1_lay_99 rfl (lv_at hl 1 rfl) ?_
        refine va_get (D := D) (ci := 1) (v := .ref (ad 10)) (C := RX1) (T := TX1) (N := 8) hx hb hts k_1 hown hK.1 hg.1 2 rfl rfl 3 (by decide) k_8 (fun _ h9 => h9) rfl dX1_lay_100 ?_
        refine lv_iload_n hx hb dX1_lay_103 rfl (lv_at hl 0 rfl) ?_
        obtain ⟨v32, i33, e34, h⟩ := fl_rd_b h
        refine g_ld (n := 40) (t0 := 7) hx hb hK hg (wc_a7 ad cz _) rfl i33 e34 dX1_lay_104 ?_
        refine lv_ineg hx hb dX1_lay_105 ?_
        obtain ⟨σ35, i36, e37, h⟩ := fl_wr_b h
        refine g_st (n := 40) (t0 := 7) hx hb hK hg (wc_a7 ad cz _) (wc_s7 ad cz _) rfl i36 e37 dX1_lay_106 (fun H locs hg => ?_)
        refine lv_iinc (v := (x2 + 1)) (lv' := [(2, .int (x2 + 1)), (3, .int ((2) * x2)), (0, .ref (ad 2)), (1, .int x1)]) hx hb dX1_lay_107 hl (k := 3) rfl rfl (by decide) rfl (fun ls hl => ?_)
        refine lv_goto (tgt := 2) hx hb dX1_lay_110 (by decide) ?_
        exact ih _ _ _ _ _ _ _ h hg (lv_sub hl [2, 3, 0] rfl) kk0
  unfold f_X1_lay at h
  have W0 : ∀ (H : Heap) (locs : List Loc), gS D (wc ad cz) A s.heap σ H locs → W p l e rm_X1_lay s m args below meth c H locs 0 0 Q (F0 m 0 ls []) := by
    intro H locs hg
    refine lv_iconst (v := (0)) hx hb dX1_lay_0 (by decide) ?_
    refine lv_istore_n (lv' := [(2, .int (0)), (0, .ref (ad 2)), (1, .int x1)]) hx hb dX1_lay_1 rfl hl (by decide) rfl (fun ls hl => ?_)
    obtain ⟨σ38, hB39, h⟩ := fl_bnd h
    refine L2 fl_N _ _ _ _ H locs ls hB39 hg (lv_sub hl [1, 2, 0] rfl) (fun H locs ls hg hl => ?_)
    exact hret _ _ _ _ _ h hg dX1_lay_113
  exact W0 _ _ hg
def f_X1_isBalanced_l2 (σ : fl_St) : Nat → Int32 → Option (Nat)
  | 0, _ => none
  | n + 1, x1 => if (8) ≤ x1 then (some (0)) else ((fl_rd σ 9 8 x1).bind fun v2 => if v2 = 0 then (f_X1_isBalanced_l2 σ n (x1 + 1)) else (some (1)))
def f_X1_isBalanced (σ : fl_St) : Option (Int32) := (f_X1_isBalanced_l2 σ fl_N (0)).bind fun (ix6 : Nat) => if ix6 = 0 then (some (1)) else (some (0))
def rm_X1_isBalanced : Room := { frames := 0, cells := 0, slots := 0, locals := 0 }
set_option maxHeartbeats 4000000 in
set_option maxRecDepth 100000 in
theorem c_X1_isBalanced (l : Launch) (D : va_G) (ad : Nat → Nat) (cz : Nat → ClassId) (σ : fl_St) {r : Int32} (h : f_X1_isBalanced σ = some r) : gMi l yX1_isBalanced wsX1_isBalanced rm_X1_isBalanced D (wc ad cz) (wcT cz) wcN [.ref (ad 2)] σ r σ := by
  refine gMi_of (cc := cX1_isBalanced) (maxL := 2) (by decide) rfl (Nat.le_of_ble_eq_true rfl) ?_
  intro p e s m args below meth c A Q ls hx hb hml hown hts hK hA hg hl hret
  have hown : s.vm.findClass RX1 = some m.cls := hown
  have hl : lv_has ls 2 [(0, .ref (ad 2))] := hl
  have k_0 := hts (.fieldLink RX1 24 "FlowLedger$Router" "excess" "[I") (by decide +kernel)
  have k_1 := (by decide +kernel : ∀ w ∈ wsX10, w ∈ wsX1_isBalanced)
  have L2 : ∀ (n : Nat) (σ : fl_St) (x1 : Int32) (ox : Nat) (H : Heap) (locs : List Loc) (ls : Array Slot), f_X1_isBalanced_l2 σ n x1 = some (ox) → gS D (wc ad cz) A s.heap σ H locs → lv_has ls 2 [(0, .ref (ad 2)), (1, .int x1)] → (∀ (H : Heap) (locs : List Loc) (ls : Array Slot), ox = 0 → gS D (wc ad cz) A s.heap σ H locs → lv_has ls 2 [] → W p l e rm_X1_isBalanced s m args below meth c H locs 0 0 Q (F0 m 25 ls [])) → (∀ (H : Heap) (locs : List Loc) (ls : Array Slot), ox = 1 → gS D (wc ad cz) A s.heap σ H locs → lv_has ls 2 [] → W p l e rm_X1_isBalanced s m args below meth c H locs 0 0 Q (F0 m 17 ls [])) → W p l e rm_X1_isBalanced s m args below meth c H locs 0 0 Q (F0 m 2 ls []) := by
    intro n
    induction n with
    | zero =>
      intro σ x1 ox H locs ls h hg hl kk0 kk1
      rw [f_X1_isBalanced_l2] at h
      cases h
    | succ n ih =>
      intro σ x1 ox H locs ls h hg hl kk0 kk1
      rw [f_X1_isBalanced_l2] at h
      refine lv_iload_n hx hb dX1_isBalanced_2 rfl (lv_at hl 1 rfl) ?_
      refine lv_bipush (v := (8)) hx hb dX1_isBalanced_3 (by decide) ?_
      refine lv_icmp_ge (tgt := 25) hx hb dX1_isBalanced_5 (by decide) (fun c1 => ?_) (fun c1 => ?_)
      · have h := fl_ifp c1 h
        obtain rfl := fl_s1 h
        exact kk0 H locs ls rfl hg (lv_sub hl [] rfl)
      · have h := fl_ifn c1 h
        refine lv_aload_n hx hb dX1_isBalanced_8 rfl (lv_at hl 0 rfl) ?_
        refine va_get (D := D) (ci := 1) (v := .ref (ad 12)) (C := RX1) (T := TX1) (N := 8) hx hb hts k_1 hown hK.1 hg.1 2 rfl rfl 5 (by decide) k_0 (fun _ h9 => h9) rfl dX1_isBalanced_9 ?_
        refine lv_iload_n hx hb dX1_isBalanced_12 rfl (lv_at hl 1 rfl) ?_
        obtain ⟨v2, i3, e4, h⟩ := fl_rd_b h
        refine g_ld (n := 8) (t0 := 9) hx hb hK hg (wc_a9 ad cz _) rfl i3 e4 dX1_isBalanced_13 ?_
        refine lv_if_eq (tgt := 19) hx hb dX1_isBalanced_14 (by decide) (fun c5 => ?_) (fun c5 => ?_)
        · have h := fl_ifp c5 h
          refine lv_iinc (v := (x1 + 1)) (lv' := [(1, .int (x1 + 1)), (0, .ref (ad 2))]) hx hb dX1_isBalanced_19 hl (k := 1) rfl rfl (by decide) rfl (fun ls hl => ?_)
          refine lv_goto (tgt := 2) hx hb dX1_isBalanced_22 (by decide) ?_
          exact ih _ _ _ _ _ _ h hg (lv_sub hl [1, 0] rfl) kk0 kk1
        · have h := fl_ifn c5 h
          obtain rfl := fl_s1 h
          exact kk1 H locs ls rfl hg (lv_sub hl [] rfl)
  unfold f_X1_isBalanced at h
  have W0 : ∀ (H : Heap) (locs : List Loc), gS D (wc ad cz) A s.heap σ H locs → W p l e rm_X1_isBalanced s m args below meth c H locs 0 0 Q (F0 m 0 ls []) := by
    intro H locs hg
    refine lv_iconst (v := (0)) hx hb dX1_isBalanced_0 (by decide) ?_
    refine lv_istore_n (lv' := [(1, .int (0)), (0, .ref (ad 2))]) hx hb dX1_isBalanced_1 rfl hl (by decide) rfl (fun ls hl => ?_)
    obtain ⟨ix6, hB7, h⟩ := fl_bnd h
    refine L2 fl_N _ _ _ H locs ls hB7 hg (lv_sub hl [1, 0] rfl) (fun H locs ls e0 hg hl => ?_) (fun H locs ls e0 hg hl => ?_)
    · have h := fl_ifp e0 h
      refine lv_iconst (v := (1)) hx hb dX1_isBalanced_25 (by decide) ?_
      exact hret _ _ _ _ _ _ (congrArg (Option.map (fun q => (q, σ))) h) hg rfl dX1_isBalanced_26
    · have h := fl_ifn (by rw [e0]; decide) h
      refine lv_iconst (v := (0)) hx hb dX1_isBalanced_17 (by decide) ?_
      exact hret _ _ _ _ _ _ (congrArg (Option.map (fun q => (q, σ))) h) hg rfl dX1_isBalanced_18
  exact W0 _ _ hg
def f_X1_totalExcess (σ : fl_St) : Option (Int32) := (f_X2_sumAboveZero 9 σ).bind fun r2 => some r2
def rm_X1_totalExcess : Room := { frames := 2, cells := 0, slots := 0, locals := 46 }
set_option maxHeartbeats 4000000 in
set_option maxRecDepth 100000 in
theorem c_X1_totalExcess (l : Launch) (D : va_G) (ad : Nat → Nat) (cz : Nat → ClassId) (σ : fl_St) {r : Int32} (h : f_X1_totalExcess σ = some r) : gMi l yX1_totalExcess wsX1_totalExcess rm_X1_totalExcess D (wc ad cz) (wcT cz) wcN [.ref (ad 2)] σ r σ := by
  refine gMi_of (cc := cX1_totalExcess) (maxL := 1) (by decide) rfl (Nat.le_of_ble_eq_true rfl) ?_
  intro p e s m args below meth c A Q ls hx hb hml hown hts hK hA hg hl hret
  have hown : s.vm.findClass RX1 = some m.cls := hown
  have hl : lv_has ls 1 [(0, .ref (ad 2))] := hl
  have k_0 := hts (.fieldLink RX1 24 "FlowLedger$Router" "excess" "[I") (by decide +kernel)
  have k_1 := (by decide +kernel : ∀ w ∈ wsX10, w ∈ wsX1_totalExcess)
  have k_2 := hts (.initialized RX2) (by decide +kernel)
  have k_3 := hts (.static yX2_sumAboveZero) (by decide +kernel)
  unfold f_X1_totalExcess at h
  have W0 : ∀ (H : Heap) (locs : List Loc), gS D (wc ad cz) A s.heap σ H locs → W p l e rm_X1_totalExcess s m args below meth c H locs 0 0 Q (F0 m 0 ls []) := by
    intro H locs hg
    refine lv_aload_n hx hb dX1_totalExcess_0 rfl (lv_at hl 0 rfl) ?_
    refine va_get (D := D) (ci := 1) (v := .ref (ad 12)) (C := RX1) (T := TX1) (N := 8) hx hb hts k_1 hown hK.1 hg.1 2 rfl rfl 5 (by decide) k_0 (fun _ h9 => h9) rfl dX1_totalExcess_1 ?_
    obtain ⟨r2, e1, h⟩ := fl_bnd h
    refine g_callNi (As := [.ref (ad 12)]) (rest := []) (host := RX2) ⟨hx, hb, hml, hown, hts⟩ (c_X2_sumAboveZero l D ad cz (Or.inr rfl) (σ) e1) ⟨va_cnB 1 hts gX1_totalExcess_X2_sumAboveZero_n65 rfl rfl rfl (hK.2 (RX1, 65, yX2_sumAboveZero, RX2) (by simp [wcN])) k_2 (by decide +kernel) ⟨Nat.le_of_ble_eq_true rfl, Nat.le_of_ble_eq_true rfl⟩, k_3, trivial⟩ hK hA hg rfl hl.1 rfl (Nat.le_of_ble_eq_true rfl) dX1_totalExcess_4 ⟨Nat.le_of_ble_eq_true rfl, Nat.le_of_ble_eq_true rfl⟩ (fun H locs hg => ?_)
    exact hret _ _ _ _ _ _ (congrArg (Option.map (fun q => (q, σ))) h) hg rfl dX1_totalExcess_7
  exact W0 _ _ hg
def f_X1_costOfFlow_l4 (σ : fl_St) : Nat → Int32 → Int32 → Option (Int32)
  | 0, _, _ => none
  | n + 1, x1, x2 => if (σ 12 0) ≤ x2 then (some (x1)) else ((fl_rd σ 3 20 x2).bind fun v2 => (fl_rd σ 8 40 (((2) * x2) + (1))).bind fun v5 => f_X1_costOfFlow_l4 σ n (x1 + (v2 * v5)) (x2 + 1))
def f_X1_costOfFlow (σ : fl_St) : Option (Int32) := (f_X1_costOfFlow_l4 σ fl_N (0) (0)).bind fun (w8 : Int32) => some w8
def rm_X1_costOfFlow : Room := { frames := 0, cells := 0, slots := 0, locals := 0 }
set_option maxHeartbeats 4000000 in
set_option maxRecDepth 100000 in
theorem c_X1_costOfFlow (l : Launch) (D : va_G) (ad : Nat → Nat) (cz : Nat → ClassId) (σ : fl_St) {r : Int32} (h : f_X1_costOfFlow σ = some r) : gMi l yX1_costOfFlow wsX1_costOfFlow rm_X1_costOfFlow D (wc ad cz) (wcT cz) wcN [.ref (ad 2)] σ r σ := by
  refine gMi_of (cc := cX1_costOfFlow) (maxL := 3) (by decide) rfl (Nat.le_of_ble_eq_true rfl) ?_
  intro p e s m args below meth c A Q ls hx hb hml hown hts hK hA hg hl hret
  have hown : s.vm.findClass RX1 = some m.cls := hown
  have hl : lv_has ls 3 [(0, .ref (ad 2))] := hl
  have k_0 := hts (.fieldLink RX1 33 "FlowLedger$Router" "network" "LFlowLedger$Network;") (by decide +kernel)
  have k_1 := (by decide +kernel : ∀ w ∈ wsX10, w ∈ wsX1_costOfFlow)
  have k_2 := hts (.fieldLink RX1 37 "FlowLedger$Network" "count" "I") (by decide +kernel)
  have k_3 := (by decide +kernel : ∀ w ∈ wsX00, w ∈ wsX1_costOfFlow)
  have k_4 := hts (.fieldLink RX1 49 "FlowLedger$Network" "cost" "[I") (by decide +kernel)
  have k_5 := hts (.fieldLink RX1 21 "FlowLedger$Router" "room" "[I") (by decide +kernel)
  have L4 : ∀ (n : Nat) (σ : fl_St) (x1 : Int32) (x2 : Int32) (o1 : Int32) (H : Heap) (locs : List Loc) (ls : Array Slot), f_X1_costOfFlow_l4 σ n x1 x2 = some (o1) → gS D (wc ad cz) A s.heap σ H locs → lv_has ls 3 [(0, .ref (ad 2)), (1, .int x1), (2, .int x2)] → (∀ (H : Heap) (locs : List Loc) (ls : Array Slot), gS D (wc ad cz) A s.heap σ H locs → lv_has ls 3 [(1, .int o1)] → W p l e rm_X1_costOfFlow s m args below meth c H locs 0 0 Q (F0 m 44 ls [])) → W p l e rm_X1_costOfFlow s m args below meth c H locs 0 0 Q (F0 m 4 ls []) := by
    intro n
    induction n with
    | zero =>
      intro σ x1 x2 o1 H locs ls h hg hl kk0
      rw [f_X1_costOfFlow_l4] at h
      cases h
    | succ n ih =>
      intro σ x1 x2 o1 H locs ls h hg hl kk0
      rw [f_X1_costOfFlow_l4] at h
      refine lv_iload_n hx hb dX1_costOfFlow_4 rfl (lv_at hl 2 rfl) ?_
      refine lv_aload_n hx hb dX1_costOfFlow_5 rfl (lv_at hl 0 rfl) ?_
      refine va_get (D := D) (ci := 1) (v := .ref (ad 1)) (C := RX1) (T := TX1) (N := 8) hx hb hts k_1 hown hK.1 hg.1 2 rfl rfl 0 (by decide) k_0 (fun _ h9 => h9) rfl dX1_costOfFlow_6 ?_
      refine va_get (D := D) (ci := 0) (v := .int (σ 12 0)) (C := RX0) (T := TX0) (N := 6) hx hb hts k_3 hown hK.1 hg.1 1 rfl rfl 5 (by decide) k_2 (fun _ h9 => h9) rfl dX1_costOfFlow_9 ?_
      refine lv_icmp_ge (tgt := 44) hx hb dX1_costOfFlow_12 (by decide) (fun c1 => ?_) (fun c1 => ?_)
      · have h := fl_ifp c1 h
        obtain rfl := fl_s1 h
        exact kk0 H locs ls hg (lv_sub hl [1] rfl)
      · have h := fl_ifn c1 h
        refine lv_iload_n hx hb dX1_costOfFlow_15 rfl (lv_at hl 1 rfl) ?_
        refine lv_aload_n hx hb dX1_costOfFlow_16 rfl (lv_at hl 0 rfl) ?_
        refine va_get (D := D) (ci := 1) (v := .ref (ad 1)) (C := RX1) (T := TX1) (N := 8) hx hb hts k_1 hown hK.1 hg.1 2 rfl rfl 0 (by decide) k_0 (fun _ h9 => h9) rfl dX1_costOfFlow_17 ?_
        refine va_get (D := D) (ci := 0) (v := .ref (ad 6)) (C := RX0) (T := TX0) (N := 6) hx hb hts k_3 hown hK.1 hg.1 1 rfl rfl 3 (by decide) k_4 (fun _ h9 => h9) rfl dX1_costOfFlow_20 ?_
        refine lv_iload_n hx hb dX1_costOfFlow_23 rfl (lv_at hl 2 rfl) ?_
        obtain ⟨v2, i3, e4, h⟩ := fl_rd_b h
        refine g_ld (n := 20) (t0 := 3) hx hb hK hg (wc_a3 ad cz _) rfl i3 e4 dX1_costOfFlow_24 ?_
        refine lv_aload_n hx hb dX1_costOfFlow_25 rfl (lv_at hl 0 rfl) ?_
        refine va_get (D := D) (ci := 1) (v := .ref (ad 11)) (C := RX1) (T := TX1) (N := 8) hx hb hts k_1 hown hK.1 hg.1 2 rfl rfl 4 (by decide) k_5 (fun _ h9 => h9) rfl dX1_costOfFlow_26 ?_
        refine lv_iconst (v := (2)) hx hb dX1_costOfFlow_29 (by decide) ?_
        refine lv_iload_n hx hb dX1_costOfFlow_30 rfl (lv_at hl 2 rfl) ?_
        refine lv_imul hx hb dX1_costOfFlow_31 ?_
        refine lv_iconst (v := (1)) hx hb dX1_costOfFlow_32 (by decide) ?_
        refine lv_iadd hx hb dX1_costOfFlow_33 ?_
        obtain ⟨v5, i6, e7, h⟩ := fl_rd_b h
        refine g_ld (n := 40) (t0 := 8) hx hb hK hg (wc_a8 ad cz _) rfl i6 e7 dX1_costOfFlow_34 ?_
        refine lv_imul hx hb dX1_costOfFlow_35 ?_
        refine lv_iadd hx hb dX1_costOfFlow_36 ?_
        refine lv_istore_n (lv' := [(1, .int (x1 + (v2 * v5))), (0, .ref (ad 2)), (2, .int x2)]) hx hb dX1_costOfFlow_37 rfl hl (by decide) rfl (fun ls hl => ?_)
        refine lv_iinc (v := (x2 + 1)) (lv' := [(2, .int (x2 + 1)), (1, .int (x1 + (v2 * v5))), (0, .ref (ad 2))]) hx hb dX1_costOfFlow_38 hl (k := 2) rfl rfl (by decide) rfl (fun ls hl => ?_)
        refine lv_goto (tgt := 4) hx hb dX1_costOfFlow_41 (by decide) ?_
        exact ih _ _ _ _ _ _ _ h hg (lv_sub hl [2, 1, 0] rfl) kk0
  unfold f_X1_costOfFlow at h
  have W0 : ∀ (H : Heap) (locs : List Loc), gS D (wc ad cz) A s.heap σ H locs → W p l e rm_X1_costOfFlow s m args below meth c H locs 0 0 Q (F0 m 0 ls []) := by
    intro H locs hg
    refine lv_iconst (v := (0)) hx hb dX1_costOfFlow_0 (by decide) ?_
    refine lv_istore_n (lv' := [(1, .int (0)), (0, .ref (ad 2))]) hx hb dX1_costOfFlow_1 rfl hl (by decide) rfl (fun ls hl => ?_)
    refine lv_iconst (v := (0)) hx hb dX1_costOfFlow_2 (by decide) ?_
    refine lv_istore_n (lv' := [(2, .int (0)), (1, .int (0)), (0, .ref (ad 2))]) hx hb dX1_costOfFlow_3 rfl hl (by decide) rfl (fun ls hl => ?_)
    obtain ⟨w8, hB9, h⟩ := fl_bnd h
    refine L4 fl_N _ _ _ _ H locs ls hB9 hg (lv_sub hl [2, 1, 0] rfl) (fun H locs ls hg hl => ?_)
    refine lv_iload_n hx hb dX1_costOfFlow_44 rfl (lv_at hl 0 rfl) ?_
    exact hret _ _ _ _ _ _ (congrArg (Option.map (fun q => (q, σ))) h) hg rfl dX1_costOfFlow_45
  exact W0 _ _ hg
end
section
def f_X1_levelUnboundedArcs_l2 : Nat → Int32 → fl_St → Option (fl_St)
  | 0, _, _ => none
  | n + 1, x1, σ => if (8) ≤ x1 then (some (σ)) else ((fl_wr σ 10 8 x1 (0)).bind fun σ2 => f_X1_levelUnboundedArcs_l2 n (x1 + 1) σ2)
def f_X1_levelUnboundedArcs_l39 (x2 : Int32) : Nat → Int32 → Int32 → fl_St → Option (Int32 × fl_St)
  | 0, _, _, _ => none
  | n + 1, x1, x3, σ => if (σ 12 0) ≤ x3 then (some (x1, σ)) else ((fl_rd σ 2 20 x3).bind fun v10 => fl_b2 (if v10 = (-1) then ((f_X1_isShortcut ((2) * x3) σ).bind fun r19 => if r19 = 0 then (some (x1, σ)) else ((fl_rd σ 6 40 ((2) * x3)).bind fun v21 => (fl_rd σ 5 40 ((2) * x3)).bind fun v24 => (fl_rd σ 10 8 v24).bind fun v27 => (fl_rd σ 7 40 ((2) * x3)).bind fun v30 => (fl_wr σ 10 8 v21 (v27 + v30)).bind fun σ33 => some ((1), σ33))) else (some (x1, σ))) fun (w14 : Int32) (σ15 : fl_St) => f_X1_levelUnboundedArcs_l39 x2 n w14 (x3 + 1) σ15)
def f_X1_levelUnboundedArcs_l25 : Nat → Int32 → Int32 → fl_St → Option (Int32 × fl_St)
  | 0, _, _, _ => none
  | n + 1, x1, x2, σ => if x1 = 0 then (some (x1, σ)) else (if (8) ≤ x2 then (some (x1, σ)) else (fl_b2 (f_X1_levelUnboundedArcs_l39 x2 fl_N (0) (0) σ) fun (w36 : Int32) (σ37 : fl_St) => f_X1_levelUnboundedArcs_l25 n w36 (x2 + 1) σ37))
def f_X1_levelUnboundedArcs (σ : fl_St) : Option (Int32 × fl_St) := (f_X1_levelUnboundedArcs_l2 fl_N (0) σ).bind fun (σ5 : fl_St) => fl_b2 (f_X1_levelUnboundedArcs_l25 fl_N (1) (0) σ5) fun (w39 : Int32) (σ40 : fl_St) => (if w39 = 0 then (some ((1))) else (some ((0)))).bind fun (t43 : Int32) => if ¬ (t43 = 0 ∨ t43 = 1) then none else some (t43, σ40)
def rm_X1_levelUnboundedArcs : Room := { frames := 1, cells := 0, slots := 0, locals := 21 }
set_option maxHeartbeats 4000000 in
set_option maxRecDepth 100000 in
theorem c_X1_levelUnboundedArcs (l : Launch) (D : va_G) (ad : Nat → Nat) (cz : Nat → ClassId) (σ : fl_St) {r : Int32} {σ' : fl_St} (h : f_X1_levelUnboundedArcs σ = some (r, σ')) : gMi l yX1_levelUnboundedArcs wsX1_levelUnboundedArcs rm_X1_levelUnboundedArcs D (wc ad cz) (wcT cz) wcN [.ref (ad 2)] σ r σ' := by
  refine gMi_of (cc := cX1_levelUnboundedArcs) (maxL := 4) (by decide) rfl (Nat.le_of_ble_eq_true rfl) ?_
  intro p e s m args below meth c A Q ls hx hb hml hown hts hK hA hg hl hret
  have hown : s.vm.findClass RX1 = some m.cls := hown
  have hl : lv_has ls 4 [(0, .ref (ad 2))] := hl
  have k_0 := hts (.fieldLink RX1 27 "FlowLedger$Router" "distance" "[I") (by decide +kernel)
  have k_1 := (by decide +kernel : ∀ w ∈ wsX10, w ∈ wsX1_levelUnboundedArcs)
  have k_2 := hts (.fieldLink RX1 33 "FlowLedger$Router" "network" "LFlowLedger$Network;") (by decide +kernel)
  have k_3 := hts (.fieldLink RX1 37 "FlowLedger$Network" "count" "I") (by decide +kernel)
  have k_4 := (by decide +kernel : ∀ w ∈ wsX00, w ∈ wsX1_levelUnboundedArcs)
  have k_5 := hts (.fieldLink RX1 81 "FlowLedger$Network" "capacity" "[I") (by decide +kernel)
  have k_6 := hts (.fieldLink RX1 15 "FlowLedger$Router" "head" "[I") (by decide +kernel)
  have k_7 := hts (.fieldLink RX1 9 "FlowLedger$Router" "tail" "[I") (by decide +kernel)
  have k_8 := hts (.fieldLink RX1 18 "FlowLedger$Router" "weight" "[I") (by decide +kernel)
  have L2 : ∀ (n : Nat) (x1 : Int32) (σ : fl_St) (σo : fl_St) (H : Heap) (locs : List Loc) (ls : Array Slot), f_X1_levelUnboundedArcs_l2 n x1 σ = some (σo) → gS D (wc ad cz) A s.heap σ H locs → lv_has ls 4 [(0, .ref (ad 2)), (1, .int x1)] → (∀ (H : Heap) (locs : List Loc) (ls : Array Slot), gS D (wc ad cz) A s.heap σo H locs → lv_has ls 4 [(0, .ref (ad 2))] → W p l e rm_X1_levelUnboundedArcs s m args below meth c H locs 0 0 Q (F0 m 21 ls [])) → W p l e rm_X1_levelUnboundedArcs s m args below meth c H locs 0 0 Q (F0 m 2 ls []) := by
    intro n
    induction n with
    | zero =>
      intro x1 σ σo H locs ls h hg hl kk0
      rw [f_X1_levelUnboundedArcs_l2] at h
      cases h
    | succ n ih =>
      intro x1 σ σo H locs ls h hg hl kk0
      rw [f_X1_levelUnboundedArcs_l2] at h
      refine lv_iload_n hx hb dX1_levelUnboundedArcs_2 rfl (lv_at hl 1 rfl) ?_
      refine lv_bipush (v := (8)) hx hb dX1_levelUnboundedArcs_3 (by decide) ?_
      refine lv_icmp_ge (tgt := 21) hx hb dX1_levelUnboundedArcs_5 (by decide) (fun c1 => ?_) (fun c1 => ?_)
      · have h := fl_ifp c1 h
        obtain rfl := fl_s1 h
        exact kk0 H locs ls hg (lv_sub hl [0] rfl)
      · have h := fl_ifn c1 h
        refine lv_aload_n hx hb dX1_levelUnboundedArcs_8 rfl (lv_at hl 0 rfl) ?_
        refine va_get (D := D) (ci := 1) (v := .ref (ad 13)) (C := RX1) (T := TX1) (N := 8) hx hb hts k_1 hown hK.1 hg.1 2 rfl rfl 6 (by decide) k_0 (fun _ h9 => h9) rfl dX1_levelUnboundedArcs_9 ?_
        refine lv_iload_n hx hb dX1_levelUnboundedArcs_12 rfl (lv_at hl 1 rfl) ?_
        refine lv_iconst (v := (0)) hx hb dX1_levelUnboundedArcs_13 (by decide) ?_
        obtain ⟨σ2, i3, e4, h⟩ := fl_wr_b h
        refine g_st (n := 8) (t0 := 10) hx hb hK hg (wc_a10 ad cz _) (wc_s10 ad cz _) rfl i3 e4 dX1_levelUnboundedArcs_14 (fun H locs hg => ?_)
        refine lv_iinc (v := (x1 + 1)) (lv' := [(1, .int (x1 + 1)), (0, .ref (ad 2))]) hx hb dX1_levelUnboundedArcs_15 hl (k := 1) rfl rfl (by decide) rfl (fun ls hl => ?_)
        refine lv_goto (tgt := 2) hx hb dX1_levelUnboundedArcs_18 (by decide) ?_
        exact ih _ _ _ _ _ _ h hg (lv_sub hl [1, 0] rfl) kk0
  have L39 : ∀ (n : Nat) (x2 : Int32) (x1 : Int32) (x3 : Int32) (σ : fl_St) (o1 : Int32) (σo : fl_St) (H : Heap) (locs : List Loc) (ls : Array Slot), f_X1_levelUnboundedArcs_l39 x2 n x1 x3 σ = some (o1, σo) → gS D (wc ad cz) A s.heap σ H locs → lv_has ls 4 [(0, .ref (ad 2)), (1, .int x1), (2, .int x2), (3, .int x3)] → (∀ (H : Heap) (locs : List Loc) (ls : Array Slot), gS D (wc ad cz) A s.heap σo H locs → lv_has ls 4 [(0, .ref (ad 2)), (1, .int o1), (2, .int x2)] → W p l e rm_X1_levelUnboundedArcs s m args below meth c H locs 0 0 Q (F0 m 116 ls [])) → W p l e rm_X1_levelUnboundedArcs s m args below meth c H locs 0 0 Q (F0 m 39 ls []) := by
    intro n
    induction n with
    | zero =>
      intro x2 x1 x3 σ o1 σo H locs ls h hg hl kk0
      rw [f_X1_levelUnboundedArcs_l39] at h
      cases h
    | succ n ih =>
      intro x2 x1 x3 σ o1 σo H locs ls h hg hl kk0
      rw [f_X1_levelUnboundedArcs_l39] at h
      refine lv_iload_n hx hb dX1_levelUnboundedArcs_39 rfl (lv_at hl 3 rfl) ?_
      refine lv_aload_n hx hb dX1_levelUnboundedArcs_40 rfl (lv_at hl 0 rfl) ?_
      refine va_get (D := D) (ci := 1) (v := .ref (ad 1)) (C := RX1) (T := TX1) (N := 8) hx hb hts k_1 hown hK.1 hg.1 2 rfl rfl 0 (by decide) k_2 (fun _ h9 => h9) rfl dX1_levelUnboundedArcs_41 ?_
      refine va_get (D := D) (ci := 0) (v := .int (σ 12 0)) (C := RX0) (T := TX0) (N := 6) hx hb hts k_4 hown hK.1 hg.1 1 rfl rfl 5 (by decide) k_3 (fun _ h9 => h9) rfl dX1_levelUnboundedArcs_44 ?_
      refine lv_icmp_ge (tgt := 116) hx hb dX1_levelUnboundedArcs_47 (by decide) (fun c9 => ?_) (fun c9 => ?_)
      · have h := fl_ifp c9 h
        obtain ⟨rfl, rfl⟩ := fl_s2 h
        exact kk0 H locs ls hg (lv_sub hl [0, 1, 2] rfl)
      · have h := fl_ifn c9 h
        refine lv_aload_n hx hb dX1_levelUnboundedArcs_50 rfl (lv_at hl 0 rfl) ?_
        refine va_get (D := D) (ci := 1) (v := .ref (ad 1)) (C := RX1) (T := TX1) (N := 8) hx hb hts k_1 hown hK.1 hg.1 2 rfl rfl 0 (by decide) k_2 (fun _ h9 => h9) rfl dX1_levelUnboundedArcs_51 ?_
        refine va_get (D := D) (ci := 0) (v := .ref (ad 5)) (C := RX0) (T := TX0) (N := 6) hx hb hts k_4 hown hK.1 hg.1 1 rfl rfl 2 (by decide) k_5 (fun _ h9 => h9) rfl dX1_levelUnboundedArcs_54 ?_
        refine lv_iload_n hx hb dX1_levelUnboundedArcs_57 rfl (lv_at hl 3 rfl) ?_
        obtain ⟨v10, i11, e12, h⟩ := fl_rd_b h
        refine g_ld (n := 20) (t0 := 2) hx hb hK hg (wc_a2 ad cz _) rfl i11 e12 dX1_levelUnboundedArcs_58 ?_
        refine lv_iconst (v := (-1)) hx hb dX1_levelUnboundedArcs_59 (by decide) ?_
        obtain ⟨w14, σ15, hB17, h⟩ := fl_b2_b h
        have J16 : ∀ (H : Heap) (locs : List Loc) (ls : Array Slot), gS D (wc ad cz) A s.heap σ15 H locs → lv_has ls 4 [(0, .ref (ad 2)), (1, .int w14), (2, .int x2), (3, .int x3)] → W p l e rm_X1_levelUnboundedArcs s m args below meth c H locs 0 0 Q (F0 m 110 ls []) := by
          intro H locs ls hg hl
          refine lv_iinc (v := (x3 + 1)) (lv' := [(3, .int (x3 + 1)), (0, .ref (ad 2)), (1, .int w14), (2, .int x2)]) hx hb dX1_levelUnboundedArcs_110 hl (k := 3) rfl rfl (by decide) rfl (fun ls hl => ?_)
          refine lv_goto (tgt := 39) hx hb dX1_levelUnboundedArcs_113 (by decide) ?_
          exact ih _ _ _ _ _ _ _ _ _ h hg (lv_sub hl [1, 2, 3, 0] rfl) kk0
        clear h
        have h := hB17
        refine lv_icmp_ne (tgt := 110) hx hb dX1_levelUnboundedArcs_60 (by decide) (fun c13 => ?_) (fun c13 => ?_)
        · have h := fl_ifn c13 h
          obtain ⟨rfl, rfl⟩ := fl_s2 h
          exact J16 H locs ls hg (lv_sub hl [0, 1, 2, 3] rfl)
        · have h := fl_ifp c13 h
          refine lv_aload_n hx hb dX1_levelUnboundedArcs_63 rfl (lv_at hl 0 rfl) ?_
          refine lv_iconst (v := (2)) hx hb dX1_levelUnboundedArcs_64 (by decide) ?_
          refine lv_iload_n hx hb dX1_levelUnboundedArcs_65 rfl (lv_at hl 3 rfl) ?_
          refine lv_imul hx hb dX1_levelUnboundedArcs_66 ?_
          obtain ⟨r19, e18, h⟩ := fl_bnd h
          refine g_callVi (As := [.int ((2) * x3)]) (rest := []) ⟨hx, hb, hml, hown, hts⟩ (c_X1_isShortcut l D ad cz (((2) * x3)) (σ) e18) (cwV 1 hts gX1_levelUnboundedArcs_X1_isShortcut rfl rfl rfl (by decide +kernel) ⟨Nat.le_of_ble_eq_true rfl, Nat.le_of_ble_eq_true rfl⟩) (va_recv hK.1 hg.1 (ci := 1) (q0 := 2) rfl rfl) hK hA hg rfl hl.1 rfl (Nat.le_of_ble_eq_true rfl) dX1_levelUnboundedArcs_67 ⟨Nat.le_of_ble_eq_true rfl, Nat.le_of_ble_eq_true rfl⟩ (fun H locs hg => ?_)
          refine lv_if_eq (tgt := 110) hx hb dX1_levelUnboundedArcs_70 (by decide) (fun c20 => ?_) (fun c20 => ?_)
          · have h := fl_ifp c20 h
            obtain ⟨rfl, rfl⟩ := fl_s2 h
            exact J16 H locs ls hg (lv_sub hl [0, 1, 2, 3] rfl)
          · have h := fl_ifn c20 h
            refine lv_aload_n hx hb dX1_levelUnboundedArcs_73 rfl (lv_at hl 0 rfl) ?_
            refine va_get (D := D) (ci := 1) (v := .ref (ad 13)) (C := RX1) (T := TX1) (N := 8) hx hb hts k_1 hown hK.1 hg.1 2 rfl rfl 6 (by decide) k_0 (fun _ h9 => h9) rfl dX1_levelUnboundedArcs_74 ?_
            refine lv_aload_n hx hb dX1_levelUnboundedArcs_77 rfl (lv_at hl 0 rfl) ?_
            refine va_get (D := D) (ci := 1) (v := .ref (ad 9)) (C := RX1) (T := TX1) (N := 8) hx hb hts k_1 hown hK.1 hg.1 2 rfl rfl 2 (by decide) k_6 (fun _ h9 => h9) rfl dX1_levelUnboundedArcs_78 ?_
            refine lv_iconst (v := (2)) hx hb dX1_levelUnboundedArcs_81 (by decide) ?_
            refine lv_iload_n hx hb dX1_levelUnboundedArcs_82 rfl (lv_at hl 3 rfl) ?_
            refine lv_imul hx hb dX1_levelUnboundedArcs_83 ?_
            obtain ⟨v21, i22, e23, h⟩ := fl_rd_b h
            refine g_ld (n := 40) (t0 := 6) hx hb hK hg (wc_a6 ad cz _) rfl i22 e23 dX1_levelUnboundedArcs_84 ?_
            refine lv_aload_n hx hb dX1_levelUnboundedArcs_85 rfl (lv_at hl 0 rfl) ?_
            refine va_get (D := D) (ci := 1) (v := .ref (ad 13)) (C := RX1) (T := TX1) (N := 8) hx hb hts k_1 hown hK.1 hg.1 2 rfl rfl 6 (by decide) k_0 (fun _ h9 => h9) rfl dX1_levelUnboundedArcs_86 ?_
            refine lv_aload_n hx hb dX1_levelUnboundedArcs_89 rfl (lv_at hl 0 rfl) ?_
            refine va_get (D := D) (ci := 1) (v := .ref (ad 8)) (C := RX1) (T := TX1) (N := 8) hx hb hts k_1 hown hK.1 hg.1 2 rfl rfl 1 (by decide) k_7 (fun _ h9 => h9) rfl dX1_levelUnboundedArcs_90 ?_
            refine lv_iconst (v := (2)) hx hb dX1_levelUnboundedArcs_93 (by decide) ?_
            refine lv_iload_n hx hb dX1_levelUnboundedArcs_94 rfl (lv_at hl 3 rfl) ?_
            refine lv_imul hx hb dX1_levelUnboundedArcs_95 ?_
            obtain ⟨v24, i25, e26, h⟩ := fl_rd_b h
            refine g_ld (n := 40) (t0 := 5) hx hb hK hg (wc_a5 ad cz _) rfl i25 e26 dX1_levelUnboundedArcs_96 ?_
            obtain ⟨v27, i28, e29, h⟩ := fl_rd_b h
            refine g_ld (n := 8) (t0 := 10) hx hb hK hg (wc_a10 ad cz _) rfl i28 e29 dX1_levelUnboundedArcs_97 ?_
            refine lv_aload_n hx hb dX1_levelUnboundedArcs_98 rfl (lv_at hl 0 rfl) ?_
            refine va_get (D := D) (ci := 1) (v := .ref (ad 10)) (C := RX1) (T := TX1) (N := 8) hx hb hts k_1 hown hK.1 hg.1 2 rfl rfl 3 (by decide) k_8 (fun _ h9 => h9) rfl dX1_levelUnboundedArcs_99 ?_
            refine lv_iconst (v := (2)) hx hb dX1_levelUnboundedArcs_102 (by decide) ?_
            refine lv_iload_n hx hb dX1_levelUnboundedArcs_103 rfl (lv_at hl 3 rfl) ?_
            refine lv_imul hx hb dX1_levelUnboundedArcs_104 ?_
            obtain ⟨v30, i31, e32, h⟩ := fl_rd_b h
            refine g_ld (n := 40) (t0 := 7) hx hb hK hg (wc_a7 ad cz _) rfl i31 e32 dX1_levelUnboundedArcs_105 ?_
            refine lv_iadd hx hb dX1_levelUnboundedArcs_106 ?_
            obtain ⟨σ33, i34, e35, h⟩ := fl_wr_b h
            refine g_st (n := 8) (t0 := 10) hx hb hK hg (wc_a10 ad cz _) (wc_s10 ad cz _) rfl i34 e35 dX1_levelUnboundedArcs_107 (fun H locs hg => ?_)
            refine lv_iconst (v := (1)) hx hb dX1_levelUnboundedArcs_108 (by decide) ?_
            refine lv_istore_n (lv' := [(1, .int (1)), (0, .ref (ad 2)), (2, .int x2), (3, .int x3)]) hx hb dX1_levelUnboundedArcs_109 rfl hl (by decide) rfl (fun ls hl => ?_)
            obtain ⟨rfl, rfl⟩ := fl_s2 h
            exact J16 H locs ls hg (lv_sub hl [1, 0, 2, 3] rfl)
  have L25 : ∀ (n : Nat) (x1 : Int32) (x2 : Int32) (σ : fl_St) (o1 : Int32) (σo : fl_St) (H : Heap) (locs : List Loc) (ls : Array Slot), f_X1_levelUnboundedArcs_l25 n x1 x2 σ = some (o1, σo) → gS D (wc ad cz) A s.heap σ H locs → lv_has ls 4 [(0, .ref (ad 2)), (1, .int x1), (2, .int x2)] → (∀ (H : Heap) (locs : List Loc) (ls : Array Slot), gS D (wc ad cz) A s.heap σo H locs → lv_has ls 4 [(1, .int o1)] → W p l e rm_X1_levelUnboundedArcs s m args below meth c H locs 0 0 Q (F0 m 122 ls [])) → W p l e rm_X1_levelUnboundedArcs s m args below meth c H locs 0 0 Q (F0 m 25 ls []) := by
    intro n
    induction n with
    | zero =>
      intro x1 x2 σ o1 σo H locs ls h hg hl kk0
      rw [f_X1_levelUnboundedArcs_l25] at h
      cases h
    | succ n ih =>
      intro x1 x2 σ o1 σo H locs ls h hg hl kk0
      rw [f_X1_levelUnboundedArcs_l25] at h
      refine lv_iload_n hx hb dX1_levelUnboundedArcs_25 rfl (lv_at hl 1 rfl) ?_
      refine lv_if_eq (tgt := 122) hx hb dX1_levelUnboundedArcs_26 (by decide) (fun c7 => ?_) (fun c7 => ?_)
      · have h := fl_ifp c7 h
        obtain ⟨rfl, rfl⟩ := fl_s2 h
        exact kk0 H locs ls hg (lv_sub hl [1] rfl)
      · have h := fl_ifn c7 h
        refine lv_iload_n hx hb dX1_levelUnboundedArcs_29 rfl (lv_at hl 2 rfl) ?_
        refine lv_bipush (v := (8)) hx hb dX1_levelUnboundedArcs_30 (by decide) ?_
        refine lv_icmp_ge (tgt := 122) hx hb dX1_levelUnboundedArcs_32 (by decide) (fun c8 => ?_) (fun c8 => ?_)
        · have h := fl_ifp c8 h
          obtain ⟨rfl, rfl⟩ := fl_s2 h
          exact kk0 H locs ls hg (lv_sub hl [1] rfl)
        · have h := fl_ifn c8 h
          refine lv_iconst (v := (0)) hx hb dX1_levelUnboundedArcs_35 (by decide) ?_
          refine lv_istore_n (lv' := [(1, .int (0)), (0, .ref (ad 2)), (2, .int x2)]) hx hb dX1_levelUnboundedArcs_36 rfl hl (by decide) rfl (fun ls hl => ?_)
          refine lv_iconst (v := (0)) hx hb dX1_levelUnboundedArcs_37 (by decide) ?_
          refine lv_istore_n (lv' := [(3, .int (0)), (1, .int (0)), (0, .ref (ad 2)), (2, .int x2)]) hx hb dX1_levelUnboundedArcs_38 rfl hl (by decide) rfl (fun ls hl => ?_)
          obtain ⟨w36, σ37, hB38, h⟩ := fl_b2_b h
          refine L39 fl_N _ _ _ _ _ _ H locs ls hB38 hg (lv_sub hl [2, 1, 3, 0] rfl) (fun H locs ls hg hl => ?_)
          refine lv_iinc (v := (x2 + 1)) (lv' := [(2, .int (x2 + 1)), (0, .ref (ad 2)), (1, .int w36)]) hx hb dX1_levelUnboundedArcs_116 hl (k := 2) rfl rfl (by decide) rfl (fun ls hl => ?_)
          refine lv_goto (tgt := 25) hx hb dX1_levelUnboundedArcs_119 (by decide) ?_
          exact ih _ _ _ _ _ _ _ _ h hg (lv_sub hl [1, 2, 0] rfl) kk0
  unfold f_X1_levelUnboundedArcs at h
  have W0 : ∀ (H : Heap) (locs : List Loc), gS D (wc ad cz) A s.heap σ H locs → W p l e rm_X1_levelUnboundedArcs s m args below meth c H locs 0 0 Q (F0 m 0 ls []) := by
    intro H locs hg
    refine lv_iconst (v := (0)) hx hb dX1_levelUnboundedArcs_0 (by decide) ?_
    refine lv_istore_n (lv' := [(1, .int (0)), (0, .ref (ad 2))]) hx hb dX1_levelUnboundedArcs_1 rfl hl (by decide) rfl (fun ls hl => ?_)
    obtain ⟨σ5, hB6, h⟩ := fl_bnd h
    refine L2 fl_N _ _ _ H locs ls hB6 hg (lv_sub hl [1, 0] rfl) (fun H locs ls hg hl => ?_)
    refine lv_iconst (v := (1)) hx hb dX1_levelUnboundedArcs_21 (by decide) ?_
    refine lv_istore_n (lv' := [(1, .int (1)), (0, .ref (ad 2))]) hx hb dX1_levelUnboundedArcs_22 rfl hl (by decide) rfl (fun ls hl => ?_)
    refine lv_iconst (v := (0)) hx hb dX1_levelUnboundedArcs_23 (by decide) ?_
    refine lv_istore_n (lv' := [(2, .int (0)), (1, .int (1)), (0, .ref (ad 2))]) hx hb dX1_levelUnboundedArcs_24 rfl hl (by decide) rfl (fun ls hl => ?_)
    obtain ⟨w39, σ40, hB41, h⟩ := fl_b2_b h
    refine L25 fl_N _ _ _ _ _ H locs ls hB41 hg (lv_sub hl [2, 1, 0] rfl) (fun H locs ls hg hl => ?_)
    refine lv_iload_n hx hb dX1_levelUnboundedArcs_122 rfl (lv_at hl 0 rfl) ?_
    obtain ⟨t43, hB45, h⟩ := fl_bnd h
    have J44 : ∀ (H : Heap) (locs : List Loc) (ls : Array Slot), gS D (wc ad cz) A s.heap σ40 H locs → lv_has ls 4 [] → W p l e rm_X1_levelUnboundedArcs s m args below meth c H locs 0 0 Q (F0 m 131 ls [.int t43]) := by
      intro H locs ls hg hl
      obtain ⟨z46, h⟩ := fl_bool h
      exact hret _ _ _ _ _ _ h hg (fl_nar2 z46) dX1_levelUnboundedArcs_131
    clear h
    have h := hB45
    refine lv_if_ne (tgt := 130) hx hb dX1_levelUnboundedArcs_123 (by decide) (fun c42 => ?_) (fun c42 => ?_)
    · have h := fl_ifn c42 h
      refine lv_iconst (v := (0)) hx hb dX1_levelUnboundedArcs_130 (by decide) ?_
      obtain rfl := fl_s1 h
      exact J44 H locs ls hg (lv_sub hl [] rfl)
    · have h := fl_ifp c42 h
      refine lv_iconst (v := (1)) hx hb dX1_levelUnboundedArcs_126 (by decide) ?_
      refine lv_goto (tgt := 131) hx hb dX1_levelUnboundedArcs_127 (by decide) ?_
      obtain rfl := fl_s1 h
      exact J44 H locs ls hg (lv_sub hl [] rfl)
  exact W0 _ _ hg
def f_X1_fillLightArcs_l2 : Nat → Int32 → fl_St → Option (fl_St)
  | 0, _, _ => none
  | n + 1, x1, σ => if (σ 12 0) ≤ x1 then (some (σ)) else ((fl_rd σ 2 20 x1).bind fun v2 => (if v2 = (-1) then (some ((0))) else (some ((1)))).bind fun (t6 : Int32) => (if t6 = 0 then (some ((1680))) else ((fl_rd σ 2 20 x1).bind fun v26 => some (v26))).bind fun (t10 : Int32) => (if t6 = 0 then (some ((0))) else ((f_X1_isShortcut ((2) * x1) σ).bind fun r24 => if r24 = 0 then (some ((0))) else (some (t10)))).bind fun (t14 : Int32) => (fl_wr σ 8 40 ((2) * x1) (t10 - t14)).bind fun σ17 => (fl_wr σ17 8 40 (((2) * x1) + (1)) t14).bind fun σ20 => f_X1_fillLightArcs_l2 n (x1 + 1) σ20)
def f_X1_fillLightArcs (σ : fl_St) : Option (fl_St) := (f_X1_fillLightArcs_l2 fl_N (0) σ).bind fun (σ29 : fl_St) => some σ29
def rm_X1_fillLightArcs : Room := { frames := 1, cells := 0, slots := 0, locals := 21 }
set_option maxHeartbeats 4000000 in
set_option maxRecDepth 100000 in
theorem c_X1_fillLightArcs (l : Launch) (D : va_G) (ad : Nat → Nat) (cz : Nat → ClassId) (σ : fl_St) {σ' : fl_St} (h : f_X1_fillLightArcs σ = some σ') : gMv l yX1_fillLightArcs wsX1_fillLightArcs rm_X1_fillLightArcs D (wc ad cz) (wcT cz) wcN [.ref (ad 2)] σ σ' := by
  refine gMv_of (cc := cX1_fillLightArcs) (maxL := 5) (by decide) rfl (Nat.le_of_ble_eq_true rfl) ?_
  intro p e s m args below meth c A Q ls hx hb hml hown hts hK hA hg hl hret
  have hown : s.vm.findClass RX1 = some m.cls := hown
  have hl : lv_has ls 5 [(0, .ref (ad 2))] := hl
  have k_0 := hts (.fieldLink RX1 33 "FlowLedger$Router" "network" "LFlowLedger$Network;") (by decide +kernel)
  have k_1 := (by decide +kernel : ∀ w ∈ wsX10, w ∈ wsX1_fillLightArcs)
  have k_2 := hts (.fieldLink RX1 37 "FlowLedger$Network" "count" "I") (by decide +kernel)
  have k_3 := (by decide +kernel : ∀ w ∈ wsX00, w ∈ wsX1_fillLightArcs)
  have k_4 := hts (.fieldLink RX1 81 "FlowLedger$Network" "capacity" "[I") (by decide +kernel)
  have k_5 := hts (.fieldLink RX1 21 "FlowLedger$Router" "room" "[I") (by decide +kernel)
  have L2 : ∀ (n : Nat) (x1 : Int32) (σ : fl_St) (σo : fl_St) (H : Heap) (locs : List Loc) (ls : Array Slot), f_X1_fillLightArcs_l2 n x1 σ = some (σo) → gS D (wc ad cz) A s.heap σ H locs → lv_has ls 5 [(0, .ref (ad 2)), (1, .int x1)] → (∀ (H : Heap) (locs : List Loc) (ls : Array Slot), gS D (wc ad cz) A s.heap σo H locs → lv_has ls 5 [] → W p l e rm_X1_fillLightArcs s m args below meth c H locs 0 0 Q (F0 m 103 ls [])) → W p l e rm_X1_fillLightArcs s m args below meth c H locs 0 0 Q (F0 m 2 ls []) := by
    intro n
    induction n with
    | zero =>
      intro x1 σ σo H locs ls h hg hl kk0
      rw [f_X1_fillLightArcs_l2] at h
      cases h
    | succ n ih =>
      intro x1 σ σo H locs ls h hg hl kk0
      rw [f_X1_fillLightArcs_l2] at h
      refine lv_iload_n hx hb dX1_fillLightArcs_2 rfl (lv_at hl 1 rfl) ?_
      refine lv_aload_n hx hb dX1_fillLightArcs_3 rfl (lv_at hl 0 rfl) ?_
      refine va_get (D := D) (ci := 1) (v := .ref (ad 1)) (C := RX1) (T := TX1) (N := 8) hx hb hts k_1 hown hK.1 hg.1 2 rfl rfl 0 (by decide) k_0 (fun _ h9 => h9) rfl dX1_fillLightArcs_4 ?_
      refine va_get (D := D) (ci := 0) (v := .int (σ 12 0)) (C := RX0) (T := TX0) (N := 6) hx hb hts k_3 hown hK.1 hg.1 1 rfl rfl 5 (by decide) k_2 (fun _ h9 => h9) rfl dX1_fillLightArcs_7 ?_
      refine lv_icmp_ge (tgt := 103) hx hb dX1_fillLightArcs_10 (by decide) (fun c1 => ?_) (fun c1 => ?_)
      · have h := fl_ifp c1 h
        obtain rfl := fl_s1 h
        exact kk0 H locs ls hg (lv_sub hl [] rfl)
      · have h := fl_ifn c1 h
        refine lv_aload_n hx hb dX1_fillLightArcs_13 rfl (lv_at hl 0 rfl) ?_
        refine va_get (D := D) (ci := 1) (v := .ref (ad 1)) (C := RX1) (T := TX1) (N := 8) hx hb hts k_1 hown hK.1 hg.1 2 rfl rfl 0 (by decide) k_0 (fun _ h9 => h9) rfl dX1_fillLightArcs_14 ?_
        refine va_get (D := D) (ci := 0) (v := .ref (ad 5)) (C := RX0) (T := TX0) (N := 6) hx hb hts k_3 hown hK.1 hg.1 1 rfl rfl 2 (by decide) k_4 (fun _ h9 => h9) rfl dX1_fillLightArcs_17 ?_
        refine lv_iload_n hx hb dX1_fillLightArcs_20 rfl (lv_at hl 1 rfl) ?_
        obtain ⟨v2, i3, e4, h⟩ := fl_rd_b h
        refine g_ld (n := 20) (t0 := 2) hx hb hK hg (wc_a2 ad cz _) rfl i3 e4 dX1_fillLightArcs_21 ?_
        refine lv_iconst (v := (-1)) hx hb dX1_fillLightArcs_22 (by decide) ?_
        obtain ⟨t6, hB8, h⟩ := fl_bnd h
        have J7 : ∀ (H : Heap) (locs : List Loc) (ls : Array Slot), gS D (wc ad cz) A s.heap σ H locs → lv_has ls 5 [(0, .ref (ad 2)), (1, .int x1)] → W p l e rm_X1_fillLightArcs s m args below meth c H locs 0 0 Q (F0 m 31 ls [.int t6]) := by
          intro H locs ls hg hl
          refine lv_istore_n (lv' := [(2, .int t6), (0, .ref (ad 2)), (1, .int x1)]) hx hb dX1_fillLightArcs_31 rfl hl (by decide) rfl (fun ls hl => ?_)
          refine lv_iload_n hx hb dX1_fillLightArcs_32 rfl (lv_at hl 0 rfl) ?_
          obtain ⟨t10, hB12, h⟩ := fl_bnd h
          have J11 : ∀ (H : Heap) (locs : List Loc) (ls : Array Slot), gS D (wc ad cz) A s.heap σ H locs → lv_has ls 5 [(0, .ref (ad 2)), (1, .int x1), (2, .int t6)] → W p l e rm_X1_fillLightArcs s m args below meth c H locs 0 0 Q (F0 m 51 ls [.int t10]) := by
            intro H locs ls hg hl
            refine lv_istore_n (lv' := [(3, .int t10), (0, .ref (ad 2)), (1, .int x1), (2, .int t6)]) hx hb dX1_fillLightArcs_51 rfl hl (by decide) rfl (fun ls hl => ?_)
            refine lv_iload_n hx hb dX1_fillLightArcs_52 rfl (lv_at hl 3 rfl) ?_
            obtain ⟨t14, hB16, h⟩ := fl_bnd h
            have J15 : ∀ (H : Heap) (locs : List Loc) (ls : Array Slot), gS D (wc ad cz) A s.heap σ H locs → lv_has ls 5 [(0, .ref (ad 2)), (1, .int x1), (3, .int t10)] → W p l e rm_X1_fillLightArcs s m args below meth c H locs 0 0 Q (F0 m 71 ls [.int t14]) := by
              intro H locs ls hg hl
              refine lv_istore (lv' := [(4, .int t14), (0, .ref (ad 2)), (1, .int x1), (3, .int t10)]) hx hb dX1_fillLightArcs_71 hl (by decide) rfl (fun ls hl => ?_)
              refine lv_aload_n hx hb dX1_fillLightArcs_73 rfl (lv_at hl 1 rfl) ?_
              refine va_get (D := D) (ci := 1) (v := .ref (ad 11)) (C := RX1) (T := TX1) (N := 8) hx hb hts k_1 hown hK.1 hg.1 2 rfl rfl 4 (by decide) k_5 (fun _ h9 => h9) rfl dX1_fillLightArcs_74 ?_
              refine lv_iconst (v := (2)) hx hb dX1_fillLightArcs_77 (by decide) ?_
              refine lv_iload_n hx hb dX1_fillLightArcs_78 rfl (lv_at hl 2 rfl) ?_
              refine lv_imul hx hb dX1_fillLightArcs_79 ?_
              refine lv_iload_n hx hb dX1_fillLightArcs_80 rfl (lv_at hl 3 rfl) ?_
              refine lv_iload hx hb dX1_fillLightArcs_81 (lv_at hl 0 rfl) ?_
              refine lv_isub hx hb dX1_fillLightArcs_83 ?_
              obtain ⟨σ17, i18, e19, h⟩ := fl_wr_b h
              refine g_st (n := 40) (t0 := 8) hx hb hK hg (wc_a8 ad cz _) (wc_s8 ad cz _) rfl i18 e19 dX1_fillLightArcs_84 (fun H locs hg => ?_)
              refine lv_aload_n hx hb dX1_fillLightArcs_85 rfl (lv_at hl 1 rfl) ?_
              refine va_get (D := D) (ci := 1) (v := .ref (ad 11)) (C := RX1) (T := TX1) (N := 8) hx hb hts k_1 hown hK.1 hg.1 2 rfl rfl 4 (by decide) k_5 (fun _ h9 => h9) rfl dX1_fillLightArcs_86 ?_
              refine lv_iconst (v := (2)) hx hb dX1_fillLightArcs_89 (by decide) ?_
              refine lv_iload_n hx hb dX1_fillLightArcs_90 rfl (lv_at hl 2 rfl) ?_
              refine lv_imul hx hb dX1_fillLightArcs_91 ?_
              refine lv_iconst (v := (1)) hx hb dX1_fillLightArcs_92 (by decide) ?_
              refine lv_iadd hx hb dX1_fillLightArcs_93 ?_
              refine lv_iload hx hb dX1_fillLightArcs_94 (lv_at hl 0 rfl) ?_
              obtain ⟨σ20, i21, e22, h⟩ := fl_wr_b h
              refine g_st (n := 40) (t0 := 8) hx hb hK hg (wc_a8 ad cz _) (wc_s8 ad cz _) rfl i21 e22 dX1_fillLightArcs_96 (fun H locs hg => ?_)
              refine lv_iinc (v := (x1 + 1)) (lv' := [(1, .int (x1 + 1)), (4, .int t14), (0, .ref (ad 2)), (3, .int t10)]) hx hb dX1_fillLightArcs_97 hl (k := 2) rfl rfl (by decide) rfl (fun ls hl => ?_)
              refine lv_goto (tgt := 2) hx hb dX1_fillLightArcs_100 (by decide) ?_
              exact ih _ _ _ _ _ _ h hg (lv_sub hl [2, 0] rfl) kk0
            clear h
            have h := hB16
            refine lv_if_eq (tgt := 70) hx hb dX1_fillLightArcs_53 (by decide) (fun c13 => ?_) (fun c13 => ?_)
            · have h := fl_ifp c13 h
              refine lv_iconst (v := (0)) hx hb dX1_fillLightArcs_70 (by decide) ?_
              obtain rfl := fl_s1 h
              exact J15 H locs ls hg (lv_sub hl [1, 2, 0] rfl)
            · have h := fl_ifn c13 h
              refine lv_aload_n hx hb dX1_fillLightArcs_56 rfl (lv_at hl 1 rfl) ?_
              refine lv_iconst (v := (2)) hx hb dX1_fillLightArcs_57 (by decide) ?_
              refine lv_iload_n hx hb dX1_fillLightArcs_58 rfl (lv_at hl 2 rfl) ?_
              refine lv_imul hx hb dX1_fillLightArcs_59 ?_
              obtain ⟨r24, e23, h⟩ := fl_bnd h
              refine g_callVi (As := [.int ((2) * x1)]) (rest := []) ⟨hx, hb, hml, hown, hts⟩ (c_X1_isShortcut l D ad cz (((2) * x1)) (σ) e23) (cwV 1 hts gX1_fillLightArcs_X1_isShortcut rfl rfl rfl (by decide +kernel) ⟨Nat.le_of_ble_eq_true rfl, Nat.le_of_ble_eq_true rfl⟩) (va_recv hK.1 hg.1 (ci := 1) (q0 := 2) rfl rfl) hK hA hg rfl hl.1 rfl (Nat.le_of_ble_eq_true rfl) dX1_fillLightArcs_60 ⟨Nat.le_of_ble_eq_true rfl, Nat.le_of_ble_eq_true rfl⟩ (fun H locs hg => ?_)
              refine lv_if_eq (tgt := 70) hx hb dX1_fillLightArcs_63 (by decide) (fun c25 => ?_) (fun c25 => ?_)
              · have h := fl_ifp c25 h
                refine lv_iconst (v := (0)) hx hb dX1_fillLightArcs_70 (by decide) ?_
                obtain rfl := fl_s1 h
                exact J15 H locs ls hg (lv_sub hl [1, 2, 0] rfl)
              · have h := fl_ifn c25 h
                refine lv_iload_n hx hb dX1_fillLightArcs_66 rfl (lv_at hl 0 rfl) ?_
                refine lv_goto (tgt := 71) hx hb dX1_fillLightArcs_67 (by decide) ?_
                obtain rfl := fl_s1 h
                exact J15 H locs ls hg (lv_sub hl [1, 2, 0] rfl)
          clear h
          have h := hB12
          refine lv_if_eq (tgt := 48) hx hb dX1_fillLightArcs_33 (by decide) (fun c9 => ?_) (fun c9 => ?_)
          · have h := fl_ifp c9 h
            refine lv_sipush (v := (1680)) hx hb dX1_fillLightArcs_48 (by decide) ?_
            obtain rfl := fl_s1 h
            exact J11 H locs ls hg (lv_sub hl [1, 2, 0] rfl)
          · have h := fl_ifn c9 h
            refine lv_aload_n hx hb dX1_fillLightArcs_36 rfl (lv_at hl 1 rfl) ?_
            refine va_get (D := D) (ci := 1) (v := .ref (ad 1)) (C := RX1) (T := TX1) (N := 8) hx hb hts k_1 hown hK.1 hg.1 2 rfl rfl 0 (by decide) k_0 (fun _ h9 => h9) rfl dX1_fillLightArcs_37 ?_
            refine va_get (D := D) (ci := 0) (v := .ref (ad 5)) (C := RX0) (T := TX0) (N := 6) hx hb hts k_3 hown hK.1 hg.1 1 rfl rfl 2 (by decide) k_4 (fun _ h9 => h9) rfl dX1_fillLightArcs_40 ?_
            refine lv_iload_n hx hb dX1_fillLightArcs_43 rfl (lv_at hl 2 rfl) ?_
            obtain ⟨v26, i27, e28, h⟩ := fl_rd_b h
            refine g_ld (n := 20) (t0 := 2) hx hb hK hg (wc_a2 ad cz _) rfl i27 e28 dX1_fillLightArcs_44 ?_
            refine lv_goto (tgt := 51) hx hb dX1_fillLightArcs_45 (by decide) ?_
            obtain rfl := fl_s1 h
            exact J11 H locs ls hg (lv_sub hl [1, 2, 0] rfl)
        clear h
        have h := hB8
        refine lv_icmp_eq (tgt := 30) hx hb dX1_fillLightArcs_23 (by decide) (fun c5 => ?_) (fun c5 => ?_)
        · have h := fl_ifp c5 h
          refine lv_iconst (v := (0)) hx hb dX1_fillLightArcs_30 (by decide) ?_
          obtain rfl := fl_s1 h
          exact J7 H locs ls hg (lv_sub hl [0, 1] rfl)
        · have h := fl_ifn c5 h
          refine lv_iconst (v := (1)) hx hb dX1_fillLightArcs_26 (by decide) ?_
          refine lv_goto (tgt := 31) hx hb dX1_fillLightArcs_27 (by decide) ?_
          obtain rfl := fl_s1 h
          exact J7 H locs ls hg (lv_sub hl [0, 1] rfl)
  unfold f_X1_fillLightArcs at h
  have W0 : ∀ (H : Heap) (locs : List Loc), gS D (wc ad cz) A s.heap σ H locs → W p l e rm_X1_fillLightArcs s m args below meth c H locs 0 0 Q (F0 m 0 ls []) := by
    intro H locs hg
    refine lv_iconst (v := (0)) hx hb dX1_fillLightArcs_0 (by decide) ?_
    refine lv_istore_n (lv' := [(1, .int (0)), (0, .ref (ad 2))]) hx hb dX1_fillLightArcs_1 rfl hl (by decide) rfl (fun ls hl => ?_)
    obtain ⟨σ29, hB30, h⟩ := fl_bnd h
    refine L2 fl_N _ _ _ H locs ls hB30 hg (lv_sub hl [1, 0] rfl) (fun H locs ls hg hl => ?_)
    exact hret _ _ _ _ _ h hg dX1_fillLightArcs_103
  exact W0 _ _ hg
def f_X1_countExcess_l2 : Nat → Int32 → fl_St → Option (fl_St)
  | 0, _, _ => none
  | n + 1, x1, σ => if (8) ≤ x1 then (some (σ)) else ((fl_rd σ 4 8 x1).bind fun v2 => (fl_wr σ 9 8 x1 v2).bind fun σ5 => f_X1_countExcess_l2 n (x1 + 1) σ5)
def f_X1_countExcess_l31 : Nat → Int32 → fl_St → Option (fl_St)
  | 0, _, _ => none
  | n + 1, x1, σ => if (σ 12 0) ≤ x1 then (some (σ)) else ((fl_rd σ 0 20 x1).bind fun v11 => (fl_rd σ 9 8 v11).bind fun v14 => (fl_rd σ 8 40 (((2) * x1) + (1))).bind fun v17 => (fl_wr σ 9 8 v11 (v14 - v17)).bind fun σ20 => (fl_rd σ20 1 20 x1).bind fun v23 => (fl_rd σ20 9 8 v23).bind fun v26 => (fl_rd σ20 8 40 (((2) * x1) + (1))).bind fun v29 => (fl_wr σ20 9 8 v23 (v26 + v29)).bind fun σ32 => f_X1_countExcess_l31 n (x1 + 1) σ32)
def f_X1_countExcess (σ : fl_St) : Option (fl_St) := (f_X1_countExcess_l2 fl_N (0) σ).bind fun (σ8 : fl_St) => (f_X1_countExcess_l31 fl_N (0) σ8).bind fun (σ35 : fl_St) => some σ35
def rm_X1_countExcess : Room := { frames := 0, cells := 0, slots := 0, locals := 0 }
set_option maxHeartbeats 4000000 in
set_option maxRecDepth 100000 in
theorem c_X1_countExcess (l : Launch) (D : va_G) (ad : Nat → Nat) (cz : Nat → ClassId) (σ : fl_St) {σ' : fl_St} (h : f_X1_countExcess σ = some σ') : gMv l yX1_countExcess wsX1_countExcess rm_X1_countExcess D (wc ad cz) (wcT cz) wcN [.ref (ad 2)] σ σ' := by
  refine gMv_of (cc := cX1_countExcess) (maxL := 2) (by decide) rfl (Nat.le_of_ble_eq_true rfl) ?_
  intro p e s m args below meth c A Q ls hx hb hml hown hts hK hA hg hl hret
  have hown : s.vm.findClass RX1 = some m.cls := hown
  have hl : lv_has ls 2 [(0, .ref (ad 2))] := hl
  have k_0 := hts (.fieldLink RX1 24 "FlowLedger$Router" "excess" "[I") (by decide +kernel)
  have k_1 := (by decide +kernel : ∀ w ∈ wsX10, w ∈ wsX1_countExcess)
  have k_2 := hts (.fieldLink RX1 33 "FlowLedger$Router" "network" "LFlowLedger$Network;") (by decide +kernel)
  have k_3 := hts (.fieldLink RX1 88 "FlowLedger$Network" "supply" "[I") (by decide +kernel)
  have k_4 := (by decide +kernel : ∀ w ∈ wsX00, w ∈ wsX1_countExcess)
  have k_5 := hts (.fieldLink RX1 37 "FlowLedger$Network" "count" "I") (by decide +kernel)
  have k_6 := hts (.fieldLink RX1 43 "FlowLedger$Network" "from" "[I") (by decide +kernel)
  have k_7 := hts (.fieldLink RX1 21 "FlowLedger$Router" "room" "[I") (by decide +kernel)
  have k_8 := hts (.fieldLink RX1 46 "FlowLedger$Network" "to" "[I") (by decide +kernel)
  have L2 : ∀ (n : Nat) (x1 : Int32) (σ : fl_St) (σo : fl_St) (H : Heap) (locs : List Loc) (ls : Array Slot), f_X1_countExcess_l2 n x1 σ = some (σo) → gS D (wc ad cz) A s.heap σ H locs → lv_has ls 2 [(0, .ref (ad 2)), (1, .int x1)] → (∀ (H : Heap) (locs : List Loc) (ls : Array Slot), gS D (wc ad cz) A s.heap σo H locs → lv_has ls 2 [(0, .ref (ad 2))] → W p l e rm_X1_countExcess s m args below meth c H locs 0 0 Q (F0 m 29 ls [])) → W p l e rm_X1_countExcess s m args below meth c H locs 0 0 Q (F0 m 2 ls []) := by
    intro n
    induction n with
    | zero =>
      intro x1 σ σo H locs ls h hg hl kk0
      rw [f_X1_countExcess_l2] at h
      cases h
    | succ n ih =>
      intro x1 σ σo H locs ls h hg hl kk0
      rw [f_X1_countExcess_l2] at h
      refine lv_iload_n hx hb dX1_countExcess_2 rfl (lv_at hl 1 rfl) ?_
      refine lv_bipush (v := (8)) hx hb dX1_countExcess_3 (by decide) ?_
      refine lv_icmp_ge (tgt := 29) hx hb dX1_countExcess_5 (by decide) (fun c1 => ?_) (fun c1 => ?_)
      · have h := fl_ifp c1 h
        obtain rfl := fl_s1 h
        exact kk0 H locs ls hg (lv_sub hl [0] rfl)
      · have h := fl_ifn c1 h
        refine lv_aload_n hx hb dX1_countExcess_8 rfl (lv_at hl 0 rfl) ?_
        refine va_get (D := D) (ci := 1) (v := .ref (ad 12)) (C := RX1) (T := TX1) (N := 8) hx hb hts k_1 hown hK.1 hg.1 2 rfl rfl 5 (by decide) k_0 (fun _ h9 => h9) rfl dX1_countExcess_9 ?_
        refine lv_iload_n hx hb dX1_countExcess_12 rfl (lv_at hl 1 rfl) ?_
        refine lv_aload_n hx hb dX1_countExcess_13 rfl (lv_at hl 0 rfl) ?_
        refine va_get (D := D) (ci := 1) (v := .ref (ad 1)) (C := RX1) (T := TX1) (N := 8) hx hb hts k_1 hown hK.1 hg.1 2 rfl rfl 0 (by decide) k_2 (fun _ h9 => h9) rfl dX1_countExcess_14 ?_
        refine va_get (D := D) (ci := 0) (v := .ref (ad 7)) (C := RX0) (T := TX0) (N := 6) hx hb hts k_4 hown hK.1 hg.1 1 rfl rfl 4 (by decide) k_3 (fun _ h9 => h9) rfl dX1_countExcess_17 ?_
        refine lv_iload_n hx hb dX1_countExcess_20 rfl (lv_at hl 1 rfl) ?_
        obtain ⟨v2, i3, e4, h⟩ := fl_rd_b h
        refine g_ld (n := 8) (t0 := 4) hx hb hK hg (wc_a4 ad cz _) rfl i3 e4 dX1_countExcess_21 ?_
        obtain ⟨σ5, i6, e7, h⟩ := fl_wr_b h
        refine g_st (n := 8) (t0 := 9) hx hb hK hg (wc_a9 ad cz _) (wc_s9 ad cz _) rfl i6 e7 dX1_countExcess_22 (fun H locs hg => ?_)
        refine lv_iinc (v := (x1 + 1)) (lv' := [(1, .int (x1 + 1)), (0, .ref (ad 2))]) hx hb dX1_countExcess_23 hl (k := 1) rfl rfl (by decide) rfl (fun ls hl => ?_)
        refine lv_goto (tgt := 2) hx hb dX1_countExcess_26 (by decide) ?_
        exact ih _ _ _ _ _ _ h hg (lv_sub hl [1, 0] rfl) kk0
  have L31 : ∀ (n : Nat) (x1 : Int32) (σ : fl_St) (σo : fl_St) (H : Heap) (locs : List Loc) (ls : Array Slot), f_X1_countExcess_l31 n x1 σ = some (σo) → gS D (wc ad cz) A s.heap σ H locs → lv_has ls 2 [(0, .ref (ad 2)), (1, .int x1)] → (∀ (H : Heap) (locs : List Loc) (ls : Array Slot), gS D (wc ad cz) A s.heap σo H locs → lv_has ls 2 [] → W p l e rm_X1_countExcess s m args below meth c H locs 0 0 Q (F0 m 102 ls [])) → W p l e rm_X1_countExcess s m args below meth c H locs 0 0 Q (F0 m 31 ls []) := by
    intro n
    induction n with
    | zero =>
      intro x1 σ σo H locs ls h hg hl kk0
      rw [f_X1_countExcess_l31] at h
      cases h
    | succ n ih =>
      intro x1 σ σo H locs ls h hg hl kk0
      rw [f_X1_countExcess_l31] at h
      refine lv_iload_n hx hb dX1_countExcess_31 rfl (lv_at hl 1 rfl) ?_
      refine lv_aload_n hx hb dX1_countExcess_32 rfl (lv_at hl 0 rfl) ?_
      refine va_get (D := D) (ci := 1) (v := .ref (ad 1)) (C := RX1) (T := TX1) (N := 8) hx hb hts k_1 hown hK.1 hg.1 2 rfl rfl 0 (by decide) k_2 (fun _ h9 => h9) rfl dX1_countExcess_33 ?_
      refine va_get (D := D) (ci := 0) (v := .int (σ 12 0)) (C := RX0) (T := TX0) (N := 6) hx hb hts k_4 hown hK.1 hg.1 1 rfl rfl 5 (by decide) k_5 (fun _ h9 => h9) rfl dX1_countExcess_36 ?_
      refine lv_icmp_ge (tgt := 102) hx hb dX1_countExcess_39 (by decide) (fun c10 => ?_) (fun c10 => ?_)
      · have h := fl_ifp c10 h
        obtain rfl := fl_s1 h
        exact kk0 H locs ls hg (lv_sub hl [] rfl)
      · have h := fl_ifn c10 h
        refine lv_aload_n hx hb dX1_countExcess_42 rfl (lv_at hl 0 rfl) ?_
        refine va_get (D := D) (ci := 1) (v := .ref (ad 12)) (C := RX1) (T := TX1) (N := 8) hx hb hts k_1 hown hK.1 hg.1 2 rfl rfl 5 (by decide) k_0 (fun _ h9 => h9) rfl dX1_countExcess_43 ?_
        refine lv_aload_n hx hb dX1_countExcess_46 rfl (lv_at hl 0 rfl) ?_
        refine va_get (D := D) (ci := 1) (v := .ref (ad 1)) (C := RX1) (T := TX1) (N := 8) hx hb hts k_1 hown hK.1 hg.1 2 rfl rfl 0 (by decide) k_2 (fun _ h9 => h9) rfl dX1_countExcess_47 ?_
        refine va_get (D := D) (ci := 0) (v := .ref (ad 3)) (C := RX0) (T := TX0) (N := 6) hx hb hts k_4 hown hK.1 hg.1 1 rfl rfl 0 (by decide) k_6 (fun _ h9 => h9) rfl dX1_countExcess_50 ?_
        refine lv_iload_n hx hb dX1_countExcess_53 rfl (lv_at hl 1 rfl) ?_
        obtain ⟨v11, i12, e13, h⟩ := fl_rd_b h
        refine g_ld (n := 20) (t0 := 0) hx hb hK hg (wc_a0 ad cz _) rfl i12 e13 dX1_countExcess_54 ?_
        refine lv_dup2_11 hx hb dX1_countExcess_55 rfl rfl ?_
        obtain ⟨v14, i15, e16, h⟩ := fl_rd_b h
        refine g_ld (n := 8) (t0 := 9) hx hb hK hg (wc_a9 ad cz _) rfl i15 e16 dX1_countExcess_56 ?_
        refine lv_aload_n hx hb dX1_countExcess_57 rfl (lv_at hl 0 rfl) ?_
        refine va_get (D := D) (ci := 1) (v := .ref (ad 11)) (C := RX1) (T := TX1) (N := 8) hx hb hts k_1 hown hK.1 hg.1 2 rfl rfl 4 (by decide) k_7 (fun _ h9 => h9) rfl dX1_countExcess_58 ?_
        refine lv_iconst (v := (2)) hx hb dX1_countExcess_61 (by decide) ?_
        refine lv_iload_n hx hb dX1_countExcess_62 rfl (lv_at hl 1 rfl) ?_
        refine lv_imul hx hb dX1_countExcess_63 ?_
        refine lv_iconst (v := (1)) hx hb dX1_countExcess_64 (by decide) ?_
        refine lv_iadd hx hb dX1_countExcess_65 ?_
        obtain ⟨v17, i18, e19, h⟩ := fl_rd_b h
        refine g_ld (n := 40) (t0 := 8) hx hb hK hg (wc_a8 ad cz _) rfl i18 e19 dX1_countExcess_66 ?_
        refine lv_isub hx hb dX1_countExcess_67 ?_
        obtain ⟨σ20, i21, e22, h⟩ := fl_wr_b h
        refine g_st (n := 8) (t0 := 9) hx hb hK hg (wc_a9 ad cz _) (wc_s9 ad cz _) rfl i21 e22 dX1_countExcess_68 (fun H locs hg => ?_)
        refine lv_aload_n hx hb dX1_countExcess_69 rfl (lv_at hl 0 rfl) ?_
        refine va_get (D := D) (ci := 1) (v := .ref (ad 12)) (C := RX1) (T := TX1) (N := 8) hx hb hts k_1 hown hK.1 hg.1 2 rfl rfl 5 (by decide) k_0 (fun _ h9 => h9) rfl dX1_countExcess_70 ?_
        refine lv_aload_n hx hb dX1_countExcess_73 rfl (lv_at hl 0 rfl) ?_
        refine va_get (D := D) (ci := 1) (v := .ref (ad 1)) (C := RX1) (T := TX1) (N := 8) hx hb hts k_1 hown hK.1 hg.1 2 rfl rfl 0 (by decide) k_2 (fun _ h9 => h9) rfl dX1_countExcess_74 ?_
        refine va_get (D := D) (ci := 0) (v := .ref (ad 4)) (C := RX0) (T := TX0) (N := 6) hx hb hts k_4 hown hK.1 hg.1 1 rfl rfl 1 (by decide) k_8 (fun _ h9 => h9) rfl dX1_countExcess_77 ?_
        refine lv_iload_n hx hb dX1_countExcess_80 rfl (lv_at hl 1 rfl) ?_
        obtain ⟨v23, i24, e25, h⟩ := fl_rd_b h
        refine g_ld (n := 20) (t0 := 1) hx hb hK hg (wc_a1 ad cz _) rfl i24 e25 dX1_countExcess_81 ?_
        refine lv_dup2_11 hx hb dX1_countExcess_82 rfl rfl ?_
        obtain ⟨v26, i27, e28, h⟩ := fl_rd_b h
        refine g_ld (n := 8) (t0 := 9) hx hb hK hg (wc_a9 ad cz _) rfl i27 e28 dX1_countExcess_83 ?_
        refine lv_aload_n hx hb dX1_countExcess_84 rfl (lv_at hl 0 rfl) ?_
        refine va_get (D := D) (ci := 1) (v := .ref (ad 11)) (C := RX1) (T := TX1) (N := 8) hx hb hts k_1 hown hK.1 hg.1 2 rfl rfl 4 (by decide) k_7 (fun _ h9 => h9) rfl dX1_countExcess_85 ?_
        refine lv_iconst (v := (2)) hx hb dX1_countExcess_88 (by decide) ?_
        refine lv_iload_n hx hb dX1_countExcess_89 rfl (lv_at hl 1 rfl) ?_
        refine lv_imul hx hb dX1_countExcess_90 ?_
        refine lv_iconst (v := (1)) hx hb dX1_countExcess_91 (by decide) ?_
        refine lv_iadd hx hb dX1_countExcess_92 ?_
        obtain ⟨v29, i30, e31, h⟩ := fl_rd_b h
        refine g_ld (n := 40) (t0 := 8) hx hb hK hg (wc_a8 ad cz _) rfl i30 e31 dX1_countExcess_93 ?_
        refine lv_iadd hx hb dX1_countExcess_94 ?_
        obtain ⟨σ32, i33, e34, h⟩ := fl_wr_b h
        refine g_st (n := 8) (t0 := 9) hx hb hK hg (wc_a9 ad cz _) (wc_s9 ad cz _) rfl i33 e34 dX1_countExcess_95 (fun H locs hg => ?_)
        refine lv_iinc (v := (x1 + 1)) (lv' := [(1, .int (x1 + 1)), (0, .ref (ad 2))]) hx hb dX1_countExcess_96 hl (k := 1) rfl rfl (by decide) rfl (fun ls hl => ?_)
        refine lv_goto (tgt := 31) hx hb dX1_countExcess_99 (by decide) ?_
        exact ih _ _ _ _ _ _ h hg (lv_sub hl [1, 0] rfl) kk0
  unfold f_X1_countExcess at h
  have W0 : ∀ (H : Heap) (locs : List Loc), gS D (wc ad cz) A s.heap σ H locs → W p l e rm_X1_countExcess s m args below meth c H locs 0 0 Q (F0 m 0 ls []) := by
    intro H locs hg
    refine lv_iconst (v := (0)) hx hb dX1_countExcess_0 (by decide) ?_
    refine lv_istore_n (lv' := [(1, .int (0)), (0, .ref (ad 2))]) hx hb dX1_countExcess_1 rfl hl (by decide) rfl (fun ls hl => ?_)
    obtain ⟨σ8, hB9, h⟩ := fl_bnd h
    refine L2 fl_N _ _ _ H locs ls hB9 hg (lv_sub hl [1, 0] rfl) (fun H locs ls hg hl => ?_)
    refine lv_iconst (v := (0)) hx hb dX1_countExcess_29 (by decide) ?_
    refine lv_istore_n (lv' := [(1, .int (0)), (0, .ref (ad 2))]) hx hb dX1_countExcess_30 rfl hl (by decide) rfl (fun ls hl => ?_)
    obtain ⟨σ35, hB36, h⟩ := fl_bnd h
    refine L31 fl_N _ _ _ H locs ls hB36 hg (lv_sub hl [1, 0] rfl) (fun H locs ls hg hl => ?_)
    exact hret _ _ _ _ _ h hg dX1_countExcess_102
  exact W0 _ _ hg
def f_X1_measure_l19 (x1 : Int32) (x3 : Int32) : Nat → Int32 → Int32 → fl_St → Option (Int32 × fl_St)
  | 0, _, _, _ => none
  | n + 1, x2, x4, σ => if ((2) * (σ 12 0)) ≤ x4 then (some (x2, σ)) else ((fl_rd σ 8 40 x4).bind fun v4 => (if v4 ≤ 0 then (some ((0))) else (if (x4 >>> ((1) &&& 31)) = x1 then (some ((0))) else (some ((1))))).bind fun (t8 : Int32) => fl_b2 (if t8 = 0 then (some (x2, σ)) else ((fl_rd σ 5 40 x4).bind fun v16 => (fl_rd σ 10 8 v16).bind fun v19 => if (1000000000) ≤ v19 then (some (x2, σ)) else ((f_X1_isShortcut x4 σ).bind fun r24 => if r24 = 0 then (some (x2, σ)) else ((fl_rd σ 6 40 x4).bind fun v26 => (fl_rd σ 5 40 x4).bind fun v29 => (fl_rd σ 10 8 v29).bind fun v32 => (fl_rd σ 7 40 x4).bind fun v35 => (fl_wr σ 10 8 v26 (v32 + v35)).bind fun σ38 => (fl_rd σ38 6 40 x4).bind fun v41 => (fl_wr σ38 11 8 v41 x4).bind fun σ44 => some ((1), σ44))))) fun (w12 : Int32) (σ13 : fl_St) => f_X1_measure_l19 x1 x3 n w12 (x4 + 1) σ13)
def f_X1_measure_l4 (x1 : Int32) : Nat → Int32 → Int32 → fl_St → Option (fl_St)
  | 0, _, _, _ => none
  | n + 1, x2, x3, σ => if x2 = 0 then (some (σ)) else (if (8) ≤ x3 then (some (σ)) else (fl_b2 (f_X1_measure_l19 x1 x3 fl_N (0) (0) σ) fun (w48 : Int32) (σ49 : fl_St) => f_X1_measure_l4 x1 n w48 (x3 + 1) σ49))
def f_X1_measure (x1 : Int32) (σ : fl_St) : Option (fl_St) := (f_X1_measure_l4 x1 fl_N (1) (0) σ).bind fun (σ51 : fl_St) => some σ51
def rm_X1_measure : Room := { frames := 1, cells := 0, slots := 0, locals := 21 }
set_option maxHeartbeats 4000000 in
set_option maxRecDepth 100000 in
theorem c_X1_measure (l : Launch) (D : va_G) (ad : Nat → Nat) (cz : Nat → ClassId) (x1 : Int32) (σ : fl_St) {σ' : fl_St} (h : f_X1_measure x1 σ = some σ') : gMv l yX1_measure wsX1_measure rm_X1_measure D (wc ad cz) (wcT cz) wcN [.ref (ad 2), .int x1] σ σ' := by
  refine gMv_of (cc := cX1_measure) (maxL := 6) (by decide) rfl (Nat.le_of_ble_eq_true rfl) ?_
  intro p e s m args below meth c A Q ls hx hb hml hown hts hK hA hg hl hret
  have hown : s.vm.findClass RX1 = some m.cls := hown
  have hl : lv_has ls 6 [(0, .ref (ad 2)), (1, .int x1)] := hl
  have k_0 := hts (.fieldLink RX1 33 "FlowLedger$Router" "network" "LFlowLedger$Network;") (by decide +kernel)
  have k_1 := (by decide +kernel : ∀ w ∈ wsX10, w ∈ wsX1_measure)
  have k_2 := hts (.fieldLink RX1 37 "FlowLedger$Network" "count" "I") (by decide +kernel)
  have k_3 := (by decide +kernel : ∀ w ∈ wsX00, w ∈ wsX1_measure)
  have k_4 := hts (.fieldLink RX1 21 "FlowLedger$Router" "room" "[I") (by decide +kernel)
  have k_5 := hts (.fieldLink RX1 27 "FlowLedger$Router" "distance" "[I") (by decide +kernel)
  have k_6 := hts (.fieldLink RX1 9 "FlowLedger$Router" "tail" "[I") (by decide +kernel)
  have k_7 := hts (.constant RX1 76 (1000000000)) (by decide +kernel)
  have k_8 := hts (.fieldLink RX1 15 "FlowLedger$Router" "head" "[I") (by decide +kernel)
  have k_9 := hts (.fieldLink RX1 18 "FlowLedger$Router" "weight" "[I") (by decide +kernel)
  have k_10 := hts (.fieldLink RX1 30 "FlowLedger$Router" "entry" "[I") (by decide +kernel)
  have L19 : ∀ (n : Nat) (x1 : Int32) (x3 : Int32) (x2 : Int32) (x4 : Int32) (σ : fl_St) (o2 : Int32) (σo : fl_St) (H : Heap) (locs : List Loc) (ls : Array Slot), f_X1_measure_l19 x1 x3 n x2 x4 σ = some (o2, σo) → gS D (wc ad cz) A s.heap σ H locs → lv_has ls 6 [(0, .ref (ad 2)), (1, .int x1), (2, .int x2), (3, .int x3), (4, .int x4)] → (∀ (H : Heap) (locs : List Loc) (ls : Array Slot), gS D (wc ad cz) A s.heap σo H locs → lv_has ls 6 [(0, .ref (ad 2)), (1, .int x1), (2, .int o2), (3, .int x3)] → W p l e rm_X1_measure s m args below meth c H locs 0 0 Q (F0 m 143 ls [])) → W p l e rm_X1_measure s m args below meth c H locs 0 0 Q (F0 m 19 ls []) := by
    intro n
    induction n with
    | zero =>
      intro x1 x3 x2 x4 σ o2 σo H locs ls h hg hl kk0
      rw [f_X1_measure_l19] at h
      cases h
    | succ n ih =>
      intro x1 x3 x2 x4 σ o2 σo H locs ls h hg hl kk0
      rw [f_X1_measure_l19] at h
      refine lv_iload hx hb dX1_measure_19 (lv_at hl 4 rfl) ?_
      refine lv_iconst (v := (2)) hx hb dX1_measure_21 (by decide) ?_
      refine lv_aload_n hx hb dX1_measure_22 rfl (lv_at hl 0 rfl) ?_
      refine va_get (D := D) (ci := 1) (v := .ref (ad 1)) (C := RX1) (T := TX1) (N := 8) hx hb hts k_1 hown hK.1 hg.1 2 rfl rfl 0 (by decide) k_0 (fun _ h9 => h9) rfl dX1_measure_23 ?_
      refine va_get (D := D) (ci := 0) (v := .int (σ 12 0)) (C := RX0) (T := TX0) (N := 6) hx hb hts k_3 hown hK.1 hg.1 1 rfl rfl 5 (by decide) k_2 (fun _ h9 => h9) rfl dX1_measure_26 ?_
      refine lv_imul hx hb dX1_measure_29 ?_
      refine lv_icmp_ge (tgt := 143) hx hb dX1_measure_30 (by decide) (fun c3 => ?_) (fun c3 => ?_)
      · have h := fl_ifp c3 h
        obtain ⟨rfl, rfl⟩ := fl_s2 h
        exact kk0 H locs ls hg (lv_sub hl [0, 1, 2, 3] rfl)
      · have h := fl_ifn c3 h
        refine lv_aload_n hx hb dX1_measure_33 rfl (lv_at hl 0 rfl) ?_
        refine va_get (D := D) (ci := 1) (v := .ref (ad 11)) (C := RX1) (T := TX1) (N := 8) hx hb hts k_1 hown hK.1 hg.1 2 rfl rfl 4 (by decide) k_4 (fun _ h9 => h9) rfl dX1_measure_34 ?_
        refine lv_iload hx hb dX1_measure_37 (lv_at hl 4 rfl) ?_
        obtain ⟨v4, i5, e6, h⟩ := fl_rd_b h
        refine g_ld (n := 40) (t0 := 8) hx hb hK hg (wc_a8 ad cz _) rfl i5 e6 dX1_measure_39 ?_
        obtain ⟨t8, hB10, h⟩ := fl_bnd h
        have J9 : ∀ (H : Heap) (locs : List Loc) (ls : Array Slot), gS D (wc ad cz) A s.heap σ H locs → lv_has ls 6 [(0, .ref (ad 2)), (1, .int x1), (2, .int x2), (3, .int x3), (4, .int x4)] → W p l e rm_X1_measure s m args below meth c H locs 0 0 Q (F0 m 56 ls [.int t8]) := by
          intro H locs ls hg hl
          refine lv_istore (lv' := [(5, .int t8), (0, .ref (ad 2)), (1, .int x1), (2, .int x2), (3, .int x3), (4, .int x4)]) hx hb dX1_measure_56 hl (by decide) rfl (fun ls hl => ?_)
          refine lv_iload hx hb dX1_measure_58 (lv_at hl 0 rfl) ?_
          obtain ⟨w12, σ13, hB15, h⟩ := fl_b2_b h
          have J14 : ∀ (H : Heap) (locs : List Loc) (ls : Array Slot), gS D (wc ad cz) A s.heap σ13 H locs → lv_has ls 6 [(0, .ref (ad 2)), (1, .int x1), (2, .int w12), (3, .int x3), (4, .int x4)] → W p l e rm_X1_measure s m args below meth c H locs 0 0 Q (F0 m 137 ls []) := by
            intro H locs ls hg hl
            refine lv_iinc (v := (x4 + 1)) (lv' := [(4, .int (x4 + 1)), (0, .ref (ad 2)), (1, .int x1), (2, .int w12), (3, .int x3)]) hx hb dX1_measure_137 hl (k := 4) rfl rfl (by decide) rfl (fun ls hl => ?_)
            refine lv_goto (tgt := 19) hx hb dX1_measure_140 (by decide) ?_
            exact ih _ _ _ _ _ _ _ _ _ _ h hg (lv_sub hl [1, 2, 3, 4, 0] rfl) kk0
          clear h
          have h := hB15
          refine lv_if_eq (tgt := 137) hx hb dX1_measure_60 (by decide) (fun c11 => ?_) (fun c11 => ?_)
          · have h := fl_ifp c11 h
            obtain ⟨rfl, rfl⟩ := fl_s2 h
            exact J14 H locs ls hg (lv_sub hl [1, 2, 3, 4, 5] rfl)
          · have h := fl_ifn c11 h
            refine lv_aload_n hx hb dX1_measure_63 rfl (lv_at hl 1 rfl) ?_
            refine va_get (D := D) (ci := 1) (v := .ref (ad 13)) (C := RX1) (T := TX1) (N := 8) hx hb hts k_1 hown hK.1 hg.1 2 rfl rfl 6 (by decide) k_5 (fun _ h9 => h9) rfl dX1_measure_64 ?_
            refine lv_aload_n hx hb dX1_measure_67 rfl (lv_at hl 1 rfl) ?_
            refine va_get (D := D) (ci := 1) (v := .ref (ad 8)) (C := RX1) (T := TX1) (N := 8) hx hb hts k_1 hown hK.1 hg.1 2 rfl rfl 1 (by decide) k_6 (fun _ h9 => h9) rfl dX1_measure_68 ?_
            refine lv_iload hx hb dX1_measure_71 (lv_at hl 5 rfl) ?_
            obtain ⟨v16, i17, e18, h⟩ := fl_rd_b h
            refine g_ld (n := 40) (t0 := 5) hx hb hK hg (wc_a5 ad cz _) rfl i17 e18 dX1_measure_73 ?_
            obtain ⟨v19, i20, e21, h⟩ := fl_rd_b h
            refine g_ld (n := 8) (t0 := 10) hx hb hK hg (wc_a10 ad cz _) rfl i20 e21 dX1_measure_74 ?_
            refine lv_ldc hx hb hown k_7 dX1_measure_75 ?_
            refine lv_icmp_ge (tgt := 137) hx hb dX1_measure_77 (by decide) (fun c22 => ?_) (fun c22 => ?_)
            · have h := fl_ifp c22 h
              obtain ⟨rfl, rfl⟩ := fl_s2 h
              exact J14 H locs ls hg (lv_sub hl [1, 2, 3, 4, 5] rfl)
            · have h := fl_ifn c22 h
              refine lv_aload_n hx hb dX1_measure_80 rfl (lv_at hl 1 rfl) ?_
              refine lv_iload hx hb dX1_measure_81 (lv_at hl 5 rfl) ?_
              obtain ⟨r24, e23, h⟩ := fl_bnd h
              refine g_callVi (As := [.int x4]) (rest := []) ⟨hx, hb, hml, hown, hts⟩ (c_X1_isShortcut l D ad cz (x4) (σ) e23) (cwV 1 hts gX1_measure_X1_isShortcut rfl rfl rfl (by decide +kernel) ⟨Nat.le_of_ble_eq_true rfl, Nat.le_of_ble_eq_true rfl⟩) (va_recv hK.1 hg.1 (ci := 1) (q0 := 2) rfl rfl) hK hA hg rfl hl.1 rfl (Nat.le_of_ble_eq_true rfl) dX1_measure_83 ⟨Nat.le_of_ble_eq_true rfl, Nat.le_of_ble_eq_true rfl⟩ (fun H locs hg => ?_)
              refine lv_if_eq (tgt := 137) hx hb dX1_measure_86 (by decide) (fun c25 => ?_) (fun c25 => ?_)
              · have h := fl_ifp c25 h
                obtain ⟨rfl, rfl⟩ := fl_s2 h
                exact J14 H locs ls hg (lv_sub hl [1, 2, 3, 4, 5] rfl)
              · have h := fl_ifn c25 h
                refine lv_aload_n hx hb dX1_measure_89 rfl (lv_at hl 1 rfl) ?_
                refine va_get (D := D) (ci := 1) (v := .ref (ad 13)) (C := RX1) (T := TX1) (N := 8) hx hb hts k_1 hown hK.1 hg.1 2 rfl rfl 6 (by decide) k_5 (fun _ h9 => h9) rfl dX1_measure_90 ?_
                refine lv_aload_n hx hb dX1_measure_93 rfl (lv_at hl 1 rfl) ?_
                refine va_get (D := D) (ci := 1) (v := .ref (ad 9)) (C := RX1) (T := TX1) (N := 8) hx hb hts k_1 hown hK.1 hg.1 2 rfl rfl 2 (by decide) k_8 (fun _ h9 => h9) rfl dX1_measure_94 ?_
                refine lv_iload hx hb dX1_measure_97 (lv_at hl 5 rfl) ?_
                obtain ⟨v26, i27, e28, h⟩ := fl_rd_b h
                refine g_ld (n := 40) (t0 := 6) hx hb hK hg (wc_a6 ad cz _) rfl i27 e28 dX1_measure_99 ?_
                refine lv_aload_n hx hb dX1_measure_100 rfl (lv_at hl 1 rfl) ?_
                refine va_get (D := D) (ci := 1) (v := .ref (ad 13)) (C := RX1) (T := TX1) (N := 8) hx hb hts k_1 hown hK.1 hg.1 2 rfl rfl 6 (by decide) k_5 (fun _ h9 => h9) rfl dX1_measure_101 ?_
                refine lv_aload_n hx hb dX1_measure_104 rfl (lv_at hl 1 rfl) ?_
                refine va_get (D := D) (ci := 1) (v := .ref (ad 8)) (C := RX1) (T := TX1) (N := 8) hx hb hts k_1 hown hK.1 hg.1 2 rfl rfl 1 (by decide) k_6 (fun _ h9 => h9) rfl dX1_measure_105 ?_
                refine lv_iload hx hb dX1_measure_108 (lv_at hl 5 rfl) ?_
                obtain ⟨v29, i30, e31, h⟩ := fl_rd_b h
                refine g_ld (n := 40) (t0 := 5) hx hb hK hg (wc_a5 ad cz _) rfl i30 e31 dX1_measure_110 ?_
                obtain ⟨v32, i33, e34, h⟩ := fl_rd_b h
                refine g_ld (n := 8) (t0 := 10) hx hb hK hg (wc_a10 ad cz _) rfl i33 e34 dX1_measure_111 ?_
                refine lv_aload_n hx hb dX1_measure_112 rfl (lv_at hl 1 rfl) ?_
                refine va_get (D := D) (ci := 1) (v := .ref (ad 10)) (C := RX1) (T := TX1) (N := 8) hx hb hts k_1 hown hK.1 hg.1 2 rfl rfl 3 (by decide) k_9 (fun _ h9 => h9) rfl dX1_measure_113 ?_
                refine lv_iload hx hb dX1_measure_116 (lv_at hl 5 rfl) ?_
                obtain ⟨v35, i36, e37, h⟩ := fl_rd_b h
                refine g_ld (n := 40) (t0 := 7) hx hb hK hg (wc_a7 ad cz _) rfl i36 e37 dX1_measure_118 ?_
                refine lv_iadd hx hb dX1_measure_119 ?_
                obtain ⟨σ38, i39, e40, h⟩ := fl_wr_b h
                refine g_st (n := 8) (t0 := 10) hx hb hK hg (wc_a10 ad cz _) (wc_s10 ad cz _) rfl i39 e40 dX1_measure_120 (fun H locs hg => ?_)
                refine lv_aload_n hx hb dX1_measure_121 rfl (lv_at hl 1 rfl) ?_
                refine va_get (D := D) (ci := 1) (v := .ref (ad 14)) (C := RX1) (T := TX1) (N := 8) hx hb hts k_1 hown hK.1 hg.1 2 rfl rfl 7 (by decide) k_10 (fun _ h9 => h9) rfl dX1_measure_122 ?_
                refine lv_aload_n hx hb dX1_measure_125 rfl (lv_at hl 1 rfl) ?_
                refine va_get (D := D) (ci := 1) (v := .ref (ad 9)) (C := RX1) (T := TX1) (N := 8) hx hb hts k_1 hown hK.1 hg.1 2 rfl rfl 2 (by decide) k_8 (fun _ h9 => h9) rfl dX1_measure_126 ?_
                refine lv_iload hx hb dX1_measure_129 (lv_at hl 5 rfl) ?_
                obtain ⟨v41, i42, e43, h⟩ := fl_rd_b h
                refine g_ld (n := 40) (t0 := 6) hx hb hK hg (wc_a6 ad cz _) rfl i42 e43 dX1_measure_131 ?_
                refine lv_iload hx hb dX1_measure_132 (lv_at hl 5 rfl) ?_
                obtain ⟨σ44, i45, e46, h⟩ := fl_wr_b h
                refine g_st (n := 8) (t0 := 11) hx hb hK hg (wc_a11 ad cz _) (wc_s11 ad cz _) rfl i45 e46 dX1_measure_134 (fun H locs hg => ?_)
                refine lv_iconst (v := (1)) hx hb dX1_measure_135 (by decide) ?_
                refine lv_istore_n (lv' := [(2, .int (1)), (5, .int t8), (0, .ref (ad 2)), (1, .int x1), (3, .int x3), (4, .int x4)]) hx hb dX1_measure_136 rfl hl (by decide) rfl (fun ls hl => ?_)
                obtain ⟨rfl, rfl⟩ := fl_s2 h
                exact J14 H locs ls hg (lv_sub hl [2, 3, 0, 4, 5] rfl)
        clear h
        have h := hB10
        refine lv_if_le (tgt := 55) hx hb dX1_measure_40 (by decide) (fun c7 => ?_) (fun c7 => ?_)
        · have h := fl_ifp c7 h
          refine lv_iconst (v := (0)) hx hb dX1_measure_55 (by decide) ?_
          obtain rfl := fl_s1 h
          exact J9 H locs ls hg (lv_sub hl [0, 1, 2, 3, 4] rfl)
        · have h := fl_ifn c7 h
          refine lv_iload hx hb dX1_measure_43 (lv_at hl 4 rfl) ?_
          refine lv_iconst (v := (1)) hx hb dX1_measure_45 (by decide) ?_
          refine lv_ishr hx hb dX1_measure_46 ?_
          refine lv_iload_n hx hb dX1_measure_47 rfl (lv_at hl 1 rfl) ?_
          refine lv_icmp_eq (tgt := 55) hx hb dX1_measure_48 (by decide) (fun c47 => ?_) (fun c47 => ?_)
          · have h := fl_ifp c47 h
            refine lv_iconst (v := (0)) hx hb dX1_measure_55 (by decide) ?_
            obtain rfl := fl_s1 h
            exact J9 H locs ls hg (lv_sub hl [0, 1, 2, 3, 4] rfl)
          · have h := fl_ifn c47 h
            refine lv_iconst (v := (1)) hx hb dX1_measure_51 (by decide) ?_
            refine lv_goto (tgt := 56) hx hb dX1_measure_52 (by decide) ?_
            obtain rfl := fl_s1 h
            exact J9 H locs ls hg (lv_sub hl [0, 1, 2, 3, 4] rfl)
  have L4 : ∀ (n : Nat) (x1 : Int32) (x2 : Int32) (x3 : Int32) (σ : fl_St) (σo : fl_St) (H : Heap) (locs : List Loc) (ls : Array Slot), f_X1_measure_l4 x1 n x2 x3 σ = some (σo) → gS D (wc ad cz) A s.heap σ H locs → lv_has ls 6 [(0, .ref (ad 2)), (1, .int x1), (2, .int x2), (3, .int x3)] → (∀ (H : Heap) (locs : List Loc) (ls : Array Slot), gS D (wc ad cz) A s.heap σo H locs → lv_has ls 6 [] → W p l e rm_X1_measure s m args below meth c H locs 0 0 Q (F0 m 149 ls [])) → W p l e rm_X1_measure s m args below meth c H locs 0 0 Q (F0 m 4 ls []) := by
    intro n
    induction n with
    | zero =>
      intro x1 x2 x3 σ σo H locs ls h hg hl kk0
      rw [f_X1_measure_l4] at h
      cases h
    | succ n ih =>
      intro x1 x2 x3 σ σo H locs ls h hg hl kk0
      rw [f_X1_measure_l4] at h
      refine lv_iload_n hx hb dX1_measure_4 rfl (lv_at hl 2 rfl) ?_
      refine lv_if_eq (tgt := 149) hx hb dX1_measure_5 (by decide) (fun c1 => ?_) (fun c1 => ?_)
      · have h := fl_ifp c1 h
        obtain rfl := fl_s1 h
        exact kk0 H locs ls hg (lv_sub hl [] rfl)
      · have h := fl_ifn c1 h
        refine lv_iload_n hx hb dX1_measure_8 rfl (lv_at hl 3 rfl) ?_
        refine lv_bipush (v := (8)) hx hb dX1_measure_9 (by decide) ?_
        refine lv_icmp_ge (tgt := 149) hx hb dX1_measure_11 (by decide) (fun c2 => ?_) (fun c2 => ?_)
        · have h := fl_ifp c2 h
          obtain rfl := fl_s1 h
          exact kk0 H locs ls hg (lv_sub hl [] rfl)
        · have h := fl_ifn c2 h
          refine lv_iconst (v := (0)) hx hb dX1_measure_14 (by decide) ?_
          refine lv_istore_n (lv' := [(2, .int (0)), (0, .ref (ad 2)), (1, .int x1), (3, .int x3)]) hx hb dX1_measure_15 rfl hl (by decide) rfl (fun ls hl => ?_)
          refine lv_iconst (v := (0)) hx hb dX1_measure_16 (by decide) ?_
          refine lv_istore (lv' := [(4, .int (0)), (2, .int (0)), (0, .ref (ad 2)), (1, .int x1), (3, .int x3)]) hx hb dX1_measure_17 hl (by decide) rfl (fun ls hl => ?_)
          obtain ⟨w48, σ49, hB50, h⟩ := fl_b2_b h
          refine L19 fl_N _ _ _ _ _ _ _ H locs ls hB50 hg (lv_sub hl [2, 3, 1, 4, 0] rfl) (fun H locs ls hg hl => ?_)
          refine lv_iinc (v := (x3 + 1)) (lv' := [(3, .int (x3 + 1)), (0, .ref (ad 2)), (1, .int x1), (2, .int w48)]) hx hb dX1_measure_143 hl (k := 3) rfl rfl (by decide) rfl (fun ls hl => ?_)
          refine lv_goto (tgt := 4) hx hb dX1_measure_146 (by decide) ?_
          exact ih _ _ _ _ _ _ _ _ h hg (lv_sub hl [1, 2, 3, 0] rfl) kk0
  unfold f_X1_measure at h
  have W0 : ∀ (H : Heap) (locs : List Loc), gS D (wc ad cz) A s.heap σ H locs → W p l e rm_X1_measure s m args below meth c H locs 0 0 Q (F0 m 0 ls []) := by
    intro H locs hg
    refine lv_iconst (v := (1)) hx hb dX1_measure_0 (by decide) ?_
    refine lv_istore_n (lv' := [(2, .int (1)), (0, .ref (ad 2)), (1, .int x1)]) hx hb dX1_measure_1 rfl hl (by decide) rfl (fun ls hl => ?_)
    refine lv_iconst (v := (0)) hx hb dX1_measure_2 (by decide) ?_
    refine lv_istore_n (lv' := [(3, .int (0)), (2, .int (1)), (0, .ref (ad 2)), (1, .int x1)]) hx hb dX1_measure_3 rfl hl (by decide) rfl (fun ls hl => ?_)
    obtain ⟨σ51, hB52, h⟩ := fl_bnd h
    refine L4 fl_N _ _ _ _ _ H locs ls hB52 hg (lv_sub hl [2, 3, 1, 0] rfl) (fun H locs ls hg hl => ?_)
    exact hret _ _ _ _ _ h hg dX1_measure_149
  exact W0 _ _ hg
def f_X1_startAtExcess_l2 : Nat → Int32 → fl_St → Option (fl_St)
  | 0, _, _ => none
  | n + 1, x1, σ => if (8) ≤ x1 then (some (σ)) else ((fl_rd σ 9 8 x1).bind fun v2 => (if v2 ≤ 0 then (some ((0))) else (some ((1)))).bind fun (t6 : Int32) => (f_X1_setStart x1 t6 σ).bind fun σ10 => f_X1_startAtExcess_l2 n (x1 + 1) σ10)
def f_X1_startAtExcess (σ : fl_St) : Option (fl_St) := (f_X1_startAtExcess_l2 fl_N (0) σ).bind fun (σ11 : fl_St) => some σ11
def rm_X1_startAtExcess : Room := { frames := 1, cells := 0, slots := 0, locals := 22 }
set_option maxHeartbeats 4000000 in
set_option maxRecDepth 100000 in
theorem c_X1_startAtExcess (l : Launch) (D : va_G) (ad : Nat → Nat) (cz : Nat → ClassId) (σ : fl_St) {σ' : fl_St} (h : f_X1_startAtExcess σ = some σ') : gMv l yX1_startAtExcess wsX1_startAtExcess rm_X1_startAtExcess D (wc ad cz) (wcT cz) wcN [.ref (ad 2)] σ σ' := by
  refine gMv_of (cc := cX1_startAtExcess) (maxL := 2) (by decide) rfl (Nat.le_of_ble_eq_true rfl) ?_
  intro p e s m args below meth c A Q ls hx hb hml hown hts hK hA hg hl hret
  have hown : s.vm.findClass RX1 = some m.cls := hown
  have hl : lv_has ls 2 [(0, .ref (ad 2))] := hl
  have k_0 := hts (.fieldLink RX1 24 "FlowLedger$Router" "excess" "[I") (by decide +kernel)
  have k_1 := (by decide +kernel : ∀ w ∈ wsX10, w ∈ wsX1_startAtExcess)
  have L2 : ∀ (n : Nat) (x1 : Int32) (σ : fl_St) (σo : fl_St) (H : Heap) (locs : List Loc) (ls : Array Slot), f_X1_startAtExcess_l2 n x1 σ = some (σo) → gS D (wc ad cz) A s.heap σ H locs → lv_has ls 2 [(0, .ref (ad 2)), (1, .int x1)] → (∀ (H : Heap) (locs : List Loc) (ls : Array Slot), gS D (wc ad cz) A s.heap σo H locs → lv_has ls 2 [] → W p l e rm_X1_startAtExcess s m args below meth c H locs 0 0 Q (F0 m 33 ls [])) → W p l e rm_X1_startAtExcess s m args below meth c H locs 0 0 Q (F0 m 2 ls []) := by
    intro n
    induction n with
    | zero =>
      intro x1 σ σo H locs ls h hg hl kk0
      rw [f_X1_startAtExcess_l2] at h
      cases h
    | succ n ih =>
      intro x1 σ σo H locs ls h hg hl kk0
      rw [f_X1_startAtExcess_l2] at h
      refine lv_iload_n hx hb dX1_startAtExcess_2 rfl (lv_at hl 1 rfl) ?_
      refine lv_bipush (v := (8)) hx hb dX1_startAtExcess_3 (by decide) ?_
      refine lv_icmp_ge (tgt := 33) hx hb dX1_startAtExcess_5 (by decide) (fun c1 => ?_) (fun c1 => ?_)
      · have h := fl_ifp c1 h
        obtain rfl := fl_s1 h
        exact kk0 H locs ls hg (lv_sub hl [] rfl)
      · have h := fl_ifn c1 h
        refine lv_aload_n hx hb dX1_startAtExcess_8 rfl (lv_at hl 0 rfl) ?_
        refine lv_iload_n hx hb dX1_startAtExcess_9 rfl (lv_at hl 1 rfl) ?_
        refine lv_aload_n hx hb dX1_startAtExcess_10 rfl (lv_at hl 0 rfl) ?_
        refine va_get (D := D) (ci := 1) (v := .ref (ad 12)) (C := RX1) (T := TX1) (N := 8) hx hb hts k_1 hown hK.1 hg.1 2 rfl rfl 5 (by decide) k_0 (fun _ h9 => h9) rfl dX1_startAtExcess_11 ?_
        refine lv_iload_n hx hb dX1_startAtExcess_14 rfl (lv_at hl 1 rfl) ?_
        obtain ⟨v2, i3, e4, h⟩ := fl_rd_b h
        refine g_ld (n := 8) (t0 := 9) hx hb hK hg (wc_a9 ad cz _) rfl i3 e4 dX1_startAtExcess_15 ?_
        obtain ⟨t6, hB8, h⟩ := fl_bnd h
        have J7 : ∀ (H : Heap) (locs : List Loc) (ls : Array Slot), gS D (wc ad cz) A s.heap σ H locs → lv_has ls 2 [(0, .ref (ad 2)), (1, .int x1)] → W p l e rm_X1_startAtExcess s m args below meth c H locs 0 0 Q (F0 m 24 ls [.int t6, .int x1, .ref (ad 2)]) := by
          intro H locs ls hg hl
          obtain ⟨σ10, e9, h⟩ := fl_bnd h
          refine g_callVv (As := [.int x1, .int t6]) (rest := []) ⟨hx, hb, hml, hown, hts⟩ (c_X1_setStart l D ad cz (x1) (t6) (σ) e9) (cwV 2 hts gX1_startAtExcess_X1_setStart rfl rfl rfl (by decide +kernel) ⟨Nat.le_of_ble_eq_true rfl, Nat.le_of_ble_eq_true rfl⟩) (va_recv hK.1 hg.1 (ci := 1) (q0 := 2) rfl rfl) hK hA hg rfl hl.1 rfl (Nat.le_of_ble_eq_true rfl) dX1_startAtExcess_24 ⟨Nat.le_of_ble_eq_true rfl, Nat.le_of_ble_eq_true rfl⟩ (fun H locs hg => ?_)
          refine lv_iinc (v := (x1 + 1)) (lv' := [(1, .int (x1 + 1)), (0, .ref (ad 2))]) hx hb dX1_startAtExcess_27 hl (k := 1) rfl rfl (by decide) rfl (fun ls hl => ?_)
          refine lv_goto (tgt := 2) hx hb dX1_startAtExcess_30 (by decide) ?_
          exact ih _ _ _ _ _ _ h hg (lv_sub hl [1, 0] rfl) kk0
        clear h
        have h := hB8
        refine lv_if_le (tgt := 23) hx hb dX1_startAtExcess_16 (by decide) (fun c5 => ?_) (fun c5 => ?_)
        · have h := fl_ifp c5 h
          refine lv_iconst (v := (0)) hx hb dX1_startAtExcess_23 (by decide) ?_
          obtain rfl := fl_s1 h
          exact J7 H locs ls hg (lv_sub hl [0, 1] rfl)
        · have h := fl_ifn c5 h
          refine lv_iconst (v := (1)) hx hb dX1_startAtExcess_19 (by decide) ?_
          refine lv_goto (tgt := 24) hx hb dX1_startAtExcess_20 (by decide) ?_
          obtain rfl := fl_s1 h
          exact J7 H locs ls hg (lv_sub hl [0, 1] rfl)
  unfold f_X1_startAtExcess at h
  have W0 : ∀ (H : Heap) (locs : List Loc), gS D (wc ad cz) A s.heap σ H locs → W p l e rm_X1_startAtExcess s m args below meth c H locs 0 0 Q (F0 m 0 ls []) := by
    intro H locs hg
    refine lv_iconst (v := (0)) hx hb dX1_startAtExcess_0 (by decide) ?_
    refine lv_istore_n (lv' := [(1, .int (0)), (0, .ref (ad 2))]) hx hb dX1_startAtExcess_1 rfl hl (by decide) rfl (fun ls hl => ?_)
    obtain ⟨σ11, hB12, h⟩ := fl_bnd h
    refine L2 fl_N _ _ _ H locs ls hB12 hg (lv_sub hl [1, 0] rfl) (fun H locs ls hg hl => ?_)
    exact hret _ _ _ _ _ h hg dX1_startAtExcess_33
  exact W0 _ _ hg
def f_X1_nearestShortNode_l7 (σ : fl_St) : Nat → Int32 → Int32 → Int32 → Option (Int32)
  | 0, _, _, _ => none
  | n + 1, x1, x2, x3 => if (8) ≤ x3 then (some (x1)) else ((fl_rd σ 9 8 x3).bind fun v2 => fl_b2 (if 0 ≤ v2 then (some (x1, x2)) else ((fl_rd σ 10 8 x3).bind fun v10 => if x2 ≤ v10 then (some (x1, x2)) else ((fl_rd σ 10 8 x3).bind fun v14 => some (x3, v14)))) fun (w6 : Int32) (w7 : Int32) => f_X1_nearestShortNode_l7 σ n w6 w7 (x3 + 1))
def f_X1_nearestShortNode (σ : fl_St) : Option (Int32) := (f_X1_nearestShortNode_l7 σ fl_N (-1) (1000000000) (0)).bind fun (w17 : Int32) => some w17
def rm_X1_nearestShortNode : Room := { frames := 0, cells := 0, slots := 0, locals := 0 }
set_option maxHeartbeats 4000000 in
set_option maxRecDepth 100000 in
theorem c_X1_nearestShortNode (l : Launch) (D : va_G) (ad : Nat → Nat) (cz : Nat → ClassId) (σ : fl_St) {r : Int32} (h : f_X1_nearestShortNode σ = some r) : gMi l yX1_nearestShortNode wsX1_nearestShortNode rm_X1_nearestShortNode D (wc ad cz) (wcT cz) wcN [.ref (ad 2)] σ r σ := by
  refine gMi_of (cc := cX1_nearestShortNode) (maxL := 4) (by decide) rfl (Nat.le_of_ble_eq_true rfl) ?_
  intro p e s m args below meth c A Q ls hx hb hml hown hts hK hA hg hl hret
  have hown : s.vm.findClass RX1 = some m.cls := hown
  have hl : lv_has ls 4 [(0, .ref (ad 2))] := hl
  have k_0 := hts (.constant RX1 76 (1000000000)) (by decide +kernel)
  have k_1 := hts (.fieldLink RX1 24 "FlowLedger$Router" "excess" "[I") (by decide +kernel)
  have k_2 := (by decide +kernel : ∀ w ∈ wsX10, w ∈ wsX1_nearestShortNode)
  have k_3 := hts (.fieldLink RX1 27 "FlowLedger$Router" "distance" "[I") (by decide +kernel)
  have L7 : ∀ (n : Nat) (σ : fl_St) (x1 : Int32) (x2 : Int32) (x3 : Int32) (o1 : Int32) (H : Heap) (locs : List Loc) (ls : Array Slot), f_X1_nearestShortNode_l7 σ n x1 x2 x3 = some (o1) → gS D (wc ad cz) A s.heap σ H locs → lv_has ls 4 [(0, .ref (ad 2)), (1, .int x1), (2, .int x2), (3, .int x3)] → (∀ (H : Heap) (locs : List Loc) (ls : Array Slot), gS D (wc ad cz) A s.heap σ H locs → lv_has ls 4 [(1, .int o1)] → W p l e rm_X1_nearestShortNode s m args below meth c H locs 0 0 Q (F0 m 47 ls [])) → W p l e rm_X1_nearestShortNode s m args below meth c H locs 0 0 Q (F0 m 7 ls []) := by
    intro n
    induction n with
    | zero =>
      intro σ x1 x2 x3 o1 H locs ls h hg hl kk0
      rw [f_X1_nearestShortNode_l7] at h
      cases h
    | succ n ih =>
      intro σ x1 x2 x3 o1 H locs ls h hg hl kk0
      rw [f_X1_nearestShortNode_l7] at h
      refine lv_iload_n hx hb dX1_nearestShortNode_7 rfl (lv_at hl 3 rfl) ?_
      refine lv_bipush (v := (8)) hx hb dX1_nearestShortNode_8 (by decide) ?_
      refine lv_icmp_ge (tgt := 47) hx hb dX1_nearestShortNode_10 (by decide) (fun c1 => ?_) (fun c1 => ?_)
      · have h := fl_ifp c1 h
        obtain rfl := fl_s1 h
        exact kk0 H locs ls hg (lv_sub hl [1] rfl)
      · have h := fl_ifn c1 h
        refine lv_aload_n hx hb dX1_nearestShortNode_13 rfl (lv_at hl 0 rfl) ?_
        refine va_get (D := D) (ci := 1) (v := .ref (ad 12)) (C := RX1) (T := TX1) (N := 8) hx hb hts k_2 hown hK.1 hg.1 2 rfl rfl 5 (by decide) k_1 (fun _ h9 => h9) rfl dX1_nearestShortNode_14 ?_
        refine lv_iload_n hx hb dX1_nearestShortNode_17 rfl (lv_at hl 3 rfl) ?_
        obtain ⟨v2, i3, e4, h⟩ := fl_rd_b h
        refine g_ld (n := 8) (t0 := 9) hx hb hK hg (wc_a9 ad cz _) rfl i3 e4 dX1_nearestShortNode_18 ?_
        obtain ⟨w6, w7, hB9, h⟩ := fl_b2_b h
        have J8 : ∀ (H : Heap) (locs : List Loc) (ls : Array Slot), gS D (wc ad cz) A s.heap σ H locs → lv_has ls 4 [(0, .ref (ad 2)), (1, .int w6), (2, .int w7), (3, .int x3)] → W p l e rm_X1_nearestShortNode s m args below meth c H locs 0 0 Q (F0 m 41 ls []) := by
          intro H locs ls hg hl
          refine lv_iinc (v := (x3 + 1)) (lv' := [(3, .int (x3 + 1)), (0, .ref (ad 2)), (1, .int w6), (2, .int w7)]) hx hb dX1_nearestShortNode_41 hl (k := 3) rfl rfl (by decide) rfl (fun ls hl => ?_)
          refine lv_goto (tgt := 7) hx hb dX1_nearestShortNode_44 (by decide) ?_
          exact ih _ _ _ _ _ _ _ _ h hg (lv_sub hl [1, 2, 3, 0] rfl) kk0
        clear h
        have h := hB9
        refine lv_if_ge (tgt := 41) hx hb dX1_nearestShortNode_19 (by decide) (fun c5 => ?_) (fun c5 => ?_)
        · have h := fl_ifp c5 h
          obtain ⟨rfl, rfl⟩ := fl_s2 h
          exact J8 H locs ls hg (lv_sub hl [0, 1, 2, 3] rfl)
        · have h := fl_ifn c5 h
          refine lv_aload_n hx hb dX1_nearestShortNode_22 rfl (lv_at hl 0 rfl) ?_
          refine va_get (D := D) (ci := 1) (v := .ref (ad 13)) (C := RX1) (T := TX1) (N := 8) hx hb hts k_2 hown hK.1 hg.1 2 rfl rfl 6 (by decide) k_3 (fun _ h9 => h9) rfl dX1_nearestShortNode_23 ?_
          refine lv_iload_n hx hb dX1_nearestShortNode_26 rfl (lv_at hl 3 rfl) ?_
          obtain ⟨v10, i11, e12, h⟩ := fl_rd_b h
          refine g_ld (n := 8) (t0 := 10) hx hb hK hg (wc_a10 ad cz _) rfl i11 e12 dX1_nearestShortNode_27 ?_
          refine lv_iload_n hx hb dX1_nearestShortNode_28 rfl (lv_at hl 2 rfl) ?_
          refine lv_icmp_ge (tgt := 41) hx hb dX1_nearestShortNode_29 (by decide) (fun c13 => ?_) (fun c13 => ?_)
          · have h := fl_ifp c13 h
            obtain ⟨rfl, rfl⟩ := fl_s2 h
            exact J8 H locs ls hg (lv_sub hl [0, 1, 2, 3] rfl)
          · have h := fl_ifn c13 h
            refine lv_iload_n hx hb dX1_nearestShortNode_32 rfl (lv_at hl 3 rfl) ?_
            refine lv_istore_n (lv' := [(1, .int x3), (0, .ref (ad 2)), (2, .int x2), (3, .int x3)]) hx hb dX1_nearestShortNode_33 rfl hl (by decide) rfl (fun ls hl => ?_)
            refine lv_aload_n hx hb dX1_nearestShortNode_34 rfl (lv_at hl 1 rfl) ?_
            refine va_get (D := D) (ci := 1) (v := .ref (ad 13)) (C := RX1) (T := TX1) (N := 8) hx hb hts k_2 hown hK.1 hg.1 2 rfl rfl 6 (by decide) k_3 (fun _ h9 => h9) rfl dX1_nearestShortNode_35 ?_
            refine lv_iload_n hx hb dX1_nearestShortNode_38 rfl (lv_at hl 3 rfl) ?_
            obtain ⟨v14, i15, e16, h⟩ := fl_rd_b h
            refine g_ld (n := 8) (t0 := 10) hx hb hK hg (wc_a10 ad cz _) rfl i15 e16 dX1_nearestShortNode_39 ?_
            refine lv_istore_n (lv' := [(2, .int v14), (1, .int x3), (0, .ref (ad 2)), (3, .int x3)]) hx hb dX1_nearestShortNode_40 rfl hl (by decide) rfl (fun ls hl => ?_)
            obtain ⟨rfl, rfl⟩ := fl_s2 h
            exact J8 H locs ls hg (lv_sub hl [2, 1, 0, 3] rfl)
  unfold f_X1_nearestShortNode at h
  have W0 : ∀ (H : Heap) (locs : List Loc), gS D (wc ad cz) A s.heap σ H locs → W p l e rm_X1_nearestShortNode s m args below meth c H locs 0 0 Q (F0 m 0 ls []) := by
    intro H locs hg
    refine lv_iconst (v := (-1)) hx hb dX1_nearestShortNode_0 (by decide) ?_
    refine lv_istore_n (lv' := [(1, .int (-1)), (0, .ref (ad 2))]) hx hb dX1_nearestShortNode_1 rfl hl (by decide) rfl (fun ls hl => ?_)
    refine lv_ldc hx hb hown k_0 dX1_nearestShortNode_2 ?_
    refine lv_istore_n (lv' := [(2, .int (1000000000)), (1, .int (-1)), (0, .ref (ad 2))]) hx hb dX1_nearestShortNode_4 rfl hl (by decide) rfl (fun ls hl => ?_)
    refine lv_iconst (v := (0)) hx hb dX1_nearestShortNode_5 (by decide) ?_
    refine lv_istore_n (lv' := [(3, .int (0)), (2, .int (1000000000)), (1, .int (-1)), (0, .ref (ad 2))]) hx hb dX1_nearestShortNode_6 rfl hl (by decide) rfl (fun ls hl => ?_)
    obtain ⟨w17, hB18, h⟩ := fl_bnd h
    refine L7 fl_N _ _ _ _ _ H locs ls hB18 hg (lv_sub hl [3, 2, 1, 0] rfl) (fun H locs ls hg hl => ?_)
    refine lv_iload_n hx hb dX1_nearestShortNode_47 rfl (lv_at hl 0 rfl) ?_
    exact hret _ _ _ _ _ _ (congrArg (Option.map (fun q => (q, σ))) h) hg rfl dX1_nearestShortNode_48
  exact W0 _ _ hg
def f_X1_sendAlongPath_l5 (x2 : Int32) : Nat → Int32 → Int32 → fl_St → Option (fl_St)
  | 0, _, _, _ => none
  | n + 1, x3, x4, σ => if (8) ≤ x4 then (some (σ)) else ((fl_rd σ 11 8 x3).bind fun v2 => if v2 = (-1) then (some (σ)) else ((fl_rd σ 11 8 x3).bind fun v6 => (fl_rd σ 8 40 v6).bind fun v9 => (fl_wr σ 8 40 v6 (v9 - x2)).bind fun σ12 => (fl_rd σ12 8 40 (v6 ^^^ (1))).bind fun v15 => (fl_wr σ12 8 40 (v6 ^^^ (1)) (v15 + x2)).bind fun σ18 => (fl_rd σ18 5 40 v6).bind fun v21 => f_X1_sendAlongPath_l5 x2 n v21 (x4 + 1) σ18))
def f_X1_sendAlongPath (x1 : Int32) (x2 : Int32) (σ : fl_St) : Option (fl_St) := (f_X1_sendAlongPath_l5 x2 fl_N x1 (0) σ).bind fun (σ24 : fl_St) => some σ24
def rm_X1_sendAlongPath : Room := { frames := 0, cells := 0, slots := 0, locals := 0 }
set_option maxHeartbeats 4000000 in
set_option maxRecDepth 100000 in
theorem c_X1_sendAlongPath (l : Launch) (D : va_G) (ad : Nat → Nat) (cz : Nat → ClassId) (x1 : Int32) (x2 : Int32) (σ : fl_St) {σ' : fl_St} (h : f_X1_sendAlongPath x1 x2 σ = some σ') : gMv l yX1_sendAlongPath wsX1_sendAlongPath rm_X1_sendAlongPath D (wc ad cz) (wcT cz) wcN [.ref (ad 2), .int x1, .int x2] σ σ' := by
  refine gMv_of (cc := cX1_sendAlongPath) (maxL := 6) (by decide) rfl (Nat.le_of_ble_eq_true rfl) ?_
  intro p e s m args below meth c A Q ls hx hb hml hown hts hK hA hg hl hret
  have hown : s.vm.findClass RX1 = some m.cls := hown
  have hl : lv_has ls 6 [(0, .ref (ad 2)), (1, .int x1), (2, .int x2)] := hl
  have k_0 := hts (.fieldLink RX1 30 "FlowLedger$Router" "entry" "[I") (by decide +kernel)
  have k_1 := (by decide +kernel : ∀ w ∈ wsX10, w ∈ wsX1_sendAlongPath)
  have k_2 := hts (.fieldLink RX1 21 "FlowLedger$Router" "room" "[I") (by decide +kernel)
  have k_3 := hts (.fieldLink RX1 9 "FlowLedger$Router" "tail" "[I") (by decide +kernel)
  have L5 : ∀ (n : Nat) (x2 : Int32) (x3 : Int32) (x4 : Int32) (σ : fl_St) (σo : fl_St) (H : Heap) (locs : List Loc) (ls : Array Slot), f_X1_sendAlongPath_l5 x2 n x3 x4 σ = some (σo) → gS D (wc ad cz) A s.heap σ H locs → lv_has ls 6 [(0, .ref (ad 2)), (2, .int x2), (3, .int x3), (4, .int x4)] → (∀ (H : Heap) (locs : List Loc) (ls : Array Slot), gS D (wc ad cz) A s.heap σo H locs → lv_has ls 6 [] → W p l e rm_X1_sendAlongPath s m args below meth c H locs 0 0 Q (F0 m 68 ls [])) → W p l e rm_X1_sendAlongPath s m args below meth c H locs 0 0 Q (F0 m 5 ls []) := by
    intro n
    induction n with
    | zero =>
      intro x2 x3 x4 σ σo H locs ls h hg hl kk0
      rw [f_X1_sendAlongPath_l5] at h
      cases h
    | succ n ih =>
      intro x2 x3 x4 σ σo H locs ls h hg hl kk0
      rw [f_X1_sendAlongPath_l5] at h
      refine lv_iload hx hb dX1_sendAlongPath_5 (lv_at hl 3 rfl) ?_
      refine lv_bipush (v := (8)) hx hb dX1_sendAlongPath_7 (by decide) ?_
      refine lv_icmp_ge (tgt := 68) hx hb dX1_sendAlongPath_9 (by decide) (fun c1 => ?_) (fun c1 => ?_)
      · have h := fl_ifp c1 h
        obtain rfl := fl_s1 h
        exact kk0 H locs ls hg (lv_sub hl [] rfl)
      · have h := fl_ifn c1 h
        refine lv_aload_n hx hb dX1_sendAlongPath_12 rfl (lv_at hl 0 rfl) ?_
        refine va_get (D := D) (ci := 1) (v := .ref (ad 14)) (C := RX1) (T := TX1) (N := 8) hx hb hts k_1 hown hK.1 hg.1 2 rfl rfl 7 (by decide) k_0 (fun _ h9 => h9) rfl dX1_sendAlongPath_13 ?_
        refine lv_iload_n hx hb dX1_sendAlongPath_16 rfl (lv_at hl 2 rfl) ?_
        obtain ⟨v2, i3, e4, h⟩ := fl_rd_b h
        refine g_ld (n := 8) (t0 := 11) hx hb hK hg (wc_a11 ad cz _) rfl i3 e4 dX1_sendAlongPath_17 ?_
        refine lv_iconst (v := (-1)) hx hb dX1_sendAlongPath_18 (by decide) ?_
        refine lv_icmp_eq (tgt := 68) hx hb dX1_sendAlongPath_19 (by decide) (fun c5 => ?_) (fun c5 => ?_)
        · have h := fl_ifp c5 h
          obtain rfl := fl_s1 h
          exact kk0 H locs ls hg (lv_sub hl [] rfl)
        · have h := fl_ifn c5 h
          refine lv_aload_n hx hb dX1_sendAlongPath_22 rfl (lv_at hl 0 rfl) ?_
          refine va_get (D := D) (ci := 1) (v := .ref (ad 14)) (C := RX1) (T := TX1) (N := 8) hx hb hts k_1 hown hK.1 hg.1 2 rfl rfl 7 (by decide) k_0 (fun _ h9 => h9) rfl dX1_sendAlongPath_23 ?_
          refine lv_iload_n hx hb dX1_sendAlongPath_26 rfl (lv_at hl 2 rfl) ?_
          obtain ⟨v6, i7, e8, h⟩ := fl_rd_b h
          refine g_ld (n := 8) (t0 := 11) hx hb hK hg (wc_a11 ad cz _) rfl i7 e8 dX1_sendAlongPath_27 ?_
          refine lv_istore (lv' := [(5, .int v6), (0, .ref (ad 2)), (2, .int x2), (3, .int x3), (4, .int x4)]) hx hb dX1_sendAlongPath_28 hl (by decide) rfl (fun ls hl => ?_)
          refine lv_aload_n hx hb dX1_sendAlongPath_30 rfl (lv_at hl 1 rfl) ?_
          refine va_get (D := D) (ci := 1) (v := .ref (ad 11)) (C := RX1) (T := TX1) (N := 8) hx hb hts k_1 hown hK.1 hg.1 2 rfl rfl 4 (by decide) k_2 (fun _ h9 => h9) rfl dX1_sendAlongPath_31 ?_
          refine lv_iload hx hb dX1_sendAlongPath_34 (lv_at hl 0 rfl) ?_
          refine lv_dup2_11 hx hb dX1_sendAlongPath_36 rfl rfl ?_
          obtain ⟨v9, i10, e11, h⟩ := fl_rd_b h
          refine g_ld (n := 40) (t0 := 8) hx hb hK hg (wc_a8 ad cz _) rfl i10 e11 dX1_sendAlongPath_37 ?_
          refine lv_iload_n hx hb dX1_sendAlongPath_38 rfl (lv_at hl 2 rfl) ?_
          refine lv_isub hx hb dX1_sendAlongPath_39 ?_
          obtain ⟨σ12, i13, e14, h⟩ := fl_wr_b h
          refine g_st (n := 40) (t0 := 8) hx hb hK hg (wc_a8 ad cz _) (wc_s8 ad cz _) rfl i13 e14 dX1_sendAlongPath_40 (fun H locs hg => ?_)
          refine lv_aload_n hx hb dX1_sendAlongPath_41 rfl (lv_at hl 1 rfl) ?_
          refine va_get (D := D) (ci := 1) (v := .ref (ad 11)) (C := RX1) (T := TX1) (N := 8) hx hb hts k_1 hown hK.1 hg.1 2 rfl rfl 4 (by decide) k_2 (fun _ h9 => h9) rfl dX1_sendAlongPath_42 ?_
          refine lv_iload hx hb dX1_sendAlongPath_45 (lv_at hl 0 rfl) ?_
          refine lv_iconst (v := (1)) hx hb dX1_sendAlongPath_47 (by decide) ?_
          refine lv_ixor hx hb dX1_sendAlongPath_48 ?_
          refine lv_dup2_11 hx hb dX1_sendAlongPath_49 rfl rfl ?_
          obtain ⟨v15, i16, e17, h⟩ := fl_rd_b h
          refine g_ld (n := 40) (t0 := 8) hx hb hK hg (wc_a8 ad cz _) rfl i16 e17 dX1_sendAlongPath_50 ?_
          refine lv_iload_n hx hb dX1_sendAlongPath_51 rfl (lv_at hl 2 rfl) ?_
          refine lv_iadd hx hb dX1_sendAlongPath_52 ?_
          obtain ⟨σ18, i19, e20, h⟩ := fl_wr_b h
          refine g_st (n := 40) (t0 := 8) hx hb hK hg (wc_a8 ad cz _) (wc_s8 ad cz _) rfl i19 e20 dX1_sendAlongPath_53 (fun H locs hg => ?_)
          refine lv_aload_n hx hb dX1_sendAlongPath_54 rfl (lv_at hl 1 rfl) ?_
          refine va_get (D := D) (ci := 1) (v := .ref (ad 8)) (C := RX1) (T := TX1) (N := 8) hx hb hts k_1 hown hK.1 hg.1 2 rfl rfl 1 (by decide) k_3 (fun _ h9 => h9) rfl dX1_sendAlongPath_55 ?_
          refine lv_iload hx hb dX1_sendAlongPath_58 (lv_at hl 0 rfl) ?_
          obtain ⟨v21, i22, e23, h⟩ := fl_rd_b h
          refine g_ld (n := 40) (t0 := 5) hx hb hK hg (wc_a5 ad cz _) rfl i22 e23 dX1_sendAlongPath_60 ?_
          refine lv_istore_n (lv' := [(3, .int v21), (5, .int v6), (0, .ref (ad 2)), (2, .int x2), (4, .int x4)]) hx hb dX1_sendAlongPath_61 rfl hl (by decide) rfl (fun ls hl => ?_)
          refine lv_iinc (v := (x4 + 1)) (lv' := [(4, .int (x4 + 1)), (3, .int v21), (5, .int v6), (0, .ref (ad 2)), (2, .int x2)]) hx hb dX1_sendAlongPath_62 hl (k := 4) rfl rfl (by decide) rfl (fun ls hl => ?_)
          refine lv_goto (tgt := 5) hx hb dX1_sendAlongPath_65 (by decide) ?_
          exact ih _ _ _ _ _ _ _ _ h hg (lv_sub hl [3, 4, 1, 0] rfl) kk0
  unfold f_X1_sendAlongPath at h
  have W0 : ∀ (H : Heap) (locs : List Loc), gS D (wc ad cz) A s.heap σ H locs → W p l e rm_X1_sendAlongPath s m args below meth c H locs 0 0 Q (F0 m 0 ls []) := by
    intro H locs hg
    refine lv_iload_n hx hb dX1_sendAlongPath_0 rfl (lv_at hl 1 rfl) ?_
    refine lv_istore_n (lv' := [(3, .int x1), (0, .ref (ad 2)), (1, .int x1), (2, .int x2)]) hx hb dX1_sendAlongPath_1 rfl hl (by decide) rfl (fun ls hl => ?_)
    refine lv_iconst (v := (0)) hx hb dX1_sendAlongPath_2 (by decide) ?_
    refine lv_istore (lv' := [(4, .int (0)), (3, .int x1), (0, .ref (ad 2)), (1, .int x1), (2, .int x2)]) hx hb dX1_sendAlongPath_3 hl (by decide) rfl (fun ls hl => ?_)
    obtain ⟨σ24, hB25, h⟩ := fl_bnd h
    refine L5 fl_N _ _ _ _ _ H locs ls hB25 hg (lv_sub hl [2, 4, 1, 0] rfl) (fun H locs ls hg hl => ?_)
    exact hret _ _ _ _ _ h hg dX1_sendAlongPath_68
  exact W0 _ _ hg
end
section
def f_X1_sendOnce_l34 (x1 : Int32) (σ : fl_St) : Nat → Int32 → Int32 → Int32 → Option (Int32 × Int32)
  | 0, _, _, _ => none
  | n + 1, x2, x3, x4 => if (8) ≤ x4 then (some (x2, x3)) else ((fl_rd σ 11 8 x3).bind fun v12 => if v12 = (-1) then (some (x2, x3)) else ((fl_rd σ 11 8 x3).bind fun v16 => (fl_rd σ 8 40 v16).bind fun v19 => (fl_rd σ 11 8 x3).bind fun v22 => (fl_rd σ 5 40 v22).bind fun v25 => f_X1_sendOnce_l34 x1 σ n (if v19 < x2 then v19 else x2) v25 (x4 + 1)))
def f_X1_sendOnce (σ : fl_St) : Option (Int32 × fl_St) := (f_X1_startAtExcess  σ).bind fun σ2 => (f_X1_measure (-1) σ2).bind fun σ4 => (f_X1_nearestShortNode  σ4).bind fun r6 => if r6 = (-1) then (some ((0), σ4)) else ((fl_rd σ4 9 8 r6).bind fun v8 => fl_b2 (f_X1_sendOnce_l34 r6 σ4 fl_N (-v8) r6 (0)) fun (w28 : Int32) (w29 : Int32) => (fl_rd σ4 9 8 w29).bind fun v31 => (fl_rd σ4 9 8 w29).bind fun v34 => (fl_wr σ4 9 8 w29 (v34 - (if v31 < w28 then v31 else w28))).bind fun σ37 => (fl_rd σ37 9 8 r6).bind fun v40 => (fl_wr σ37 9 8 r6 (v40 + (if v31 < w28 then v31 else w28))).bind fun σ43 => (f_X1_sendAlongPath r6 (if v31 < w28 then v31 else w28) σ43).bind fun σ47 => some ((1), σ47))
def rm_X1_sendOnce : Room := { frames := 2, cells := 0, slots := 0, locals := 46 }
set_option maxHeartbeats 4000000 in
set_option maxRecDepth 100000 in
theorem c_X1_sendOnce (l : Launch) (D : va_G) (ad : Nat → Nat) (cz : Nat → ClassId) (σ : fl_St) {r : Int32} {σ' : fl_St} (h : f_X1_sendOnce σ = some (r, σ')) : gMi l yX1_sendOnce wsX1_sendOnce rm_X1_sendOnce D (wc ad cz) (wcT cz) wcN [.ref (ad 2)] σ r σ' := by
  refine gMi_of (cc := cX1_sendOnce) (maxL := 5) (by decide) rfl (Nat.le_of_ble_eq_true rfl) ?_
  intro p e s m args below meth c A Q ls hx hb hml hown hts hK hA hg hl hret
  have hown : s.vm.findClass RX1 = some m.cls := hown
  have hl : lv_has ls 5 [(0, .ref (ad 2))] := hl
  have k_0 := hts (.fieldLink RX1 24 "FlowLedger$Router" "excess" "[I") (by decide +kernel)
  have k_1 := (by decide +kernel : ∀ w ∈ wsX10, w ∈ wsX1_sendOnce)
  have k_2 := hts (.fieldLink RX1 30 "FlowLedger$Router" "entry" "[I") (by decide +kernel)
  have k_3 := hts (.fieldLink RX1 21 "FlowLedger$Router" "room" "[I") (by decide +kernel)
  have k_4 := hts (.methodLink RX1 95 Lib.Math.min.name) (by decide +kernel)
  have k_5 := hts (.static Lib.Math.min.name) (by decide +kernel)
  have k_6 := hts (.initialized "java/lang/Math") (by decide +kernel)
  have k_7 := hts (.code Lib.Math.min.name Lib.Math.min.code 2 (some .int)) (by decide +kernel)
  have k_8 := hts (.fieldLink RX1 9 "FlowLedger$Router" "tail" "[I") (by decide +kernel)
  have L34 : ∀ (n : Nat) (x1 : Int32) (σ : fl_St) (x2 : Int32) (x3 : Int32) (x4 : Int32) (o2 : Int32) (o3 : Int32) (H : Heap) (locs : List Loc) (ls : Array Slot), f_X1_sendOnce_l34 x1 σ n x2 x3 x4 = some (o2, o3) → gS D (wc ad cz) A s.heap σ H locs → lv_has ls 5 [(0, .ref (ad 2)), (1, .int x1), (2, .int x2), (3, .int x3), (4, .int x4)] → (∀ (H : Heap) (locs : List Loc) (ls : Array Slot), gS D (wc ad cz) A s.heap σ H locs → lv_has ls 5 [(0, .ref (ad 2)), (1, .int x1), (2, .int o2), (3, .int o3)] → W p l e rm_X1_sendOnce s m args below meth c H locs 0 0 Q (F0 m 85 ls [])) → W p l e rm_X1_sendOnce s m args below meth c H locs 0 0 Q (F0 m 34 ls []) := by
    intro n
    induction n with
    | zero =>
      intro x1 σ x2 x3 x4 o2 o3 H locs ls h hg hl kk0
      rw [f_X1_sendOnce_l34] at h
      cases h
    | succ n ih =>
      intro x1 σ x2 x3 x4 o2 o3 H locs ls h hg hl kk0
      rw [f_X1_sendOnce_l34] at h
      refine lv_iload hx hb dX1_sendOnce_34 (lv_at hl 4 rfl) ?_
      refine lv_bipush (v := (8)) hx hb dX1_sendOnce_36 (by decide) ?_
      refine lv_icmp_ge (tgt := 85) hx hb dX1_sendOnce_38 (by decide) (fun c11 => ?_) (fun c11 => ?_)
      · have h := fl_ifp c11 h
        obtain ⟨rfl, rfl⟩ := fl_s2 h
        exact kk0 H locs ls hg (lv_sub hl [0, 1, 2, 3] rfl)
      · have h := fl_ifn c11 h
        refine lv_aload_n hx hb dX1_sendOnce_41 rfl (lv_at hl 0 rfl) ?_
        refine va_get (D := D) (ci := 1) (v := .ref (ad 14)) (C := RX1) (T := TX1) (N := 8) hx hb hts k_1 hown hK.1 hg.1 2 rfl rfl 7 (by decide) k_2 (fun _ h9 => h9) rfl dX1_sendOnce_42 ?_
        refine lv_iload_n hx hb dX1_sendOnce_45 rfl (lv_at hl 3 rfl) ?_
        obtain ⟨v12, i13, e14, h⟩ := fl_rd_b h
        refine g_ld (n := 8) (t0 := 11) hx hb hK hg (wc_a11 ad cz _) rfl i13 e14 dX1_sendOnce_46 ?_
        refine lv_iconst (v := (-1)) hx hb dX1_sendOnce_47 (by decide) ?_
        refine lv_icmp_eq (tgt := 85) hx hb dX1_sendOnce_48 (by decide) (fun c15 => ?_) (fun c15 => ?_)
        · have h := fl_ifp c15 h
          obtain ⟨rfl, rfl⟩ := fl_s2 h
          exact kk0 H locs ls hg (lv_sub hl [0, 1, 2, 3] rfl)
        · have h := fl_ifn c15 h
          refine lv_iload_n hx hb dX1_sendOnce_51 rfl (lv_at hl 2 rfl) ?_
          refine lv_aload_n hx hb dX1_sendOnce_52 rfl (lv_at hl 0 rfl) ?_
          refine va_get (D := D) (ci := 1) (v := .ref (ad 11)) (C := RX1) (T := TX1) (N := 8) hx hb hts k_1 hown hK.1 hg.1 2 rfl rfl 4 (by decide) k_3 (fun _ h9 => h9) rfl dX1_sendOnce_53 ?_
          refine lv_aload_n hx hb dX1_sendOnce_56 rfl (lv_at hl 0 rfl) ?_
          refine va_get (D := D) (ci := 1) (v := .ref (ad 14)) (C := RX1) (T := TX1) (N := 8) hx hb hts k_1 hown hK.1 hg.1 2 rfl rfl 7 (by decide) k_2 (fun _ h9 => h9) rfl dX1_sendOnce_57 ?_
          refine lv_iload_n hx hb dX1_sendOnce_60 rfl (lv_at hl 3 rfl) ?_
          obtain ⟨v16, i17, e18, h⟩ := fl_rd_b h
          refine g_ld (n := 8) (t0 := 11) hx hb hK hg (wc_a11 ad cz _) rfl i17 e18 dX1_sendOnce_61 ?_
          obtain ⟨v19, i20, e21, h⟩ := fl_rd_b h
          refine g_ld (n := 40) (t0 := 8) hx hb hK hg (wc_a8 ad cz _) rfl i20 e21 dX1_sendOnce_62 ?_
          refine va_mmin (rest := []) hx hb (hml.trans hl.1.symm) hown k_4 k_5 k_6 k_7 (Nat.le_of_ble_eq_true rfl) (Nat.le_of_ble_eq_true rfl) (Nat.le_of_ble_eq_true rfl) (Nat.le_of_ble_eq_true rfl) dX1_sendOnce_63 ?_
          refine lv_istore_n (lv' := [(2, .int (if v19 < x2 then v19 else x2)), (0, .ref (ad 2)), (1, .int x1), (3, .int x3), (4, .int x4)]) hx hb dX1_sendOnce_66 rfl hl (by decide) rfl (fun ls hl => ?_)
          refine lv_aload_n hx hb dX1_sendOnce_67 rfl (lv_at hl 1 rfl) ?_
          refine va_get (D := D) (ci := 1) (v := .ref (ad 8)) (C := RX1) (T := TX1) (N := 8) hx hb hts k_1 hown hK.1 hg.1 2 rfl rfl 1 (by decide) k_8 (fun _ h9 => h9) rfl dX1_sendOnce_68 ?_
          refine lv_aload_n hx hb dX1_sendOnce_71 rfl (lv_at hl 1 rfl) ?_
          refine va_get (D := D) (ci := 1) (v := .ref (ad 14)) (C := RX1) (T := TX1) (N := 8) hx hb hts k_1 hown hK.1 hg.1 2 rfl rfl 7 (by decide) k_2 (fun _ h9 => h9) rfl dX1_sendOnce_72 ?_
          refine lv_iload_n hx hb dX1_sendOnce_75 rfl (lv_at hl 3 rfl) ?_
          obtain ⟨v22, i23, e24, h⟩ := fl_rd_b h
          refine g_ld (n := 8) (t0 := 11) hx hb hK hg (wc_a11 ad cz _) rfl i23 e24 dX1_sendOnce_76 ?_
          obtain ⟨v25, i26, e27, h⟩ := fl_rd_b h
          refine g_ld (n := 40) (t0 := 5) hx hb hK hg (wc_a5 ad cz _) rfl i26 e27 dX1_sendOnce_77 ?_
          refine lv_istore_n (lv' := [(3, .int v25), (2, .int (if v19 < x2 then v19 else x2)), (0, .ref (ad 2)), (1, .int x1), (4, .int x4)]) hx hb dX1_sendOnce_78 rfl hl (by decide) rfl (fun ls hl => ?_)
          refine lv_iinc (v := (x4 + 1)) (lv' := [(4, .int (x4 + 1)), (3, .int v25), (2, .int (if v19 < x2 then v19 else x2)), (0, .ref (ad 2)), (1, .int x1)]) hx hb dX1_sendOnce_79 hl (k := 4) rfl rfl (by decide) rfl (fun ls hl => ?_)
          refine lv_goto (tgt := 34) hx hb dX1_sendOnce_82 (by decide) ?_
          exact ih _ _ _ _ _ _ _ _ _ _ h hg (lv_sub hl [3, 4, 2, 1, 0] rfl) kk0
  unfold f_X1_sendOnce at h
  have W0 : ∀ (H : Heap) (locs : List Loc), gS D (wc ad cz) A s.heap σ H locs → W p l e rm_X1_sendOnce s m args below meth c H locs 0 0 Q (F0 m 0 ls []) := by
    intro H locs hg
    refine lv_aload_n hx hb dX1_sendOnce_0 rfl (lv_at hl 0 rfl) ?_
    obtain ⟨σ2, e1, h⟩ := fl_bnd h
    refine g_callVv (As := []) (rest := []) ⟨hx, hb, hml, hown, hts⟩ (c_X1_startAtExcess l D ad cz (σ) e1) (cwV 0 hts gX1_sendOnce_X1_startAtExcess rfl rfl rfl (by decide +kernel) ⟨Nat.le_of_ble_eq_true rfl, Nat.le_of_ble_eq_true rfl⟩) (va_recv hK.1 hg.1 (ci := 1) (q0 := 2) rfl rfl) hK hA hg rfl hl.1 rfl (Nat.le_of_ble_eq_true rfl) dX1_sendOnce_1 ⟨Nat.le_of_ble_eq_true rfl, Nat.le_of_ble_eq_true rfl⟩ (fun H locs hg => ?_)
    refine lv_aload_n hx hb dX1_sendOnce_4 rfl (lv_at hl 0 rfl) ?_
    refine lv_iconst (v := (-1)) hx hb dX1_sendOnce_5 (by decide) ?_
    obtain ⟨σ4, e3, h⟩ := fl_bnd h
    refine g_callVv (As := [.int (-1)]) (rest := []) ⟨hx, hb, hml, hown, hts⟩ (c_X1_measure l D ad cz ((-1)) (σ2) e3) (cwV 1 hts gX1_sendOnce_X1_measure rfl rfl rfl (by decide +kernel) ⟨Nat.le_of_ble_eq_true rfl, Nat.le_of_ble_eq_true rfl⟩) (va_recv hK.1 hg.1 (ci := 1) (q0 := 2) rfl rfl) hK hA hg rfl hl.1 rfl (Nat.le_of_ble_eq_true rfl) dX1_sendOnce_6 ⟨Nat.le_of_ble_eq_true rfl, Nat.le_of_ble_eq_true rfl⟩ (fun H locs hg => ?_)
    refine lv_aload_n hx hb dX1_sendOnce_9 rfl (lv_at hl 0 rfl) ?_
    obtain ⟨r6, e5, h⟩ := fl_bnd h
    refine g_callVi (As := []) (rest := []) ⟨hx, hb, hml, hown, hts⟩ (c_X1_nearestShortNode l D ad cz (σ4) e5) (cwV 0 hts gX1_sendOnce_X1_nearestShortNode rfl rfl rfl (by decide +kernel) ⟨Nat.le_of_ble_eq_true rfl, Nat.le_of_ble_eq_true rfl⟩) (va_recv hK.1 hg.1 (ci := 1) (q0 := 2) rfl rfl) hK hA hg rfl hl.1 rfl (Nat.le_of_ble_eq_true rfl) dX1_sendOnce_10 ⟨Nat.le_of_ble_eq_true rfl, Nat.le_of_ble_eq_true rfl⟩ (fun H locs hg => ?_)
    refine lv_istore_n (lv' := [(1, .int r6), (0, .ref (ad 2))]) hx hb dX1_sendOnce_13 rfl hl (by decide) rfl (fun ls hl => ?_)
    refine lv_iload_n hx hb dX1_sendOnce_14 rfl (lv_at hl 0 rfl) ?_
    refine lv_iconst (v := (-1)) hx hb dX1_sendOnce_15 (by decide) ?_
    refine lv_icmp_ne (tgt := 21) hx hb dX1_sendOnce_16 (by decide) (fun c7 => ?_) (fun c7 => ?_)
    · have h := fl_ifn c7 h
      refine lv_aload_n hx hb dX1_sendOnce_21 rfl (lv_at hl 1 rfl) ?_
      refine va_get (D := D) (ci := 1) (v := .ref (ad 12)) (C := RX1) (T := TX1) (N := 8) hx hb hts k_1 hown hK.1 hg.1 2 rfl rfl 5 (by decide) k_0 (fun _ h9 => h9) rfl dX1_sendOnce_22 ?_
      refine lv_iload_n hx hb dX1_sendOnce_25 rfl (lv_at hl 0 rfl) ?_
      obtain ⟨v8, i9, e10, h⟩ := fl_rd_b h
      refine g_ld (n := 8) (t0 := 9) hx hb hK hg (wc_a9 ad cz _) rfl i9 e10 dX1_sendOnce_26 ?_
      refine lv_ineg hx hb dX1_sendOnce_27 ?_
      refine lv_istore_n (lv' := [(2, .int (-v8)), (1, .int r6), (0, .ref (ad 2))]) hx hb dX1_sendOnce_28 rfl hl (by decide) rfl (fun ls hl => ?_)
      refine lv_iload_n hx hb dX1_sendOnce_29 rfl (lv_at hl 1 rfl) ?_
      refine lv_istore_n (lv' := [(3, .int r6), (2, .int (-v8)), (1, .int r6), (0, .ref (ad 2))]) hx hb dX1_sendOnce_30 rfl hl (by decide) rfl (fun ls hl => ?_)
      refine lv_iconst (v := (0)) hx hb dX1_sendOnce_31 (by decide) ?_
      refine lv_istore (lv' := [(4, .int (0)), (3, .int r6), (2, .int (-v8)), (1, .int r6), (0, .ref (ad 2))]) hx hb dX1_sendOnce_32 hl (by decide) rfl (fun ls hl => ?_)
      obtain ⟨w28, w29, hB30, h⟩ := fl_b2_b h
      refine L34 fl_N _ _ _ _ _ _ _ H locs ls hB30 hg (lv_sub hl [4, 3, 2, 1, 0] rfl) (fun H locs ls hg hl => ?_)
      refine lv_iload_n hx hb dX1_sendOnce_85 rfl (lv_at hl 2 rfl) ?_
      refine lv_aload_n hx hb dX1_sendOnce_86 rfl (lv_at hl 0 rfl) ?_
      refine va_get (D := D) (ci := 1) (v := .ref (ad 12)) (C := RX1) (T := TX1) (N := 8) hx hb hts k_1 hown hK.1 hg.1 2 rfl rfl 5 (by decide) k_0 (fun _ h9 => h9) rfl dX1_sendOnce_87 ?_
      refine lv_iload_n hx hb dX1_sendOnce_90 rfl (lv_at hl 3 rfl) ?_
      obtain ⟨v31, i32, e33, h⟩ := fl_rd_b h
      refine g_ld (n := 8) (t0 := 9) hx hb hK hg (wc_a9 ad cz _) rfl i32 e33 dX1_sendOnce_91 ?_
      refine va_mmin (rest := []) hx hb (hml.trans hl.1.symm) hown k_4 k_5 k_6 k_7 (Nat.le_of_ble_eq_true rfl) (Nat.le_of_ble_eq_true rfl) (Nat.le_of_ble_eq_true rfl) (Nat.le_of_ble_eq_true rfl) dX1_sendOnce_92 ?_
      refine lv_istore_n (lv' := [(2, .int (if v31 < w28 then v31 else w28)), (0, .ref (ad 2)), (1, .int r6), (3, .int w29)]) hx hb dX1_sendOnce_95 rfl hl (by decide) rfl (fun ls hl => ?_)
      refine lv_aload_n hx hb dX1_sendOnce_96 rfl (lv_at hl 1 rfl) ?_
      refine va_get (D := D) (ci := 1) (v := .ref (ad 12)) (C := RX1) (T := TX1) (N := 8) hx hb hts k_1 hown hK.1 hg.1 2 rfl rfl 5 (by decide) k_0 (fun _ h9 => h9) rfl dX1_sendOnce_97 ?_
      refine lv_iload_n hx hb dX1_sendOnce_100 rfl (lv_at hl 3 rfl) ?_
      refine lv_dup2_11 hx hb dX1_sendOnce_101 rfl rfl ?_
      obtain ⟨v34, i35, e36, h⟩ := fl_rd_b h
      refine g_ld (n := 8) (t0 := 9) hx hb hK hg (wc_a9 ad cz _) rfl i35 e36 dX1_sendOnce_102 ?_
      refine lv_iload_n hx hb dX1_sendOnce_103 rfl (lv_at hl 0 rfl) ?_
      refine lv_isub hx hb dX1_sendOnce_104 ?_
      obtain ⟨σ37, i38, e39, h⟩ := fl_wr_b h
      refine g_st (n := 8) (t0 := 9) hx hb hK hg (wc_a9 ad cz _) (wc_s9 ad cz _) rfl i38 e39 dX1_sendOnce_105 (fun H locs hg => ?_)
      refine lv_aload_n hx hb dX1_sendOnce_106 rfl (lv_at hl 1 rfl) ?_
      refine va_get (D := D) (ci := 1) (v := .ref (ad 12)) (C := RX1) (T := TX1) (N := 8) hx hb hts k_1 hown hK.1 hg.1 2 rfl rfl 5 (by decide) k_0 (fun _ h9 => h9) rfl dX1_sendOnce_107 ?_
      refine lv_iload_n hx hb dX1_sendOnce_110 rfl (lv_at hl 2 rfl) ?_
      refine lv_dup2_11 hx hb dX1_sendOnce_111 rfl rfl ?_
      obtain ⟨v40, i41, e42, h⟩ := fl_rd_b h
      refine g_ld (n := 8) (t0 := 9) hx hb hK hg (wc_a9 ad cz _) rfl i41 e42 dX1_sendOnce_112 ?_
      refine lv_iload_n hx hb dX1_sendOnce_113 rfl (lv_at hl 0 rfl) ?_
      refine lv_iadd hx hb dX1_sendOnce_114 ?_
      obtain ⟨σ43, i44, e45, h⟩ := fl_wr_b h
      refine g_st (n := 8) (t0 := 9) hx hb hK hg (wc_a9 ad cz _) (wc_s9 ad cz _) rfl i44 e45 dX1_sendOnce_115 (fun H locs hg => ?_)
      refine lv_aload_n hx hb dX1_sendOnce_116 rfl (lv_at hl 1 rfl) ?_
      refine lv_iload_n hx hb dX1_sendOnce_117 rfl (lv_at hl 2 rfl) ?_
      refine lv_iload_n hx hb dX1_sendOnce_118 rfl (lv_at hl 0 rfl) ?_
      obtain ⟨σ47, e46, h⟩ := fl_bnd h
      refine g_callVv (As := [.int r6, .int (if v31 < w28 then v31 else w28)]) (rest := []) ⟨hx, hb, hml, hown, hts⟩ (c_X1_sendAlongPath l D ad cz (r6) ((if v31 < w28 then v31 else w28)) (σ43) e46) (cwV 2 hts gX1_sendOnce_X1_sendAlongPath rfl rfl rfl (by decide +kernel) ⟨Nat.le_of_ble_eq_true rfl, Nat.le_of_ble_eq_true rfl⟩) (va_recv hK.1 hg.1 (ci := 1) (q0 := 2) rfl rfl) hK hA hg rfl hl.1 rfl (Nat.le_of_ble_eq_true rfl) dX1_sendOnce_119 ⟨Nat.le_of_ble_eq_true rfl, Nat.le_of_ble_eq_true rfl⟩ (fun H locs hg => ?_)
      refine lv_iconst (v := (1)) hx hb dX1_sendOnce_122 (by decide) ?_
      exact hret _ _ _ _ _ _ h hg rfl dX1_sendOnce_123
    · have h := fl_ifp c7 h
      refine lv_iconst (v := (0)) hx hb dX1_sendOnce_19 (by decide) ?_
      exact hret _ _ _ _ _ _ h hg rfl dX1_sendOnce_20
  exact W0 _ _ hg
def f_X1_route_l21 : Nat → Int32 → Int32 → fl_St → Option (fl_St)
  | 0, _, _, _ => none
  | n + 1, x1, x2, σ => if x1 = 0 then (some (σ)) else (if (840) ≤ x2 then (some (σ)) else (fl_b2 (f_X1_sendOnce  σ) fun r12 σ13 => f_X1_route_l21 n r12 (x2 + 1) σ13))
def f_X1_route (σ : fl_St) : Option (Int32 × fl_St) := fl_b2 (f_X1_levelUnboundedArcs  σ) fun r2 σ3 => if r2 = 0 then (some ((0), σ3)) else ((f_X1_fillLightArcs  σ3).bind fun σ6 => (f_X1_countExcess  σ6).bind fun σ8 => (f_X1_route_l21 fl_N (1) (0) σ8).bind fun (σ14 : fl_St) => some ((1), σ14))
def rm_X1_route : Room := { frames := 3, cells := 0, slots := 0, locals := 70 }
set_option maxHeartbeats 4000000 in
set_option maxRecDepth 100000 in
theorem c_X1_route (l : Launch) (D : va_G) (ad : Nat → Nat) (cz : Nat → ClassId) (σ : fl_St) {r : Int32} {σ' : fl_St} (h : f_X1_route σ = some (r, σ')) : gMi l yX1_route wsX1_route rm_X1_route D (wc ad cz) (wcT cz) wcN [.ref (ad 2)] σ r σ' := by
  refine gMi_of (cc := cX1_route) (maxL := 3) (by decide) rfl (Nat.le_of_ble_eq_true rfl) ?_
  intro p e s m args below meth c A Q ls hx hb hml hown hts hK hA hg hl hret
  have hown : s.vm.findClass RX1 = some m.cls := hown
  have hl : lv_has ls 3 [(0, .ref (ad 2))] := hl
  have L21 : ∀ (n : Nat) (x1 : Int32) (x2 : Int32) (σ : fl_St) (σo : fl_St) (H : Heap) (locs : List Loc) (ls : Array Slot), f_X1_route_l21 n x1 x2 σ = some (σo) → gS D (wc ad cz) A s.heap σ H locs → lv_has ls 3 [(0, .ref (ad 2)), (1, .int x1), (2, .int x2)] → (∀ (H : Heap) (locs : List Loc) (ls : Array Slot), gS D (wc ad cz) A s.heap σo H locs → lv_has ls 3 [] → W p l e rm_X1_route s m args below meth c H locs 0 0 Q (F0 m 43 ls [])) → W p l e rm_X1_route s m args below meth c H locs 0 0 Q (F0 m 21 ls []) := by
    intro n
    induction n with
    | zero =>
      intro x1 x2 σ σo H locs ls h hg hl kk0
      rw [f_X1_route_l21] at h
      cases h
    | succ n ih =>
      intro x1 x2 σ σo H locs ls h hg hl kk0
      rw [f_X1_route_l21] at h
      refine lv_iload_n hx hb dX1_route_21 rfl (lv_at hl 1 rfl) ?_
      refine lv_if_eq (tgt := 43) hx hb dX1_route_22 (by decide) (fun c9 => ?_) (fun c9 => ?_)
      · have h := fl_ifp c9 h
        obtain rfl := fl_s1 h
        exact kk0 H locs ls hg (lv_sub hl [] rfl)
      · have h := fl_ifn c9 h
        refine lv_iload_n hx hb dX1_route_25 rfl (lv_at hl 2 rfl) ?_
        refine lv_sipush (v := (840)) hx hb dX1_route_26 (by decide) ?_
        refine lv_icmp_ge (tgt := 43) hx hb dX1_route_29 (by decide) (fun c10 => ?_) (fun c10 => ?_)
        · have h := fl_ifp c10 h
          obtain rfl := fl_s1 h
          exact kk0 H locs ls hg (lv_sub hl [] rfl)
        · have h := fl_ifn c10 h
          refine lv_aload_n hx hb dX1_route_32 rfl (lv_at hl 0 rfl) ?_
          obtain ⟨r12, σ13, e11, h⟩ := fl_b2_b h
          refine g_callVi (As := []) (rest := []) ⟨hx, hb, hml, hown, hts⟩ (c_X1_sendOnce l D ad cz (σ) e11) (cwV 0 hts gX1_route_X1_sendOnce rfl rfl rfl (by decide +kernel) ⟨Nat.le_of_ble_eq_true rfl, Nat.le_of_ble_eq_true rfl⟩) (va_recv hK.1 hg.1 (ci := 1) (q0 := 2) rfl rfl) hK hA hg rfl hl.1 rfl (Nat.le_of_ble_eq_true rfl) dX1_route_33 ⟨Nat.le_of_ble_eq_true rfl, Nat.le_of_ble_eq_true rfl⟩ (fun H locs hg => ?_)
          refine lv_istore_n (lv' := [(1, .int r12), (0, .ref (ad 2)), (2, .int x2)]) hx hb dX1_route_36 rfl hl (by decide) rfl (fun ls hl => ?_)
          refine lv_iinc (v := (x2 + 1)) (lv' := [(2, .int (x2 + 1)), (1, .int r12), (0, .ref (ad 2))]) hx hb dX1_route_37 hl (k := 2) rfl rfl (by decide) rfl (fun ls hl => ?_)
          refine lv_goto (tgt := 21) hx hb dX1_route_40 (by decide) ?_
          exact ih _ _ _ _ _ _ _ h hg (lv_sub hl [2, 1, 0] rfl) kk0
  unfold f_X1_route at h
  have W0 : ∀ (H : Heap) (locs : List Loc), gS D (wc ad cz) A s.heap σ H locs → W p l e rm_X1_route s m args below meth c H locs 0 0 Q (F0 m 0 ls []) := by
    intro H locs hg
    refine lv_aload_n hx hb dX1_route_0 rfl (lv_at hl 0 rfl) ?_
    obtain ⟨r2, σ3, e1, h⟩ := fl_b2_b h
    refine g_callVi (As := []) (rest := []) ⟨hx, hb, hml, hown, hts⟩ (c_X1_levelUnboundedArcs l D ad cz (σ) e1) (cwV 0 hts gX1_route_X1_levelUnboundedArcs rfl rfl rfl (by decide +kernel) ⟨Nat.le_of_ble_eq_true rfl, Nat.le_of_ble_eq_true rfl⟩) (va_recv hK.1 hg.1 (ci := 1) (q0 := 2) rfl rfl) hK hA hg rfl hl.1 rfl (Nat.le_of_ble_eq_true rfl) dX1_route_1 ⟨Nat.le_of_ble_eq_true rfl, Nat.le_of_ble_eq_true rfl⟩ (fun H locs hg => ?_)
    refine lv_if_ne (tgt := 9) hx hb dX1_route_4 (by decide) (fun c4 => ?_) (fun c4 => ?_)
    · have h := fl_ifn c4 h
      refine lv_aload_n hx hb dX1_route_9 rfl (lv_at hl 0 rfl) ?_
      obtain ⟨σ6, e5, h⟩ := fl_bnd h
      refine g_callVv (As := []) (rest := []) ⟨hx, hb, hml, hown, hts⟩ (c_X1_fillLightArcs l D ad cz (σ3) e5) (cwV 0 hts gX1_route_X1_fillLightArcs rfl rfl rfl (by decide +kernel) ⟨Nat.le_of_ble_eq_true rfl, Nat.le_of_ble_eq_true rfl⟩) (va_recv hK.1 hg.1 (ci := 1) (q0 := 2) rfl rfl) hK hA hg rfl hl.1 rfl (Nat.le_of_ble_eq_true rfl) dX1_route_10 ⟨Nat.le_of_ble_eq_true rfl, Nat.le_of_ble_eq_true rfl⟩ (fun H locs hg => ?_)
      refine lv_aload_n hx hb dX1_route_13 rfl (lv_at hl 0 rfl) ?_
      obtain ⟨σ8, e7, h⟩ := fl_bnd h
      refine g_callVv (As := []) (rest := []) ⟨hx, hb, hml, hown, hts⟩ (c_X1_countExcess l D ad cz (σ6) e7) (cwV 0 hts gX1_route_X1_countExcess rfl rfl rfl (by decide +kernel) ⟨Nat.le_of_ble_eq_true rfl, Nat.le_of_ble_eq_true rfl⟩) (va_recv hK.1 hg.1 (ci := 1) (q0 := 2) rfl rfl) hK hA hg rfl hl.1 rfl (Nat.le_of_ble_eq_true rfl) dX1_route_14 ⟨Nat.le_of_ble_eq_true rfl, Nat.le_of_ble_eq_true rfl⟩ (fun H locs hg => ?_)
      refine lv_iconst (v := (1)) hx hb dX1_route_17 (by decide) ?_
      refine lv_istore_n (lv' := [(1, .int (1)), (0, .ref (ad 2))]) hx hb dX1_route_18 rfl hl (by decide) rfl (fun ls hl => ?_)
      refine lv_iconst (v := (0)) hx hb dX1_route_19 (by decide) ?_
      refine lv_istore_n (lv' := [(2, .int (0)), (1, .int (1)), (0, .ref (ad 2))]) hx hb dX1_route_20 rfl hl (by decide) rfl (fun ls hl => ?_)
      obtain ⟨σ14, hB15, h⟩ := fl_bnd h
      refine L21 fl_N _ _ _ _ H locs ls hB15 hg (lv_sub hl [2, 1, 0] rfl) (fun H locs ls hg hl => ?_)
      refine lv_iconst (v := (1)) hx hb dX1_route_43 (by decide) ?_
      exact hret _ _ _ _ _ _ h hg rfl dX1_route_44
    · have h := fl_ifp c4 h
      refine lv_iconst (v := (0)) hx hb dX1_route_7 (by decide) ?_
      exact hret _ _ _ _ _ _ h hg rfl dX1_route_8
  exact W0 _ _ hg
def f_X1_nodesBehindExcess_l13 (σ : fl_St) : Nat → Int32 → Int32 → Option (Int32)
  | 0, _, _ => none
  | n + 1, x1, x2 => if (8) ≤ x2 then (some (x1)) else ((fl_rd σ 10 8 x2).bind fun v6 => (if (1000000000) ≤ v6 then (some (x1)) else (some ((x1 ||| ((1) <<< (x2 &&& 31)))))).bind fun (w10 : Int32) => f_X1_nodesBehindExcess_l13 σ n w10 (x2 + 1))
def f_X1_nodesBehindExcess (σ : fl_St) : Option (Int32 × fl_St) := (f_X1_startAtExcess  σ).bind fun σ2 => (f_X1_measure (-1) σ2).bind fun σ4 => (f_X1_nodesBehindExcess_l13 σ4 fl_N (0) (0)).bind fun (w13 : Int32) => some (w13, σ4)
def rm_X1_nodesBehindExcess : Room := { frames := 2, cells := 0, slots := 0, locals := 46 }
set_option maxHeartbeats 4000000 in
set_option maxRecDepth 100000 in
theorem c_X1_nodesBehindExcess (l : Launch) (D : va_G) (ad : Nat → Nat) (cz : Nat → ClassId) (σ : fl_St) {r : Int32} {σ' : fl_St} (h : f_X1_nodesBehindExcess σ = some (r, σ')) : gMi l yX1_nodesBehindExcess wsX1_nodesBehindExcess rm_X1_nodesBehindExcess D (wc ad cz) (wcT cz) wcN [.ref (ad 2)] σ r σ' := by
  refine gMi_of (cc := cX1_nodesBehindExcess) (maxL := 3) (by decide) rfl (Nat.le_of_ble_eq_true rfl) ?_
  intro p e s m args below meth c A Q ls hx hb hml hown hts hK hA hg hl hret
  have hown : s.vm.findClass RX1 = some m.cls := hown
  have hl : lv_has ls 3 [(0, .ref (ad 2))] := hl
  have k_0 := hts (.fieldLink RX1 27 "FlowLedger$Router" "distance" "[I") (by decide +kernel)
  have k_1 := (by decide +kernel : ∀ w ∈ wsX10, w ∈ wsX1_nodesBehindExcess)
  have k_2 := hts (.constant RX1 76 (1000000000)) (by decide +kernel)
  have L13 : ∀ (n : Nat) (σ : fl_St) (x1 : Int32) (x2 : Int32) (o1 : Int32) (H : Heap) (locs : List Loc) (ls : Array Slot), f_X1_nodesBehindExcess_l13 σ n x1 x2 = some (o1) → gS D (wc ad cz) A s.heap σ H locs → lv_has ls 3 [(0, .ref (ad 2)), (1, .int x1), (2, .int x2)] → (∀ (H : Heap) (locs : List Loc) (ls : Array Slot), gS D (wc ad cz) A s.heap σ H locs → lv_has ls 3 [(1, .int o1)] → W p l e rm_X1_nodesBehindExcess s m args below meth c H locs 0 0 Q (F0 m 42 ls [])) → W p l e rm_X1_nodesBehindExcess s m args below meth c H locs 0 0 Q (F0 m 13 ls []) := by
    intro n
    induction n with
    | zero =>
      intro σ x1 x2 o1 H locs ls h hg hl kk0
      rw [f_X1_nodesBehindExcess_l13] at h
      cases h
    | succ n ih =>
      intro σ x1 x2 o1 H locs ls h hg hl kk0
      rw [f_X1_nodesBehindExcess_l13] at h
      refine lv_iload_n hx hb dX1_nodesBehindExcess_13 rfl (lv_at hl 2 rfl) ?_
      refine lv_bipush (v := (8)) hx hb dX1_nodesBehindExcess_14 (by decide) ?_
      refine lv_icmp_ge (tgt := 42) hx hb dX1_nodesBehindExcess_16 (by decide) (fun c5 => ?_) (fun c5 => ?_)
      · have h := fl_ifp c5 h
        obtain rfl := fl_s1 h
        exact kk0 H locs ls hg (lv_sub hl [1] rfl)
      · have h := fl_ifn c5 h
        refine lv_aload_n hx hb dX1_nodesBehindExcess_19 rfl (lv_at hl 0 rfl) ?_
        refine va_get (D := D) (ci := 1) (v := .ref (ad 13)) (C := RX1) (T := TX1) (N := 8) hx hb hts k_1 hown hK.1 hg.1 2 rfl rfl 6 (by decide) k_0 (fun _ h9 => h9) rfl dX1_nodesBehindExcess_20 ?_
        refine lv_iload_n hx hb dX1_nodesBehindExcess_23 rfl (lv_at hl 2 rfl) ?_
        obtain ⟨v6, i7, e8, h⟩ := fl_rd_b h
        refine g_ld (n := 8) (t0 := 10) hx hb hK hg (wc_a10 ad cz _) rfl i7 e8 dX1_nodesBehindExcess_24 ?_
        refine lv_ldc hx hb hown k_2 dX1_nodesBehindExcess_25 ?_
        obtain ⟨w10, hB12, h⟩ := fl_bnd h
        have J11 : ∀ (H : Heap) (locs : List Loc) (ls : Array Slot), gS D (wc ad cz) A s.heap σ H locs → lv_has ls 3 [(0, .ref (ad 2)), (1, .int w10), (2, .int x2)] → W p l e rm_X1_nodesBehindExcess s m args below meth c H locs 0 0 Q (F0 m 36 ls []) := by
          intro H locs ls hg hl
          refine lv_iinc (v := (x2 + 1)) (lv' := [(2, .int (x2 + 1)), (0, .ref (ad 2)), (1, .int w10)]) hx hb dX1_nodesBehindExcess_36 hl (k := 2) rfl rfl (by decide) rfl (fun ls hl => ?_)
          refine lv_goto (tgt := 13) hx hb dX1_nodesBehindExcess_39 (by decide) ?_
          exact ih _ _ _ _ _ _ _ h hg (lv_sub hl [1, 2, 0] rfl) kk0
        clear h
        have h := hB12
        refine lv_icmp_ge (tgt := 36) hx hb dX1_nodesBehindExcess_27 (by decide) (fun c9 => ?_) (fun c9 => ?_)
        · have h := fl_ifp c9 h
          obtain rfl := fl_s1 h
          exact J11 H locs ls hg (lv_sub hl [0, 1, 2] rfl)
        · have h := fl_ifn c9 h
          refine lv_iload_n hx hb dX1_nodesBehindExcess_30 rfl (lv_at hl 1 rfl) ?_
          refine lv_iconst (v := (1)) hx hb dX1_nodesBehindExcess_31 (by decide) ?_
          refine lv_iload_n hx hb dX1_nodesBehindExcess_32 rfl (lv_at hl 2 rfl) ?_
          refine lv_ishl hx hb dX1_nodesBehindExcess_33 ?_
          refine lv_ior hx hb dX1_nodesBehindExcess_34 ?_
          refine lv_istore_n (lv' := [(1, .int (x1 ||| ((1) <<< (x2 &&& 31)))), (0, .ref (ad 2)), (2, .int x2)]) hx hb dX1_nodesBehindExcess_35 rfl hl (by decide) rfl (fun ls hl => ?_)
          obtain rfl := fl_s1 h
          exact J11 H locs ls hg (lv_sub hl [1, 0, 2] rfl)
  unfold f_X1_nodesBehindExcess at h
  have W0 : ∀ (H : Heap) (locs : List Loc), gS D (wc ad cz) A s.heap σ H locs → W p l e rm_X1_nodesBehindExcess s m args below meth c H locs 0 0 Q (F0 m 0 ls []) := by
    intro H locs hg
    refine lv_aload_n hx hb dX1_nodesBehindExcess_0 rfl (lv_at hl 0 rfl) ?_
    obtain ⟨σ2, e1, h⟩ := fl_bnd h
    refine g_callVv (As := []) (rest := []) ⟨hx, hb, hml, hown, hts⟩ (c_X1_startAtExcess l D ad cz (σ) e1) (cwV 0 hts gX1_nodesBehindExcess_X1_startAtExcess rfl rfl rfl (by decide +kernel) ⟨Nat.le_of_ble_eq_true rfl, Nat.le_of_ble_eq_true rfl⟩) (va_recv hK.1 hg.1 (ci := 1) (q0 := 2) rfl rfl) hK hA hg rfl hl.1 rfl (Nat.le_of_ble_eq_true rfl) dX1_nodesBehindExcess_1 ⟨Nat.le_of_ble_eq_true rfl, Nat.le_of_ble_eq_true rfl⟩ (fun H locs hg => ?_)
    refine lv_aload_n hx hb dX1_nodesBehindExcess_4 rfl (lv_at hl 0 rfl) ?_
    refine lv_iconst (v := (-1)) hx hb dX1_nodesBehindExcess_5 (by decide) ?_
    obtain ⟨σ4, e3, h⟩ := fl_bnd h
    refine g_callVv (As := [.int (-1)]) (rest := []) ⟨hx, hb, hml, hown, hts⟩ (c_X1_measure l D ad cz ((-1)) (σ2) e3) (cwV 1 hts gX1_nodesBehindExcess_X1_measure rfl rfl rfl (by decide +kernel) ⟨Nat.le_of_ble_eq_true rfl, Nat.le_of_ble_eq_true rfl⟩) (va_recv hK.1 hg.1 (ci := 1) (q0 := 2) rfl rfl) hK hA hg rfl hl.1 rfl (Nat.le_of_ble_eq_true rfl) dX1_nodesBehindExcess_6 ⟨Nat.le_of_ble_eq_true rfl, Nat.le_of_ble_eq_true rfl⟩ (fun H locs hg => ?_)
    refine lv_iconst (v := (0)) hx hb dX1_nodesBehindExcess_9 (by decide) ?_
    refine lv_istore_n (lv' := [(1, .int (0)), (0, .ref (ad 2))]) hx hb dX1_nodesBehindExcess_10 rfl hl (by decide) rfl (fun ls hl => ?_)
    refine lv_iconst (v := (0)) hx hb dX1_nodesBehindExcess_11 (by decide) ?_
    refine lv_istore_n (lv' := [(2, .int (0)), (1, .int (0)), (0, .ref (ad 2))]) hx hb dX1_nodesBehindExcess_12 rfl hl (by decide) rfl (fun ls hl => ?_)
    obtain ⟨w13, hB14, h⟩ := fl_bnd h
    refine L13 fl_N _ _ _ _ H locs ls hB14 hg (lv_sub hl [2, 1, 0] rfl) (fun H locs ls hg hl => ?_)
    refine lv_iload_n hx hb dX1_nodesBehindExcess_42 rfl (lv_at hl 0 rfl) ?_
    exact hret _ _ _ _ _ _ h hg rfl dX1_nodesBehindExcess_43
  exact W0 _ _ hg
def f_X1_canReach_l3 (x1 : Int32) (x2 : Int32) (x3 : Int32) : Nat → Int32 → fl_St → Option (fl_St)
  | 0, _, _ => none
  | n + 1, x4, σ => if (8) ≤ x4 then (some (σ)) else ((if x4 = x1 then (some ((1))) else (some ((0)))).bind fun (t3 : Int32) => (f_X1_setStart x4 t3 σ).bind fun σ7 => f_X1_canReach_l3 x1 x2 x3 n (x4 + 1) σ7)
def f_X1_canReach (x1 : Int32) (x2 : Int32) (x3 : Int32) (σ : fl_St) : Option (Int32 × fl_St) := (f_X1_canReach_l3 x1 x2 x3 fl_N (0) σ).bind fun (σ8 : fl_St) => (f_X1_measure x3 σ8).bind fun σ11 => (fl_rd σ11 10 8 x2).bind fun v12 => (if (1000000000) ≤ v12 then (some ((0))) else (some ((1)))).bind fun (t16 : Int32) => if ¬ (t16 = 0 ∨ t16 = 1) then none else some (t16, σ11)
def rm_X1_canReach : Room := { frames := 2, cells := 0, slots := 0, locals := 46 }
set_option maxHeartbeats 4000000 in
set_option maxRecDepth 100000 in
theorem c_X1_canReach (l : Launch) (D : va_G) (ad : Nat → Nat) (cz : Nat → ClassId) (x1 : Int32) (x2 : Int32) (x3 : Int32) (σ : fl_St) {r : Int32} {σ' : fl_St} (h : f_X1_canReach x1 x2 x3 σ = some (r, σ')) : gMi l yX1_canReach wsX1_canReach rm_X1_canReach D (wc ad cz) (wcT cz) wcN [.ref (ad 2), .int x1, .int x2, .int x3] σ r σ' := by
  refine gMi_of (cc := cX1_canReach) (maxL := 5) (by decide) rfl (Nat.le_of_ble_eq_true rfl) ?_
  intro p e s m args below meth c A Q ls hx hb hml hown hts hK hA hg hl hret
  have hown : s.vm.findClass RX1 = some m.cls := hown
  have hl : lv_has ls 5 [(0, .ref (ad 2)), (1, .int x1), (2, .int x2), (3, .int x3)] := hl
  have k_0 := hts (.fieldLink RX1 27 "FlowLedger$Router" "distance" "[I") (by decide +kernel)
  have k_1 := (by decide +kernel : ∀ w ∈ wsX10, w ∈ wsX1_canReach)
  have k_2 := hts (.constant RX1 76 (1000000000)) (by decide +kernel)
  have L3 : ∀ (n : Nat) (x1 : Int32) (x2 : Int32) (x3 : Int32) (x4 : Int32) (σ : fl_St) (σo : fl_St) (H : Heap) (locs : List Loc) (ls : Array Slot), f_X1_canReach_l3 x1 x2 x3 n x4 σ = some (σo) → gS D (wc ad cz) A s.heap σ H locs → lv_has ls 5 [(0, .ref (ad 2)), (1, .int x1), (2, .int x2), (3, .int x3), (4, .int x4)] → (∀ (H : Heap) (locs : List Loc) (ls : Array Slot), gS D (wc ad cz) A s.heap σo H locs → lv_has ls 5 [(0, .ref (ad 2)), (2, .int x2), (3, .int x3)] → W p l e rm_X1_canReach s m args below meth c H locs 0 0 Q (F0 m 33 ls [])) → W p l e rm_X1_canReach s m args below meth c H locs 0 0 Q (F0 m 3 ls []) := by
    intro n
    induction n with
    | zero =>
      intro x1 x2 x3 x4 σ σo H locs ls h hg hl kk0
      rw [f_X1_canReach_l3] at h
      cases h
    | succ n ih =>
      intro x1 x2 x3 x4 σ σo H locs ls h hg hl kk0
      rw [f_X1_canReach_l3] at h
      refine lv_iload hx hb dX1_canReach_3 (lv_at hl 4 rfl) ?_
      refine lv_bipush (v := (8)) hx hb dX1_canReach_5 (by decide) ?_
      refine lv_icmp_ge (tgt := 33) hx hb dX1_canReach_7 (by decide) (fun c1 => ?_) (fun c1 => ?_)
      · have h := fl_ifp c1 h
        obtain rfl := fl_s1 h
        exact kk0 H locs ls hg (lv_sub hl [0, 2, 3] rfl)
      · have h := fl_ifn c1 h
        refine lv_aload_n hx hb dX1_canReach_10 rfl (lv_at hl 0 rfl) ?_
        refine lv_iload hx hb dX1_canReach_11 (lv_at hl 4 rfl) ?_
        refine lv_iload hx hb dX1_canReach_13 (lv_at hl 4 rfl) ?_
        refine lv_iload_n hx hb dX1_canReach_15 rfl (lv_at hl 1 rfl) ?_
        obtain ⟨t3, hB5, h⟩ := fl_bnd h
        have J4 : ∀ (H : Heap) (locs : List Loc) (ls : Array Slot), gS D (wc ad cz) A s.heap σ H locs → lv_has ls 5 [(0, .ref (ad 2)), (1, .int x1), (2, .int x2), (3, .int x3), (4, .int x4)] → W p l e rm_X1_canReach s m args below meth c H locs 0 0 Q (F0 m 24 ls [.int t3, .int x4, .ref (ad 2)]) := by
          intro H locs ls hg hl
          obtain ⟨σ7, e6, h⟩ := fl_bnd h
          refine g_callVv (As := [.int x4, .int t3]) (rest := []) ⟨hx, hb, hml, hown, hts⟩ (c_X1_setStart l D ad cz (x4) (t3) (σ) e6) (cwV 2 hts gX1_canReach_X1_setStart rfl rfl rfl (by decide +kernel) ⟨Nat.le_of_ble_eq_true rfl, Nat.le_of_ble_eq_true rfl⟩) (va_recv hK.1 hg.1 (ci := 1) (q0 := 2) rfl rfl) hK hA hg rfl hl.1 rfl (Nat.le_of_ble_eq_true rfl) dX1_canReach_24 ⟨Nat.le_of_ble_eq_true rfl, Nat.le_of_ble_eq_true rfl⟩ (fun H locs hg => ?_)
          refine lv_iinc (v := (x4 + 1)) (lv' := [(4, .int (x4 + 1)), (0, .ref (ad 2)), (1, .int x1), (2, .int x2), (3, .int x3)]) hx hb dX1_canReach_27 hl (k := 4) rfl rfl (by decide) rfl (fun ls hl => ?_)
          refine lv_goto (tgt := 3) hx hb dX1_canReach_30 (by decide) ?_
          exact ih _ _ _ _ _ _ _ _ _ h hg (lv_sub hl [1, 2, 3, 4, 0] rfl) kk0
        clear h
        have h := hB5
        refine lv_icmp_ne (tgt := 23) hx hb dX1_canReach_16 (by decide) (fun c2 => ?_) (fun c2 => ?_)
        · have h := fl_ifn c2 h
          refine lv_iconst (v := (0)) hx hb dX1_canReach_23 (by decide) ?_
          obtain rfl := fl_s1 h
          exact J4 H locs ls hg (lv_sub hl [0, 1, 2, 3, 4] rfl)
        · have h := fl_ifp c2 h
          refine lv_iconst (v := (1)) hx hb dX1_canReach_19 (by decide) ?_
          refine lv_goto (tgt := 24) hx hb dX1_canReach_20 (by decide) ?_
          obtain rfl := fl_s1 h
          exact J4 H locs ls hg (lv_sub hl [0, 1, 2, 3, 4] rfl)
  unfold f_X1_canReach at h
  have W0 : ∀ (H : Heap) (locs : List Loc), gS D (wc ad cz) A s.heap σ H locs → W p l e rm_X1_canReach s m args below meth c H locs 0 0 Q (F0 m 0 ls []) := by
    intro H locs hg
    refine lv_iconst (v := (0)) hx hb dX1_canReach_0 (by decide) ?_
    refine lv_istore (lv' := [(4, .int (0)), (0, .ref (ad 2)), (1, .int x1), (2, .int x2), (3, .int x3)]) hx hb dX1_canReach_1 hl (by decide) rfl (fun ls hl => ?_)
    obtain ⟨σ8, hB9, h⟩ := fl_bnd h
    refine L3 fl_N _ _ _ _ _ _ H locs ls hB9 hg (lv_sub hl [1, 2, 3, 4, 0] rfl) (fun H locs ls hg hl => ?_)
    refine lv_aload_n hx hb dX1_canReach_33 rfl (lv_at hl 0 rfl) ?_
    refine lv_iload_n hx hb dX1_canReach_34 rfl (lv_at hl 2 rfl) ?_
    obtain ⟨σ11, e10, h⟩ := fl_bnd h
    refine g_callVv (As := [.int x3]) (rest := []) ⟨hx, hb, hml, hown, hts⟩ (c_X1_measure l D ad cz (x3) (σ8) e10) (cwV 1 hts gX1_canReach_X1_measure rfl rfl rfl (by decide +kernel) ⟨Nat.le_of_ble_eq_true rfl, Nat.le_of_ble_eq_true rfl⟩) (va_recv hK.1 hg.1 (ci := 1) (q0 := 2) rfl rfl) hK hA hg rfl hl.1 rfl (Nat.le_of_ble_eq_true rfl) dX1_canReach_35 ⟨Nat.le_of_ble_eq_true rfl, Nat.le_of_ble_eq_true rfl⟩ (fun H locs hg => ?_)
    refine lv_aload_n hx hb dX1_canReach_38 rfl (lv_at hl 0 rfl) ?_
    refine va_get (D := D) (ci := 1) (v := .ref (ad 13)) (C := RX1) (T := TX1) (N := 8) hx hb hts k_1 hown hK.1 hg.1 2 rfl rfl 6 (by decide) k_0 (fun _ h9 => h9) rfl dX1_canReach_39 ?_
    refine lv_iload_n hx hb dX1_canReach_42 rfl (lv_at hl 1 rfl) ?_
    obtain ⟨v12, i13, e14, h⟩ := fl_rd_b h
    refine g_ld (n := 8) (t0 := 10) hx hb hK hg (wc_a10 ad cz _) rfl i13 e14 dX1_canReach_43 ?_
    refine lv_ldc hx hb hown k_2 dX1_canReach_44 ?_
    obtain ⟨t16, hB18, h⟩ := fl_bnd h
    have J17 : ∀ (H : Heap) (locs : List Loc) (ls : Array Slot), gS D (wc ad cz) A s.heap σ11 H locs → lv_has ls 5 [] → W p l e rm_X1_canReach s m args below meth c H locs 0 0 Q (F0 m 54 ls [.int t16]) := by
      intro H locs ls hg hl
      obtain ⟨z19, h⟩ := fl_bool h
      exact hret _ _ _ _ _ _ h hg (fl_nar2 z19) dX1_canReach_54
    clear h
    have h := hB18
    refine lv_icmp_ge (tgt := 53) hx hb dX1_canReach_46 (by decide) (fun c15 => ?_) (fun c15 => ?_)
    · have h := fl_ifp c15 h
      refine lv_iconst (v := (0)) hx hb dX1_canReach_53 (by decide) ?_
      obtain rfl := fl_s1 h
      exact J17 H locs ls hg (lv_sub hl [] rfl)
    · have h := fl_ifn c15 h
      refine lv_iconst (v := (1)) hx hb dX1_canReach_49 (by decide) ?_
      refine lv_goto (tgt := 54) hx hb dX1_canReach_50 (by decide) ?_
      obtain rfl := fl_s1 h
      exact J17 H locs ls hg (lv_sub hl [] rfl)
  exact W0 _ _ hg
end
section
def f_X2_state (σ : fl_St) : Option (Int32 × fl_St) := (f_X1_lay (1) σ).bind fun σ2 => fl_b2 (f_X1_route  σ2) fun r4 σ5 => if r4 = 0 then ((f_X1_lay (0) σ5).bind fun σ8 => fl_b2 (f_X1_route  σ8) fun r10 σ11 => (f_X1_isBalanced  σ11).bind fun r13 => (if r13 = 0 then (some ((-1000002))) else (some ((-1000003)))).bind fun (t15 : Int32) => some (t15, σ11)) else ((f_X1_isBalanced  σ5).bind fun r19 => (if r19 = 0 then (some ((-1000002))) else (some ((0)))).bind fun (t21 : Int32) => some (t21, σ5))
def rm_X2_state : Room := { frames := 4, cells := 0, slots := 0, locals := 92 }
set_option maxHeartbeats 4000000 in
set_option maxRecDepth 100000 in
theorem c_X2_state (l : Launch) (D : va_G) (ad : Nat → Nat) (cz : Nat → ClassId) (σ : fl_St) {r : Int32} {σ' : fl_St} (h : f_X2_state σ = some (r, σ')) : gMi l yX2_state wsX2_state rm_X2_state D (wc ad cz) (wcT cz) wcN [.ref (ad 0)] σ r σ' := by
  refine gMi_of (cc := cX2_state) (maxL := 1) (by decide) rfl (Nat.le_of_ble_eq_true rfl) ?_
  intro p e s m args below meth c A Q ls hx hb hml hown hts hK hA hg hl hret
  have hown : s.vm.findClass RX2 = some m.cls := hown
  have hl : lv_has ls 1 [(0, .ref (ad 0))] := hl
  have k_0 := hts (.fieldLink RX2 21 "FlowLedger" "router" "LFlowLedger$Router;") (by decide +kernel)
  have k_1 := (by decide +kernel : ∀ w ∈ wsX20, w ∈ wsX2_state)
  have k_2 := hts (.constant RX2 69 (-1000002)) (by decide +kernel)
  have k_3 := hts (.constant RX2 70 (-1000003)) (by decide +kernel)
  unfold f_X2_state at h
  have W0 : ∀ (H : Heap) (locs : List Loc), gS D (wc ad cz) A s.heap σ H locs → W p l e rm_X2_state s m args below meth c H locs 0 0 Q (F0 m 0 ls []) := by
    intro H locs hg
    refine lv_aload_n hx hb dX2_state_0 rfl (lv_at hl 0 rfl) ?_
    refine va_get (D := D) (ci := 2) (v := .ref (ad 2)) (C := RX2) (T := TX2) (N := 2) hx hb hts k_1 hown hK.1 hg.1 0 rfl rfl 1 (by decide) k_0 (fun _ h9 => h9) rfl dX2_state_1 ?_
    refine lv_iconst (v := (1)) hx hb dX2_state_4 (by decide) ?_
    obtain ⟨σ2, e1, h⟩ := fl_bnd h
    refine g_callVv (As := [.int (1)]) (rest := []) ⟨hx, hb, hml, hown, hts⟩ (c_X1_lay l D ad cz ((1)) (σ) e1) (cwV 1 hts gX2_state_X1_lay rfl rfl rfl (by decide +kernel) ⟨Nat.le_of_ble_eq_true rfl, Nat.le_of_ble_eq_true rfl⟩) (va_recv hK.1 hg.1 (ci := 1) (q0 := 2) rfl rfl) hK hA hg rfl hl.1 rfl (Nat.le_of_ble_eq_true rfl) dX2_state_5 ⟨Nat.le_of_ble_eq_true rfl, Nat.le_of_ble_eq_true rfl⟩ (fun H locs hg => ?_)
    refine lv_aload_n hx hb dX2_state_8 rfl (lv_at hl 0 rfl) ?_
    refine va_get (D := D) (ci := 2) (v := .ref (ad 2)) (C := RX2) (T := TX2) (N := 2) hx hb hts k_1 hown hK.1 hg.1 0 rfl rfl 1 (by decide) k_0 (fun _ h9 => h9) rfl dX2_state_9 ?_
    obtain ⟨r4, σ5, e3, h⟩ := fl_b2_b h
    refine g_callVi (As := []) (rest := []) ⟨hx, hb, hml, hown, hts⟩ (c_X1_route l D ad cz (σ2) e3) (cwV 0 hts gX2_state_X1_route rfl rfl rfl (by decide +kernel) ⟨Nat.le_of_ble_eq_true rfl, Nat.le_of_ble_eq_true rfl⟩) (va_recv hK.1 hg.1 (ci := 1) (q0 := 2) rfl rfl) hK hA hg rfl hl.1 rfl (Nat.le_of_ble_eq_true rfl) dX2_state_12 ⟨Nat.le_of_ble_eq_true rfl, Nat.le_of_ble_eq_true rfl⟩ (fun H locs hg => ?_)
    refine lv_if_eq (tgt := 35) hx hb dX2_state_15 (by decide) (fun c6 => ?_) (fun c6 => ?_)
    · have h := fl_ifp c6 h
      refine lv_aload_n hx hb dX2_state_35 rfl (lv_at hl 0 rfl) ?_
      refine va_get (D := D) (ci := 2) (v := .ref (ad 2)) (C := RX2) (T := TX2) (N := 2) hx hb hts k_1 hown hK.1 hg.1 0 rfl rfl 1 (by decide) k_0 (fun _ h9 => h9) rfl dX2_state_36 ?_
      refine lv_iconst (v := (0)) hx hb dX2_state_39 (by decide) ?_
      obtain ⟨σ8, e7, h⟩ := fl_bnd h
      refine g_callVv (As := [.int (0)]) (rest := []) ⟨hx, hb, hml, hown, hts⟩ (c_X1_lay l D ad cz ((0)) (σ5) e7) (cwV 1 hts gX2_state_X1_lay rfl rfl rfl (by decide +kernel) ⟨Nat.le_of_ble_eq_true rfl, Nat.le_of_ble_eq_true rfl⟩) (va_recv hK.1 hg.1 (ci := 1) (q0 := 2) rfl rfl) hK hA hg rfl hl.1 rfl (Nat.le_of_ble_eq_true rfl) dX2_state_40 ⟨Nat.le_of_ble_eq_true rfl, Nat.le_of_ble_eq_true rfl⟩ (fun H locs hg => ?_)
      refine lv_aload_n hx hb dX2_state_43 rfl (lv_at hl 0 rfl) ?_
      refine va_get (D := D) (ci := 2) (v := .ref (ad 2)) (C := RX2) (T := TX2) (N := 2) hx hb hts k_1 hown hK.1 hg.1 0 rfl rfl 1 (by decide) k_0 (fun _ h9 => h9) rfl dX2_state_44 ?_
      obtain ⟨r10, σ11, e9, h⟩ := fl_b2_b h
      refine g_callVi (As := []) (rest := []) ⟨hx, hb, hml, hown, hts⟩ (c_X1_route l D ad cz (σ8) e9) (cwV 0 hts gX2_state_X1_route rfl rfl rfl (by decide +kernel) ⟨Nat.le_of_ble_eq_true rfl, Nat.le_of_ble_eq_true rfl⟩) (va_recv hK.1 hg.1 (ci := 1) (q0 := 2) rfl rfl) hK hA hg rfl hl.1 rfl (Nat.le_of_ble_eq_true rfl) dX2_state_47 ⟨Nat.le_of_ble_eq_true rfl, Nat.le_of_ble_eq_true rfl⟩ (fun H locs hg => ?_)
      refine lv_pop hx hb dX2_state_50 rfl ?_
      refine lv_aload_n hx hb dX2_state_51 rfl (lv_at hl 0 rfl) ?_
      refine va_get (D := D) (ci := 2) (v := .ref (ad 2)) (C := RX2) (T := TX2) (N := 2) hx hb hts k_1 hown hK.1 hg.1 0 rfl rfl 1 (by decide) k_0 (fun _ h9 => h9) rfl dX2_state_52 ?_
      obtain ⟨r13, e12, h⟩ := fl_bnd h
      refine g_callVi (As := []) (rest := []) ⟨hx, hb, hml, hown, hts⟩ (c_X1_isBalanced l D ad cz (σ11) e12) (cwV 0 hts gX2_state_X1_isBalanced rfl rfl rfl (by decide +kernel) ⟨Nat.le_of_ble_eq_true rfl, Nat.le_of_ble_eq_true rfl⟩) (va_recv hK.1 hg.1 (ci := 1) (q0 := 2) rfl rfl) hK hA hg rfl hl.1 rfl (Nat.le_of_ble_eq_true rfl) dX2_state_55 ⟨Nat.le_of_ble_eq_true rfl, Nat.le_of_ble_eq_true rfl⟩ (fun H locs hg => ?_)
      obtain ⟨t15, hB17, h⟩ := fl_bnd h
      have J16 : ∀ (H : Heap) (locs : List Loc) (ls : Array Slot), gS D (wc ad cz) A s.heap σ11 H locs → lv_has ls 1 [] → W p l e rm_X2_state s m args below meth c H locs 0 0 Q (F0 m 68 ls [.int t15]) := by
        intro H locs ls hg hl
        exact hret _ _ _ _ _ _ h hg rfl dX2_state_68
      clear h
      have h := hB17
      refine lv_if_eq (tgt := 66) hx hb dX2_state_58 (by decide) (fun c14 => ?_) (fun c14 => ?_)
      · have h := fl_ifp c14 h
        refine lv_ldc hx hb hown k_2 dX2_state_66 ?_
        obtain rfl := fl_s1 h
        exact J16 H locs ls hg (lv_sub hl [] rfl)
      · have h := fl_ifn c14 h
        refine lv_ldc hx hb hown k_3 dX2_state_61 ?_
        refine lv_goto (tgt := 68) hx hb dX2_state_63 (by decide) ?_
        obtain rfl := fl_s1 h
        exact J16 H locs ls hg (lv_sub hl [] rfl)
    · have h := fl_ifn c6 h
      refine lv_aload_n hx hb dX2_state_18 rfl (lv_at hl 0 rfl) ?_
      refine va_get (D := D) (ci := 2) (v := .ref (ad 2)) (C := RX2) (T := TX2) (N := 2) hx hb hts k_1 hown hK.1 hg.1 0 rfl rfl 1 (by decide) k_0 (fun _ h9 => h9) rfl dX2_state_19 ?_
      obtain ⟨r19, e18, h⟩ := fl_bnd h
      refine g_callVi (As := []) (rest := []) ⟨hx, hb, hml, hown, hts⟩ (c_X1_isBalanced l D ad cz (σ5) e18) (cwV 0 hts gX2_state_X1_isBalanced rfl rfl rfl (by decide +kernel) ⟨Nat.le_of_ble_eq_true rfl, Nat.le_of_ble_eq_true rfl⟩) (va_recv hK.1 hg.1 (ci := 1) (q0 := 2) rfl rfl) hK hA hg rfl hl.1 rfl (Nat.le_of_ble_eq_true rfl) dX2_state_22 ⟨Nat.le_of_ble_eq_true rfl, Nat.le_of_ble_eq_true rfl⟩ (fun H locs hg => ?_)
      obtain ⟨t21, hB23, h⟩ := fl_bnd h
      have J22 : ∀ (H : Heap) (locs : List Loc) (ls : Array Slot), gS D (wc ad cz) A s.heap σ5 H locs → lv_has ls 1 [] → W p l e rm_X2_state s m args below meth c H locs 0 0 Q (F0 m 34 ls [.int t21]) := by
        intro H locs ls hg hl
        exact hret _ _ _ _ _ _ h hg rfl dX2_state_34
      clear h
      have h := hB23
      refine lv_if_eq (tgt := 32) hx hb dX2_state_25 (by decide) (fun c20 => ?_) (fun c20 => ?_)
      · have h := fl_ifp c20 h
        refine lv_ldc hx hb hown k_2 dX2_state_32 ?_
        obtain rfl := fl_s1 h
        exact J22 H locs ls hg (lv_sub hl [] rfl)
      · have h := fl_ifn c20 h
        refine lv_iconst (v := (0)) hx hb dX2_state_28 (by decide) ?_
        refine lv_goto (tgt := 34) hx hb dX2_state_29 (by decide) ?_
        obtain rfl := fl_s1 h
        exact J22 H locs ls hg (lv_sub hl [] rfl)
  exact W0 _ _ hg
def f_X2_cost (σ : fl_St) : Option (Int32 × fl_St) := fl_b2 (f_X2_state  σ) fun r2 σ3 => (if r2 = 0 then ((f_X1_costOfFlow  σ3).bind fun r9 => some (r9)) else (some (r2))).bind fun (t5 : Int32) => some (t5, σ3)
def rm_X2_cost : Room := { frames := 5, cells := 0, slots := 0, locals := 112 }
set_option maxHeartbeats 4000000 in
set_option maxRecDepth 100000 in
theorem c_X2_cost (l : Launch) (D : va_G) (ad : Nat → Nat) (cz : Nat → ClassId) (σ : fl_St) {r : Int32} {σ' : fl_St} (h : f_X2_cost σ = some (r, σ')) : gMi l yX2_cost wsX2_cost rm_X2_cost D (wc ad cz) (wcT cz) wcN [.ref (ad 0)] σ r σ' := by
  refine gMi_of (cc := cX2_cost) (maxL := 2) (by decide) rfl (Nat.le_of_ble_eq_true rfl) ?_
  intro p e s m args below meth c A Q ls hx hb hml hown hts hK hA hg hl hret
  have hown : s.vm.findClass RX2 = some m.cls := hown
  have hl : lv_has ls 2 [(0, .ref (ad 0))] := hl
  have k_0 := hts (.fieldLink RX2 21 "FlowLedger" "router" "LFlowLedger$Router;") (by decide +kernel)
  have k_1 := (by decide +kernel : ∀ w ∈ wsX20, w ∈ wsX2_cost)
  unfold f_X2_cost at h
  have W0 : ∀ (H : Heap) (locs : List Loc), gS D (wc ad cz) A s.heap σ H locs → W p l e rm_X2_cost s m args below meth c H locs 0 0 Q (F0 m 0 ls []) := by
    intro H locs hg
    refine lv_aload_n hx hb dX2_cost_0 rfl (lv_at hl 0 rfl) ?_
    obtain ⟨r2, σ3, e1, h⟩ := fl_b2_b h
    refine g_callVi (As := []) (rest := []) ⟨hx, hb, hml, hown, hts⟩ (c_X2_state l D ad cz (σ) e1) (cwV 0 hts gX2_cost_X2_state rfl rfl rfl (by decide +kernel) ⟨Nat.le_of_ble_eq_true rfl, Nat.le_of_ble_eq_true rfl⟩) (va_recv hK.1 hg.1 (ci := 2) (q0 := 0) rfl rfl) hK hA hg rfl hl.1 rfl (Nat.le_of_ble_eq_true rfl) dX2_cost_1 ⟨Nat.le_of_ble_eq_true rfl, Nat.le_of_ble_eq_true rfl⟩ (fun H locs hg => ?_)
    refine lv_istore_n (lv' := [(1, .int r2), (0, .ref (ad 0))]) hx hb dX2_cost_4 rfl hl (by decide) rfl (fun ls hl => ?_)
    refine lv_iload_n hx hb dX2_cost_5 rfl (lv_at hl 0 rfl) ?_
    obtain ⟨t5, hB7, h⟩ := fl_bnd h
    have J6 : ∀ (H : Heap) (locs : List Loc) (ls : Array Slot), gS D (wc ad cz) A s.heap σ3 H locs → lv_has ls 2 [] → W p l e rm_X2_cost s m args below meth c H locs 0 0 Q (F0 m 20 ls [.int t5]) := by
      intro H locs ls hg hl
      exact hret _ _ _ _ _ _ h hg rfl dX2_cost_20
    clear h
    have h := hB7
    refine lv_if_ne (tgt := 19) hx hb dX2_cost_6 (by decide) (fun c4 => ?_) (fun c4 => ?_)
    · have h := fl_ifn c4 h
      refine lv_iload_n hx hb dX2_cost_19 rfl (lv_at hl 0 rfl) ?_
      obtain rfl := fl_s1 h
      exact J6 H locs ls hg (lv_sub hl [] rfl)
    · have h := fl_ifp c4 h
      refine lv_aload_n hx hb dX2_cost_9 rfl (lv_at hl 1 rfl) ?_
      refine va_get (D := D) (ci := 2) (v := .ref (ad 2)) (C := RX2) (T := TX2) (N := 2) hx hb hts k_1 hown hK.1 hg.1 0 rfl rfl 1 (by decide) k_0 (fun _ h9 => h9) rfl dX2_cost_10 ?_
      obtain ⟨r9, e8, h⟩ := fl_bnd h
      refine g_callVi (As := []) (rest := []) ⟨hx, hb, hml, hown, hts⟩ (c_X1_costOfFlow l D ad cz (σ3) e8) (cwV 0 hts gX2_cost_X1_costOfFlow rfl rfl rfl (by decide +kernel) ⟨Nat.le_of_ble_eq_true rfl, Nat.le_of_ble_eq_true rfl⟩) (va_recv hK.1 hg.1 (ci := 1) (q0 := 2) rfl rfl) hK hA hg rfl hl.1 rfl (Nat.le_of_ble_eq_true rfl) dX2_cost_13 ⟨Nat.le_of_ble_eq_true rfl, Nat.le_of_ble_eq_true rfl⟩ (fun H locs hg => ?_)
      refine lv_goto (tgt := 20) hx hb dX2_cost_16 (by decide) ?_
      obtain rfl := fl_s1 h
      exact J6 H locs ls hg (lv_sub hl [] rfl)
  exact W0 _ _ hg
def f_X2_amount (σ : fl_St) : Option (Int32 × fl_St) := (f_X1_lay (0) σ).bind fun σ2 => fl_b2 (f_X1_route  σ2) fun r4 σ5 => (f_X0_totalSupply  σ5).bind fun r7 => (f_X1_totalExcess  σ5).bind fun r9 => some ((r7 - r9), σ5)
def rm_X2_amount : Room := { frames := 4, cells := 0, slots := 0, locals := 92 }
set_option maxHeartbeats 4000000 in
set_option maxRecDepth 100000 in
theorem c_X2_amount (l : Launch) (D : va_G) (ad : Nat → Nat) (cz : Nat → ClassId) (σ : fl_St) {r : Int32} {σ' : fl_St} (h : f_X2_amount σ = some (r, σ')) : gMi l yX2_amount wsX2_amount rm_X2_amount D (wc ad cz) (wcT cz) wcN [.ref (ad 0)] σ r σ' := by
  refine gMi_of (cc := cX2_amount) (maxL := 1) (by decide) rfl (Nat.le_of_ble_eq_true rfl) ?_
  intro p e s m args below meth c A Q ls hx hb hml hown hts hK hA hg hl hret
  have hown : s.vm.findClass RX2 = some m.cls := hown
  have hl : lv_has ls 1 [(0, .ref (ad 0))] := hl
  have k_0 := hts (.fieldLink RX2 21 "FlowLedger" "router" "LFlowLedger$Router;") (by decide +kernel)
  have k_1 := (by decide +kernel : ∀ w ∈ wsX20, w ∈ wsX2_amount)
  have k_2 := hts (.fieldLink RX2 12 "FlowLedger" "network" "LFlowLedger$Network;") (by decide +kernel)
  unfold f_X2_amount at h
  have W0 : ∀ (H : Heap) (locs : List Loc), gS D (wc ad cz) A s.heap σ H locs → W p l e rm_X2_amount s m args below meth c H locs 0 0 Q (F0 m 0 ls []) := by
    intro H locs hg
    refine lv_aload_n hx hb dX2_amount_0 rfl (lv_at hl 0 rfl) ?_
    refine va_get (D := D) (ci := 2) (v := .ref (ad 2)) (C := RX2) (T := TX2) (N := 2) hx hb hts k_1 hown hK.1 hg.1 0 rfl rfl 1 (by decide) k_0 (fun _ h9 => h9) rfl dX2_amount_1 ?_
    refine lv_iconst (v := (0)) hx hb dX2_amount_4 (by decide) ?_
    obtain ⟨σ2, e1, h⟩ := fl_bnd h
    refine g_callVv (As := [.int (0)]) (rest := []) ⟨hx, hb, hml, hown, hts⟩ (c_X1_lay l D ad cz ((0)) (σ) e1) (cwV 1 hts gX2_amount_X1_lay rfl rfl rfl (by decide +kernel) ⟨Nat.le_of_ble_eq_true rfl, Nat.le_of_ble_eq_true rfl⟩) (va_recv hK.1 hg.1 (ci := 1) (q0 := 2) rfl rfl) hK hA hg rfl hl.1 rfl (Nat.le_of_ble_eq_true rfl) dX2_amount_5 ⟨Nat.le_of_ble_eq_true rfl, Nat.le_of_ble_eq_true rfl⟩ (fun H locs hg => ?_)
    refine lv_aload_n hx hb dX2_amount_8 rfl (lv_at hl 0 rfl) ?_
    refine va_get (D := D) (ci := 2) (v := .ref (ad 2)) (C := RX2) (T := TX2) (N := 2) hx hb hts k_1 hown hK.1 hg.1 0 rfl rfl 1 (by decide) k_0 (fun _ h9 => h9) rfl dX2_amount_9 ?_
    obtain ⟨r4, σ5, e3, h⟩ := fl_b2_b h
    refine g_callVi (As := []) (rest := []) ⟨hx, hb, hml, hown, hts⟩ (c_X1_route l D ad cz (σ2) e3) (cwV 0 hts gX2_amount_X1_route rfl rfl rfl (by decide +kernel) ⟨Nat.le_of_ble_eq_true rfl, Nat.le_of_ble_eq_true rfl⟩) (va_recv hK.1 hg.1 (ci := 1) (q0 := 2) rfl rfl) hK hA hg rfl hl.1 rfl (Nat.le_of_ble_eq_true rfl) dX2_amount_12 ⟨Nat.le_of_ble_eq_true rfl, Nat.le_of_ble_eq_true rfl⟩ (fun H locs hg => ?_)
    refine lv_pop hx hb dX2_amount_15 rfl ?_
    refine lv_aload_n hx hb dX2_amount_16 rfl (lv_at hl 0 rfl) ?_
    refine va_get (D := D) (ci := 2) (v := .ref (ad 1)) (C := RX2) (T := TX2) (N := 2) hx hb hts k_1 hown hK.1 hg.1 0 rfl rfl 0 (by decide) k_2 (fun _ h9 => h9) rfl dX2_amount_17 ?_
    obtain ⟨r7, e6, h⟩ := fl_bnd h
    refine g_callVi (As := []) (rest := []) ⟨hx, hb, hml, hown, hts⟩ (c_X0_totalSupply l D ad cz (σ5) e6) (cwV 0 hts gX2_amount_X0_totalSupply rfl rfl rfl (by decide +kernel) ⟨Nat.le_of_ble_eq_true rfl, Nat.le_of_ble_eq_true rfl⟩) (va_recv hK.1 hg.1 (ci := 0) (q0 := 1) rfl rfl) hK hA hg rfl hl.1 rfl (Nat.le_of_ble_eq_true rfl) dX2_amount_20 ⟨Nat.le_of_ble_eq_true rfl, Nat.le_of_ble_eq_true rfl⟩ (fun H locs hg => ?_)
    refine lv_aload_n hx hb dX2_amount_23 rfl (lv_at hl 0 rfl) ?_
    refine va_get (D := D) (ci := 2) (v := .ref (ad 2)) (C := RX2) (T := TX2) (N := 2) hx hb hts k_1 hown hK.1 hg.1 0 rfl rfl 1 (by decide) k_0 (fun _ h9 => h9) rfl dX2_amount_24 ?_
    obtain ⟨r9, e8, h⟩ := fl_bnd h
    refine g_callVi (As := []) (rest := [.int r7]) ⟨hx, hb, hml, hown, hts⟩ (c_X1_totalExcess l D ad cz (σ5) e8) (cwV 0 hts gX2_amount_X1_totalExcess rfl rfl rfl (by decide +kernel) ⟨Nat.le_of_ble_eq_true rfl, Nat.le_of_ble_eq_true rfl⟩) (va_recv hK.1 hg.1 (ci := 1) (q0 := 2) rfl rfl) hK hA hg rfl hl.1 rfl (Nat.le_of_ble_eq_true rfl) dX2_amount_27 ⟨Nat.le_of_ble_eq_true rfl, Nat.le_of_ble_eq_true rfl⟩ (fun H locs hg => ?_)
    refine lv_isub hx hb dX2_amount_30 ?_
    exact hret _ _ _ _ _ _ h hg rfl dX2_amount_31
  exact W0 _ _ hg
def f_X2_bottleneck (σ : fl_St) : Option (Int32 × fl_St) := (f_X1_lay (0) σ).bind fun σ2 => fl_b2 (f_X1_route  σ2) fun r4 σ5 => fl_b2 (f_X1_nodesBehindExcess  σ5) fun r7 σ8 => some (r7, σ8)
def rm_X2_bottleneck : Room := { frames := 4, cells := 0, slots := 0, locals := 92 }
set_option maxHeartbeats 4000000 in
set_option maxRecDepth 100000 in
theorem c_X2_bottleneck (l : Launch) (D : va_G) (ad : Nat → Nat) (cz : Nat → ClassId) (σ : fl_St) {r : Int32} {σ' : fl_St} (h : f_X2_bottleneck σ = some (r, σ')) : gMi l yX2_bottleneck wsX2_bottleneck rm_X2_bottleneck D (wc ad cz) (wcT cz) wcN [.ref (ad 0)] σ r σ' := by
  refine gMi_of (cc := cX2_bottleneck) (maxL := 1) (by decide) rfl (Nat.le_of_ble_eq_true rfl) ?_
  intro p e s m args below meth c A Q ls hx hb hml hown hts hK hA hg hl hret
  have hown : s.vm.findClass RX2 = some m.cls := hown
  have hl : lv_has ls 1 [(0, .ref (ad 0))] := hl
  have k_0 := hts (.fieldLink RX2 21 "FlowLedger" "router" "LFlowLedger$Router;") (by decide +kernel)
  have k_1 := (by decide +kernel : ∀ w ∈ wsX20, w ∈ wsX2_bottleneck)
  unfold f_X2_bottleneck at h
  have W0 : ∀ (H : Heap) (locs : List Loc), gS D (wc ad cz) A s.heap σ H locs → W p l e rm_X2_bottleneck s m args below meth c H locs 0 0 Q (F0 m 0 ls []) := by
    intro H locs hg
    refine lv_aload_n hx hb dX2_bottleneck_0 rfl (lv_at hl 0 rfl) ?_
    refine va_get (D := D) (ci := 2) (v := .ref (ad 2)) (C := RX2) (T := TX2) (N := 2) hx hb hts k_1 hown hK.1 hg.1 0 rfl rfl 1 (by decide) k_0 (fun _ h9 => h9) rfl dX2_bottleneck_1 ?_
    refine lv_iconst (v := (0)) hx hb dX2_bottleneck_4 (by decide) ?_
    obtain ⟨σ2, e1, h⟩ := fl_bnd h
    refine g_callVv (As := [.int (0)]) (rest := []) ⟨hx, hb, hml, hown, hts⟩ (c_X1_lay l D ad cz ((0)) (σ) e1) (cwV 1 hts gX2_bottleneck_X1_lay rfl rfl rfl (by decide +kernel) ⟨Nat.le_of_ble_eq_true rfl, Nat.le_of_ble_eq_true rfl⟩) (va_recv hK.1 hg.1 (ci := 1) (q0 := 2) rfl rfl) hK hA hg rfl hl.1 rfl (Nat.le_of_ble_eq_true rfl) dX2_bottleneck_5 ⟨Nat.le_of_ble_eq_true rfl, Nat.le_of_ble_eq_true rfl⟩ (fun H locs hg => ?_)
    refine lv_aload_n hx hb dX2_bottleneck_8 rfl (lv_at hl 0 rfl) ?_
    refine va_get (D := D) (ci := 2) (v := .ref (ad 2)) (C := RX2) (T := TX2) (N := 2) hx hb hts k_1 hown hK.1 hg.1 0 rfl rfl 1 (by decide) k_0 (fun _ h9 => h9) rfl dX2_bottleneck_9 ?_
    obtain ⟨r4, σ5, e3, h⟩ := fl_b2_b h
    refine g_callVi (As := []) (rest := []) ⟨hx, hb, hml, hown, hts⟩ (c_X1_route l D ad cz (σ2) e3) (cwV 0 hts gX2_bottleneck_X1_route rfl rfl rfl (by decide +kernel) ⟨Nat.le_of_ble_eq_true rfl, Nat.le_of_ble_eq_true rfl⟩) (va_recv hK.1 hg.1 (ci := 1) (q0 := 2) rfl rfl) hK hA hg rfl hl.1 rfl (Nat.le_of_ble_eq_true rfl) dX2_bottleneck_12 ⟨Nat.le_of_ble_eq_true rfl, Nat.le_of_ble_eq_true rfl⟩ (fun H locs hg => ?_)
    refine lv_pop hx hb dX2_bottleneck_15 rfl ?_
    refine lv_aload_n hx hb dX2_bottleneck_16 rfl (lv_at hl 0 rfl) ?_
    refine va_get (D := D) (ci := 2) (v := .ref (ad 2)) (C := RX2) (T := TX2) (N := 2) hx hb hts k_1 hown hK.1 hg.1 0 rfl rfl 1 (by decide) k_0 (fun _ h9 => h9) rfl dX2_bottleneck_17 ?_
    obtain ⟨r7, σ8, e6, h⟩ := fl_b2_b h
    refine g_callVi (As := []) (rest := []) ⟨hx, hb, hml, hown, hts⟩ (c_X1_nodesBehindExcess l D ad cz (σ5) e6) (cwV 0 hts gX2_bottleneck_X1_nodesBehindExcess rfl rfl rfl (by decide +kernel) ⟨Nat.le_of_ble_eq_true rfl, Nat.le_of_ble_eq_true rfl⟩) (va_recv hK.1 hg.1 (ci := 1) (q0 := 2) rfl rfl) hK hA hg rfl hl.1 rfl (Nat.le_of_ble_eq_true rfl) dX2_bottleneck_20 ⟨Nat.le_of_ble_eq_true rfl, Nat.le_of_ble_eq_true rfl⟩ (fun H locs hg => ?_)
    exact hret _ _ _ _ _ _ h hg rfl dX2_bottleneck_23
  exact W0 _ _ hg
def f_X2_marginal (x1 : Int32) (x2 : Int32) (σ : fl_St) : Option (Int32 × fl_St) := (f_X2_isNode x1 σ).bind fun r2 => if r2 = 0 then (some ((-1000000), σ)) else ((f_X2_isNode x2 σ).bind fun r5 => if r5 = 0 then (some ((-1000000), σ)) else (fl_b2 (f_X2_state  σ) fun r8 σ9 => if r8 = 0 then (fl_b2 (f_X1_canReach x1 x2 (-1) σ9) fun r12 σ13 => (if r12 = 0 then (some ((-1000004))) else ((f_X1_distanceTo x2 σ13).bind fun r19 => some (r19))).bind fun (t15 : Int32) => some (t15, σ13)) else (some (r8, σ9))))
def rm_X2_marginal : Room := { frames := 5, cells := 0, slots := 0, locals := 112 }
set_option maxHeartbeats 4000000 in
set_option maxRecDepth 100000 in
theorem c_X2_marginal (l : Launch) (D : va_G) (ad : Nat → Nat) (cz : Nat → ClassId) (x1 : Int32) (x2 : Int32) (σ : fl_St) {r : Int32} {σ' : fl_St} (h : f_X2_marginal x1 x2 σ = some (r, σ')) : gMi l yX2_marginal wsX2_marginal rm_X2_marginal D (wc ad cz) (wcT cz) wcN [.ref (ad 0), .int x1, .int x2] σ r σ' := by
  refine gMi_of (cc := cX2_marginal) (maxL := 4) (by decide) rfl (Nat.le_of_ble_eq_true rfl) ?_
  intro p e s m args below meth c A Q ls hx hb hml hown hts hK hA hg hl hret
  have hown : s.vm.findClass RX2 = some m.cls := hown
  have hl : lv_has ls 4 [(0, .ref (ad 0)), (1, .int x1), (2, .int x2)] := hl
  have k_0 := hts (.constant RX2 33 (-1000000)) (by decide +kernel)
  have k_1 := hts (.fieldLink RX2 21 "FlowLedger" "router" "LFlowLedger$Router;") (by decide +kernel)
  have k_2 := (by decide +kernel : ∀ w ∈ wsX20, w ∈ wsX2_marginal)
  have k_3 := hts (.constant RX2 95 (-1000004)) (by decide +kernel)
  unfold f_X2_marginal at h
  have W0 : ∀ (H : Heap) (locs : List Loc), gS D (wc ad cz) A s.heap σ H locs → W p l e rm_X2_marginal s m args below meth c H locs 0 0 Q (F0 m 0 ls []) := by
    intro H locs hg
    refine lv_iload_n hx hb dX2_marginal_0 rfl (lv_at hl 1 rfl) ?_
    obtain ⟨r2, e1, h⟩ := fl_bnd h
    refine g_callSi (As := [.int x1]) (rest := []) ⟨hx, hb, hml, hown, hts⟩ (c_X2_isNode l D ad cz (x1) (σ) e1) (cwS 1 hts gX2_marginal_X2_isNode rfl rfl rfl (by decide +kernel) ⟨Nat.le_of_ble_eq_true rfl, Nat.le_of_ble_eq_true rfl⟩) hK hA hg rfl hl.1 rfl (Nat.le_of_ble_eq_true rfl) dX2_marginal_1 ⟨Nat.le_of_ble_eq_true rfl, Nat.le_of_ble_eq_true rfl⟩ (fun H locs hg => ?_)
    refine lv_if_eq (tgt := 14) hx hb dX2_marginal_4 (by decide) (fun c3 => ?_) (fun c3 => ?_)
    · have h := fl_ifp c3 h
      refine lv_ldc hx hb hown k_0 dX2_marginal_14 ?_
      exact hret _ _ _ _ _ _ h hg rfl dX2_marginal_16
    · have h := fl_ifn c3 h
      refine lv_iload_n hx hb dX2_marginal_7 rfl (lv_at hl 2 rfl) ?_
      obtain ⟨r5, e4, h⟩ := fl_bnd h
      refine g_callSi (As := [.int x2]) (rest := []) ⟨hx, hb, hml, hown, hts⟩ (c_X2_isNode l D ad cz (x2) (σ) e4) (cwS 1 hts gX2_marginal_X2_isNode rfl rfl rfl (by decide +kernel) ⟨Nat.le_of_ble_eq_true rfl, Nat.le_of_ble_eq_true rfl⟩) hK hA hg rfl hl.1 rfl (Nat.le_of_ble_eq_true rfl) dX2_marginal_8 ⟨Nat.le_of_ble_eq_true rfl, Nat.le_of_ble_eq_true rfl⟩ (fun H locs hg => ?_)
      refine lv_if_ne (tgt := 17) hx hb dX2_marginal_11 (by decide) (fun c6 => ?_) (fun c6 => ?_)
      · have h := fl_ifn c6 h
        refine lv_aload_n hx hb dX2_marginal_17 rfl (lv_at hl 0 rfl) ?_
        obtain ⟨r8, σ9, e7, h⟩ := fl_b2_b h
        refine g_callVi (As := []) (rest := []) ⟨hx, hb, hml, hown, hts⟩ (c_X2_state l D ad cz (σ) e7) (cwV 0 hts gX2_marginal_X2_state rfl rfl rfl (by decide +kernel) ⟨Nat.le_of_ble_eq_true rfl, Nat.le_of_ble_eq_true rfl⟩) (va_recv hK.1 hg.1 (ci := 2) (q0 := 0) rfl rfl) hK hA hg rfl hl.1 rfl (Nat.le_of_ble_eq_true rfl) dX2_marginal_18 ⟨Nat.le_of_ble_eq_true rfl, Nat.le_of_ble_eq_true rfl⟩ (fun H locs hg => ?_)
        refine lv_istore_n (lv' := [(3, .int r8), (0, .ref (ad 0)), (1, .int x1), (2, .int x2)]) hx hb dX2_marginal_21 rfl hl (by decide) rfl (fun ls hl => ?_)
        refine lv_iload_n hx hb dX2_marginal_22 rfl (lv_at hl 0 rfl) ?_
        refine lv_if_eq (tgt := 28) hx hb dX2_marginal_23 (by decide) (fun c10 => ?_) (fun c10 => ?_)
        · have h := fl_ifp c10 h
          refine lv_aload_n hx hb dX2_marginal_28 rfl (lv_at hl 1 rfl) ?_
          refine va_get (D := D) (ci := 2) (v := .ref (ad 2)) (C := RX2) (T := TX2) (N := 2) hx hb hts k_2 hown hK.1 hg.1 0 rfl rfl 1 (by decide) k_1 (fun _ h9 => h9) rfl dX2_marginal_29 ?_
          refine lv_iload_n hx hb dX2_marginal_32 rfl (lv_at hl 2 rfl) ?_
          refine lv_iload_n hx hb dX2_marginal_33 rfl (lv_at hl 3 rfl) ?_
          refine lv_iconst (v := (-1)) hx hb dX2_marginal_34 (by decide) ?_
          obtain ⟨r12, σ13, e11, h⟩ := fl_b2_b h
          refine g_callVi (As := [.int x1, .int x2, .int (-1)]) (rest := []) ⟨hx, hb, hml, hown, hts⟩ (c_X1_canReach l D ad cz (x1) (x2) ((-1)) (σ9) e11) (cwV 3 hts gX2_marginal_X1_canReach rfl rfl rfl (by decide +kernel) ⟨Nat.le_of_ble_eq_true rfl, Nat.le_of_ble_eq_true rfl⟩) (va_recv hK.1 hg.1 (ci := 1) (q0 := 2) rfl rfl) hK hA hg rfl hl.1 rfl (Nat.le_of_ble_eq_true rfl) dX2_marginal_35 ⟨Nat.le_of_ble_eq_true rfl, Nat.le_of_ble_eq_true rfl⟩ (fun H locs hg => ?_)
          obtain ⟨t15, hB17, h⟩ := fl_bnd h
          have J16 : ∀ (H : Heap) (locs : List Loc) (ls : Array Slot), gS D (wc ad cz) A s.heap σ13 H locs → lv_has ls 4 [] → W p l e rm_X2_marginal s m args below meth c H locs 0 0 Q (F0 m 54 ls [.int t15]) := by
            intro H locs ls hg hl
            exact hret _ _ _ _ _ _ h hg rfl dX2_marginal_54
          clear h
          have h := hB17
          refine lv_if_eq (tgt := 52) hx hb dX2_marginal_38 (by decide) (fun c14 => ?_) (fun c14 => ?_)
          · have h := fl_ifp c14 h
            refine lv_ldc hx hb hown k_3 dX2_marginal_52 ?_
            obtain rfl := fl_s1 h
            exact J16 H locs ls hg (lv_sub hl [] rfl)
          · have h := fl_ifn c14 h
            refine lv_aload_n hx hb dX2_marginal_41 rfl (lv_at hl 1 rfl) ?_
            refine va_get (D := D) (ci := 2) (v := .ref (ad 2)) (C := RX2) (T := TX2) (N := 2) hx hb hts k_2 hown hK.1 hg.1 0 rfl rfl 1 (by decide) k_1 (fun _ h9 => h9) rfl dX2_marginal_42 ?_
            refine lv_iload_n hx hb dX2_marginal_45 rfl (lv_at hl 3 rfl) ?_
            obtain ⟨r19, e18, h⟩ := fl_bnd h
            refine g_callVi (As := [.int x2]) (rest := []) ⟨hx, hb, hml, hown, hts⟩ (c_X1_distanceTo l D ad cz (x2) (σ13) e18) (cwV 1 hts gX2_marginal_X1_distanceTo rfl rfl rfl (by decide +kernel) ⟨Nat.le_of_ble_eq_true rfl, Nat.le_of_ble_eq_true rfl⟩) (va_recv hK.1 hg.1 (ci := 1) (q0 := 2) rfl rfl) hK hA hg rfl hl.1 rfl (Nat.le_of_ble_eq_true rfl) dX2_marginal_46 ⟨Nat.le_of_ble_eq_true rfl, Nat.le_of_ble_eq_true rfl⟩ (fun H locs hg => ?_)
            refine lv_goto (tgt := 54) hx hb dX2_marginal_49 (by decide) ?_
            obtain rfl := fl_s1 h
            exact J16 H locs ls hg (lv_sub hl [] rfl)
        · have h := fl_ifn c10 h
          refine lv_iload_n hx hb dX2_marginal_26 rfl (lv_at hl 0 rfl) ?_
          exact hret _ _ _ _ _ _ h hg rfl dX2_marginal_27
      · have h := fl_ifp c6 h
        refine lv_ldc hx hb hown k_0 dX2_marginal_14 ?_
        exact hret _ _ _ _ _ _ h hg rfl dX2_marginal_16
  exact W0 _ _ hg
def f_X2_routeTilted (x1 : Int32) (x2 : Int32) (σ : fl_St) : Option (Int32 × fl_St) := (f_X1_lay (841) σ).bind fun σ2 => (f_X1_tilt x1 x2 σ2).bind fun σ4 => fl_b2 (f_X1_route  σ4) fun r6 σ7 => if ¬ (r6 = 0 ∨ r6 = 1) then none else some (r6, σ7)
def rm_X2_routeTilted : Room := { frames := 4, cells := 0, slots := 0, locals := 92 }
set_option maxHeartbeats 4000000 in
set_option maxRecDepth 100000 in
theorem c_X2_routeTilted (l : Launch) (D : va_G) (ad : Nat → Nat) (cz : Nat → ClassId) (x1 : Int32) (x2 : Int32) (σ : fl_St) {r : Int32} {σ' : fl_St} (h : f_X2_routeTilted x1 x2 σ = some (r, σ')) : gMi l yX2_routeTilted wsX2_routeTilted rm_X2_routeTilted D (wc ad cz) (wcT cz) wcN [.ref (ad 0), .int x1, .int x2] σ r σ' := by
  refine gMi_of (cc := cX2_routeTilted) (maxL := 3) (by decide) rfl (Nat.le_of_ble_eq_true rfl) ?_
  intro p e s m args below meth c A Q ls hx hb hml hown hts hK hA hg hl hret
  have hown : s.vm.findClass RX2 = some m.cls := hown
  have hl : lv_has ls 3 [(0, .ref (ad 0)), (1, .int x1), (2, .int x2)] := hl
  have k_0 := hts (.fieldLink RX2 21 "FlowLedger" "router" "LFlowLedger$Router;") (by decide +kernel)
  have k_1 := (by decide +kernel : ∀ w ∈ wsX20, w ∈ wsX2_routeTilted)
  unfold f_X2_routeTilted at h
  have W0 : ∀ (H : Heap) (locs : List Loc), gS D (wc ad cz) A s.heap σ H locs → W p l e rm_X2_routeTilted s m args below meth c H locs 0 0 Q (F0 m 0 ls []) := by
    intro H locs hg
    refine lv_aload_n hx hb dX2_routeTilted_0 rfl (lv_at hl 0 rfl) ?_
    refine va_get (D := D) (ci := 2) (v := .ref (ad 2)) (C := RX2) (T := TX2) (N := 2) hx hb hts k_1 hown hK.1 hg.1 0 rfl rfl 1 (by decide) k_0 (fun _ h9 => h9) rfl dX2_routeTilted_1 ?_
    refine lv_sipush (v := (841)) hx hb dX2_routeTilted_4 (by decide) ?_
    obtain ⟨σ2, e1, h⟩ := fl_bnd h
    refine g_callVv (As := [.int (841)]) (rest := []) ⟨hx, hb, hml, hown, hts⟩ (c_X1_lay l D ad cz ((841)) (σ) e1) (cwV 1 hts gX2_routeTilted_X1_lay rfl rfl rfl (by decide +kernel) ⟨Nat.le_of_ble_eq_true rfl, Nat.le_of_ble_eq_true rfl⟩) (va_recv hK.1 hg.1 (ci := 1) (q0 := 2) rfl rfl) hK hA hg rfl hl.1 rfl (Nat.le_of_ble_eq_true rfl) dX2_routeTilted_7 ⟨Nat.le_of_ble_eq_true rfl, Nat.le_of_ble_eq_true rfl⟩ (fun H locs hg => ?_)
    refine lv_aload_n hx hb dX2_routeTilted_10 rfl (lv_at hl 0 rfl) ?_
    refine va_get (D := D) (ci := 2) (v := .ref (ad 2)) (C := RX2) (T := TX2) (N := 2) hx hb hts k_1 hown hK.1 hg.1 0 rfl rfl 1 (by decide) k_0 (fun _ h9 => h9) rfl dX2_routeTilted_11 ?_
    refine lv_iload_n hx hb dX2_routeTilted_14 rfl (lv_at hl 1 rfl) ?_
    refine lv_iload_n hx hb dX2_routeTilted_15 rfl (lv_at hl 2 rfl) ?_
    obtain ⟨σ4, e3, h⟩ := fl_bnd h
    refine g_callVv (As := [.int x1, .int x2]) (rest := []) ⟨hx, hb, hml, hown, hts⟩ (c_X1_tilt l D ad cz (x1) (x2) (σ2) e3) (cwV 2 hts gX2_routeTilted_X1_tilt rfl rfl rfl (by decide +kernel) ⟨Nat.le_of_ble_eq_true rfl, Nat.le_of_ble_eq_true rfl⟩) (va_recv hK.1 hg.1 (ci := 1) (q0 := 2) rfl rfl) hK hA hg rfl hl.1 rfl (Nat.le_of_ble_eq_true rfl) dX2_routeTilted_16 ⟨Nat.le_of_ble_eq_true rfl, Nat.le_of_ble_eq_true rfl⟩ (fun H locs hg => ?_)
    refine lv_aload_n hx hb dX2_routeTilted_19 rfl (lv_at hl 0 rfl) ?_
    refine va_get (D := D) (ci := 2) (v := .ref (ad 2)) (C := RX2) (T := TX2) (N := 2) hx hb hts k_1 hown hK.1 hg.1 0 rfl rfl 1 (by decide) k_0 (fun _ h9 => h9) rfl dX2_routeTilted_20 ?_
    obtain ⟨r6, σ7, e5, h⟩ := fl_b2_b h
    refine g_callVi (As := []) (rest := []) ⟨hx, hb, hml, hown, hts⟩ (c_X1_route l D ad cz (σ4) e5) (cwV 0 hts gX2_routeTilted_X1_route rfl rfl rfl (by decide +kernel) ⟨Nat.le_of_ble_eq_true rfl, Nat.le_of_ble_eq_true rfl⟩) (va_recv hK.1 hg.1 (ci := 1) (q0 := 2) rfl rfl) hK hA hg rfl hl.1 rfl (Nat.le_of_ble_eq_true rfl) dX2_routeTilted_23 ⟨Nat.le_of_ble_eq_true rfl, Nat.le_of_ble_eq_true rfl⟩ (fun H locs hg => ?_)
    obtain ⟨z8, h⟩ := fl_bool h
    exact hret _ _ _ _ _ _ h hg (fl_nar2 z8) dX2_routeTilted_26
  exact W0 _ _ hg
def f_X2_least (x1 : Int32) (σ : fl_St) : Option (Int32 × fl_St) := (f_X2_isArc x1 σ).bind fun r2 => if r2 = 0 then (some ((-1000000), σ)) else (fl_b2 (f_X2_state  σ) fun r5 σ6 => if r5 = 0 then (fl_b2 (f_X2_routeTilted x1 (1) σ6) fun r9 σ10 => (f_X1_flowOf x1 σ10).bind fun r12 => some (r12, σ10)) else (some (r5, σ6)))
def rm_X2_least : Room := { frames := 5, cells := 0, slots := 0, locals := 114 }
set_option maxHeartbeats 4000000 in
set_option maxRecDepth 100000 in
theorem c_X2_least (l : Launch) (D : va_G) (ad : Nat → Nat) (cz : Nat → ClassId) (x1 : Int32) (σ : fl_St) {r : Int32} {σ' : fl_St} (h : f_X2_least x1 σ = some (r, σ')) : gMi l yX2_least wsX2_least rm_X2_least D (wc ad cz) (wcT cz) wcN [.ref (ad 0), .int x1] σ r σ' := by
  refine gMi_of (cc := cX2_least) (maxL := 3) (by decide) rfl (Nat.le_of_ble_eq_true rfl) ?_
  intro p e s m args below meth c A Q ls hx hb hml hown hts hK hA hg hl hret
  have hown : s.vm.findClass RX2 = some m.cls := hown
  have hl : lv_has ls 3 [(0, .ref (ad 0)), (1, .int x1)] := hl
  have k_0 := hts (.fieldLink RX2 21 "FlowLedger" "router" "LFlowLedger$Router;") (by decide +kernel)
  have k_1 := (by decide +kernel : ∀ w ∈ wsX20, w ∈ wsX2_least)
  have k_2 := hts (.constant RX2 33 (-1000000)) (by decide +kernel)
  unfold f_X2_least at h
  have W0 : ∀ (H : Heap) (locs : List Loc), gS D (wc ad cz) A s.heap σ H locs → W p l e rm_X2_least s m args below meth c H locs 0 0 Q (F0 m 0 ls []) := by
    intro H locs hg
    refine lv_aload_n hx hb dX2_least_0 rfl (lv_at hl 0 rfl) ?_
    refine lv_iload_n hx hb dX2_least_1 rfl (lv_at hl 1 rfl) ?_
    obtain ⟨r2, e1, h⟩ := fl_bnd h
    refine g_callVi (As := [.int x1]) (rest := []) ⟨hx, hb, hml, hown, hts⟩ (c_X2_isArc l D ad cz (x1) (σ) e1) (cwV 1 hts gX2_least_X2_isArc rfl rfl rfl (by decide +kernel) ⟨Nat.le_of_ble_eq_true rfl, Nat.le_of_ble_eq_true rfl⟩) (va_recv hK.1 hg.1 (ci := 2) (q0 := 0) rfl rfl) hK hA hg rfl hl.1 rfl (Nat.le_of_ble_eq_true rfl) dX2_least_2 ⟨Nat.le_of_ble_eq_true rfl, Nat.le_of_ble_eq_true rfl⟩ (fun H locs hg => ?_)
    refine lv_if_ne (tgt := 11) hx hb dX2_least_5 (by decide) (fun c3 => ?_) (fun c3 => ?_)
    · have h := fl_ifn c3 h
      refine lv_aload_n hx hb dX2_least_11 rfl (lv_at hl 0 rfl) ?_
      obtain ⟨r5, σ6, e4, h⟩ := fl_b2_b h
      refine g_callVi (As := []) (rest := []) ⟨hx, hb, hml, hown, hts⟩ (c_X2_state l D ad cz (σ) e4) (cwV 0 hts gX2_least_X2_state rfl rfl rfl (by decide +kernel) ⟨Nat.le_of_ble_eq_true rfl, Nat.le_of_ble_eq_true rfl⟩) (va_recv hK.1 hg.1 (ci := 2) (q0 := 0) rfl rfl) hK hA hg rfl hl.1 rfl (Nat.le_of_ble_eq_true rfl) dX2_least_12 ⟨Nat.le_of_ble_eq_true rfl, Nat.le_of_ble_eq_true rfl⟩ (fun H locs hg => ?_)
      refine lv_istore_n (lv' := [(2, .int r5), (0, .ref (ad 0)), (1, .int x1)]) hx hb dX2_least_15 rfl hl (by decide) rfl (fun ls hl => ?_)
      refine lv_iload_n hx hb dX2_least_16 rfl (lv_at hl 0 rfl) ?_
      refine lv_if_eq (tgt := 22) hx hb dX2_least_17 (by decide) (fun c7 => ?_) (fun c7 => ?_)
      · have h := fl_ifp c7 h
        refine lv_aload_n hx hb dX2_least_22 rfl (lv_at hl 1 rfl) ?_
        refine lv_iload_n hx hb dX2_least_23 rfl (lv_at hl 2 rfl) ?_
        refine lv_iconst (v := (1)) hx hb dX2_least_24 (by decide) ?_
        obtain ⟨r9, σ10, e8, h⟩ := fl_b2_b h
        refine g_callVi (As := [.int x1, .int (1)]) (rest := []) ⟨hx, hb, hml, hown, hts⟩ (c_X2_routeTilted l D ad cz (x1) ((1)) (σ6) e8) (cwV 2 hts gX2_least_X2_routeTilted rfl rfl rfl (by decide +kernel) ⟨Nat.le_of_ble_eq_true rfl, Nat.le_of_ble_eq_true rfl⟩) (va_recv hK.1 hg.1 (ci := 2) (q0 := 0) rfl rfl) hK hA hg rfl hl.1 rfl (Nat.le_of_ble_eq_true rfl) dX2_least_25 ⟨Nat.le_of_ble_eq_true rfl, Nat.le_of_ble_eq_true rfl⟩ (fun H locs hg => ?_)
        refine lv_pop hx hb dX2_least_28 rfl ?_
        refine lv_aload_n hx hb dX2_least_29 rfl (lv_at hl 1 rfl) ?_
        refine va_get (D := D) (ci := 2) (v := .ref (ad 2)) (C := RX2) (T := TX2) (N := 2) hx hb hts k_1 hown hK.1 hg.1 0 rfl rfl 1 (by decide) k_0 (fun _ h9 => h9) rfl dX2_least_30 ?_
        refine lv_iload_n hx hb dX2_least_33 rfl (lv_at hl 2 rfl) ?_
        obtain ⟨r12, e11, h⟩ := fl_bnd h
        refine g_callVi (As := [.int x1]) (rest := []) ⟨hx, hb, hml, hown, hts⟩ (c_X1_flowOf l D ad cz (x1) (σ10) e11) (cwV 1 hts gX2_least_X1_flowOf rfl rfl rfl (by decide +kernel) ⟨Nat.le_of_ble_eq_true rfl, Nat.le_of_ble_eq_true rfl⟩) (va_recv hK.1 hg.1 (ci := 1) (q0 := 2) rfl rfl) hK hA hg rfl hl.1 rfl (Nat.le_of_ble_eq_true rfl) dX2_least_34 ⟨Nat.le_of_ble_eq_true rfl, Nat.le_of_ble_eq_true rfl⟩ (fun H locs hg => ?_)
        exact hret _ _ _ _ _ _ h hg rfl dX2_least_37
      · have h := fl_ifn c7 h
        refine lv_iload_n hx hb dX2_least_20 rfl (lv_at hl 0 rfl) ?_
        exact hret _ _ _ _ _ _ h hg rfl dX2_least_21
    · have h := fl_ifp c3 h
      refine lv_ldc hx hb hown k_2 dX2_least_8 ?_
      exact hret _ _ _ _ _ _ h hg rfl dX2_least_10
  exact W0 _ _ hg
def f_X2_most (x1 : Int32) (σ : fl_St) : Option (Int32 × fl_St) := (f_X2_isArc x1 σ).bind fun r2 => if r2 = 0 then (some ((-1000000), σ)) else (fl_b2 (f_X2_state  σ) fun r5 σ6 => if r5 = 0 then (fl_b2 (f_X2_routeTilted x1 (-1) σ6) fun r9 σ10 => (if r9 = 0 then (some ((-1000004))) else ((f_X1_flowOf x1 σ10).bind fun r16 => some (r16))).bind fun (t12 : Int32) => some (t12, σ10)) else (some (r5, σ6)))
def rm_X2_most : Room := { frames := 5, cells := 0, slots := 0, locals := 114 }
set_option maxHeartbeats 4000000 in
set_option maxRecDepth 100000 in
theorem c_X2_most (l : Launch) (D : va_G) (ad : Nat → Nat) (cz : Nat → ClassId) (x1 : Int32) (σ : fl_St) {r : Int32} {σ' : fl_St} (h : f_X2_most x1 σ = some (r, σ')) : gMi l yX2_most wsX2_most rm_X2_most D (wc ad cz) (wcT cz) wcN [.ref (ad 0), .int x1] σ r σ' := by
  refine gMi_of (cc := cX2_most) (maxL := 3) (by decide) rfl (Nat.le_of_ble_eq_true rfl) ?_
  intro p e s m args below meth c A Q ls hx hb hml hown hts hK hA hg hl hret
  have hown : s.vm.findClass RX2 = some m.cls := hown
  have hl : lv_has ls 3 [(0, .ref (ad 0)), (1, .int x1)] := hl
  have k_0 := hts (.constant RX2 95 (-1000004)) (by decide +kernel)
  have k_1 := hts (.fieldLink RX2 21 "FlowLedger" "router" "LFlowLedger$Router;") (by decide +kernel)
  have k_2 := (by decide +kernel : ∀ w ∈ wsX20, w ∈ wsX2_most)
  have k_3 := hts (.constant RX2 33 (-1000000)) (by decide +kernel)
  unfold f_X2_most at h
  have W0 : ∀ (H : Heap) (locs : List Loc), gS D (wc ad cz) A s.heap σ H locs → W p l e rm_X2_most s m args below meth c H locs 0 0 Q (F0 m 0 ls []) := by
    intro H locs hg
    refine lv_aload_n hx hb dX2_most_0 rfl (lv_at hl 0 rfl) ?_
    refine lv_iload_n hx hb dX2_most_1 rfl (lv_at hl 1 rfl) ?_
    obtain ⟨r2, e1, h⟩ := fl_bnd h
    refine g_callVi (As := [.int x1]) (rest := []) ⟨hx, hb, hml, hown, hts⟩ (c_X2_isArc l D ad cz (x1) (σ) e1) (cwV 1 hts gX2_most_X2_isArc rfl rfl rfl (by decide +kernel) ⟨Nat.le_of_ble_eq_true rfl, Nat.le_of_ble_eq_true rfl⟩) (va_recv hK.1 hg.1 (ci := 2) (q0 := 0) rfl rfl) hK hA hg rfl hl.1 rfl (Nat.le_of_ble_eq_true rfl) dX2_most_2 ⟨Nat.le_of_ble_eq_true rfl, Nat.le_of_ble_eq_true rfl⟩ (fun H locs hg => ?_)
    refine lv_if_ne (tgt := 11) hx hb dX2_most_5 (by decide) (fun c3 => ?_) (fun c3 => ?_)
    · have h := fl_ifn c3 h
      refine lv_aload_n hx hb dX2_most_11 rfl (lv_at hl 0 rfl) ?_
      obtain ⟨r5, σ6, e4, h⟩ := fl_b2_b h
      refine g_callVi (As := []) (rest := []) ⟨hx, hb, hml, hown, hts⟩ (c_X2_state l D ad cz (σ) e4) (cwV 0 hts gX2_most_X2_state rfl rfl rfl (by decide +kernel) ⟨Nat.le_of_ble_eq_true rfl, Nat.le_of_ble_eq_true rfl⟩) (va_recv hK.1 hg.1 (ci := 2) (q0 := 0) rfl rfl) hK hA hg rfl hl.1 rfl (Nat.le_of_ble_eq_true rfl) dX2_most_12 ⟨Nat.le_of_ble_eq_true rfl, Nat.le_of_ble_eq_true rfl⟩ (fun H locs hg => ?_)
      refine lv_istore_n (lv' := [(2, .int r5), (0, .ref (ad 0)), (1, .int x1)]) hx hb dX2_most_15 rfl hl (by decide) rfl (fun ls hl => ?_)
      refine lv_iload_n hx hb dX2_most_16 rfl (lv_at hl 0 rfl) ?_
      refine lv_if_eq (tgt := 22) hx hb dX2_most_17 (by decide) (fun c7 => ?_) (fun c7 => ?_)
      · have h := fl_ifp c7 h
        refine lv_aload_n hx hb dX2_most_22 rfl (lv_at hl 1 rfl) ?_
        refine lv_iload_n hx hb dX2_most_23 rfl (lv_at hl 2 rfl) ?_
        refine lv_iconst (v := (-1)) hx hb dX2_most_24 (by decide) ?_
        obtain ⟨r9, σ10, e8, h⟩ := fl_b2_b h
        refine g_callVi (As := [.int x1, .int (-1)]) (rest := []) ⟨hx, hb, hml, hown, hts⟩ (c_X2_routeTilted l D ad cz (x1) ((-1)) (σ6) e8) (cwV 2 hts gX2_most_X2_routeTilted rfl rfl rfl (by decide +kernel) ⟨Nat.le_of_ble_eq_true rfl, Nat.le_of_ble_eq_true rfl⟩) (va_recv hK.1 hg.1 (ci := 2) (q0 := 0) rfl rfl) hK hA hg rfl hl.1 rfl (Nat.le_of_ble_eq_true rfl) dX2_most_25 ⟨Nat.le_of_ble_eq_true rfl, Nat.le_of_ble_eq_true rfl⟩ (fun H locs hg => ?_)
        obtain ⟨t12, hB14, h⟩ := fl_bnd h
        have J13 : ∀ (H : Heap) (locs : List Loc) (ls : Array Slot), gS D (wc ad cz) A s.heap σ10 H locs → lv_has ls 3 [] → W p l e rm_X2_most s m args below meth c H locs 0 0 Q (F0 m 44 ls [.int t12]) := by
          intro H locs ls hg hl
          exact hret _ _ _ _ _ _ h hg rfl dX2_most_44
        clear h
        have h := hB14
        refine lv_if_eq (tgt := 42) hx hb dX2_most_28 (by decide) (fun c11 => ?_) (fun c11 => ?_)
        · have h := fl_ifp c11 h
          refine lv_ldc hx hb hown k_0 dX2_most_42 ?_
          obtain rfl := fl_s1 h
          exact J13 H locs ls hg (lv_sub hl [] rfl)
        · have h := fl_ifn c11 h
          refine lv_aload_n hx hb dX2_most_31 rfl (lv_at hl 1 rfl) ?_
          refine va_get (D := D) (ci := 2) (v := .ref (ad 2)) (C := RX2) (T := TX2) (N := 2) hx hb hts k_2 hown hK.1 hg.1 0 rfl rfl 1 (by decide) k_1 (fun _ h9 => h9) rfl dX2_most_32 ?_
          refine lv_iload_n hx hb dX2_most_35 rfl (lv_at hl 2 rfl) ?_
          obtain ⟨r16, e15, h⟩ := fl_bnd h
          refine g_callVi (As := [.int x1]) (rest := []) ⟨hx, hb, hml, hown, hts⟩ (c_X1_flowOf l D ad cz (x1) (σ10) e15) (cwV 1 hts gX2_most_X1_flowOf rfl rfl rfl (by decide +kernel) ⟨Nat.le_of_ble_eq_true rfl, Nat.le_of_ble_eq_true rfl⟩) (va_recv hK.1 hg.1 (ci := 1) (q0 := 2) rfl rfl) hK hA hg rfl hl.1 rfl (Nat.le_of_ble_eq_true rfl) dX2_most_36 ⟨Nat.le_of_ble_eq_true rfl, Nat.le_of_ble_eq_true rfl⟩ (fun H locs hg => ?_)
          refine lv_goto (tgt := 44) hx hb dX2_most_39 (by decide) ?_
          obtain rfl := fl_s1 h
          exact J13 H locs ls hg (lv_sub hl [] rfl)
      · have h := fl_ifn c7 h
        refine lv_iload_n hx hb dX2_most_20 rfl (lv_at hl 0 rfl) ?_
        exact hret _ _ _ _ _ _ h hg rfl dX2_most_21
    · have h := fl_ifp c3 h
      refine lv_ldc hx hb hown k_3 dX2_most_8 ?_
      exact hret _ _ _ _ _ _ h hg rfl dX2_most_10
  exact W0 _ _ hg
def f_X2_slack (x1 : Int32) (σ : fl_St) : Option (Int32 × fl_St) := fl_b2 (f_X2_most x1 σ) fun r2 σ3 => if r2 = (-1000004) then (some ((0), σ3)) else (if 0 ≤ r2 then ((fl_rd σ3 2 20 x1).bind fun v6 => if r2 = v6 then (some ((40), σ3)) else ((f_X1_lay (1) σ3).bind fun σ11 => (fl_rd σ11 1 20 x1).bind fun v12 => (fl_rd σ11 0 20 x1).bind fun v15 => fl_b2 (f_X1_canReach v12 v15 x1 σ11) fun r19 σ20 => if r19 = 0 then (some ((40), σ20)) else ((fl_rd σ20 3 20 x1).bind fun v22 => (fl_rd σ20 0 20 x1).bind fun v25 => (f_X1_distanceTo v25 σ20).bind fun r29 => some ((if (v22 + r29) < (40) then (v22 + r29) else (40)), σ20)))) else (some (r2, σ3)))
def rm_X2_slack : Room := { frames := 6, cells := 0, slots := 0, locals := 136 }
set_option maxHeartbeats 4000000 in
set_option maxRecDepth 100000 in
theorem c_X2_slack (l : Launch) (D : va_G) (ad : Nat → Nat) (cz : Nat → ClassId) (x1 : Int32) (σ : fl_St) {r : Int32} {σ' : fl_St} (h : f_X2_slack x1 σ = some (r, σ')) : gMi l yX2_slack wsX2_slack rm_X2_slack D (wc ad cz) (wcT cz) wcN [.ref (ad 0), .int x1] σ r σ' := by
  refine gMi_of (cc := cX2_slack) (maxL := 4) (by decide) rfl (Nat.le_of_ble_eq_true rfl) ?_
  intro p e s m args below meth c A Q ls hx hb hml hown hts hK hA hg hl hret
  have hown : s.vm.findClass RX2 = some m.cls := hown
  have hl : lv_has ls 4 [(0, .ref (ad 0)), (1, .int x1)] := hl
  have k_0 := hts (.constant RX2 95 (-1000004)) (by decide +kernel)
  have k_1 := hts (.fieldLink RX2 12 "FlowLedger" "network" "LFlowLedger$Network;") (by decide +kernel)
  have k_2 := (by decide +kernel : ∀ w ∈ wsX20, w ∈ wsX2_slack)
  have k_3 := hts (.fieldLink RX2 46 "FlowLedger$Network" "capacity" "[I") (by decide +kernel)
  have k_4 := (by decide +kernel : ∀ w ∈ wsX00, w ∈ wsX2_slack)
  have k_5 := hts (.fieldLink RX2 21 "FlowLedger" "router" "LFlowLedger$Router;") (by decide +kernel)
  have k_6 := hts (.fieldLink RX2 43 "FlowLedger$Network" "to" "[I") (by decide +kernel)
  have k_7 := hts (.fieldLink RX2 39 "FlowLedger$Network" "from" "[I") (by decide +kernel)
  have k_8 := hts (.fieldLink RX2 49 "FlowLedger$Network" "cost" "[I") (by decide +kernel)
  have k_9 := hts (.methodLink RX2 105 Lib.Math.min.name) (by decide +kernel)
  have k_10 := hts (.static Lib.Math.min.name) (by decide +kernel)
  have k_11 := hts (.initialized "java/lang/Math") (by decide +kernel)
  have k_12 := hts (.code Lib.Math.min.name Lib.Math.min.code 2 (some .int)) (by decide +kernel)
  unfold f_X2_slack at h
  have W0 : ∀ (H : Heap) (locs : List Loc), gS D (wc ad cz) A s.heap σ H locs → W p l e rm_X2_slack s m args below meth c H locs 0 0 Q (F0 m 0 ls []) := by
    intro H locs hg
    refine lv_aload_n hx hb dX2_slack_0 rfl (lv_at hl 0 rfl) ?_
    refine lv_iload_n hx hb dX2_slack_1 rfl (lv_at hl 1 rfl) ?_
    obtain ⟨r2, σ3, e1, h⟩ := fl_b2_b h
    refine g_callVi (As := [.int x1]) (rest := []) ⟨hx, hb, hml, hown, hts⟩ (c_X2_most l D ad cz (x1) (σ) e1) (cwV 1 hts gX2_slack_X2_most rfl rfl rfl (by decide +kernel) ⟨Nat.le_of_ble_eq_true rfl, Nat.le_of_ble_eq_true rfl⟩) (va_recv hK.1 hg.1 (ci := 2) (q0 := 0) rfl rfl) hK hA hg rfl hl.1 rfl (Nat.le_of_ble_eq_true rfl) dX2_slack_2 ⟨Nat.le_of_ble_eq_true rfl, Nat.le_of_ble_eq_true rfl⟩ (fun H locs hg => ?_)
    refine lv_istore_n (lv' := [(2, .int r2), (0, .ref (ad 0)), (1, .int x1)]) hx hb dX2_slack_5 rfl hl (by decide) rfl (fun ls hl => ?_)
    refine lv_iload_n hx hb dX2_slack_6 rfl (lv_at hl 0 rfl) ?_
    refine lv_ldc hx hb hown k_0 dX2_slack_7 ?_
    refine lv_icmp_ne (tgt := 14) hx hb dX2_slack_9 (by decide) (fun c4 => ?_) (fun c4 => ?_)
    · have h := fl_ifn c4 h
      refine lv_iload_n hx hb dX2_slack_14 rfl (lv_at hl 0 rfl) ?_
      refine lv_if_ge (tgt := 20) hx hb dX2_slack_15 (by decide) (fun c5 => ?_) (fun c5 => ?_)
      · have h := fl_ifp c5 h
        refine lv_iload_n hx hb dX2_slack_20 rfl (lv_at hl 0 rfl) ?_
        refine lv_aload_n hx hb dX2_slack_21 rfl (lv_at hl 1 rfl) ?_
        refine va_get (D := D) (ci := 2) (v := .ref (ad 1)) (C := RX2) (T := TX2) (N := 2) hx hb hts k_2 hown hK.1 hg.1 0 rfl rfl 0 (by decide) k_1 (fun _ h9 => h9) rfl dX2_slack_22 ?_
        refine va_get (D := D) (ci := 0) (v := .ref (ad 5)) (C := RX0) (T := TX0) (N := 6) hx hb hts k_4 hown hK.1 hg.1 1 rfl rfl 2 (by decide) k_3 (fun _ h9 => h9) rfl dX2_slack_25 ?_
        refine lv_iload_n hx hb dX2_slack_28 rfl (lv_at hl 2 rfl) ?_
        obtain ⟨v6, i7, e8, h⟩ := fl_rd_b h
        refine g_ld (n := 20) (t0 := 2) hx hb hK hg (wc_a2 ad cz _) rfl i7 e8 dX2_slack_29 ?_
        refine lv_icmp_ne (tgt := 36) hx hb dX2_slack_30 (by decide) (fun c9 => ?_) (fun c9 => ?_)
        · have h := fl_ifn c9 h
          refine lv_aload_n hx hb dX2_slack_36 rfl (lv_at hl 1 rfl) ?_
          refine va_get (D := D) (ci := 2) (v := .ref (ad 2)) (C := RX2) (T := TX2) (N := 2) hx hb hts k_2 hown hK.1 hg.1 0 rfl rfl 1 (by decide) k_5 (fun _ h9 => h9) rfl dX2_slack_37 ?_
          refine lv_iconst (v := (1)) hx hb dX2_slack_40 (by decide) ?_
          obtain ⟨σ11, e10, h⟩ := fl_bnd h
          refine g_callVv (As := [.int (1)]) (rest := []) ⟨hx, hb, hml, hown, hts⟩ (c_X1_lay l D ad cz ((1)) (σ3) e10) (cwV 1 hts gX2_slack_X1_lay rfl rfl rfl (by decide +kernel) ⟨Nat.le_of_ble_eq_true rfl, Nat.le_of_ble_eq_true rfl⟩) (va_recv hK.1 hg.1 (ci := 1) (q0 := 2) rfl rfl) hK hA hg rfl hl.1 rfl (Nat.le_of_ble_eq_true rfl) dX2_slack_41 ⟨Nat.le_of_ble_eq_true rfl, Nat.le_of_ble_eq_true rfl⟩ (fun H locs hg => ?_)
          refine lv_aload_n hx hb dX2_slack_44 rfl (lv_at hl 1 rfl) ?_
          refine va_get (D := D) (ci := 2) (v := .ref (ad 2)) (C := RX2) (T := TX2) (N := 2) hx hb hts k_2 hown hK.1 hg.1 0 rfl rfl 1 (by decide) k_5 (fun _ h9 => h9) rfl dX2_slack_45 ?_
          refine lv_aload_n hx hb dX2_slack_48 rfl (lv_at hl 1 rfl) ?_
          refine va_get (D := D) (ci := 2) (v := .ref (ad 1)) (C := RX2) (T := TX2) (N := 2) hx hb hts k_2 hown hK.1 hg.1 0 rfl rfl 0 (by decide) k_1 (fun _ h9 => h9) rfl dX2_slack_49 ?_
          refine va_get (D := D) (ci := 0) (v := .ref (ad 4)) (C := RX0) (T := TX0) (N := 6) hx hb hts k_4 hown hK.1 hg.1 1 rfl rfl 1 (by decide) k_6 (fun _ h9 => h9) rfl dX2_slack_52 ?_
          refine lv_iload_n hx hb dX2_slack_55 rfl (lv_at hl 2 rfl) ?_
          obtain ⟨v12, i13, e14, h⟩ := fl_rd_b h
          refine g_ld (n := 20) (t0 := 1) hx hb hK hg (wc_a1 ad cz _) rfl i13 e14 dX2_slack_56 ?_
          refine lv_aload_n hx hb dX2_slack_57 rfl (lv_at hl 1 rfl) ?_
          refine va_get (D := D) (ci := 2) (v := .ref (ad 1)) (C := RX2) (T := TX2) (N := 2) hx hb hts k_2 hown hK.1 hg.1 0 rfl rfl 0 (by decide) k_1 (fun _ h9 => h9) rfl dX2_slack_58 ?_
          refine va_get (D := D) (ci := 0) (v := .ref (ad 3)) (C := RX0) (T := TX0) (N := 6) hx hb hts k_4 hown hK.1 hg.1 1 rfl rfl 0 (by decide) k_7 (fun _ h9 => h9) rfl dX2_slack_61 ?_
          refine lv_iload_n hx hb dX2_slack_64 rfl (lv_at hl 2 rfl) ?_
          obtain ⟨v15, i16, e17, h⟩ := fl_rd_b h
          refine g_ld (n := 20) (t0 := 0) hx hb hK hg (wc_a0 ad cz _) rfl i16 e17 dX2_slack_65 ?_
          refine lv_iload_n hx hb dX2_slack_66 rfl (lv_at hl 2 rfl) ?_
          obtain ⟨r19, σ20, e18, h⟩ := fl_b2_b h
          refine g_callVi (As := [.int v12, .int v15, .int x1]) (rest := []) ⟨hx, hb, hml, hown, hts⟩ (c_X1_canReach l D ad cz (v12) (v15) (x1) (σ11) e18) (cwV 3 hts gX2_slack_X1_canReach rfl rfl rfl (by decide +kernel) ⟨Nat.le_of_ble_eq_true rfl, Nat.le_of_ble_eq_true rfl⟩) (va_recv hK.1 hg.1 (ci := 1) (q0 := 2) rfl rfl) hK hA hg rfl hl.1 rfl (Nat.le_of_ble_eq_true rfl) dX2_slack_67 ⟨Nat.le_of_ble_eq_true rfl, Nat.le_of_ble_eq_true rfl⟩ (fun H locs hg => ?_)
          refine lv_if_ne (tgt := 76) hx hb dX2_slack_70 (by decide) (fun c21 => ?_) (fun c21 => ?_)
          · have h := fl_ifn c21 h
            refine lv_aload_n hx hb dX2_slack_76 rfl (lv_at hl 1 rfl) ?_
            refine va_get (D := D) (ci := 2) (v := .ref (ad 1)) (C := RX2) (T := TX2) (N := 2) hx hb hts k_2 hown hK.1 hg.1 0 rfl rfl 0 (by decide) k_1 (fun _ h9 => h9) rfl dX2_slack_77 ?_
            refine va_get (D := D) (ci := 0) (v := .ref (ad 6)) (C := RX0) (T := TX0) (N := 6) hx hb hts k_4 hown hK.1 hg.1 1 rfl rfl 3 (by decide) k_8 (fun _ h9 => h9) rfl dX2_slack_80 ?_
            refine lv_iload_n hx hb dX2_slack_83 rfl (lv_at hl 2 rfl) ?_
            obtain ⟨v22, i23, e24, h⟩ := fl_rd_b h
            refine g_ld (n := 20) (t0 := 3) hx hb hK hg (wc_a3 ad cz _) rfl i23 e24 dX2_slack_84 ?_
            refine lv_aload_n hx hb dX2_slack_85 rfl (lv_at hl 1 rfl) ?_
            refine va_get (D := D) (ci := 2) (v := .ref (ad 2)) (C := RX2) (T := TX2) (N := 2) hx hb hts k_2 hown hK.1 hg.1 0 rfl rfl 1 (by decide) k_5 (fun _ h9 => h9) rfl dX2_slack_86 ?_
            refine lv_aload_n hx hb dX2_slack_89 rfl (lv_at hl 1 rfl) ?_
            refine va_get (D := D) (ci := 2) (v := .ref (ad 1)) (C := RX2) (T := TX2) (N := 2) hx hb hts k_2 hown hK.1 hg.1 0 rfl rfl 0 (by decide) k_1 (fun _ h9 => h9) rfl dX2_slack_90 ?_
            refine va_get (D := D) (ci := 0) (v := .ref (ad 3)) (C := RX0) (T := TX0) (N := 6) hx hb hts k_4 hown hK.1 hg.1 1 rfl rfl 0 (by decide) k_7 (fun _ h9 => h9) rfl dX2_slack_93 ?_
            refine lv_iload_n hx hb dX2_slack_96 rfl (lv_at hl 2 rfl) ?_
            obtain ⟨v25, i26, e27, h⟩ := fl_rd_b h
            refine g_ld (n := 20) (t0 := 0) hx hb hK hg (wc_a0 ad cz _) rfl i26 e27 dX2_slack_97 ?_
            obtain ⟨r29, e28, h⟩ := fl_bnd h
            refine g_callVi (As := [.int v25]) (rest := [.int v22]) ⟨hx, hb, hml, hown, hts⟩ (c_X1_distanceTo l D ad cz (v25) (σ20) e28) (cwV 1 hts gX2_slack_X1_distanceTo rfl rfl rfl (by decide +kernel) ⟨Nat.le_of_ble_eq_true rfl, Nat.le_of_ble_eq_true rfl⟩) (va_recv hK.1 hg.1 (ci := 1) (q0 := 2) rfl rfl) hK hA hg rfl hl.1 rfl (Nat.le_of_ble_eq_true rfl) dX2_slack_98 ⟨Nat.le_of_ble_eq_true rfl, Nat.le_of_ble_eq_true rfl⟩ (fun H locs hg => ?_)
            refine lv_iadd hx hb dX2_slack_101 ?_
            refine lv_istore_n (lv' := [(3, .int (v22 + r29)), (2, .int r2), (0, .ref (ad 0)), (1, .int x1)]) hx hb dX2_slack_102 rfl hl (by decide) rfl (fun ls hl => ?_)
            refine lv_bipush (v := (40)) hx hb dX2_slack_103 (by decide) ?_
            refine lv_iload_n hx hb dX2_slack_105 rfl (lv_at hl 0 rfl) ?_
            refine va_mmin (rest := []) hx hb (hml.trans hl.1.symm) hown k_9 k_10 k_11 k_12 (Nat.le_of_ble_eq_true rfl) (Nat.le_of_ble_eq_true rfl) (Nat.le_of_ble_eq_true rfl) (Nat.le_of_ble_eq_true rfl) dX2_slack_106 ?_
            exact hret _ _ _ _ _ _ h hg rfl dX2_slack_109
          · have h := fl_ifp c21 h
            refine lv_bipush (v := (40)) hx hb dX2_slack_73 (by decide) ?_
            exact hret _ _ _ _ _ _ h hg rfl dX2_slack_75
        · have h := fl_ifp c9 h
          refine lv_bipush (v := (40)) hx hb dX2_slack_33 (by decide) ?_
          exact hret _ _ _ _ _ _ h hg rfl dX2_slack_35
      · have h := fl_ifn c5 h
        refine lv_iload_n hx hb dX2_slack_18 rfl (lv_at hl 0 rfl) ?_
        exact hret _ _ _ _ _ _ h hg rfl dX2_slack_19
    · have h := fl_ifp c4 h
      refine lv_iconst (v := (0)) hx hb dX2_slack_12 (by decide) ?_
      exact hret _ _ _ _ _ _ h hg rfl dX2_slack_13
  exact W0 _ _ hg
end
section
def f_X3_in (x0 : Int32) (x1 : Int32) (x2 : Int32) (σ : fl_St) : Option (Int32) := (if x0 < x1 then (some ((0))) else (if x2 < x0 then (some ((0))) else (some ((1))))).bind fun (t2 : Int32) => if ¬ (t2 = 0 ∨ t2 = 1) then none else some t2
def rm_X3_in : Room := { frames := 0, cells := 0, slots := 0, locals := 0 }
set_option maxHeartbeats 4000000 in
set_option maxRecDepth 100000 in
theorem c_X3_in (l : Launch) (D : va_G) (ad : Nat → Nat) (cz : Nat → ClassId) (x0 : Int32) (x1 : Int32) (x2 : Int32) (σ : fl_St) {r : Int32} (h : f_X3_in x0 x1 x2 σ = some r) : gMi l yX3_in wsX3_in rm_X3_in D (wm ad cz) (wmT cz) [] [.int x0, .int x1, .int x2] σ r σ := by
  refine gMi_of (cc := cX3_in) (maxL := 3) (by decide) rfl (Nat.le_of_ble_eq_true rfl) ?_
  intro p e s m args below meth c A Q ls hx hb hml hown hts hK hA hg hl hret
  have hown : s.vm.findClass RX3 = some m.cls := hown
  have hl : lv_has ls 3 [(0, .int x0), (1, .int x1), (2, .int x2)] := hl
  unfold f_X3_in at h
  have W0 : ∀ (H : Heap) (locs : List Loc), gS D (wm ad cz) A s.heap σ H locs → W p l e rm_X3_in s m args below meth c H locs 0 0 Q (F0 m 0 ls []) := by
    intro H locs hg
    refine lv_iload_n hx hb dX3_in_0 rfl (lv_at hl 0 rfl) ?_
    refine lv_iload_n hx hb dX3_in_1 rfl (lv_at hl 1 rfl) ?_
    obtain ⟨t2, hB4, h⟩ := fl_bnd h
    have J3 : ∀ (H : Heap) (locs : List Loc) (ls : Array Slot), gS D (wm ad cz) A s.heap σ H locs → lv_has ls 3 [] → W p l e rm_X3_in s m args below meth c H locs 0 0 Q (F0 m 15 ls [.int t2]) := by
      intro H locs ls hg hl
      obtain ⟨z5, h⟩ := fl_bool h
      exact hret _ _ _ _ _ _ (congrArg (Option.map (fun q => (q, σ))) h) hg (fl_nar2 z5) dX3_in_15
    clear h
    have h := hB4
    refine lv_icmp_lt (tgt := 14) hx hb dX3_in_2 (by decide) (fun c1 => ?_) (fun c1 => ?_)
    · have h := fl_ifp c1 h
      refine lv_iconst (v := (0)) hx hb dX3_in_14 (by decide) ?_
      obtain rfl := fl_s1 h
      exact J3 H locs ls hg (lv_sub hl [] rfl)
    · have h := fl_ifn c1 h
      refine lv_iload_n hx hb dX3_in_5 rfl (lv_at hl 0 rfl) ?_
      refine lv_iload_n hx hb dX3_in_6 rfl (lv_at hl 2 rfl) ?_
      refine lv_icmp_gt (tgt := 14) hx hb dX3_in_7 (by decide) (fun c6 => ?_) (fun c6 => ?_)
      · have h := fl_ifp c6 h
        refine lv_iconst (v := (0)) hx hb dX3_in_14 (by decide) ?_
        obtain rfl := fl_s1 h
        exact J3 H locs ls hg (lv_sub hl [] rfl)
      · have h := fl_ifn c6 h
        refine lv_iconst (v := (1)) hx hb dX3_in_10 (by decide) ?_
        refine lv_goto (tgt := 15) hx hb dX3_in_11 (by decide) ?_
        obtain rfl := fl_s1 h
        exact J3 H locs ls hg (lv_sub hl [] rfl)
  exact W0 _ _ hg
def f_X3_add (x1 : Int32) (x2 : Int32) (x3 : Int32) (x4 : Int32) (σ : fl_St) : Option (Int32 × fl_St) := (f_X3_in x1 (0) (7) σ).bind fun r2 => if r2 = 0 then (some ((-1000000), σ)) else ((f_X3_in x2 (0) (7) σ).bind fun r5 => if r5 = 0 then (some ((-1000000), σ)) else (if x1 = x2 then (some ((-1000000), σ)) else ((f_X3_in x3 (-1) (30) σ).bind fun r9 => if r9 = 0 then (some ((-1000000), σ)) else ((f_X3_in x4 (-20) (20) σ).bind fun r12 => if r12 = 0 then (some ((-1000000), σ)) else (if (σ 13 0) = (20) then (some ((-1000001), σ)) else ((fl_wr σ 0 36 (σ 13 0) x1).bind fun σ15 => (fl_wr σ15 1 36 (σ15 13 0) x2).bind fun σ18 => (if 0 ≤ x3 then (some (x3)) else (some ((1000000)))).bind fun (t22 : Int32) => (fl_wr σ18 2 36 (σ18 13 0) t22).bind fun σ25 => (fl_wr σ25 3 36 (σ25 13 0) x4).bind fun σ28 => (some (st σ28 13 0 ((σ28 13 0) + (1)))).bind fun σ31 => some (((σ31 13 0) - (1)), σ31)))))))
def rm_X3_add : Room := { frames := 1, cells := 0, slots := 0, locals := 22 }
set_option maxHeartbeats 4000000 in
set_option maxRecDepth 100000 in
theorem c_X3_add (l : Launch) (D : va_G) (ad : Nat → Nat) (cz : Nat → ClassId) (x1 : Int32) (x2 : Int32) (x3 : Int32) (x4 : Int32) (σ : fl_St) {r : Int32} {σ' : fl_St} (h : f_X3_add x1 x2 x3 x4 σ = some (r, σ')) : gMi l yX3_add wsX3_add rm_X3_add D (wm ad cz) (wmT cz) [] [.ref (ad 0), .int x1, .int x2, .int x3, .int x4] σ r σ' := by
  refine gMi_of (cc := cX3_add) (maxL := 5) (by decide) rfl (Nat.le_of_ble_eq_true rfl) ?_
  intro p e s m args below meth c A Q ls hx hb hml hown hts hK hA hg hl hret
  have hown : s.vm.findClass RX3 = some m.cls := hown
  have hl : lv_has ls 5 [(0, .ref (ad 0)), (1, .int x1), (2, .int x2), (3, .int x3), (4, .int x4)] := hl
  have k_0 := hts (.constant RX3 54 (-1000000)) (by decide +kernel)
  have k_1 := hts (.fieldLink RX3 55 "FlowLedgerModel" "arcs" "I") (by decide +kernel)
  have k_2 := (by decide +kernel : ∀ w ∈ wsX30, w ∈ wsX3_add)
  have k_3 := hts (.fieldLink RX3 7 "FlowLedgerModel" "froms" "[I") (by decide +kernel)
  have k_4 := hts (.fieldLink RX3 13 "FlowLedgerModel" "tos" "[I") (by decide +kernel)
  have k_5 := hts (.fieldLink RX3 16 "FlowLedgerModel" "capacities" "[I") (by decide +kernel)
  have k_6 := hts (.fieldLink RX3 19 "FlowLedgerModel" "costs" "[I") (by decide +kernel)
  have k_7 := hts (.constant RX3 60 (1000000)) (by decide +kernel)
  have k_8 := hts (.constant RX3 59 (-1000001)) (by decide +kernel)
  unfold f_X3_add at h
  have W0 : ∀ (H : Heap) (locs : List Loc), gS D (wm ad cz) A s.heap σ H locs → W p l e rm_X3_add s m args below meth c H locs 0 0 Q (F0 m 0 ls []) := by
    intro H locs hg
    refine lv_iload_n hx hb dX3_add_0 rfl (lv_at hl 1 rfl) ?_
    refine lv_iconst (v := (0)) hx hb dX3_add_1 (by decide) ?_
    refine lv_bipush (v := (7)) hx hb dX3_add_2 (by decide) ?_
    obtain ⟨r2, e1, h⟩ := fl_bnd h
    refine g_callSi (As := [.int x1, .int (0), .int (7)]) (rest := []) ⟨hx, hb, hml, hown, hts⟩ (c_X3_in l D ad cz (x1) ((0)) ((7)) (σ) e1) (cwS 3 hts gX3_add_X3_in rfl rfl rfl (by decide +kernel) ⟨Nat.le_of_ble_eq_true rfl, Nat.le_of_ble_eq_true rfl⟩) hK hA hg rfl hl.1 rfl (Nat.le_of_ble_eq_true rfl) dX3_add_4 ⟨Nat.le_of_ble_eq_true rfl, Nat.le_of_ble_eq_true rfl⟩ (fun H locs hg => ?_)
    refine lv_if_eq (tgt := 47) hx hb dX3_add_7 (by decide) (fun c3 => ?_) (fun c3 => ?_)
    · have h := fl_ifp c3 h
      refine lv_ldc hx hb hown k_0 dX3_add_47 ?_
      exact hret _ _ _ _ _ _ h hg rfl dX3_add_49
    · have h := fl_ifn c3 h
      refine lv_iload_n hx hb dX3_add_10 rfl (lv_at hl 2 rfl) ?_
      refine lv_iconst (v := (0)) hx hb dX3_add_11 (by decide) ?_
      refine lv_bipush (v := (7)) hx hb dX3_add_12 (by decide) ?_
      obtain ⟨r5, e4, h⟩ := fl_bnd h
      refine g_callSi (As := [.int x2, .int (0), .int (7)]) (rest := []) ⟨hx, hb, hml, hown, hts⟩ (c_X3_in l D ad cz (x2) ((0)) ((7)) (σ) e4) (cwS 3 hts gX3_add_X3_in rfl rfl rfl (by decide +kernel) ⟨Nat.le_of_ble_eq_true rfl, Nat.le_of_ble_eq_true rfl⟩) hK hA hg rfl hl.1 rfl (Nat.le_of_ble_eq_true rfl) dX3_add_14 ⟨Nat.le_of_ble_eq_true rfl, Nat.le_of_ble_eq_true rfl⟩ (fun H locs hg => ?_)
      refine lv_if_eq (tgt := 47) hx hb dX3_add_17 (by decide) (fun c6 => ?_) (fun c6 => ?_)
      · have h := fl_ifp c6 h
        refine lv_ldc hx hb hown k_0 dX3_add_47 ?_
        exact hret _ _ _ _ _ _ h hg rfl dX3_add_49
      · have h := fl_ifn c6 h
        refine lv_iload_n hx hb dX3_add_20 rfl (lv_at hl 1 rfl) ?_
        refine lv_iload_n hx hb dX3_add_21 rfl (lv_at hl 2 rfl) ?_
        refine lv_icmp_eq (tgt := 47) hx hb dX3_add_22 (by decide) (fun c7 => ?_) (fun c7 => ?_)
        · have h := fl_ifp c7 h
          refine lv_ldc hx hb hown k_0 dX3_add_47 ?_
          exact hret _ _ _ _ _ _ h hg rfl dX3_add_49
        · have h := fl_ifn c7 h
          refine lv_iload_n hx hb dX3_add_25 rfl (lv_at hl 3 rfl) ?_
          refine lv_iconst (v := (-1)) hx hb dX3_add_26 (by decide) ?_
          refine lv_bipush (v := (30)) hx hb dX3_add_27 (by decide) ?_
          obtain ⟨r9, e8, h⟩ := fl_bnd h
          refine g_callSi (As := [.int x3, .int (-1), .int (30)]) (rest := []) ⟨hx, hb, hml, hown, hts⟩ (c_X3_in l D ad cz (x3) ((-1)) ((30)) (σ) e8) (cwS 3 hts gX3_add_X3_in rfl rfl rfl (by decide +kernel) ⟨Nat.le_of_ble_eq_true rfl, Nat.le_of_ble_eq_true rfl⟩) hK hA hg rfl hl.1 rfl (Nat.le_of_ble_eq_true rfl) dX3_add_29 ⟨Nat.le_of_ble_eq_true rfl, Nat.le_of_ble_eq_true rfl⟩ (fun H locs hg => ?_)
          refine lv_if_eq (tgt := 47) hx hb dX3_add_32 (by decide) (fun c10 => ?_) (fun c10 => ?_)
          · have h := fl_ifp c10 h
            refine lv_ldc hx hb hown k_0 dX3_add_47 ?_
            exact hret _ _ _ _ _ _ h hg rfl dX3_add_49
          · have h := fl_ifn c10 h
            refine lv_iload hx hb dX3_add_35 (lv_at hl 4 rfl) ?_
            refine lv_bipush (v := (-20)) hx hb dX3_add_37 (by decide) ?_
            refine lv_bipush (v := (20)) hx hb dX3_add_39 (by decide) ?_
            obtain ⟨r12, e11, h⟩ := fl_bnd h
            refine g_callSi (As := [.int x4, .int (-20), .int (20)]) (rest := []) ⟨hx, hb, hml, hown, hts⟩ (c_X3_in l D ad cz (x4) ((-20)) ((20)) (σ) e11) (cwS 3 hts gX3_add_X3_in rfl rfl rfl (by decide +kernel) ⟨Nat.le_of_ble_eq_true rfl, Nat.le_of_ble_eq_true rfl⟩) hK hA hg rfl hl.1 rfl (Nat.le_of_ble_eq_true rfl) dX3_add_41 ⟨Nat.le_of_ble_eq_true rfl, Nat.le_of_ble_eq_true rfl⟩ (fun H locs hg => ?_)
            refine lv_if_ne (tgt := 50) hx hb dX3_add_44 (by decide) (fun c13 => ?_) (fun c13 => ?_)
            · have h := fl_ifn c13 h
              refine lv_aload_n hx hb dX3_add_50 rfl (lv_at hl 0 rfl) ?_
              refine va_get (D := D) (ci := 3) (v := .int (σ 13 0)) (C := RX3) (T := TX3) (N := 16) hx hb hts k_2 hown hK.1 hg.1 0 rfl rfl 0 (by decide) k_1 (fun _ h9 => h9) rfl dX3_add_51 ?_
              refine lv_bipush (v := (20)) hx hb dX3_add_54 (by decide) ?_
              refine lv_icmp_ne (tgt := 62) hx hb dX3_add_56 (by decide) (fun c14 => ?_) (fun c14 => ?_)
              · have h := fl_ifn c14 h
                refine lv_aload_n hx hb dX3_add_62 rfl (lv_at hl 0 rfl) ?_
                refine va_get (D := D) (ci := 3) (v := .ref (ad 1)) (C := RX3) (T := TX3) (N := 16) hx hb hts k_2 hown hK.1 hg.1 0 rfl rfl 1 (by decide) k_3 (fun _ h9 => h9) rfl dX3_add_63 ?_
                refine lv_aload_n hx hb dX3_add_66 rfl (lv_at hl 0 rfl) ?_
                refine va_get (D := D) (ci := 3) (v := .int (σ 13 0)) (C := RX3) (T := TX3) (N := 16) hx hb hts k_2 hown hK.1 hg.1 0 rfl rfl 0 (by decide) k_1 (fun _ h9 => h9) rfl dX3_add_67 ?_
                refine lv_iload_n hx hb dX3_add_70 rfl (lv_at hl 1 rfl) ?_
                obtain ⟨σ15, i16, e17, h⟩ := fl_wr_b h
                refine g_st (n := 36) (t0 := 0) hx hb hK hg (wm_a0 ad cz _) (wm_s0 ad cz _) rfl i16 e17 dX3_add_71 (fun H locs hg => ?_)
                refine lv_aload_n hx hb dX3_add_72 rfl (lv_at hl 0 rfl) ?_
                refine va_get (D := D) (ci := 3) (v := .ref (ad 2)) (C := RX3) (T := TX3) (N := 16) hx hb hts k_2 hown hK.1 hg.1 0 rfl rfl 2 (by decide) k_4 (fun _ h9 => h9) rfl dX3_add_73 ?_
                refine lv_aload_n hx hb dX3_add_76 rfl (lv_at hl 0 rfl) ?_
                refine va_get (D := D) (ci := 3) (v := .int (σ15 13 0)) (C := RX3) (T := TX3) (N := 16) hx hb hts k_2 hown hK.1 hg.1 0 rfl rfl 0 (by decide) k_1 (fun _ h9 => h9) rfl dX3_add_77 ?_
                refine lv_iload_n hx hb dX3_add_80 rfl (lv_at hl 2 rfl) ?_
                obtain ⟨σ18, i19, e20, h⟩ := fl_wr_b h
                refine g_st (n := 36) (t0 := 1) hx hb hK hg (wm_a1 ad cz _) (wm_s1 ad cz _) rfl i19 e20 dX3_add_81 (fun H locs hg => ?_)
                refine lv_aload_n hx hb dX3_add_82 rfl (lv_at hl 0 rfl) ?_
                refine va_get (D := D) (ci := 3) (v := .ref (ad 3)) (C := RX3) (T := TX3) (N := 16) hx hb hts k_2 hown hK.1 hg.1 0 rfl rfl 3 (by decide) k_5 (fun _ h9 => h9) rfl dX3_add_83 ?_
                refine lv_aload_n hx hb dX3_add_86 rfl (lv_at hl 0 rfl) ?_
                refine va_get (D := D) (ci := 3) (v := .int (σ18 13 0)) (C := RX3) (T := TX3) (N := 16) hx hb hts k_2 hown hK.1 hg.1 0 rfl rfl 0 (by decide) k_1 (fun _ h9 => h9) rfl dX3_add_87 ?_
                refine lv_iload_n hx hb dX3_add_90 rfl (lv_at hl 3 rfl) ?_
                obtain ⟨t22, hB24, h⟩ := fl_bnd h
                have J23 : ∀ (H : Heap) (locs : List Loc) (ls : Array Slot), gS D (wm ad cz) A s.heap σ18 H locs → lv_has ls 5 [(0, .ref (ad 0)), (4, .int x4)] → W p l e rm_X3_add s m args below meth c H locs 0 0 Q (F0 m 100 ls [.int t22, .int (σ18 13 0), .ref (ad 3)]) := by
                  intro H locs ls hg hl
                  obtain ⟨σ25, i26, e27, h⟩ := fl_wr_b h
                  refine g_st (n := 36) (t0 := 2) hx hb hK hg (wm_a2 ad cz _) (wm_s2 ad cz _) rfl i26 e27 dX3_add_100 (fun H locs hg => ?_)
                  refine lv_aload_n hx hb dX3_add_101 rfl (lv_at hl 0 rfl) ?_
                  refine va_get (D := D) (ci := 3) (v := .ref (ad 4)) (C := RX3) (T := TX3) (N := 16) hx hb hts k_2 hown hK.1 hg.1 0 rfl rfl 4 (by decide) k_6 (fun _ h9 => h9) rfl dX3_add_102 ?_
                  refine lv_aload_n hx hb dX3_add_105 rfl (lv_at hl 0 rfl) ?_
                  refine va_get (D := D) (ci := 3) (v := .int (σ25 13 0)) (C := RX3) (T := TX3) (N := 16) hx hb hts k_2 hown hK.1 hg.1 0 rfl rfl 0 (by decide) k_1 (fun _ h9 => h9) rfl dX3_add_106 ?_
                  refine lv_iload hx hb dX3_add_109 (lv_at hl 1 rfl) ?_
                  obtain ⟨σ28, i29, e30, h⟩ := fl_wr_b h
                  refine g_st (n := 36) (t0 := 3) hx hb hK hg (wm_a3 ad cz _) (wm_s3 ad cz _) rfl i29 e30 dX3_add_111 (fun H locs hg => ?_)
                  refine lv_aload_n hx hb dX3_add_112 rfl (lv_at hl 0 rfl) ?_
                  refine lv_dup hx hb dX3_add_113 rfl ?_
                  refine va_get (D := D) (ci := 3) (v := .int (σ28 13 0)) (C := RX3) (T := TX3) (N := 16) hx hb hts k_2 hown hK.1 hg.1 0 rfl rfl 0 (by decide) k_1 (fun _ h9 => h9) rfl dX3_add_114 ?_
                  refine lv_iconst (v := (1)) hx hb dX3_add_117 (by decide) ?_
                  refine lv_iadd hx hb dX3_add_118 ?_
                  obtain ⟨σ31, e32, h⟩ := fl_bnd h
                  have e32 := fl_s1 e32
                  refine g_put (σ' := σ31) (ci := 3) (C := RX3) (T := TX3) (N := 16) (z := ((σ28 13 0) + (1))) hx hb hts k_2 tyX3 tyX3_ok nmX3 hown hK hg 0 rfl rfl 0 (by decide) k_1 (fun _ h9 => h9) rfl (by decide +kernel) (Nat.le_of_ble_eq_true rfl) (by rw [← e32]; exact wm_c0 ad cz _ _) dX3_add_119 (fun H locs hg => ?_)
                  refine lv_aload_n hx hb dX3_add_122 rfl (lv_at hl 0 rfl) ?_
                  refine va_get (D := D) (ci := 3) (v := .int (σ31 13 0)) (C := RX3) (T := TX3) (N := 16) hx hb hts k_2 hown hK.1 hg.1 0 rfl rfl 0 (by decide) k_1 (fun _ h9 => h9) rfl dX3_add_123 ?_
                  refine lv_iconst (v := (1)) hx hb dX3_add_126 (by decide) ?_
                  refine lv_isub hx hb dX3_add_127 ?_
                  exact hret _ _ _ _ _ _ h hg rfl dX3_add_128
                clear h
                have h := hB24
                refine lv_if_ge (tgt := 99) hx hb dX3_add_91 (by decide) (fun c21 => ?_) (fun c21 => ?_)
                · have h := fl_ifp c21 h
                  refine lv_iload_n hx hb dX3_add_99 rfl (lv_at hl 3 rfl) ?_
                  obtain rfl := fl_s1 h
                  exact J23 H locs ls hg (lv_sub hl [0, 4] rfl)
                · have h := fl_ifn c21 h
                  refine lv_ldc hx hb hown k_7 dX3_add_94 ?_
                  refine lv_goto (tgt := 100) hx hb dX3_add_96 (by decide) ?_
                  obtain rfl := fl_s1 h
                  exact J23 H locs ls hg (lv_sub hl [0, 4] rfl)
              · have h := fl_ifp c14 h
                refine lv_ldc hx hb hown k_8 dX3_add_59 ?_
                exact hret _ _ _ _ _ _ h hg rfl dX3_add_61
            · have h := fl_ifp c13 h
              refine lv_ldc hx hb hown k_0 dX3_add_47 ?_
              exact hret _ _ _ _ _ _ h hg rfl dX3_add_49
  exact W0 _ _ hg
def f_X3_change (x1 : Int32) (x2 : Int32) (x3 : Int32) (σ : fl_St) : Option (Int32 × fl_St) := (f_X3_in x1 (0) ((σ 13 0) - (1)) σ).bind fun r2 => if r2 = 0 then (some ((0), σ)) else ((f_X3_in x2 (-1) (30) σ).bind fun r5 => if r5 = 0 then (some ((0), σ)) else ((f_X3_in x3 (-20) (20) σ).bind fun r8 => if r8 = 0 then (some ((0), σ)) else ((if 0 ≤ x2 then (some (x2)) else (some ((1000000)))).bind fun (t11 : Int32) => (fl_wr σ 2 36 x1 t11).bind fun σ14 => (fl_wr σ14 3 36 x1 x3).bind fun σ17 => some ((1), σ17))))
def rm_X3_change : Room := { frames := 1, cells := 0, slots := 0, locals := 22 }
set_option maxHeartbeats 4000000 in
set_option maxRecDepth 100000 in
theorem c_X3_change (l : Launch) (D : va_G) (ad : Nat → Nat) (cz : Nat → ClassId) (x1 : Int32) (x2 : Int32) (x3 : Int32) (σ : fl_St) {r : Int32} {σ' : fl_St} (h : f_X3_change x1 x2 x3 σ = some (r, σ')) : gMi l yX3_change wsX3_change rm_X3_change D (wm ad cz) (wmT cz) [] [.ref (ad 0), .int x1, .int x2, .int x3] σ r σ' := by
  refine gMi_of (cc := cX3_change) (maxL := 4) (by decide) rfl (Nat.le_of_ble_eq_true rfl) ?_
  intro p e s m args below meth c A Q ls hx hb hml hown hts hK hA hg hl hret
  have hown : s.vm.findClass RX3 = some m.cls := hown
  have hl : lv_has ls 4 [(0, .ref (ad 0)), (1, .int x1), (2, .int x2), (3, .int x3)] := hl
  have k_0 := hts (.fieldLink RX3 55 "FlowLedgerModel" "arcs" "I") (by decide +kernel)
  have k_1 := (by decide +kernel : ∀ w ∈ wsX30, w ∈ wsX3_change)
  have k_2 := hts (.fieldLink RX3 16 "FlowLedgerModel" "capacities" "[I") (by decide +kernel)
  have k_3 := hts (.fieldLink RX3 19 "FlowLedgerModel" "costs" "[I") (by decide +kernel)
  have k_4 := hts (.constant RX3 60 (1000000)) (by decide +kernel)
  unfold f_X3_change at h
  have W0 : ∀ (H : Heap) (locs : List Loc), gS D (wm ad cz) A s.heap σ H locs → W p l e rm_X3_change s m args below meth c H locs 0 0 Q (F0 m 0 ls []) := by
    intro H locs hg
    refine lv_iload_n hx hb dX3_change_0 rfl (lv_at hl 1 rfl) ?_
    refine lv_iconst (v := (0)) hx hb dX3_change_1 (by decide) ?_
    refine lv_aload_n hx hb dX3_change_2 rfl (lv_at hl 0 rfl) ?_
    refine va_get (D := D) (ci := 3) (v := .int (σ 13 0)) (C := RX3) (T := TX3) (N := 16) hx hb hts k_1 hown hK.1 hg.1 0 rfl rfl 0 (by decide) k_0 (fun _ h9 => h9) rfl dX3_change_3 ?_
    refine lv_iconst (v := (1)) hx hb dX3_change_6 (by decide) ?_
    refine lv_isub hx hb dX3_change_7 ?_
    obtain ⟨r2, e1, h⟩ := fl_bnd h
    refine g_callSi (As := [.int x1, .int (0), .int ((σ 13 0) - (1))]) (rest := []) ⟨hx, hb, hml, hown, hts⟩ (c_X3_in l D ad cz (x1) ((0)) (((σ 13 0) - (1))) (σ) e1) (cwS 3 hts gX3_change_X3_in rfl rfl rfl (by decide +kernel) ⟨Nat.le_of_ble_eq_true rfl, Nat.le_of_ble_eq_true rfl⟩) hK hA hg rfl hl.1 rfl (Nat.le_of_ble_eq_true rfl) dX3_change_8 ⟨Nat.le_of_ble_eq_true rfl, Nat.le_of_ble_eq_true rfl⟩ (fun H locs hg => ?_)
    refine lv_if_eq (tgt := 35) hx hb dX3_change_11 (by decide) (fun c3 => ?_) (fun c3 => ?_)
    · have h := fl_ifp c3 h
      refine lv_iconst (v := (0)) hx hb dX3_change_35 (by decide) ?_
      exact hret _ _ _ _ _ _ h hg rfl dX3_change_36
    · have h := fl_ifn c3 h
      refine lv_iload_n hx hb dX3_change_14 rfl (lv_at hl 2 rfl) ?_
      refine lv_iconst (v := (-1)) hx hb dX3_change_15 (by decide) ?_
      refine lv_bipush (v := (30)) hx hb dX3_change_16 (by decide) ?_
      obtain ⟨r5, e4, h⟩ := fl_bnd h
      refine g_callSi (As := [.int x2, .int (-1), .int (30)]) (rest := []) ⟨hx, hb, hml, hown, hts⟩ (c_X3_in l D ad cz (x2) ((-1)) ((30)) (σ) e4) (cwS 3 hts gX3_change_X3_in rfl rfl rfl (by decide +kernel) ⟨Nat.le_of_ble_eq_true rfl, Nat.le_of_ble_eq_true rfl⟩) hK hA hg rfl hl.1 rfl (Nat.le_of_ble_eq_true rfl) dX3_change_18 ⟨Nat.le_of_ble_eq_true rfl, Nat.le_of_ble_eq_true rfl⟩ (fun H locs hg => ?_)
      refine lv_if_eq (tgt := 35) hx hb dX3_change_21 (by decide) (fun c6 => ?_) (fun c6 => ?_)
      · have h := fl_ifp c6 h
        refine lv_iconst (v := (0)) hx hb dX3_change_35 (by decide) ?_
        exact hret _ _ _ _ _ _ h hg rfl dX3_change_36
      · have h := fl_ifn c6 h
        refine lv_iload_n hx hb dX3_change_24 rfl (lv_at hl 3 rfl) ?_
        refine lv_bipush (v := (-20)) hx hb dX3_change_25 (by decide) ?_
        refine lv_bipush (v := (20)) hx hb dX3_change_27 (by decide) ?_
        obtain ⟨r8, e7, h⟩ := fl_bnd h
        refine g_callSi (As := [.int x3, .int (-20), .int (20)]) (rest := []) ⟨hx, hb, hml, hown, hts⟩ (c_X3_in l D ad cz (x3) ((-20)) ((20)) (σ) e7) (cwS 3 hts gX3_change_X3_in rfl rfl rfl (by decide +kernel) ⟨Nat.le_of_ble_eq_true rfl, Nat.le_of_ble_eq_true rfl⟩) hK hA hg rfl hl.1 rfl (Nat.le_of_ble_eq_true rfl) dX3_change_29 ⟨Nat.le_of_ble_eq_true rfl, Nat.le_of_ble_eq_true rfl⟩ (fun H locs hg => ?_)
        refine lv_if_ne (tgt := 37) hx hb dX3_change_32 (by decide) (fun c9 => ?_) (fun c9 => ?_)
        · have h := fl_ifn c9 h
          refine lv_aload_n hx hb dX3_change_37 rfl (lv_at hl 0 rfl) ?_
          refine va_get (D := D) (ci := 3) (v := .ref (ad 3)) (C := RX3) (T := TX3) (N := 16) hx hb hts k_1 hown hK.1 hg.1 0 rfl rfl 3 (by decide) k_2 (fun _ h9 => h9) rfl dX3_change_38 ?_
          refine lv_iload_n hx hb dX3_change_41 rfl (lv_at hl 1 rfl) ?_
          refine lv_iload_n hx hb dX3_change_42 rfl (lv_at hl 2 rfl) ?_
          obtain ⟨t11, hB13, h⟩ := fl_bnd h
          have J12 : ∀ (H : Heap) (locs : List Loc) (ls : Array Slot), gS D (wm ad cz) A s.heap σ H locs → lv_has ls 4 [(0, .ref (ad 0)), (1, .int x1), (3, .int x3)] → W p l e rm_X3_change s m args below meth c H locs 0 0 Q (F0 m 52 ls [.int t11, .int x1, .ref (ad 3)]) := by
            intro H locs ls hg hl
            obtain ⟨σ14, i15, e16, h⟩ := fl_wr_b h
            refine g_st (n := 36) (t0 := 2) hx hb hK hg (wm_a2 ad cz _) (wm_s2 ad cz _) rfl i15 e16 dX3_change_52 (fun H locs hg => ?_)
            refine lv_aload_n hx hb dX3_change_53 rfl (lv_at hl 0 rfl) ?_
            refine va_get (D := D) (ci := 3) (v := .ref (ad 4)) (C := RX3) (T := TX3) (N := 16) hx hb hts k_1 hown hK.1 hg.1 0 rfl rfl 4 (by decide) k_3 (fun _ h9 => h9) rfl dX3_change_54 ?_
            refine lv_iload_n hx hb dX3_change_57 rfl (lv_at hl 1 rfl) ?_
            refine lv_iload_n hx hb dX3_change_58 rfl (lv_at hl 2 rfl) ?_
            obtain ⟨σ17, i18, e19, h⟩ := fl_wr_b h
            refine g_st (n := 36) (t0 := 3) hx hb hK hg (wm_a3 ad cz _) (wm_s3 ad cz _) rfl i18 e19 dX3_change_59 (fun H locs hg => ?_)
            refine lv_iconst (v := (1)) hx hb dX3_change_60 (by decide) ?_
            exact hret _ _ _ _ _ _ h hg rfl dX3_change_61
          clear h
          have h := hB13
          refine lv_if_ge (tgt := 51) hx hb dX3_change_43 (by decide) (fun c10 => ?_) (fun c10 => ?_)
          · have h := fl_ifp c10 h
            refine lv_iload_n hx hb dX3_change_51 rfl (lv_at hl 2 rfl) ?_
            obtain rfl := fl_s1 h
            exact J12 H locs ls hg (lv_sub hl [0, 1, 3] rfl)
          · have h := fl_ifn c10 h
            refine lv_ldc hx hb hown k_4 dX3_change_46 ?_
            refine lv_goto (tgt := 52) hx hb dX3_change_48 (by decide) ?_
            obtain rfl := fl_s1 h
            exact J12 H locs ls hg (lv_sub hl [0, 1, 3] rfl)
        · have h := fl_ifp c9 h
          refine lv_iconst (v := (0)) hx hb dX3_change_35 (by decide) ?_
          exact hret _ _ _ _ _ _ h hg rfl dX3_change_36
  exact W0 _ _ hg
def f_X3_supply (x1 : Int32) (x2 : Int32) (σ : fl_St) : Option (Int32 × fl_St) := (f_X3_in x1 (0) (7) σ).bind fun r2 => if r2 = 0 then (some ((0), σ)) else ((f_X3_in x2 (-30) (30) σ).bind fun r5 => if r5 = 0 then (some ((0), σ)) else ((fl_wr σ 4 8 x1 x2).bind fun σ7 => some ((1), σ7)))
def rm_X3_supply : Room := { frames := 1, cells := 0, slots := 0, locals := 22 }
set_option maxHeartbeats 4000000 in
set_option maxRecDepth 100000 in
theorem c_X3_supply (l : Launch) (D : va_G) (ad : Nat → Nat) (cz : Nat → ClassId) (x1 : Int32) (x2 : Int32) (σ : fl_St) {r : Int32} {σ' : fl_St} (h : f_X3_supply x1 x2 σ = some (r, σ')) : gMi l yX3_supply wsX3_supply rm_X3_supply D (wm ad cz) (wmT cz) [] [.ref (ad 0), .int x1, .int x2] σ r σ' := by
  refine gMi_of (cc := cX3_supply) (maxL := 3) (by decide) rfl (Nat.le_of_ble_eq_true rfl) ?_
  intro p e s m args below meth c A Q ls hx hb hml hown hts hK hA hg hl hret
  have hown : s.vm.findClass RX3 = some m.cls := hown
  have hl : lv_has ls 3 [(0, .ref (ad 0)), (1, .int x1), (2, .int x2)] := hl
  have k_0 := hts (.fieldLink RX3 22 "FlowLedgerModel" "supplies" "[I") (by decide +kernel)
  have k_1 := (by decide +kernel : ∀ w ∈ wsX30, w ∈ wsX3_supply)
  unfold f_X3_supply at h
  have W0 : ∀ (H : Heap) (locs : List Loc), gS D (wm ad cz) A s.heap σ H locs → W p l e rm_X3_supply s m args below meth c H locs 0 0 Q (F0 m 0 ls []) := by
    intro H locs hg
    refine lv_iload_n hx hb dX3_supply_0 rfl (lv_at hl 1 rfl) ?_
    refine lv_iconst (v := (0)) hx hb dX3_supply_1 (by decide) ?_
    refine lv_bipush (v := (7)) hx hb dX3_supply_2 (by decide) ?_
    obtain ⟨r2, e1, h⟩ := fl_bnd h
    refine g_callSi (As := [.int x1, .int (0), .int (7)]) (rest := []) ⟨hx, hb, hml, hown, hts⟩ (c_X3_in l D ad cz (x1) ((0)) ((7)) (σ) e1) (cwS 3 hts gX3_supply_X3_in rfl rfl rfl (by decide +kernel) ⟨Nat.le_of_ble_eq_true rfl, Nat.le_of_ble_eq_true rfl⟩) hK hA hg rfl hl.1 rfl (Nat.le_of_ble_eq_true rfl) dX3_supply_4 ⟨Nat.le_of_ble_eq_true rfl, Nat.le_of_ble_eq_true rfl⟩ (fun H locs hg => ?_)
    refine lv_if_eq (tgt := 21) hx hb dX3_supply_7 (by decide) (fun c3 => ?_) (fun c3 => ?_)
    · have h := fl_ifp c3 h
      refine lv_iconst (v := (0)) hx hb dX3_supply_21 (by decide) ?_
      exact hret _ _ _ _ _ _ h hg rfl dX3_supply_22
    · have h := fl_ifn c3 h
      refine lv_iload_n hx hb dX3_supply_10 rfl (lv_at hl 2 rfl) ?_
      refine lv_bipush (v := (-30)) hx hb dX3_supply_11 (by decide) ?_
      refine lv_bipush (v := (30)) hx hb dX3_supply_13 (by decide) ?_
      obtain ⟨r5, e4, h⟩ := fl_bnd h
      refine g_callSi (As := [.int x2, .int (-30), .int (30)]) (rest := []) ⟨hx, hb, hml, hown, hts⟩ (c_X3_in l D ad cz (x2) ((-30)) ((30)) (σ) e4) (cwS 3 hts gX3_supply_X3_in rfl rfl rfl (by decide +kernel) ⟨Nat.le_of_ble_eq_true rfl, Nat.le_of_ble_eq_true rfl⟩) hK hA hg rfl hl.1 rfl (Nat.le_of_ble_eq_true rfl) dX3_supply_15 ⟨Nat.le_of_ble_eq_true rfl, Nat.le_of_ble_eq_true rfl⟩ (fun H locs hg => ?_)
      refine lv_if_ne (tgt := 23) hx hb dX3_supply_18 (by decide) (fun c6 => ?_) (fun c6 => ?_)
      · have h := fl_ifn c6 h
        refine lv_aload_n hx hb dX3_supply_23 rfl (lv_at hl 0 rfl) ?_
        refine va_get (D := D) (ci := 3) (v := .ref (ad 5)) (C := RX3) (T := TX3) (N := 16) hx hb hts k_1 hown hK.1 hg.1 0 rfl rfl 5 (by decide) k_0 (fun _ h9 => h9) rfl dX3_supply_24 ?_
        refine lv_iload_n hx hb dX3_supply_27 rfl (lv_at hl 1 rfl) ?_
        refine lv_iload_n hx hb dX3_supply_28 rfl (lv_at hl 2 rfl) ?_
        obtain ⟨σ7, i8, e9, h⟩ := fl_wr_b h
        refine g_st (n := 8) (t0 := 4) hx hb hK hg (wm_a4 ad cz _) (wm_s4 ad cz _) rfl i8 e9 dX3_supply_29 (fun H locs hg => ?_)
        refine lv_iconst (v := (1)) hx hb dX3_supply_30 (by decide) ?_
        exact hret _ _ _ _ _ _ h hg rfl dX3_supply_31
      · have h := fl_ifp c6 h
        refine lv_iconst (v := (0)) hx hb dX3_supply_21 (by decide) ?_
        exact hret _ _ _ _ _ _ h hg rfl dX3_supply_22
  exact W0 _ _ hg
def f_X3_clear_l7 : Nat → Int32 → fl_St → Option (fl_St)
  | 0, _, _ => none
  | n + 1, x1, σ => if (8) ≤ x1 then (some (σ)) else ((fl_wr σ 4 8 x1 (0)).bind fun σ4 => f_X3_clear_l7 n (x1 + 1) σ4)
def f_X3_clear (σ : fl_St) : Option (fl_St) := (some (st σ 13 0 (0))).bind fun σ1 => (f_X3_clear_l7 fl_N (0) σ1).bind fun (σ7 : fl_St) => some σ7
def rm_X3_clear : Room := { frames := 0, cells := 0, slots := 0, locals := 0 }
set_option maxHeartbeats 4000000 in
set_option maxRecDepth 100000 in
theorem c_X3_clear (l : Launch) (D : va_G) (ad : Nat → Nat) (cz : Nat → ClassId) (σ : fl_St) {σ' : fl_St} (h : f_X3_clear σ = some σ') : gMv l yX3_clear wsX3_clear rm_X3_clear D (wm ad cz) (wmT cz) [] [.ref (ad 0)] σ σ' := by
  refine gMv_of (cc := cX3_clear) (maxL := 2) (by decide) rfl (Nat.le_of_ble_eq_true rfl) ?_
  intro p e s m args below meth c A Q ls hx hb hml hown hts hK hA hg hl hret
  have hown : s.vm.findClass RX3 = some m.cls := hown
  have hl : lv_has ls 2 [(0, .ref (ad 0))] := hl
  have k_0 := hts (.fieldLink RX3 55 "FlowLedgerModel" "arcs" "I") (by decide +kernel)
  have k_1 := (by decide +kernel : ∀ w ∈ wsX30, w ∈ wsX3_clear)
  have k_2 := hts (.fieldLink RX3 22 "FlowLedgerModel" "supplies" "[I") (by decide +kernel)
  have L7 : ∀ (n : Nat) (x1 : Int32) (σ : fl_St) (σo : fl_St) (H : Heap) (locs : List Loc) (ls : Array Slot), f_X3_clear_l7 n x1 σ = some (σo) → gS D (wm ad cz) A s.heap σ H locs → lv_has ls 2 [(0, .ref (ad 0)), (1, .int x1)] → (∀ (H : Heap) (locs : List Loc) (ls : Array Slot), gS D (wm ad cz) A s.heap σo H locs → lv_has ls 2 [] → W p l e rm_X3_clear s m args below meth c H locs 0 0 Q (F0 m 26 ls [])) → W p l e rm_X3_clear s m args below meth c H locs 0 0 Q (F0 m 7 ls []) := by
    intro n
    induction n with
    | zero =>
      intro x1 σ σo H locs ls h hg hl kk0
      rw [f_X3_clear_l7] at h
      cases h
    | succ n ih =>
      intro x1 σ σo H locs ls h hg hl kk0
      rw [f_X3_clear_l7] at h
      refine lv_iload_n hx hb dX3_clear_7 rfl (lv_at hl 1 rfl) ?_
      refine lv_bipush (v := (8)) hx hb dX3_clear_8 (by decide) ?_
      refine lv_icmp_ge (tgt := 26) hx hb dX3_clear_10 (by decide) (fun c3 => ?_) (fun c3 => ?_)
      · have h := fl_ifp c3 h
        obtain rfl := fl_s1 h
        exact kk0 H locs ls hg (lv_sub hl [] rfl)
      · have h := fl_ifn c3 h
        refine lv_aload_n hx hb dX3_clear_13 rfl (lv_at hl 0 rfl) ?_
        refine va_get (D := D) (ci := 3) (v := .ref (ad 5)) (C := RX3) (T := TX3) (N := 16) hx hb hts k_1 hown hK.1 hg.1 0 rfl rfl 5 (by decide) k_2 (fun _ h9 => h9) rfl dX3_clear_14 ?_
        refine lv_iload_n hx hb dX3_clear_17 rfl (lv_at hl 1 rfl) ?_
        refine lv_iconst (v := (0)) hx hb dX3_clear_18 (by decide) ?_
        obtain ⟨σ4, i5, e6, h⟩ := fl_wr_b h
        refine g_st (n := 8) (t0 := 4) hx hb hK hg (wm_a4 ad cz _) (wm_s4 ad cz _) rfl i5 e6 dX3_clear_19 (fun H locs hg => ?_)
        refine lv_iinc (v := (x1 + 1)) (lv' := [(1, .int (x1 + 1)), (0, .ref (ad 0))]) hx hb dX3_clear_20 hl (k := 1) rfl rfl (by decide) rfl (fun ls hl => ?_)
        refine lv_goto (tgt := 7) hx hb dX3_clear_23 (by decide) ?_
        exact ih _ _ _ _ _ _ h hg (lv_sub hl [1, 0] rfl) kk0
  unfold f_X3_clear at h
  have W0 : ∀ (H : Heap) (locs : List Loc), gS D (wm ad cz) A s.heap σ H locs → W p l e rm_X3_clear s m args below meth c H locs 0 0 Q (F0 m 0 ls []) := by
    intro H locs hg
    refine lv_aload_n hx hb dX3_clear_0 rfl (lv_at hl 0 rfl) ?_
    refine lv_iconst (v := (0)) hx hb dX3_clear_1 (by decide) ?_
    obtain ⟨σ1, e2, h⟩ := fl_bnd h
    have e2 := fl_s1 e2
    refine g_put (σ' := σ1) (ci := 3) (C := RX3) (T := TX3) (N := 16) (z := (0)) hx hb hts k_1 tyX3 tyX3_ok nmX3 hown hK hg 0 rfl rfl 0 (by decide) k_0 (fun _ h9 => h9) rfl (by decide +kernel) (Nat.le_of_ble_eq_true rfl) (by rw [← e2]; exact wm_c0 ad cz _ _) dX3_clear_2 (fun H locs hg => ?_)
    refine lv_iconst (v := (0)) hx hb dX3_clear_5 (by decide) ?_
    refine lv_istore_n (lv' := [(1, .int (0)), (0, .ref (ad 0))]) hx hb dX3_clear_6 rfl hl (by decide) rfl (fun ls hl => ?_)
    obtain ⟨σ7, hB8, h⟩ := fl_bnd h
    refine L7 fl_N _ _ _ H locs ls hB8 hg (lv_sub hl [1, 0] rfl) (fun H locs ls hg hl => ?_)
    exact hret _ _ _ _ _ h hg dX3_clear_26
  exact W0 _ _ hg
def f_X3_arcs (σ : fl_St) : Option (Int32) := some (σ 13 0)
def rm_X3_arcs : Room := { frames := 0, cells := 0, slots := 0, locals := 0 }
set_option maxHeartbeats 4000000 in
set_option maxRecDepth 100000 in
theorem c_X3_arcs (l : Launch) (D : va_G) (ad : Nat → Nat) (cz : Nat → ClassId) (σ : fl_St) {r : Int32} (h : f_X3_arcs σ = some r) : gMi l yX3_arcs wsX3_arcs rm_X3_arcs D (wm ad cz) (wmT cz) [] [.ref (ad 0)] σ r σ := by
  refine gMi_of (cc := cX3_arcs) (maxL := 1) (by decide) rfl (Nat.le_of_ble_eq_true rfl) ?_
  intro p e s m args below meth c A Q ls hx hb hml hown hts hK hA hg hl hret
  have hown : s.vm.findClass RX3 = some m.cls := hown
  have hl : lv_has ls 1 [(0, .ref (ad 0))] := hl
  have k_0 := hts (.fieldLink RX3 55 "FlowLedgerModel" "arcs" "I") (by decide +kernel)
  have k_1 := (by decide +kernel : ∀ w ∈ wsX30, w ∈ wsX3_arcs)
  unfold f_X3_arcs at h
  have W0 : ∀ (H : Heap) (locs : List Loc), gS D (wm ad cz) A s.heap σ H locs → W p l e rm_X3_arcs s m args below meth c H locs 0 0 Q (F0 m 0 ls []) := by
    intro H locs hg
    refine lv_aload_n hx hb dX3_arcs_0 rfl (lv_at hl 0 rfl) ?_
    refine va_get (D := D) (ci := 3) (v := .int (σ 13 0)) (C := RX3) (T := TX3) (N := 16) hx hb hts k_1 hown hK.1 hg.1 0 rfl rfl 0 (by decide) k_0 (fun _ h9 => h9) rfl dX3_arcs_1 ?_
    exact hret _ _ _ _ _ _ (congrArg (Option.map (fun q => (q, σ))) h) hg rfl dX3_arcs_4
  exact W0 _ _ hg
def f_X3_lead (x1 : Int32) (x2 : Int32) (x3 : Int32) (σ : fl_St) : Option (fl_St) := (fl_wr σ 0 36 (σ 13 1) x1).bind fun σ1 => (fl_wr σ1 1 36 (σ1 13 1) x2).bind fun σ4 => (fl_wr σ4 2 36 (σ4 13 1) x3).bind fun σ7 => (fl_wr σ7 3 36 (σ7 13 1) (0)).bind fun σ10 => (some (st σ10 13 1 ((σ10 13 1) + (1)))).bind fun σ13 => some σ13
def rm_X3_lead : Room := { frames := 0, cells := 0, slots := 0, locals := 0 }
set_option maxHeartbeats 4000000 in
set_option maxRecDepth 100000 in
theorem c_X3_lead (l : Launch) (D : va_G) (ad : Nat → Nat) (cz : Nat → ClassId) (x1 : Int32) (x2 : Int32) (x3 : Int32) (σ : fl_St) {σ' : fl_St} (h : f_X3_lead x1 x2 x3 σ = some σ') : gMv l yX3_lead wsX3_lead rm_X3_lead D (wm ad cz) (wmT cz) [] [.ref (ad 0), .int x1, .int x2, .int x3] σ σ' := by
  refine gMv_of (cc := cX3_lead) (maxL := 4) (by decide) rfl (Nat.le_of_ble_eq_true rfl) ?_
  intro p e s m args below meth c A Q ls hx hb hml hown hts hK hA hg hl hret
  have hown : s.vm.findClass RX3 = some m.cls := hown
  have hl : lv_has ls 4 [(0, .ref (ad 0)), (1, .int x1), (2, .int x2), (3, .int x3)] := hl
  have k_0 := hts (.fieldLink RX3 7 "FlowLedgerModel" "froms" "[I") (by decide +kernel)
  have k_1 := (by decide +kernel : ∀ w ∈ wsX30, w ∈ wsX3_lead)
  have k_2 := hts (.fieldLink RX3 61 "FlowLedgerModel" "all" "I") (by decide +kernel)
  have k_3 := hts (.fieldLink RX3 13 "FlowLedgerModel" "tos" "[I") (by decide +kernel)
  have k_4 := hts (.fieldLink RX3 16 "FlowLedgerModel" "capacities" "[I") (by decide +kernel)
  have k_5 := hts (.fieldLink RX3 19 "FlowLedgerModel" "costs" "[I") (by decide +kernel)
  unfold f_X3_lead at h
  have W0 : ∀ (H : Heap) (locs : List Loc), gS D (wm ad cz) A s.heap σ H locs → W p l e rm_X3_lead s m args below meth c H locs 0 0 Q (F0 m 0 ls []) := by
    intro H locs hg
    refine lv_aload_n hx hb dX3_lead_0 rfl (lv_at hl 0 rfl) ?_
    refine va_get (D := D) (ci := 3) (v := .ref (ad 1)) (C := RX3) (T := TX3) (N := 16) hx hb hts k_1 hown hK.1 hg.1 0 rfl rfl 1 (by decide) k_0 (fun _ h9 => h9) rfl dX3_lead_1 ?_
    refine lv_aload_n hx hb dX3_lead_4 rfl (lv_at hl 0 rfl) ?_
    refine va_get (D := D) (ci := 3) (v := .int (σ 13 1)) (C := RX3) (T := TX3) (N := 16) hx hb hts k_1 hown hK.1 hg.1 0 rfl rfl 8 (by decide) k_2 (fun _ h9 => h9) rfl dX3_lead_5 ?_
    refine lv_iload_n hx hb dX3_lead_8 rfl (lv_at hl 1 rfl) ?_
    obtain ⟨σ1, i2, e3, h⟩ := fl_wr_b h
    refine g_st (n := 36) (t0 := 0) hx hb hK hg (wm_a0 ad cz _) (wm_s0 ad cz _) rfl i2 e3 dX3_lead_9 (fun H locs hg => ?_)
    refine lv_aload_n hx hb dX3_lead_10 rfl (lv_at hl 0 rfl) ?_
    refine va_get (D := D) (ci := 3) (v := .ref (ad 2)) (C := RX3) (T := TX3) (N := 16) hx hb hts k_1 hown hK.1 hg.1 0 rfl rfl 2 (by decide) k_3 (fun _ h9 => h9) rfl dX3_lead_11 ?_
    refine lv_aload_n hx hb dX3_lead_14 rfl (lv_at hl 0 rfl) ?_
    refine va_get (D := D) (ci := 3) (v := .int (σ1 13 1)) (C := RX3) (T := TX3) (N := 16) hx hb hts k_1 hown hK.1 hg.1 0 rfl rfl 8 (by decide) k_2 (fun _ h9 => h9) rfl dX3_lead_15 ?_
    refine lv_iload_n hx hb dX3_lead_18 rfl (lv_at hl 2 rfl) ?_
    obtain ⟨σ4, i5, e6, h⟩ := fl_wr_b h
    refine g_st (n := 36) (t0 := 1) hx hb hK hg (wm_a1 ad cz _) (wm_s1 ad cz _) rfl i5 e6 dX3_lead_19 (fun H locs hg => ?_)
    refine lv_aload_n hx hb dX3_lead_20 rfl (lv_at hl 0 rfl) ?_
    refine va_get (D := D) (ci := 3) (v := .ref (ad 3)) (C := RX3) (T := TX3) (N := 16) hx hb hts k_1 hown hK.1 hg.1 0 rfl rfl 3 (by decide) k_4 (fun _ h9 => h9) rfl dX3_lead_21 ?_
    refine lv_aload_n hx hb dX3_lead_24 rfl (lv_at hl 0 rfl) ?_
    refine va_get (D := D) (ci := 3) (v := .int (σ4 13 1)) (C := RX3) (T := TX3) (N := 16) hx hb hts k_1 hown hK.1 hg.1 0 rfl rfl 8 (by decide) k_2 (fun _ h9 => h9) rfl dX3_lead_25 ?_
    refine lv_iload_n hx hb dX3_lead_28 rfl (lv_at hl 3 rfl) ?_
    obtain ⟨σ7, i8, e9, h⟩ := fl_wr_b h
    refine g_st (n := 36) (t0 := 2) hx hb hK hg (wm_a2 ad cz _) (wm_s2 ad cz _) rfl i8 e9 dX3_lead_29 (fun H locs hg => ?_)
    refine lv_aload_n hx hb dX3_lead_30 rfl (lv_at hl 0 rfl) ?_
    refine va_get (D := D) (ci := 3) (v := .ref (ad 4)) (C := RX3) (T := TX3) (N := 16) hx hb hts k_1 hown hK.1 hg.1 0 rfl rfl 4 (by decide) k_5 (fun _ h9 => h9) rfl dX3_lead_31 ?_
    refine lv_aload_n hx hb dX3_lead_34 rfl (lv_at hl 0 rfl) ?_
    refine va_get (D := D) (ci := 3) (v := .int (σ7 13 1)) (C := RX3) (T := TX3) (N := 16) hx hb hts k_1 hown hK.1 hg.1 0 rfl rfl 8 (by decide) k_2 (fun _ h9 => h9) rfl dX3_lead_35 ?_
    refine lv_iconst (v := (0)) hx hb dX3_lead_38 (by decide) ?_
    obtain ⟨σ10, i11, e12, h⟩ := fl_wr_b h
    refine g_st (n := 36) (t0 := 3) hx hb hK hg (wm_a3 ad cz _) (wm_s3 ad cz _) rfl i11 e12 dX3_lead_39 (fun H locs hg => ?_)
    refine lv_aload_n hx hb dX3_lead_40 rfl (lv_at hl 0 rfl) ?_
    refine lv_dup hx hb dX3_lead_41 rfl ?_
    refine va_get (D := D) (ci := 3) (v := .int (σ10 13 1)) (C := RX3) (T := TX3) (N := 16) hx hb hts k_1 hown hK.1 hg.1 0 rfl rfl 8 (by decide) k_2 (fun _ h9 => h9) rfl dX3_lead_42 ?_
    refine lv_iconst (v := (1)) hx hb dX3_lead_45 (by decide) ?_
    refine lv_iadd hx hb dX3_lead_46 ?_
    obtain ⟨σ13, e14, h⟩ := fl_bnd h
    have e14 := fl_s1 e14
    refine g_put (σ' := σ13) (ci := 3) (C := RX3) (T := TX3) (N := 16) (z := ((σ10 13 1) + (1))) hx hb hts k_1 tyX3 tyX3_ok nmX3 hown hK hg 0 rfl rfl 8 (by decide) k_2 (fun _ h9 => h9) rfl (by decide +kernel) (Nat.le_of_ble_eq_true rfl) (by rw [← e14]; exact wm_c1 ad cz _ _) dX3_lead_47 (fun H locs hg => ?_)
    exact hret _ _ _ _ _ h hg dX3_lead_50
  exact W0 _ _ hg
def f_X3_leftFrom (fi : Nat) (x2 : Int32) (x3 : Int32) (σ : fl_St) : Option (Int32) := (fl_rd σ 10 36 x2).bind fun v1 => (if v1 = 0 then (some ((0))) else ((fl_rd σ 0 36 x2).bind fun v8 => if v8 = x3 then ((fl_rd σ 2 36 x2).bind fun v19 => (fl_rd σ fi 36 x2).bind fun v22 => some ((v19 - v22))) else ((fl_rd σ 1 36 x2).bind fun v12 => if v12 = x3 then ((fl_rd σ fi 36 x2).bind fun v16 => some (v16)) else (some ((0)))))).bind fun (t5 : Int32) => some t5
def rm_X3_leftFrom : Room := { frames := 0, cells := 0, slots := 0, locals := 0 }
set_option maxHeartbeats 4000000 in
set_option maxRecDepth 100000 in
theorem c_X3_leftFrom (l : Launch) (D : va_G) (ad : Nat → Nat) (cz : Nat → ClassId) {fi : Nat} (hfi : fi = 5 ∨ fi = 6) (x2 : Int32) (x3 : Int32) (σ : fl_St) {r : Int32} (h : f_X3_leftFrom fi x2 x3 σ = some r) : gMi l yX3_leftFrom wsX3_leftFrom rm_X3_leftFrom D (wm ad cz) (wmT cz) [] [.ref (ad 0), .ref (ad (fi + 1)), .int x2, .int x3] σ r σ := by
  refine gMi_of (cc := cX3_leftFrom) (maxL := 4) (by decide) rfl (Nat.le_of_ble_eq_true rfl) ?_
  intro p e s m args below meth c A Q ls hx hb hml hown hts hK hA hg hl hret
  have hown : s.vm.findClass RX3 = some m.cls := hown
  have hl : lv_has ls 4 [(0, .ref (ad 0)), (1, .ref (ad (fi + 1))), (2, .int x2), (3, .int x3)] := hl
  have k_0 := hts (.fieldLink RX3 41 "FlowLedgerModel" "allowed" "[Z") (by decide +kernel)
  have k_1 := (by decide +kernel : ∀ w ∈ wsX30, w ∈ wsX3_leftFrom)
  have k_2 := hts (.fieldLink RX3 7 "FlowLedgerModel" "froms" "[I") (by decide +kernel)
  have k_3 := hts (.fieldLink RX3 13 "FlowLedgerModel" "tos" "[I") (by decide +kernel)
  have k_4 := hts (.fieldLink RX3 16 "FlowLedgerModel" "capacities" "[I") (by decide +kernel)
  unfold f_X3_leftFrom at h
  have W0 : ∀ (H : Heap) (locs : List Loc), gS D (wm ad cz) A s.heap σ H locs → W p l e rm_X3_leftFrom s m args below meth c H locs 0 0 Q (F0 m 0 ls []) := by
    intro H locs hg
    refine lv_aload_n hx hb dX3_leftFrom_0 rfl (lv_at hl 0 rfl) ?_
    refine va_get (D := D) (ci := 3) (v := .ref (ad 11)) (C := RX3) (T := TX3) (N := 16) hx hb hts k_1 hown hK.1 hg.1 0 rfl rfl 12 (by decide) k_0 (fun _ h9 => h9) rfl dX3_leftFrom_1 ?_
    refine lv_iload_n hx hb dX3_leftFrom_4 rfl (lv_at hl 2 rfl) ?_
    obtain ⟨v1, i2, e3, h⟩ := fl_rd_b h
    refine g_ldz (n := 36) (t0 := 10) hx hb hK hg (wm_a10 ad cz _) rfl i2 e3 dX3_leftFrom_5 ?_
    obtain ⟨t5, hB7, h⟩ := fl_bnd h
    have J6 : ∀ (H : Heap) (locs : List Loc) (ls : Array Slot), gS D (wm ad cz) A s.heap σ H locs → lv_has ls 4 [] → W p l e rm_X3_leftFrom s m args below meth c H locs 0 0 Q (F0 m 53 ls [.int t5]) := by
      intro H locs ls hg hl
      exact hret _ _ _ _ _ _ (congrArg (Option.map (fun q => (q, σ))) h) hg rfl dX3_leftFrom_53
    clear h
    have h := hB7
    refine lv_if_ne (tgt := 13) hx hb dX3_leftFrom_6 (by decide) (fun c4 => ?_) (fun c4 => ?_)
    · have h := fl_ifn c4 h
      refine lv_aload_n hx hb dX3_leftFrom_13 rfl (lv_at hl 0 rfl) ?_
      refine va_get (D := D) (ci := 3) (v := .ref (ad 1)) (C := RX3) (T := TX3) (N := 16) hx hb hts k_1 hown hK.1 hg.1 0 rfl rfl 1 (by decide) k_2 (fun _ h9 => h9) rfl dX3_leftFrom_14 ?_
      refine lv_iload_n hx hb dX3_leftFrom_17 rfl (lv_at hl 2 rfl) ?_
      obtain ⟨v8, i9, e10, h⟩ := fl_rd_b h
      refine g_ld (n := 36) (t0 := 0) hx hb hK hg (wm_a0 ad cz _) rfl i9 e10 dX3_leftFrom_18 ?_
      refine lv_iload_n hx hb dX3_leftFrom_19 rfl (lv_at hl 3 rfl) ?_
      refine lv_icmp_ne (tgt := 36) hx hb dX3_leftFrom_20 (by decide) (fun c11 => ?_) (fun c11 => ?_)
      · have h := fl_ifn c11 h
        refine lv_aload_n hx hb dX3_leftFrom_36 rfl (lv_at hl 0 rfl) ?_
        refine va_get (D := D) (ci := 3) (v := .ref (ad 2)) (C := RX3) (T := TX3) (N := 16) hx hb hts k_1 hown hK.1 hg.1 0 rfl rfl 2 (by decide) k_3 (fun _ h9 => h9) rfl dX3_leftFrom_37 ?_
        refine lv_iload_n hx hb dX3_leftFrom_40 rfl (lv_at hl 2 rfl) ?_
        obtain ⟨v12, i13, e14, h⟩ := fl_rd_b h
        refine g_ld (n := 36) (t0 := 1) hx hb hK hg (wm_a1 ad cz _) rfl i13 e14 dX3_leftFrom_41 ?_
        refine lv_iload_n hx hb dX3_leftFrom_42 rfl (lv_at hl 3 rfl) ?_
        refine lv_icmp_ne (tgt := 52) hx hb dX3_leftFrom_43 (by decide) (fun c15 => ?_) (fun c15 => ?_)
        · have h := fl_ifn c15 h
          refine lv_iconst (v := (0)) hx hb dX3_leftFrom_52 (by decide) ?_
          obtain rfl := fl_s1 h
          exact J6 H locs ls hg (lv_sub hl [] rfl)
        · have h := fl_ifp c15 h
          refine lv_aload_n hx hb dX3_leftFrom_46 rfl (lv_at hl 1 rfl) ?_
          refine lv_iload_n hx hb dX3_leftFrom_47 rfl (lv_at hl 2 rfl) ?_
          obtain ⟨v16, i17, e18, h⟩ := fl_rd_b h
          refine g_ld (n := 36) (t0 := fi) hx hb hK hg (wm_af hfi ad cz _) (wm_tf hfi cz) i17 e18 dX3_leftFrom_48 ?_
          refine lv_goto (tgt := 53) hx hb dX3_leftFrom_49 (by decide) ?_
          obtain rfl := fl_s1 h
          exact J6 H locs ls hg (lv_sub hl [] rfl)
      · have h := fl_ifp c11 h
        refine lv_aload_n hx hb dX3_leftFrom_23 rfl (lv_at hl 0 rfl) ?_
        refine va_get (D := D) (ci := 3) (v := .ref (ad 3)) (C := RX3) (T := TX3) (N := 16) hx hb hts k_1 hown hK.1 hg.1 0 rfl rfl 3 (by decide) k_4 (fun _ h9 => h9) rfl dX3_leftFrom_24 ?_
        refine lv_iload_n hx hb dX3_leftFrom_27 rfl (lv_at hl 2 rfl) ?_
        obtain ⟨v19, i20, e21, h⟩ := fl_rd_b h
        refine g_ld (n := 36) (t0 := 2) hx hb hK hg (wm_a2 ad cz _) rfl i20 e21 dX3_leftFrom_28 ?_
        refine lv_aload_n hx hb dX3_leftFrom_29 rfl (lv_at hl 1 rfl) ?_
        refine lv_iload_n hx hb dX3_leftFrom_30 rfl (lv_at hl 2 rfl) ?_
        obtain ⟨v22, i23, e24, h⟩ := fl_rd_b h
        refine g_ld (n := 36) (t0 := fi) hx hb hK hg (wm_af hfi ad cz _) (wm_tf hfi cz) i23 e24 dX3_leftFrom_31 ?_
        refine lv_isub hx hb dX3_leftFrom_32 ?_
        refine lv_goto (tgt := 53) hx hb dX3_leftFrom_33 (by decide) ?_
        obtain rfl := fl_s1 h
        exact J6 H locs ls hg (lv_sub hl [] rfl)
    · have h := fl_ifp c4 h
      refine lv_iconst (v := (0)) hx hb dX3_leftFrom_9 (by decide) ?_
      refine lv_goto (tgt := 53) hx hb dX3_leftFrom_10 (by decide) ?_
      obtain rfl := fl_s1 h
      exact J6 H locs ls hg (lv_sub hl [] rfl)
  exact W0 _ _ hg
def f_X3_isReached_l3 (fi : Nat) (x2 : Int32) (x3 : Int32) : Nat → Int32 → fl_St → Option (fl_St)
  | 0, _, _ => none
  | n + 1, x4, σ => if (10) ≤ x4 then (some (σ)) else ((if x4 = x2 then (some ((1))) else (some ((0)))).bind fun (t3 : Int32) => if ¬ (t3 = 0 ∨ t3 = 1) then none else (fl_wr σ 7 10 x4 t3).bind fun σ6 => f_X3_isReached_l3 fi x2 x3 n (x4 + 1) σ6)
def f_X3_isReached_l66 (fi : Nat) (x3 : Int32) (x5 : Int32) (x6 : Int32) : Nat → Int32 → Int32 → fl_St → Option (Int32 × fl_St)
  | 0, _, _, _ => none
  | n + 1, x4, x7, σ => if (σ 13 1) ≤ x7 then (some (x4, σ)) else ((fl_rd σ 0 36 x7).bind fun v20 => (if v20 = x6 then ((fl_rd σ 1 36 x7).bind fun v57 => some (v57)) else ((fl_rd σ 0 36 x7).bind fun v54 => some (v54))).bind fun (t24 : Int32) => (f_X3_leftFrom fi x7 x6 σ).bind fun r28 => fl_b2 (if r28 ≤ 0 then (some (x4, σ)) else ((fl_rd σ 7 10 t24).bind fun v34 => if v34 = 0 then ((fl_wr σ 7 10 t24 (1)).bind fun σ38 => (fl_rd σ38 0 36 x7).bind fun v41 => (if v41 = x6 then (some (x7)) else (some (((-1) - x7)))).bind fun (t45 : Int32) => (fl_wr σ38 11 10 t24 t45).bind fun σ48 => (fl_wr σ48 12 10 x4 t24).bind fun σ51 => some ((x4 + 1), σ51)) else (some (x4, σ)))) fun (w30 : Int32) (σ31 : fl_St) => f_X3_isReached_l66 fi x3 x5 x6 n w30 (x7 + 1) σ31)
def f_X3_isReached_l47 (fi : Nat) (x3 : Int32) : Nat → Int32 → Int32 → fl_St → Option (fl_St)
  | 0, _, _, _ => none
  | n + 1, x4, x5, σ => if x4 ≤ x5 then (some (σ)) else ((fl_rd σ 12 10 x5).bind fun v16 => fl_b2 (f_X3_isReached_l66 fi x3 x5 v16 fl_N x4 (0) σ) fun (w60 : Int32) (σ61 : fl_St) => f_X3_isReached_l47 fi x3 n w60 (x5 + 1) σ61)
def f_X3_isReached (fi : Nat) (x2 : Int32) (x3 : Int32) (σ : fl_St) : Option (Int32 × fl_St) := (f_X3_isReached_l3 fi x2 x3 fl_N (0) σ).bind fun (σ10 : fl_St) => (fl_wr σ10 12 10 (0) x2).bind fun σ12 => (f_X3_isReached_l47 fi x3 fl_N (1) (0) σ12).bind fun (σ63 : fl_St) => (fl_rd σ63 7 10 x3).bind fun v65 => if ¬ (v65 = 0 ∨ v65 = 1) then none else some (v65, σ63)
def rm_X3_isReached : Room := { frames := 1, cells := 0, slots := 0, locals := 23 }
set_option maxHeartbeats 4000000 in
set_option maxRecDepth 100000 in
theorem c_X3_isReached (l : Launch) (D : va_G) (ad : Nat → Nat) (cz : Nat → ClassId) {fi : Nat} (hfi : fi = 5 ∨ fi = 6) (x2 : Int32) (x3 : Int32) (σ : fl_St) {r : Int32} {σ' : fl_St} (h : f_X3_isReached fi x2 x3 σ = some (r, σ')) : gMi l yX3_isReached wsX3_isReached rm_X3_isReached D (wm ad cz) (wmT cz) [] [.ref (ad 0), .ref (ad (fi + 1)), .int x2, .int x3] σ r σ' := by
  refine gMi_of (cc := cX3_isReached) (maxL := 9) (by decide) rfl (Nat.le_of_ble_eq_true rfl) ?_
  intro p e s m args below meth c A Q ls hx hb hml hown hts hK hA hg hl hret
  have hown : s.vm.findClass RX3 = some m.cls := hown
  have hl : lv_has ls 9 [(0, .ref (ad 0)), (1, .ref (ad (fi + 1))), (2, .int x2), (3, .int x3)] := hl
  have k_0 := hts (.fieldLink RX3 31 "FlowLedgerModel" "seen" "[Z") (by decide +kernel)
  have k_1 := (by decide +kernel : ∀ w ∈ wsX30, w ∈ wsX3_isReached)
  have k_2 := hts (.fieldLink RX3 47 "FlowLedgerModel" "row" "[I") (by decide +kernel)
  have k_3 := hts (.fieldLink RX3 61 "FlowLedgerModel" "all" "I") (by decide +kernel)
  have k_4 := hts (.fieldLink RX3 7 "FlowLedgerModel" "froms" "[I") (by decide +kernel)
  have k_5 := hts (.fieldLink RX3 44 "FlowLedgerModel" "way" "[I") (by decide +kernel)
  have k_6 := hts (.fieldLink RX3 13 "FlowLedgerModel" "tos" "[I") (by decide +kernel)
  have L3 : ∀ (n : Nat) (x2 : Int32) (x3 : Int32) (x4 : Int32) (σ : fl_St) (σo : fl_St) (H : Heap) (locs : List Loc) (ls : Array Slot), f_X3_isReached_l3 fi x2 x3 n x4 σ = some (σo) → gS D (wm ad cz) A s.heap σ H locs → lv_has ls 9 [(0, .ref (ad 0)), (1, .ref (ad (fi + 1))), (2, .int x2), (3, .int x3), (4, .int x4)] → (∀ (H : Heap) (locs : List Loc) (ls : Array Slot), gS D (wm ad cz) A s.heap σo H locs → lv_has ls 9 [(0, .ref (ad 0)), (1, .ref (ad (fi + 1))), (2, .int x2), (3, .int x3)] → W p l e rm_X3_isReached s m args below meth c H locs 0 0 Q (F0 m 34 ls [])) → W p l e rm_X3_isReached s m args below meth c H locs 0 0 Q (F0 m 3 ls []) := by
    intro n
    induction n with
    | zero =>
      intro x2 x3 x4 σ σo H locs ls h hg hl kk0
      rw [f_X3_isReached_l3] at h
      cases h
    | succ n ih =>
      intro x2 x3 x4 σ σo H locs ls h hg hl kk0
      rw [f_X3_isReached_l3] at h
      refine lv_iload hx hb dX3_isReached_3 (lv_at hl 4 rfl) ?_
      refine lv_bipush (v := (10)) hx hb dX3_isReached_5 (by decide) ?_
      refine lv_icmp_ge (tgt := 34) hx hb dX3_isReached_7 (by decide) (fun c1 => ?_) (fun c1 => ?_)
      · have h := fl_ifp c1 h
        obtain rfl := fl_s1 h
        exact kk0 H locs ls hg (lv_sub hl [0, 1, 2, 3] rfl)
      · have h := fl_ifn c1 h
        refine lv_aload_n hx hb dX3_isReached_10 rfl (lv_at hl 0 rfl) ?_
        refine va_get (D := D) (ci := 3) (v := .ref (ad 8)) (C := RX3) (T := TX3) (N := 16) hx hb hts k_1 hown hK.1 hg.1 0 rfl rfl 9 (by decide) k_0 (fun _ h9 => h9) rfl dX3_isReached_11 ?_
        refine lv_iload hx hb dX3_isReached_14 (lv_at hl 4 rfl) ?_
        refine lv_iload hx hb dX3_isReached_16 (lv_at hl 4 rfl) ?_
        refine lv_iload_n hx hb dX3_isReached_18 rfl (lv_at hl 2 rfl) ?_
        obtain ⟨t3, hB5, h⟩ := fl_bnd h
        have J4 : ∀ (H : Heap) (locs : List Loc) (ls : Array Slot), gS D (wm ad cz) A s.heap σ H locs → lv_has ls 9 [(0, .ref (ad 0)), (1, .ref (ad (fi + 1))), (2, .int x2), (3, .int x3), (4, .int x4)] → W p l e rm_X3_isReached s m args below meth c H locs 0 0 Q (F0 m 27 ls [.int t3, .int x4, .ref (ad 8)]) := by
          intro H locs ls hg hl
          obtain ⟨z9, h⟩ := fl_bool h
          obtain ⟨σ6, i7, e8, h⟩ := fl_wr_b h
          refine g_stz (n := 10) (t0 := 7) hx hb hK hg (wm_a7 ad cz _) (wm_s7 ad cz _) rfl (fl_nar z9) i7 e8 dX3_isReached_27 (fun H locs hg => ?_)
          refine lv_iinc (v := (x4 + 1)) (lv' := [(4, .int (x4 + 1)), (0, .ref (ad 0)), (1, .ref (ad (fi + 1))), (2, .int x2), (3, .int x3)]) hx hb dX3_isReached_28 hl (k := 4) rfl rfl (by decide) rfl (fun ls hl => ?_)
          refine lv_goto (tgt := 3) hx hb dX3_isReached_31 (by decide) ?_
          exact ih _ _ _ _ _ _ _ _ h hg (lv_sub hl [1, 2, 3, 4, 0] rfl) kk0
        clear h
        have h := hB5
        refine lv_icmp_ne (tgt := 26) hx hb dX3_isReached_19 (by decide) (fun c2 => ?_) (fun c2 => ?_)
        · have h := fl_ifn c2 h
          refine lv_iconst (v := (0)) hx hb dX3_isReached_26 (by decide) ?_
          obtain rfl := fl_s1 h
          exact J4 H locs ls hg (lv_sub hl [0, 1, 2, 3, 4] rfl)
        · have h := fl_ifp c2 h
          refine lv_iconst (v := (1)) hx hb dX3_isReached_22 (by decide) ?_
          refine lv_goto (tgt := 27) hx hb dX3_isReached_23 (by decide) ?_
          obtain rfl := fl_s1 h
          exact J4 H locs ls hg (lv_sub hl [0, 1, 2, 3, 4] rfl)
  have L66 : ∀ (n : Nat) (x3 : Int32) (x5 : Int32) (x6 : Int32) (x4 : Int32) (x7 : Int32) (σ : fl_St) (o4 : Int32) (σo : fl_St) (H : Heap) (locs : List Loc) (ls : Array Slot), f_X3_isReached_l66 fi x3 x5 x6 n x4 x7 σ = some (o4, σo) → gS D (wm ad cz) A s.heap σ H locs → lv_has ls 9 [(0, .ref (ad 0)), (1, .ref (ad (fi + 1))), (3, .int x3), (4, .int x4), (5, .int x5), (6, .int x6), (7, .int x7)] → (∀ (H : Heap) (locs : List Loc) (ls : Array Slot), gS D (wm ad cz) A s.heap σo H locs → lv_has ls 9 [(0, .ref (ad 0)), (1, .ref (ad (fi + 1))), (3, .int x3), (4, .int o4), (5, .int x5)] → W p l e rm_X3_isReached s m args below meth c H locs 0 0 Q (F0 m 182 ls [])) → W p l e rm_X3_isReached s m args below meth c H locs 0 0 Q (F0 m 66 ls []) := by
    intro n
    induction n with
    | zero =>
      intro x3 x5 x6 x4 x7 σ o4 σo H locs ls h hg hl kk0
      rw [f_X3_isReached_l66] at h
      cases h
    | succ n ih =>
      intro x3 x5 x6 x4 x7 σ o4 σo H locs ls h hg hl kk0
      rw [f_X3_isReached_l66] at h
      refine lv_iload hx hb dX3_isReached_66 (lv_at hl 6 rfl) ?_
      refine lv_aload_n hx hb dX3_isReached_68 rfl (lv_at hl 0 rfl) ?_
      refine va_get (D := D) (ci := 3) (v := .int (σ 13 1)) (C := RX3) (T := TX3) (N := 16) hx hb hts k_1 hown hK.1 hg.1 0 rfl rfl 8 (by decide) k_3 (fun _ h9 => h9) rfl dX3_isReached_69 ?_
      refine lv_icmp_ge (tgt := 182) hx hb dX3_isReached_72 (by decide) (fun c19 => ?_) (fun c19 => ?_)
      · have h := fl_ifp c19 h
        obtain ⟨rfl, rfl⟩ := fl_s2 h
        exact kk0 H locs ls hg (lv_sub hl [0, 1, 2, 3, 4] rfl)
      · have h := fl_ifn c19 h
        refine lv_aload_n hx hb dX3_isReached_75 rfl (lv_at hl 0 rfl) ?_
        refine va_get (D := D) (ci := 3) (v := .ref (ad 1)) (C := RX3) (T := TX3) (N := 16) hx hb hts k_1 hown hK.1 hg.1 0 rfl rfl 1 (by decide) k_4 (fun _ h9 => h9) rfl dX3_isReached_76 ?_
        refine lv_iload hx hb dX3_isReached_79 (lv_at hl 6 rfl) ?_
        obtain ⟨v20, i21, e22, h⟩ := fl_rd_b h
        refine g_ld (n := 36) (t0 := 0) hx hb hK hg (wm_a0 ad cz _) rfl i21 e22 dX3_isReached_81 ?_
        refine lv_iload hx hb dX3_isReached_82 (lv_at hl 5 rfl) ?_
        obtain ⟨t24, hB26, h⟩ := fl_bnd h
        have J25 : ∀ (H : Heap) (locs : List Loc) (ls : Array Slot), gS D (wm ad cz) A s.heap σ H locs → lv_has ls 9 [(0, .ref (ad 0)), (1, .ref (ad (fi + 1))), (3, .int x3), (4, .int x4), (5, .int x5), (6, .int x6), (7, .int x7)] → W p l e rm_X3_isReached s m args below meth c H locs 0 0 Q (F0 m 104 ls [.int t24]) := by
          intro H locs ls hg hl
          refine lv_istore (lv' := [(8, .int t24), (0, .ref (ad 0)), (1, .ref (ad (fi + 1))), (3, .int x3), (4, .int x4), (5, .int x5), (6, .int x6), (7, .int x7)]) hx hb dX3_isReached_104 hl (by decide) rfl (fun ls hl => ?_)
          refine lv_aload_n hx hb dX3_isReached_106 rfl (lv_at hl 1 rfl) ?_
          refine lv_aload_n hx hb dX3_isReached_107 rfl (lv_at hl 2 rfl) ?_
          refine lv_iload hx hb dX3_isReached_108 (lv_at hl 7 rfl) ?_
          refine lv_iload hx hb dX3_isReached_110 (lv_at hl 6 rfl) ?_
          obtain ⟨r28, e27, h⟩ := fl_bnd h
          refine g_callVi (As := [.ref (ad (fi + 1)), .int x7, .int x6]) (rest := []) ⟨hx, hb, hml, hown, hts⟩ (c_X3_leftFrom l D ad cz (hfi) (x7) (x6) (σ) e27) (cwV 3 hts gX3_isReached_X3_leftFrom rfl rfl rfl (by decide +kernel) ⟨Nat.le_of_ble_eq_true rfl, Nat.le_of_ble_eq_true rfl⟩) (va_recv hK.1 hg.1 (ci := 3) (q0 := 0) rfl rfl) hK hA hg rfl hl.1 rfl (Nat.le_of_ble_eq_true rfl) dX3_isReached_112 ⟨Nat.le_of_ble_eq_true rfl, Nat.le_of_ble_eq_true rfl⟩ (fun H locs hg => ?_)
          obtain ⟨w30, σ31, hB33, h⟩ := fl_b2_b h
          have J32 : ∀ (H : Heap) (locs : List Loc) (ls : Array Slot), gS D (wm ad cz) A s.heap σ31 H locs → lv_has ls 9 [(0, .ref (ad 0)), (1, .ref (ad (fi + 1))), (3, .int x3), (4, .int w30), (5, .int x5), (6, .int x6), (7, .int x7)] → W p l e rm_X3_isReached s m args below meth c H locs 0 0 Q (F0 m 176 ls []) := by
            intro H locs ls hg hl
            refine lv_iinc (v := (x7 + 1)) (lv' := [(7, .int (x7 + 1)), (0, .ref (ad 0)), (1, .ref (ad (fi + 1))), (3, .int x3), (4, .int w30), (5, .int x5), (6, .int x6)]) hx hb dX3_isReached_176 hl (k := 6) rfl rfl (by decide) rfl (fun ls hl => ?_)
            refine lv_goto (tgt := 66) hx hb dX3_isReached_179 (by decide) ?_
            exact ih _ _ _ _ _ _ _ _ _ _ _ h hg (lv_sub hl [1, 2, 3, 4, 5, 6, 0] rfl) kk0
          clear h
          have h := hB33
          refine lv_if_le (tgt := 176) hx hb dX3_isReached_115 (by decide) (fun c29 => ?_) (fun c29 => ?_)
          · have h := fl_ifp c29 h
            obtain ⟨rfl, rfl⟩ := fl_s2 h
            exact J32 H locs ls hg (lv_sub hl [1, 2, 3, 4, 5, 6, 7] rfl)
          · have h := fl_ifn c29 h
            refine lv_aload_n hx hb dX3_isReached_118 rfl (lv_at hl 1 rfl) ?_
            refine va_get (D := D) (ci := 3) (v := .ref (ad 8)) (C := RX3) (T := TX3) (N := 16) hx hb hts k_1 hown hK.1 hg.1 0 rfl rfl 9 (by decide) k_0 (fun _ h9 => h9) rfl dX3_isReached_119 ?_
            refine lv_iload hx hb dX3_isReached_122 (lv_at hl 0 rfl) ?_
            obtain ⟨v34, i35, e36, h⟩ := fl_rd_b h
            refine g_ldz (n := 10) (t0 := 7) hx hb hK hg (wm_a7 ad cz _) rfl i35 e36 dX3_isReached_124 ?_
            refine lv_if_ne (tgt := 176) hx hb dX3_isReached_125 (by decide) (fun c37 => ?_) (fun c37 => ?_)
            · have h := fl_ifn c37 h
              obtain ⟨rfl, rfl⟩ := fl_s2 h
              exact J32 H locs ls hg (lv_sub hl [1, 2, 3, 4, 5, 6, 7] rfl)
            · have h := fl_ifp c37 h
              refine lv_aload_n hx hb dX3_isReached_128 rfl (lv_at hl 1 rfl) ?_
              refine va_get (D := D) (ci := 3) (v := .ref (ad 8)) (C := RX3) (T := TX3) (N := 16) hx hb hts k_1 hown hK.1 hg.1 0 rfl rfl 9 (by decide) k_0 (fun _ h9 => h9) rfl dX3_isReached_129 ?_
              refine lv_iload hx hb dX3_isReached_132 (lv_at hl 0 rfl) ?_
              refine lv_iconst (v := (1)) hx hb dX3_isReached_134 (by decide) ?_
              obtain ⟨σ38, i39, e40, h⟩ := fl_wr_b h
              refine g_stz (n := 10) (t0 := 7) hx hb hK hg (wm_a7 ad cz _) (wm_s7 ad cz _) rfl rfl i39 e40 dX3_isReached_135 (fun H locs hg => ?_)
              refine lv_aload_n hx hb dX3_isReached_136 rfl (lv_at hl 1 rfl) ?_
              refine va_get (D := D) (ci := 3) (v := .ref (ad 12)) (C := RX3) (T := TX3) (N := 16) hx hb hts k_1 hown hK.1 hg.1 0 rfl rfl 14 (by decide) k_5 (fun _ h9 => h9) rfl dX3_isReached_137 ?_
              refine lv_iload hx hb dX3_isReached_140 (lv_at hl 0 rfl) ?_
              refine lv_aload_n hx hb dX3_isReached_142 rfl (lv_at hl 1 rfl) ?_
              refine va_get (D := D) (ci := 3) (v := .ref (ad 1)) (C := RX3) (T := TX3) (N := 16) hx hb hts k_1 hown hK.1 hg.1 0 rfl rfl 1 (by decide) k_4 (fun _ h9 => h9) rfl dX3_isReached_143 ?_
              refine lv_iload hx hb dX3_isReached_146 (lv_at hl 7 rfl) ?_
              obtain ⟨v41, i42, e43, h⟩ := fl_rd_b h
              refine g_ld (n := 36) (t0 := 0) hx hb hK hg (wm_a0 ad cz _) rfl i42 e43 dX3_isReached_148 ?_
              refine lv_iload hx hb dX3_isReached_149 (lv_at hl 6 rfl) ?_
              obtain ⟨t45, hB47, h⟩ := fl_bnd h
              have J46 : ∀ (H : Heap) (locs : List Loc) (ls : Array Slot), gS D (wm ad cz) A s.heap σ38 H locs → lv_has ls 9 [(0, .ref (ad 0)), (1, .ref (ad (fi + 1))), (3, .int x3), (4, .int x4), (5, .int x5), (6, .int x6), (7, .int x7), (8, .int t24)] → W p l e rm_X3_isReached s m args below meth c H locs 0 0 Q (F0 m 163 ls [.int t45, .int t24, .ref (ad 12)]) := by
                intro H locs ls hg hl
                obtain ⟨σ48, i49, e50, h⟩ := fl_wr_b h
                refine g_st (n := 10) (t0 := 11) hx hb hK hg (wm_a11 ad cz _) (wm_s11 ad cz _) rfl i49 e50 dX3_isReached_163 (fun H locs hg => ?_)
                refine lv_aload_n hx hb dX3_isReached_164 rfl (lv_at hl 0 rfl) ?_
                refine va_get (D := D) (ci := 3) (v := .ref (ad 13)) (C := RX3) (T := TX3) (N := 16) hx hb hts k_1 hown hK.1 hg.1 0 rfl rfl 15 (by decide) k_2 (fun _ h9 => h9) rfl dX3_isReached_165 ?_
                refine lv_iload hx hb dX3_isReached_168 (lv_at hl 3 rfl) ?_
                refine lv_iload hx hb dX3_isReached_170 (lv_at hl 7 rfl) ?_
                obtain ⟨σ51, i52, e53, h⟩ := fl_wr_b h
                refine g_st (n := 10) (t0 := 12) hx hb hK hg (wm_a12 ad cz _) (wm_s12 ad cz _) rfl i52 e53 dX3_isReached_172 (fun H locs hg => ?_)
                refine lv_iinc (v := (x4 + 1)) (lv' := [(4, .int (x4 + 1)), (0, .ref (ad 0)), (1, .ref (ad (fi + 1))), (3, .int x3), (5, .int x5), (6, .int x6), (7, .int x7), (8, .int t24)]) hx hb dX3_isReached_173 hl (k := 3) rfl rfl (by decide) rfl (fun ls hl => ?_)
                obtain ⟨rfl, rfl⟩ := fl_s2 h
                exact J32 H locs ls hg (lv_sub hl [1, 2, 3, 0, 4, 5, 6] rfl)
              clear h
              have h := hB47
              refine lv_icmp_ne (tgt := 159) hx hb dX3_isReached_151 (by decide) (fun c44 => ?_) (fun c44 => ?_)
              · have h := fl_ifn c44 h
                refine lv_iconst (v := (-1)) hx hb dX3_isReached_159 (by decide) ?_
                refine lv_iload hx hb dX3_isReached_160 (lv_at hl 7 rfl) ?_
                refine lv_isub hx hb dX3_isReached_162 ?_
                obtain rfl := fl_s1 h
                exact J46 H locs ls hg (lv_sub hl [1, 2, 3, 4, 5, 6, 7, 0] rfl)
              · have h := fl_ifp c44 h
                refine lv_iload hx hb dX3_isReached_154 (lv_at hl 7 rfl) ?_
                refine lv_goto (tgt := 163) hx hb dX3_isReached_156 (by decide) ?_
                obtain rfl := fl_s1 h
                exact J46 H locs ls hg (lv_sub hl [1, 2, 3, 4, 5, 6, 7, 0] rfl)
        clear h
        have h := hB26
        refine lv_icmp_ne (tgt := 97) hx hb dX3_isReached_84 (by decide) (fun c23 => ?_) (fun c23 => ?_)
        · have h := fl_ifn c23 h
          refine lv_aload_n hx hb dX3_isReached_97 rfl (lv_at hl 0 rfl) ?_
          refine va_get (D := D) (ci := 3) (v := .ref (ad 1)) (C := RX3) (T := TX3) (N := 16) hx hb hts k_1 hown hK.1 hg.1 0 rfl rfl 1 (by decide) k_4 (fun _ h9 => h9) rfl dX3_isReached_98 ?_
          refine lv_iload hx hb dX3_isReached_101 (lv_at hl 6 rfl) ?_
          obtain ⟨v54, i55, e56, h⟩ := fl_rd_b h
          refine g_ld (n := 36) (t0 := 0) hx hb hK hg (wm_a0 ad cz _) rfl i55 e56 dX3_isReached_103 ?_
          obtain rfl := fl_s1 h
          exact J25 H locs ls hg (lv_sub hl [0, 1, 2, 3, 4, 5, 6] rfl)
        · have h := fl_ifp c23 h
          refine lv_aload_n hx hb dX3_isReached_87 rfl (lv_at hl 0 rfl) ?_
          refine va_get (D := D) (ci := 3) (v := .ref (ad 2)) (C := RX3) (T := TX3) (N := 16) hx hb hts k_1 hown hK.1 hg.1 0 rfl rfl 2 (by decide) k_6 (fun _ h9 => h9) rfl dX3_isReached_88 ?_
          refine lv_iload hx hb dX3_isReached_91 (lv_at hl 6 rfl) ?_
          obtain ⟨v57, i58, e59, h⟩ := fl_rd_b h
          refine g_ld (n := 36) (t0 := 1) hx hb hK hg (wm_a1 ad cz _) rfl i58 e59 dX3_isReached_93 ?_
          refine lv_goto (tgt := 104) hx hb dX3_isReached_94 (by decide) ?_
          obtain rfl := fl_s1 h
          exact J25 H locs ls hg (lv_sub hl [0, 1, 2, 3, 4, 5, 6] rfl)
  have L47 : ∀ (n : Nat) (x3 : Int32) (x4 : Int32) (x5 : Int32) (σ : fl_St) (σo : fl_St) (H : Heap) (locs : List Loc) (ls : Array Slot), f_X3_isReached_l47 fi x3 n x4 x5 σ = some (σo) → gS D (wm ad cz) A s.heap σ H locs → lv_has ls 9 [(0, .ref (ad 0)), (1, .ref (ad (fi + 1))), (3, .int x3), (4, .int x4), (5, .int x5)] → (∀ (H : Heap) (locs : List Loc) (ls : Array Slot), gS D (wm ad cz) A s.heap σo H locs → lv_has ls 9 [(0, .ref (ad 0)), (3, .int x3)] → W p l e rm_X3_isReached s m args below meth c H locs 0 0 Q (F0 m 188 ls [])) → W p l e rm_X3_isReached s m args below meth c H locs 0 0 Q (F0 m 47 ls []) := by
    intro n
    induction n with
    | zero =>
      intro x3 x4 x5 σ σo H locs ls h hg hl kk0
      rw [f_X3_isReached_l47] at h
      cases h
    | succ n ih =>
      intro x3 x4 x5 σ σo H locs ls h hg hl kk0
      rw [f_X3_isReached_l47] at h
      refine lv_iload hx hb dX3_isReached_47 (lv_at hl 4 rfl) ?_
      refine lv_iload hx hb dX3_isReached_49 (lv_at hl 3 rfl) ?_
      refine lv_icmp_ge (tgt := 188) hx hb dX3_isReached_51 (by decide) (fun c15 => ?_) (fun c15 => ?_)
      · have h := fl_ifp c15 h
        obtain rfl := fl_s1 h
        exact kk0 H locs ls hg (lv_sub hl [0, 2] rfl)
      · have h := fl_ifn c15 h
        refine lv_aload_n hx hb dX3_isReached_54 rfl (lv_at hl 0 rfl) ?_
        refine va_get (D := D) (ci := 3) (v := .ref (ad 13)) (C := RX3) (T := TX3) (N := 16) hx hb hts k_1 hown hK.1 hg.1 0 rfl rfl 15 (by decide) k_2 (fun _ h9 => h9) rfl dX3_isReached_55 ?_
        refine lv_iload hx hb dX3_isReached_58 (lv_at hl 4 rfl) ?_
        obtain ⟨v16, i17, e18, h⟩ := fl_rd_b h
        refine g_ld (n := 10) (t0 := 12) hx hb hK hg (wm_a12 ad cz _) rfl i17 e18 dX3_isReached_60 ?_
        refine lv_istore (lv' := [(6, .int v16), (0, .ref (ad 0)), (1, .ref (ad (fi + 1))), (3, .int x3), (4, .int x4), (5, .int x5)]) hx hb dX3_isReached_61 hl (by decide) rfl (fun ls hl => ?_)
        refine lv_iconst (v := (0)) hx hb dX3_isReached_63 (by decide) ?_
        refine lv_istore (lv' := [(7, .int (0)), (6, .int v16), (0, .ref (ad 0)), (1, .ref (ad (fi + 1))), (3, .int x3), (4, .int x4), (5, .int x5)]) hx hb dX3_isReached_64 hl (by decide) rfl (fun ls hl => ?_)
        obtain ⟨w60, σ61, hB62, h⟩ := fl_b2_b h
        refine L66 fl_N _ _ _ _ _ _ _ _ H locs ls hB62 hg (lv_sub hl [2, 3, 4, 5, 6, 1, 0] rfl) (fun H locs ls hg hl => ?_)
        refine lv_iinc (v := (x5 + 1)) (lv' := [(5, .int (x5 + 1)), (0, .ref (ad 0)), (1, .ref (ad (fi + 1))), (3, .int x3), (4, .int w60)]) hx hb dX3_isReached_182 hl (k := 4) rfl rfl (by decide) rfl (fun ls hl => ?_)
        refine lv_goto (tgt := 47) hx hb dX3_isReached_185 (by decide) ?_
        exact ih _ _ _ _ _ _ _ _ h hg (lv_sub hl [1, 2, 3, 4, 0] rfl) kk0
  unfold f_X3_isReached at h
  have W0 : ∀ (H : Heap) (locs : List Loc), gS D (wm ad cz) A s.heap σ H locs → W p l e rm_X3_isReached s m args below meth c H locs 0 0 Q (F0 m 0 ls []) := by
    intro H locs hg
    refine lv_iconst (v := (0)) hx hb dX3_isReached_0 (by decide) ?_
    refine lv_istore (lv' := [(4, .int (0)), (0, .ref (ad 0)), (1, .ref (ad (fi + 1))), (2, .int x2), (3, .int x3)]) hx hb dX3_isReached_1 hl (by decide) rfl (fun ls hl => ?_)
    obtain ⟨σ10, hB11, h⟩ := fl_bnd h
    refine L3 fl_N _ _ _ _ _ H locs ls hB11 hg (lv_sub hl [1, 2, 3, 4, 0] rfl) (fun H locs ls hg hl => ?_)
    refine lv_aload_n hx hb dX3_isReached_34 rfl (lv_at hl 0 rfl) ?_
    refine va_get (D := D) (ci := 3) (v := .ref (ad 13)) (C := RX3) (T := TX3) (N := 16) hx hb hts k_1 hown hK.1 hg.1 0 rfl rfl 15 (by decide) k_2 (fun _ h9 => h9) rfl dX3_isReached_35 ?_
    refine lv_iconst (v := (0)) hx hb dX3_isReached_38 (by decide) ?_
    refine lv_iload_n hx hb dX3_isReached_39 rfl (lv_at hl 2 rfl) ?_
    obtain ⟨σ12, i13, e14, h⟩ := fl_wr_b h
    refine g_st (n := 10) (t0 := 12) hx hb hK hg (wm_a12 ad cz _) (wm_s12 ad cz _) rfl i13 e14 dX3_isReached_40 (fun H locs hg => ?_)
    refine lv_iconst (v := (1)) hx hb dX3_isReached_41 (by decide) ?_
    refine lv_istore (lv' := [(4, .int (1)), (0, .ref (ad 0)), (1, .ref (ad (fi + 1))), (2, .int x2), (3, .int x3)]) hx hb dX3_isReached_42 hl (by decide) rfl (fun ls hl => ?_)
    refine lv_iconst (v := (0)) hx hb dX3_isReached_44 (by decide) ?_
    refine lv_istore (lv' := [(5, .int (0)), (4, .int (1)), (0, .ref (ad 0)), (1, .ref (ad (fi + 1))), (2, .int x2), (3, .int x3)]) hx hb dX3_isReached_45 hl (by decide) rfl (fun ls hl => ?_)
    obtain ⟨σ63, hB64, h⟩ := fl_bnd h
    refine L47 fl_N _ _ _ _ _ H locs ls hB64 hg (lv_sub hl [2, 3, 5, 1, 0] rfl) (fun H locs ls hg hl => ?_)
    refine lv_aload_n hx hb dX3_isReached_188 rfl (lv_at hl 0 rfl) ?_
    refine va_get (D := D) (ci := 3) (v := .ref (ad 8)) (C := RX3) (T := TX3) (N := 16) hx hb hts k_1 hown hK.1 hg.1 0 rfl rfl 9 (by decide) k_0 (fun _ h9 => h9) rfl dX3_isReached_189 ?_
    refine lv_iload_n hx hb dX3_isReached_192 rfl (lv_at hl 1 rfl) ?_
    obtain ⟨v65, i66, e67, h⟩ := fl_rd_b h
    refine g_ldz (n := 10) (t0 := 7) hx hb hK hg (wm_a7 ad cz _) rfl i66 e67 dX3_isReached_193 ?_
    obtain ⟨z68, h⟩ := fl_bool h
    exact hret _ _ _ _ _ _ h hg (fl_nar2 z68) dX3_isReached_194
  exact W0 _ _ hg
end
section
def f_X3_pushAll_l30 (fi : Nat) (x2 : Int32) (x3 : Int32) (x4 : Int32) (x5 : Int32) (σ : fl_St) : Nat → Int32 → Int32 → Option (Int32)
  | 0, _, _ => none
  | n + 1, x6, x7 => if x7 = x2 then (some (x6)) else ((fl_rd σ 11 10 x7).bind fun v7 => (if v7 < 0 then ((fl_rd σ 11 10 x7).bind fun v37 => (fl_rd σ fi 36 ((-1) - v37)).bind fun v40 => some (v40)) else ((fl_rd σ 11 10 x7).bind fun v43 => (fl_rd σ 2 36 v43).bind fun v46 => (fl_rd σ 11 10 x7).bind fun v49 => (fl_rd σ fi 36 v49).bind fun v52 => some ((v46 - v52)))).bind fun (t11 : Int32) => (if x6 ≤ t11 then (some (x6)) else (some (t11))).bind fun (t15 : Int32) => (fl_rd σ 11 10 x7).bind fun v18 => (if v18 < 0 then ((fl_rd σ 11 10 x7).bind fun v25 => (fl_rd σ 1 36 ((-1) - v25)).bind fun v28 => some (v28)) else ((fl_rd σ 11 10 x7).bind fun v31 => (fl_rd σ 0 36 v31).bind fun v34 => some (v34))).bind fun (t22 : Int32) => f_X3_pushAll_l30 fi x2 x3 x4 x5 σ n t15 t22)
def f_X3_pushAll_l147 (fi : Nat) (x2 : Int32) (x3 : Int32) (x4 : Int32) (x5 : Int32) (x6 : Int32) : Nat → Int32 → fl_St → Option (fl_St)
  | 0, _, _ => none
  | n + 1, x7, σ => if x7 = x2 then (some (σ)) else ((fl_rd σ 11 10 x7).bind fun v58 => (if v58 < 0 then ((fl_rd σ 11 10 x7).bind fun v84 => (fl_rd σ fi 36 ((-1) - v84)).bind fun v87 => (fl_wr σ fi 36 ((-1) - v84) (v87 - x6)).bind fun σ90 => some (σ90)) else ((fl_rd σ 11 10 x7).bind fun v93 => (fl_rd σ fi 36 v93).bind fun v96 => (fl_wr σ fi 36 v93 (v96 + x6)).bind fun σ99 => some (σ99))).bind fun (σ62 : fl_St) => (fl_rd σ62 11 10 x7).bind fun v65 => (if v65 < 0 then ((fl_rd σ62 11 10 x7).bind fun v72 => (fl_rd σ62 1 36 ((-1) - v72)).bind fun v75 => some (v75)) else ((fl_rd σ62 11 10 x7).bind fun v78 => (fl_rd σ62 0 36 v78).bind fun v81 => some (v81))).bind fun (t69 : Int32) => f_X3_pushAll_l147 fi x2 x3 x4 x5 x6 n t69 σ62)
def f_X3_pushAll_l3 (fi : Nat) (x2 : Int32) (x3 : Int32) (x4 : Int32) : Nat → Int32 → fl_St → Option (Int32 × fl_St)
  | 0, _, _ => none
  | n + 1, x5, σ => if x4 ≤ x5 then (some (x5, σ)) else (fl_b2 (f_X3_isReached fi x2 x3 σ) fun r3 σ4 => if r3 = 0 then (some (x5, σ4)) else ((f_X3_pushAll_l30 fi x2 x3 x4 x5 σ4 fl_N (x4 - x5) x3).bind fun (w55 : Int32) => (f_X3_pushAll_l147 fi x2 x3 x4 x5 w55 fl_N x3 σ4).bind fun (σ102 : fl_St) => f_X3_pushAll_l3 fi x2 x3 x4 n (x5 + w55) σ102))
def f_X3_pushAll (fi : Nat) (x2 : Int32) (x3 : Int32) (x4 : Int32) (σ : fl_St) : Option (Int32 × fl_St) := fl_b2 (f_X3_pushAll_l3 fi x2 x3 x4 fl_N (0) σ) fun (w104 : Int32) (σ105 : fl_St) => some (w104, σ105)
def rm_X3_pushAll : Room := { frames := 2, cells := 0, slots := 0, locals := 51 }
set_option maxHeartbeats 4000000 in
set_option maxRecDepth 100000 in
theorem c_X3_pushAll (l : Launch) (D : va_G) (ad : Nat → Nat) (cz : Nat → ClassId) {fi : Nat} (hfi : fi = 5 ∨ fi = 6) (x2 : Int32) (x3 : Int32) (x4 : Int32) (σ : fl_St) {r : Int32} {σ' : fl_St} (h : f_X3_pushAll fi x2 x3 x4 σ = some (r, σ')) : gMi l yX3_pushAll wsX3_pushAll rm_X3_pushAll D (wm ad cz) (wmT cz) [] [.ref (ad 0), .ref (ad (fi + 1)), .int x2, .int x3, .int x4] σ r σ' := by
  refine gMi_of (cc := cX3_pushAll) (maxL := 9) (by decide) rfl (Nat.le_of_ble_eq_true rfl) ?_
  intro p e s m args below meth c A Q ls hx hb hml hown hts hK hA hg hl hret
  have hown : s.vm.findClass RX3 = some m.cls := hown
  have hl : lv_has ls 9 [(0, .ref (ad 0)), (1, .ref (ad (fi + 1))), (2, .int x2), (3, .int x3), (4, .int x4)] := hl
  have k_0 := hts (.fieldLink RX3 44 "FlowLedgerModel" "way" "[I") (by decide +kernel)
  have k_1 := (by decide +kernel : ∀ w ∈ wsX30, w ∈ wsX3_pushAll)
  have k_2 := hts (.fieldLink RX3 13 "FlowLedgerModel" "tos" "[I") (by decide +kernel)
  have k_3 := hts (.fieldLink RX3 7 "FlowLedgerModel" "froms" "[I") (by decide +kernel)
  have k_4 := hts (.fieldLink RX3 16 "FlowLedgerModel" "capacities" "[I") (by decide +kernel)
  have L30 : ∀ (n : Nat) (x2 : Int32) (x3 : Int32) (x4 : Int32) (x5 : Int32) (σ : fl_St) (x6 : Int32) (x7 : Int32) (o6 : Int32) (H : Heap) (locs : List Loc) (ls : Array Slot), f_X3_pushAll_l30 fi x2 x3 x4 x5 σ n x6 x7 = some (o6) → gS D (wm ad cz) A s.heap σ H locs → lv_has ls 9 [(0, .ref (ad 0)), (1, .ref (ad (fi + 1))), (2, .int x2), (3, .int x3), (4, .int x4), (5, .int x5), (6, .int x6), (7, .int x7)] → (∀ (H : Heap) (locs : List Loc) (ls : Array Slot), gS D (wm ad cz) A s.heap σ H locs → lv_has ls 9 [(0, .ref (ad 0)), (1, .ref (ad (fi + 1))), (2, .int x2), (3, .int x3), (4, .int x4), (5, .int x5), (6, .int o6)] → W p l e rm_X3_pushAll s m args below meth c H locs 0 0 Q (F0 m 144 ls [])) → W p l e rm_X3_pushAll s m args below meth c H locs 0 0 Q (F0 m 30 ls []) := by
    intro n
    induction n with
    | zero =>
      intro x2 x3 x4 x5 σ x6 x7 o6 H locs ls h hg hl kk0
      rw [f_X3_pushAll_l30] at h
      cases h
    | succ n ih =>
      intro x2 x3 x4 x5 σ x6 x7 o6 H locs ls h hg hl kk0
      rw [f_X3_pushAll_l30] at h
      refine lv_iload hx hb dX3_pushAll_30 (lv_at hl 7 rfl) ?_
      refine lv_iload_n hx hb dX3_pushAll_32 rfl (lv_at hl 2 rfl) ?_
      refine lv_icmp_eq (tgt := 144) hx hb dX3_pushAll_33 (by decide) (fun c6 => ?_) (fun c6 => ?_)
      · have h := fl_ifp c6 h
        obtain rfl := fl_s1 h
        exact kk0 H locs ls hg (lv_sub hl [0, 1, 2, 3, 4, 5, 6] rfl)
      · have h := fl_ifn c6 h
        refine lv_aload_n hx hb dX3_pushAll_36 rfl (lv_at hl 0 rfl) ?_
        refine va_get (D := D) (ci := 3) (v := .ref (ad 12)) (C := RX3) (T := TX3) (N := 16) hx hb hts k_1 hown hK.1 hg.1 0 rfl rfl 14 (by decide) k_0 (fun _ h9 => h9) rfl dX3_pushAll_37 ?_
        refine lv_iload hx hb dX3_pushAll_40 (lv_at hl 7 rfl) ?_
        obtain ⟨v7, i8, e9, h⟩ := fl_rd_b h
        refine g_ld (n := 10) (t0 := 11) hx hb hK hg (wm_a11 ad cz _) rfl i8 e9 dX3_pushAll_42 ?_
        obtain ⟨t11, hB13, h⟩ := fl_bnd h
        have J12 : ∀ (H : Heap) (locs : List Loc) (ls : Array Slot), gS D (wm ad cz) A s.heap σ H locs → lv_has ls 9 [(0, .ref (ad 0)), (1, .ref (ad (fi + 1))), (2, .int x2), (3, .int x3), (4, .int x4), (5, .int x5), (6, .int x6), (7, .int x7)] → W p l e rm_X3_pushAll s m args below meth c H locs 0 0 Q (F0 m 82 ls [.int t11]) := by
          intro H locs ls hg hl
          refine lv_istore (lv' := [(8, .int t11), (0, .ref (ad 0)), (1, .ref (ad (fi + 1))), (2, .int x2), (3, .int x3), (4, .int x4), (5, .int x5), (6, .int x6), (7, .int x7)]) hx hb dX3_pushAll_82 hl (by decide) rfl (fun ls hl => ?_)
          refine lv_iload hx hb dX3_pushAll_84 (lv_at hl 0 rfl) ?_
          refine lv_iload hx hb dX3_pushAll_86 (lv_at hl 7 rfl) ?_
          obtain ⟨t15, hB17, h⟩ := fl_bnd h
          have J16 : ∀ (H : Heap) (locs : List Loc) (ls : Array Slot), gS D (wm ad cz) A s.heap σ H locs → lv_has ls 9 [(0, .ref (ad 0)), (1, .ref (ad (fi + 1))), (2, .int x2), (3, .int x3), (4, .int x4), (5, .int x5), (7, .int x7)] → W p l e rm_X3_pushAll s m args below meth c H locs 0 0 Q (F0 m 98 ls [.int t15]) := by
            intro H locs ls hg hl
            refine lv_istore (lv' := [(6, .int t15), (0, .ref (ad 0)), (1, .ref (ad (fi + 1))), (2, .int x2), (3, .int x3), (4, .int x4), (5, .int x5), (7, .int x7)]) hx hb dX3_pushAll_98 hl (by decide) rfl (fun ls hl => ?_)
            refine lv_aload_n hx hb dX3_pushAll_100 rfl (lv_at hl 1 rfl) ?_
            refine va_get (D := D) (ci := 3) (v := .ref (ad 12)) (C := RX3) (T := TX3) (N := 16) hx hb hts k_1 hown hK.1 hg.1 0 rfl rfl 14 (by decide) k_0 (fun _ h9 => h9) rfl dX3_pushAll_101 ?_
            refine lv_iload hx hb dX3_pushAll_104 (lv_at hl 7 rfl) ?_
            obtain ⟨v18, i19, e20, h⟩ := fl_rd_b h
            refine g_ld (n := 10) (t0 := 11) hx hb hK hg (wm_a11 ad cz _) rfl i19 e20 dX3_pushAll_106 ?_
            obtain ⟨t22, hB24, h⟩ := fl_bnd h
            have J23 : ∀ (H : Heap) (locs : List Loc) (ls : Array Slot), gS D (wm ad cz) A s.heap σ H locs → lv_has ls 9 [(0, .ref (ad 0)), (1, .ref (ad (fi + 1))), (2, .int x2), (3, .int x3), (4, .int x4), (5, .int x5), (6, .int t15)] → W p l e rm_X3_pushAll s m args below meth c H locs 0 0 Q (F0 m 139 ls [.int t22]) := by
              intro H locs ls hg hl
              refine lv_istore (lv' := [(7, .int t22), (0, .ref (ad 0)), (1, .ref (ad (fi + 1))), (2, .int x2), (3, .int x3), (4, .int x4), (5, .int x5), (6, .int t15)]) hx hb dX3_pushAll_139 hl (by decide) rfl (fun ls hl => ?_)
              refine lv_goto (tgt := 30) hx hb dX3_pushAll_141 (by decide) ?_
              exact ih _ _ _ _ _ _ _ _ _ _ _ h hg (lv_sub hl [1, 2, 3, 4, 5, 6, 7, 0] rfl) kk0
            clear h
            have h := hB24
            refine lv_if_lt (tgt := 125) hx hb dX3_pushAll_107 (by decide) (fun c21 => ?_) (fun c21 => ?_)
            · have h := fl_ifp c21 h
              refine lv_aload_n hx hb dX3_pushAll_125 rfl (lv_at hl 1 rfl) ?_
              refine va_get (D := D) (ci := 3) (v := .ref (ad 2)) (C := RX3) (T := TX3) (N := 16) hx hb hts k_1 hown hK.1 hg.1 0 rfl rfl 2 (by decide) k_2 (fun _ h9 => h9) rfl dX3_pushAll_126 ?_
              refine lv_iconst (v := (-1)) hx hb dX3_pushAll_129 (by decide) ?_
              refine lv_aload_n hx hb dX3_pushAll_130 rfl (lv_at hl 1 rfl) ?_
              refine va_get (D := D) (ci := 3) (v := .ref (ad 12)) (C := RX3) (T := TX3) (N := 16) hx hb hts k_1 hown hK.1 hg.1 0 rfl rfl 14 (by decide) k_0 (fun _ h9 => h9) rfl dX3_pushAll_131 ?_
              refine lv_iload hx hb dX3_pushAll_134 (lv_at hl 7 rfl) ?_
              obtain ⟨v25, i26, e27, h⟩ := fl_rd_b h
              refine g_ld (n := 10) (t0 := 11) hx hb hK hg (wm_a11 ad cz _) rfl i26 e27 dX3_pushAll_136 ?_
              refine lv_isub hx hb dX3_pushAll_137 ?_
              obtain ⟨v28, i29, e30, h⟩ := fl_rd_b h
              refine g_ld (n := 36) (t0 := 1) hx hb hK hg (wm_a1 ad cz _) rfl i29 e30 dX3_pushAll_138 ?_
              obtain rfl := fl_s1 h
              exact J23 H locs ls hg (lv_sub hl [1, 2, 3, 4, 5, 6, 0] rfl)
            · have h := fl_ifn c21 h
              refine lv_aload_n hx hb dX3_pushAll_110 rfl (lv_at hl 1 rfl) ?_
              refine va_get (D := D) (ci := 3) (v := .ref (ad 1)) (C := RX3) (T := TX3) (N := 16) hx hb hts k_1 hown hK.1 hg.1 0 rfl rfl 1 (by decide) k_3 (fun _ h9 => h9) rfl dX3_pushAll_111 ?_
              refine lv_aload_n hx hb dX3_pushAll_114 rfl (lv_at hl 1 rfl) ?_
              refine va_get (D := D) (ci := 3) (v := .ref (ad 12)) (C := RX3) (T := TX3) (N := 16) hx hb hts k_1 hown hK.1 hg.1 0 rfl rfl 14 (by decide) k_0 (fun _ h9 => h9) rfl dX3_pushAll_115 ?_
              refine lv_iload hx hb dX3_pushAll_118 (lv_at hl 7 rfl) ?_
              obtain ⟨v31, i32, e33, h⟩ := fl_rd_b h
              refine g_ld (n := 10) (t0 := 11) hx hb hK hg (wm_a11 ad cz _) rfl i32 e33 dX3_pushAll_120 ?_
              obtain ⟨v34, i35, e36, h⟩ := fl_rd_b h
              refine g_ld (n := 36) (t0 := 0) hx hb hK hg (wm_a0 ad cz _) rfl i35 e36 dX3_pushAll_121 ?_
              refine lv_goto (tgt := 139) hx hb dX3_pushAll_122 (by decide) ?_
              obtain rfl := fl_s1 h
              exact J23 H locs ls hg (lv_sub hl [1, 2, 3, 4, 5, 6, 0] rfl)
          clear h
          have h := hB17
          refine lv_icmp_ge (tgt := 96) hx hb dX3_pushAll_88 (by decide) (fun c14 => ?_) (fun c14 => ?_)
          · have h := fl_ifp c14 h
            refine lv_iload hx hb dX3_pushAll_96 (lv_at hl 7 rfl) ?_
            obtain rfl := fl_s1 h
            exact J16 H locs ls hg (lv_sub hl [1, 2, 3, 4, 5, 6, 8] rfl)
          · have h := fl_ifn c14 h
            refine lv_iload hx hb dX3_pushAll_91 (lv_at hl 0 rfl) ?_
            refine lv_goto (tgt := 98) hx hb dX3_pushAll_93 (by decide) ?_
            obtain rfl := fl_s1 h
            exact J16 H locs ls hg (lv_sub hl [1, 2, 3, 4, 5, 6, 8] rfl)
        clear h
        have h := hB13
        refine lv_if_lt (tgt := 71) hx hb dX3_pushAll_43 (by decide) (fun c10 => ?_) (fun c10 => ?_)
        · have h := fl_ifp c10 h
          refine lv_aload_n hx hb dX3_pushAll_71 rfl (lv_at hl 1 rfl) ?_
          refine lv_iconst (v := (-1)) hx hb dX3_pushAll_72 (by decide) ?_
          refine lv_aload_n hx hb dX3_pushAll_73 rfl (lv_at hl 0 rfl) ?_
          refine va_get (D := D) (ci := 3) (v := .ref (ad 12)) (C := RX3) (T := TX3) (N := 16) hx hb hts k_1 hown hK.1 hg.1 0 rfl rfl 14 (by decide) k_0 (fun _ h9 => h9) rfl dX3_pushAll_74 ?_
          refine lv_iload hx hb dX3_pushAll_77 (lv_at hl 7 rfl) ?_
          obtain ⟨v37, i38, e39, h⟩ := fl_rd_b h
          refine g_ld (n := 10) (t0 := 11) hx hb hK hg (wm_a11 ad cz _) rfl i38 e39 dX3_pushAll_79 ?_
          refine lv_isub hx hb dX3_pushAll_80 ?_
          obtain ⟨v40, i41, e42, h⟩ := fl_rd_b h
          refine g_ld (n := 36) (t0 := fi) hx hb hK hg (wm_af hfi ad cz _) (wm_tf hfi cz) i41 e42 dX3_pushAll_81 ?_
          obtain rfl := fl_s1 h
          exact J12 H locs ls hg (lv_sub hl [0, 1, 2, 3, 4, 5, 6, 7] rfl)
        · have h := fl_ifn c10 h
          refine lv_aload_n hx hb dX3_pushAll_46 rfl (lv_at hl 0 rfl) ?_
          refine va_get (D := D) (ci := 3) (v := .ref (ad 3)) (C := RX3) (T := TX3) (N := 16) hx hb hts k_1 hown hK.1 hg.1 0 rfl rfl 3 (by decide) k_4 (fun _ h9 => h9) rfl dX3_pushAll_47 ?_
          refine lv_aload_n hx hb dX3_pushAll_50 rfl (lv_at hl 0 rfl) ?_
          refine va_get (D := D) (ci := 3) (v := .ref (ad 12)) (C := RX3) (T := TX3) (N := 16) hx hb hts k_1 hown hK.1 hg.1 0 rfl rfl 14 (by decide) k_0 (fun _ h9 => h9) rfl dX3_pushAll_51 ?_
          refine lv_iload hx hb dX3_pushAll_54 (lv_at hl 7 rfl) ?_
          obtain ⟨v43, i44, e45, h⟩ := fl_rd_b h
          refine g_ld (n := 10) (t0 := 11) hx hb hK hg (wm_a11 ad cz _) rfl i44 e45 dX3_pushAll_56 ?_
          obtain ⟨v46, i47, e48, h⟩ := fl_rd_b h
          refine g_ld (n := 36) (t0 := 2) hx hb hK hg (wm_a2 ad cz _) rfl i47 e48 dX3_pushAll_57 ?_
          refine lv_aload_n hx hb dX3_pushAll_58 rfl (lv_at hl 1 rfl) ?_
          refine lv_aload_n hx hb dX3_pushAll_59 rfl (lv_at hl 0 rfl) ?_
          refine va_get (D := D) (ci := 3) (v := .ref (ad 12)) (C := RX3) (T := TX3) (N := 16) hx hb hts k_1 hown hK.1 hg.1 0 rfl rfl 14 (by decide) k_0 (fun _ h9 => h9) rfl dX3_pushAll_60 ?_
          refine lv_iload hx hb dX3_pushAll_63 (lv_at hl 7 rfl) ?_
          obtain ⟨v49, i50, e51, h⟩ := fl_rd_b h
          refine g_ld (n := 10) (t0 := 11) hx hb hK hg (wm_a11 ad cz _) rfl i50 e51 dX3_pushAll_65 ?_
          obtain ⟨v52, i53, e54, h⟩ := fl_rd_b h
          refine g_ld (n := 36) (t0 := fi) hx hb hK hg (wm_af hfi ad cz _) (wm_tf hfi cz) i53 e54 dX3_pushAll_66 ?_
          refine lv_isub hx hb dX3_pushAll_67 ?_
          refine lv_goto (tgt := 82) hx hb dX3_pushAll_68 (by decide) ?_
          obtain rfl := fl_s1 h
          exact J12 H locs ls hg (lv_sub hl [0, 1, 2, 3, 4, 5, 6, 7] rfl)
  have L147 : ∀ (n : Nat) (x2 : Int32) (x3 : Int32) (x4 : Int32) (x5 : Int32) (x6 : Int32) (x7 : Int32) (σ : fl_St) (σo : fl_St) (H : Heap) (locs : List Loc) (ls : Array Slot), f_X3_pushAll_l147 fi x2 x3 x4 x5 x6 n x7 σ = some (σo) → gS D (wm ad cz) A s.heap σ H locs → lv_has ls 9 [(0, .ref (ad 0)), (1, .ref (ad (fi + 1))), (2, .int x2), (3, .int x3), (4, .int x4), (5, .int x5), (6, .int x6), (7, .int x7)] → (∀ (H : Heap) (locs : List Loc) (ls : Array Slot), gS D (wm ad cz) A s.heap σo H locs → lv_has ls 9 [(0, .ref (ad 0)), (1, .ref (ad (fi + 1))), (2, .int x2), (3, .int x3), (4, .int x4), (5, .int x5), (6, .int x6)] → W p l e rm_X3_pushAll s m args below meth c H locs 0 0 Q (F0 m 240 ls [])) → W p l e rm_X3_pushAll s m args below meth c H locs 0 0 Q (F0 m 147 ls []) := by
    intro n
    induction n with
    | zero =>
      intro x2 x3 x4 x5 x6 x7 σ σo H locs ls h hg hl kk0
      rw [f_X3_pushAll_l147] at h
      cases h
    | succ n ih =>
      intro x2 x3 x4 x5 x6 x7 σ σo H locs ls h hg hl kk0
      rw [f_X3_pushAll_l147] at h
      refine lv_iload hx hb dX3_pushAll_147 (lv_at hl 7 rfl) ?_
      refine lv_iload_n hx hb dX3_pushAll_149 rfl (lv_at hl 2 rfl) ?_
      refine lv_icmp_eq (tgt := 240) hx hb dX3_pushAll_150 (by decide) (fun c57 => ?_) (fun c57 => ?_)
      · have h := fl_ifp c57 h
        obtain rfl := fl_s1 h
        exact kk0 H locs ls hg (lv_sub hl [0, 1, 2, 3, 4, 5, 6] rfl)
      · have h := fl_ifn c57 h
        refine lv_aload_n hx hb dX3_pushAll_153 rfl (lv_at hl 0 rfl) ?_
        refine va_get (D := D) (ci := 3) (v := .ref (ad 12)) (C := RX3) (T := TX3) (N := 16) hx hb hts k_1 hown hK.1 hg.1 0 rfl rfl 14 (by decide) k_0 (fun _ h9 => h9) rfl dX3_pushAll_154 ?_
        refine lv_iload hx hb dX3_pushAll_157 (lv_at hl 7 rfl) ?_
        obtain ⟨v58, i59, e60, h⟩ := fl_rd_b h
        refine g_ld (n := 10) (t0 := 11) hx hb hK hg (wm_a11 ad cz _) rfl i59 e60 dX3_pushAll_159 ?_
        obtain ⟨σ62, hB64, h⟩ := fl_bnd h
        have J63 : ∀ (H : Heap) (locs : List Loc) (ls : Array Slot), gS D (wm ad cz) A s.heap σ62 H locs → lv_has ls 9 [(0, .ref (ad 0)), (1, .ref (ad (fi + 1))), (2, .int x2), (3, .int x3), (4, .int x4), (5, .int x5), (6, .int x6), (7, .int x7)] → W p l e rm_X3_pushAll s m args below meth c H locs 0 0 Q (F0 m 196 ls []) := by
          intro H locs ls hg hl
          refine lv_aload_n hx hb dX3_pushAll_196 rfl (lv_at hl 0 rfl) ?_
          refine va_get (D := D) (ci := 3) (v := .ref (ad 12)) (C := RX3) (T := TX3) (N := 16) hx hb hts k_1 hown hK.1 hg.1 0 rfl rfl 14 (by decide) k_0 (fun _ h9 => h9) rfl dX3_pushAll_197 ?_
          refine lv_iload hx hb dX3_pushAll_200 (lv_at hl 7 rfl) ?_
          obtain ⟨v65, i66, e67, h⟩ := fl_rd_b h
          refine g_ld (n := 10) (t0 := 11) hx hb hK hg (wm_a11 ad cz _) rfl i66 e67 dX3_pushAll_202 ?_
          obtain ⟨t69, hB71, h⟩ := fl_bnd h
          have J70 : ∀ (H : Heap) (locs : List Loc) (ls : Array Slot), gS D (wm ad cz) A s.heap σ62 H locs → lv_has ls 9 [(0, .ref (ad 0)), (1, .ref (ad (fi + 1))), (2, .int x2), (3, .int x3), (4, .int x4), (5, .int x5), (6, .int x6)] → W p l e rm_X3_pushAll s m args below meth c H locs 0 0 Q (F0 m 235 ls [.int t69]) := by
            intro H locs ls hg hl
            refine lv_istore (lv' := [(7, .int t69), (0, .ref (ad 0)), (1, .ref (ad (fi + 1))), (2, .int x2), (3, .int x3), (4, .int x4), (5, .int x5), (6, .int x6)]) hx hb dX3_pushAll_235 hl (by decide) rfl (fun ls hl => ?_)
            refine lv_goto (tgt := 147) hx hb dX3_pushAll_237 (by decide) ?_
            exact ih _ _ _ _ _ _ _ _ _ _ _ h hg (lv_sub hl [1, 2, 3, 4, 5, 6, 7, 0] rfl) kk0
          clear h
          have h := hB71
          refine lv_if_lt (tgt := 221) hx hb dX3_pushAll_203 (by decide) (fun c68 => ?_) (fun c68 => ?_)
          · have h := fl_ifp c68 h
            refine lv_aload_n hx hb dX3_pushAll_221 rfl (lv_at hl 0 rfl) ?_
            refine va_get (D := D) (ci := 3) (v := .ref (ad 2)) (C := RX3) (T := TX3) (N := 16) hx hb hts k_1 hown hK.1 hg.1 0 rfl rfl 2 (by decide) k_2 (fun _ h9 => h9) rfl dX3_pushAll_222 ?_
            refine lv_iconst (v := (-1)) hx hb dX3_pushAll_225 (by decide) ?_
            refine lv_aload_n hx hb dX3_pushAll_226 rfl (lv_at hl 0 rfl) ?_
            refine va_get (D := D) (ci := 3) (v := .ref (ad 12)) (C := RX3) (T := TX3) (N := 16) hx hb hts k_1 hown hK.1 hg.1 0 rfl rfl 14 (by decide) k_0 (fun _ h9 => h9) rfl dX3_pushAll_227 ?_
            refine lv_iload hx hb dX3_pushAll_230 (lv_at hl 7 rfl) ?_
            obtain ⟨v72, i73, e74, h⟩ := fl_rd_b h
            refine g_ld (n := 10) (t0 := 11) hx hb hK hg (wm_a11 ad cz _) rfl i73 e74 dX3_pushAll_232 ?_
            refine lv_isub hx hb dX3_pushAll_233 ?_
            obtain ⟨v75, i76, e77, h⟩ := fl_rd_b h
            refine g_ld (n := 36) (t0 := 1) hx hb hK hg (wm_a1 ad cz _) rfl i76 e77 dX3_pushAll_234 ?_
            obtain rfl := fl_s1 h
            exact J70 H locs ls hg (lv_sub hl [0, 1, 2, 3, 4, 5, 6] rfl)
          · have h := fl_ifn c68 h
            refine lv_aload_n hx hb dX3_pushAll_206 rfl (lv_at hl 0 rfl) ?_
            refine va_get (D := D) (ci := 3) (v := .ref (ad 1)) (C := RX3) (T := TX3) (N := 16) hx hb hts k_1 hown hK.1 hg.1 0 rfl rfl 1 (by decide) k_3 (fun _ h9 => h9) rfl dX3_pushAll_207 ?_
            refine lv_aload_n hx hb dX3_pushAll_210 rfl (lv_at hl 0 rfl) ?_
            refine va_get (D := D) (ci := 3) (v := .ref (ad 12)) (C := RX3) (T := TX3) (N := 16) hx hb hts k_1 hown hK.1 hg.1 0 rfl rfl 14 (by decide) k_0 (fun _ h9 => h9) rfl dX3_pushAll_211 ?_
            refine lv_iload hx hb dX3_pushAll_214 (lv_at hl 7 rfl) ?_
            obtain ⟨v78, i79, e80, h⟩ := fl_rd_b h
            refine g_ld (n := 10) (t0 := 11) hx hb hK hg (wm_a11 ad cz _) rfl i79 e80 dX3_pushAll_216 ?_
            obtain ⟨v81, i82, e83, h⟩ := fl_rd_b h
            refine g_ld (n := 36) (t0 := 0) hx hb hK hg (wm_a0 ad cz _) rfl i82 e83 dX3_pushAll_217 ?_
            refine lv_goto (tgt := 235) hx hb dX3_pushAll_218 (by decide) ?_
            obtain rfl := fl_s1 h
            exact J70 H locs ls hg (lv_sub hl [0, 1, 2, 3, 4, 5, 6] rfl)
        clear h
        have h := hB64
        refine lv_if_lt (tgt := 180) hx hb dX3_pushAll_160 (by decide) (fun c61 => ?_) (fun c61 => ?_)
        · have h := fl_ifp c61 h
          refine lv_aload_n hx hb dX3_pushAll_180 rfl (lv_at hl 1 rfl) ?_
          refine lv_iconst (v := (-1)) hx hb dX3_pushAll_181 (by decide) ?_
          refine lv_aload_n hx hb dX3_pushAll_182 rfl (lv_at hl 0 rfl) ?_
          refine va_get (D := D) (ci := 3) (v := .ref (ad 12)) (C := RX3) (T := TX3) (N := 16) hx hb hts k_1 hown hK.1 hg.1 0 rfl rfl 14 (by decide) k_0 (fun _ h9 => h9) rfl dX3_pushAll_183 ?_
          refine lv_iload hx hb dX3_pushAll_186 (lv_at hl 7 rfl) ?_
          obtain ⟨v84, i85, e86, h⟩ := fl_rd_b h
          refine g_ld (n := 10) (t0 := 11) hx hb hK hg (wm_a11 ad cz _) rfl i85 e86 dX3_pushAll_188 ?_
          refine lv_isub hx hb dX3_pushAll_189 ?_
          refine lv_dup2_11 hx hb dX3_pushAll_190 rfl rfl ?_
          obtain ⟨v87, i88, e89, h⟩ := fl_rd_b h
          refine g_ld (n := 36) (t0 := fi) hx hb hK hg (wm_af hfi ad cz _) (wm_tf hfi cz) i88 e89 dX3_pushAll_191 ?_
          refine lv_iload hx hb dX3_pushAll_192 (lv_at hl 6 rfl) ?_
          refine lv_isub hx hb dX3_pushAll_194 ?_
          obtain ⟨σ90, i91, e92, h⟩ := fl_wr_b h
          refine g_st (n := 36) (t0 := fi) hx hb hK hg (wm_af hfi ad cz _) (wm_sf hfi ad cz _) (wm_tf hfi cz) i91 e92 dX3_pushAll_195 (fun H locs hg => ?_)
          obtain rfl := fl_s1 h
          exact J63 H locs ls hg (lv_sub hl [0, 1, 2, 3, 4, 5, 6, 7] rfl)
        · have h := fl_ifn c61 h
          refine lv_aload_n hx hb dX3_pushAll_163 rfl (lv_at hl 1 rfl) ?_
          refine lv_aload_n hx hb dX3_pushAll_164 rfl (lv_at hl 0 rfl) ?_
          refine va_get (D := D) (ci := 3) (v := .ref (ad 12)) (C := RX3) (T := TX3) (N := 16) hx hb hts k_1 hown hK.1 hg.1 0 rfl rfl 14 (by decide) k_0 (fun _ h9 => h9) rfl dX3_pushAll_165 ?_
          refine lv_iload hx hb dX3_pushAll_168 (lv_at hl 7 rfl) ?_
          obtain ⟨v93, i94, e95, h⟩ := fl_rd_b h
          refine g_ld (n := 10) (t0 := 11) hx hb hK hg (wm_a11 ad cz _) rfl i94 e95 dX3_pushAll_170 ?_
          refine lv_dup2_11 hx hb dX3_pushAll_171 rfl rfl ?_
          obtain ⟨v96, i97, e98, h⟩ := fl_rd_b h
          refine g_ld (n := 36) (t0 := fi) hx hb hK hg (wm_af hfi ad cz _) (wm_tf hfi cz) i97 e98 dX3_pushAll_172 ?_
          refine lv_iload hx hb dX3_pushAll_173 (lv_at hl 6 rfl) ?_
          refine lv_iadd hx hb dX3_pushAll_175 ?_
          obtain ⟨σ99, i100, e101, h⟩ := fl_wr_b h
          refine g_st (n := 36) (t0 := fi) hx hb hK hg (wm_af hfi ad cz _) (wm_sf hfi ad cz _) (wm_tf hfi cz) i100 e101 dX3_pushAll_176 (fun H locs hg => ?_)
          refine lv_goto (tgt := 196) hx hb dX3_pushAll_177 (by decide) ?_
          obtain rfl := fl_s1 h
          exact J63 H locs ls hg (lv_sub hl [0, 1, 2, 3, 4, 5, 6, 7] rfl)
  have L3 : ∀ (n : Nat) (x2 : Int32) (x3 : Int32) (x4 : Int32) (x5 : Int32) (σ : fl_St) (o5 : Int32) (σo : fl_St) (H : Heap) (locs : List Loc) (ls : Array Slot), f_X3_pushAll_l3 fi x2 x3 x4 n x5 σ = some (o5, σo) → gS D (wm ad cz) A s.heap σ H locs → lv_has ls 9 [(0, .ref (ad 0)), (1, .ref (ad (fi + 1))), (2, .int x2), (3, .int x3), (4, .int x4), (5, .int x5)] → (∀ (H : Heap) (locs : List Loc) (ls : Array Slot), gS D (wm ad cz) A s.heap σo H locs → lv_has ls 9 [(5, .int o5)] → W p l e rm_X3_pushAll s m args below meth c H locs 0 0 Q (F0 m 250 ls [])) → W p l e rm_X3_pushAll s m args below meth c H locs 0 0 Q (F0 m 3 ls []) := by
    intro n
    induction n with
    | zero =>
      intro x2 x3 x4 x5 σ o5 σo H locs ls h hg hl kk0
      rw [f_X3_pushAll_l3] at h
      cases h
    | succ n ih =>
      intro x2 x3 x4 x5 σ o5 σo H locs ls h hg hl kk0
      rw [f_X3_pushAll_l3] at h
      refine lv_iload hx hb dX3_pushAll_3 (lv_at hl 5 rfl) ?_
      refine lv_iload hx hb dX3_pushAll_5 (lv_at hl 4 rfl) ?_
      refine lv_icmp_ge (tgt := 250) hx hb dX3_pushAll_7 (by decide) (fun c1 => ?_) (fun c1 => ?_)
      · have h := fl_ifp c1 h
        obtain ⟨rfl, rfl⟩ := fl_s2 h
        exact kk0 H locs ls hg (lv_sub hl [5] rfl)
      · have h := fl_ifn c1 h
        refine lv_aload_n hx hb dX3_pushAll_10 rfl (lv_at hl 0 rfl) ?_
        refine lv_aload_n hx hb dX3_pushAll_11 rfl (lv_at hl 1 rfl) ?_
        refine lv_iload_n hx hb dX3_pushAll_12 rfl (lv_at hl 2 rfl) ?_
        refine lv_iload_n hx hb dX3_pushAll_13 rfl (lv_at hl 3 rfl) ?_
        obtain ⟨r3, σ4, e2, h⟩ := fl_b2_b h
        refine g_callVi (As := [.ref (ad (fi + 1)), .int x2, .int x3]) (rest := []) ⟨hx, hb, hml, hown, hts⟩ (c_X3_isReached l D ad cz (hfi) (x2) (x3) (σ) e2) (cwV 3 hts gX3_pushAll_X3_isReached rfl rfl rfl (by decide +kernel) ⟨Nat.le_of_ble_eq_true rfl, Nat.le_of_ble_eq_true rfl⟩) (va_recv hK.1 hg.1 (ci := 3) (q0 := 0) rfl rfl) hK hA hg rfl hl.1 rfl (Nat.le_of_ble_eq_true rfl) dX3_pushAll_14 ⟨Nat.le_of_ble_eq_true rfl, Nat.le_of_ble_eq_true rfl⟩ (fun H locs hg => ?_)
        refine lv_if_eq (tgt := 250) hx hb dX3_pushAll_17 (by decide) (fun c5 => ?_) (fun c5 => ?_)
        · have h := fl_ifp c5 h
          obtain ⟨rfl, rfl⟩ := fl_s2 h
          exact kk0 H locs ls hg (lv_sub hl [5] rfl)
        · have h := fl_ifn c5 h
          refine lv_iload hx hb dX3_pushAll_20 (lv_at hl 4 rfl) ?_
          refine lv_iload hx hb dX3_pushAll_22 (lv_at hl 5 rfl) ?_
          refine lv_isub hx hb dX3_pushAll_24 ?_
          refine lv_istore (lv' := [(6, .int (x4 - x5)), (0, .ref (ad 0)), (1, .ref (ad (fi + 1))), (2, .int x2), (3, .int x3), (4, .int x4), (5, .int x5)]) hx hb dX3_pushAll_25 hl (by decide) rfl (fun ls hl => ?_)
          refine lv_iload_n hx hb dX3_pushAll_27 rfl (lv_at hl 4 rfl) ?_
          refine lv_istore (lv' := [(7, .int x3), (6, .int (x4 - x5)), (0, .ref (ad 0)), (1, .ref (ad (fi + 1))), (2, .int x2), (3, .int x3), (4, .int x4), (5, .int x5)]) hx hb dX3_pushAll_28 hl (by decide) rfl (fun ls hl => ?_)
          obtain ⟨w55, hB56, h⟩ := fl_bnd h
          refine L30 fl_N _ _ _ _ _ _ _ _ H locs ls hB56 hg (lv_sub hl [2, 3, 4, 5, 6, 7, 1, 0] rfl) (fun H locs ls hg hl => ?_)
          refine lv_iload_n hx hb dX3_pushAll_144 rfl (lv_at hl 3 rfl) ?_
          refine lv_istore (lv' := [(7, .int x3), (0, .ref (ad 0)), (1, .ref (ad (fi + 1))), (2, .int x2), (3, .int x3), (4, .int x4), (5, .int x5), (6, .int w55)]) hx hb dX3_pushAll_145 hl (by decide) rfl (fun ls hl => ?_)
          obtain ⟨σ102, hB103, h⟩ := fl_bnd h
          refine L147 fl_N _ _ _ _ _ _ _ _ H locs ls hB103 hg (lv_sub hl [1, 2, 3, 4, 5, 6, 7, 0] rfl) (fun H locs ls hg hl => ?_)
          refine lv_iload hx hb dX3_pushAll_240 (lv_at hl 5 rfl) ?_
          refine lv_iload hx hb dX3_pushAll_242 (lv_at hl 6 rfl) ?_
          refine lv_iadd hx hb dX3_pushAll_244 ?_
          refine lv_istore (lv' := [(5, .int (x5 + w55)), (0, .ref (ad 0)), (1, .ref (ad (fi + 1))), (2, .int x2), (3, .int x3), (4, .int x4), (6, .int w55)]) hx hb dX3_pushAll_245 hl (by decide) rfl (fun ls hl => ?_)
          refine lv_goto (tgt := 3) hx hb dX3_pushAll_247 (by decide) ?_
          exact ih _ _ _ _ _ _ _ _ _ _ h hg (lv_sub hl [1, 2, 3, 4, 5, 0] rfl) kk0
  unfold f_X3_pushAll at h
  have W0 : ∀ (H : Heap) (locs : List Loc), gS D (wm ad cz) A s.heap σ H locs → W p l e rm_X3_pushAll s m args below meth c H locs 0 0 Q (F0 m 0 ls []) := by
    intro H locs hg
    refine lv_iconst (v := (0)) hx hb dX3_pushAll_0 (by decide) ?_
    refine lv_istore (lv' := [(5, .int (0)), (0, .ref (ad 0)), (1, .ref (ad (fi + 1))), (2, .int x2), (3, .int x3), (4, .int x4)]) hx hb dX3_pushAll_1 hl (by decide) rfl (fun ls hl => ?_)
    obtain ⟨w104, σ105, hB106, h⟩ := fl_b2_b h
    refine L3 fl_N _ _ _ _ _ _ _ H locs ls hB106 hg (lv_sub hl [1, 2, 3, 4, 5, 0] rfl) (fun H locs ls hg hl => ?_)
    refine lv_iload hx hb dX3_pushAll_250 (lv_at hl 0 rfl) ?_
    exact hret _ _ _ _ _ _ h hg rfl dX3_pushAll_252
  exact W0 _ _ hg
def f_X3_fill_l10 : Nat → Int32 → fl_St → Option (fl_St)
  | 0, _, _ => none
  | n + 1, x1, σ => if (8) ≤ x1 then (some (σ)) else ((fl_rd σ 4 8 x1).bind fun v4 => (if v4 ≤ 0 then ((fl_rd σ 4 8 x1).bind fun v11 => if 0 ≤ v11 then (some (σ)) else ((fl_rd σ 4 8 x1).bind fun v15 => (f_X3_lead x1 (9) (-v15) σ).bind fun σ19 => some (σ19))) else ((fl_rd σ 4 8 x1).bind fun v20 => (f_X3_lead (8) x1 v20 σ).bind fun σ24 => some (σ24))).bind fun (σ8 : fl_St) => f_X3_fill_l10 n (x1 + 1) σ8)
def f_X3_fill_l72 : Nat → Int32 → fl_St → Option (fl_St)
  | 0, _, _ => none
  | n + 1, x1, σ => if (σ 13 1) ≤ x1 then (some (σ)) else ((fl_wr σ 5 36 x1 (0)).bind fun σ28 => (fl_wr σ28 10 36 x1 (1)).bind fun σ31 => f_X3_fill_l72 n (x1 + 1) σ31)
def f_X3_fill (σ : fl_St) : Option (Int32 × fl_St) := (some (st σ 13 1 (σ 13 0))).bind fun σ1 => (f_X3_fill_l10 fl_N (0) σ1).bind fun (σ25 : fl_St) => (f_X3_fill_l72 fl_N (0) σ25).bind fun (σ34 : fl_St) => fl_b2 (f_X3_pushAll 5 (8) (9) (1000000) σ34) fun r37 σ38 => some (r37, σ38)
def rm_X3_fill : Room := { frames := 3, cells := 0, slots := 0, locals := 79 }
set_option maxHeartbeats 4000000 in
set_option maxRecDepth 100000 in
theorem c_X3_fill (l : Launch) (D : va_G) (ad : Nat → Nat) (cz : Nat → ClassId) (σ : fl_St) {r : Int32} {σ' : fl_St} (h : f_X3_fill σ = some (r, σ')) : gMi l yX3_fill wsX3_fill rm_X3_fill D (wm ad cz) (wmT cz) [] [.ref (ad 0)] σ r σ' := by
  refine gMi_of (cc := cX3_fill) (maxL := 2) (by decide) rfl (Nat.le_of_ble_eq_true rfl) ?_
  intro p e s m args below meth c A Q ls hx hb hml hown hts hK hA hg hl hret
  have hown : s.vm.findClass RX3 = some m.cls := hown
  have hl : lv_has ls 2 [(0, .ref (ad 0))] := hl
  have k_0 := hts (.fieldLink RX3 55 "FlowLedgerModel" "arcs" "I") (by decide +kernel)
  have k_1 := (by decide +kernel : ∀ w ∈ wsX30, w ∈ wsX3_fill)
  have k_2 := hts (.fieldLink RX3 61 "FlowLedgerModel" "all" "I") (by decide +kernel)
  have k_3 := hts (.fieldLink RX3 22 "FlowLedgerModel" "supplies" "[I") (by decide +kernel)
  have k_4 := hts (.fieldLink RX3 25 "FlowLedgerModel" "flow" "[I") (by decide +kernel)
  have k_5 := hts (.fieldLink RX3 41 "FlowLedgerModel" "allowed" "[Z") (by decide +kernel)
  have k_6 := hts (.constant RX3 60 (1000000)) (by decide +kernel)
  have L10 : ∀ (n : Nat) (x1 : Int32) (σ : fl_St) (σo : fl_St) (H : Heap) (locs : List Loc) (ls : Array Slot), f_X3_fill_l10 n x1 σ = some (σo) → gS D (wm ad cz) A s.heap σ H locs → lv_has ls 2 [(0, .ref (ad 0)), (1, .int x1)] → (∀ (H : Heap) (locs : List Loc) (ls : Array Slot), gS D (wm ad cz) A s.heap σo H locs → lv_has ls 2 [(0, .ref (ad 0))] → W p l e rm_X3_fill s m args below meth c H locs 0 0 Q (F0 m 70 ls [])) → W p l e rm_X3_fill s m args below meth c H locs 0 0 Q (F0 m 10 ls []) := by
    intro n
    induction n with
    | zero =>
      intro x1 σ σo H locs ls h hg hl kk0
      rw [f_X3_fill_l10] at h
      cases h
    | succ n ih =>
      intro x1 σ σo H locs ls h hg hl kk0
      rw [f_X3_fill_l10] at h
      refine lv_iload_n hx hb dX3_fill_10 rfl (lv_at hl 1 rfl) ?_
      refine lv_bipush (v := (8)) hx hb dX3_fill_11 (by decide) ?_
      refine lv_icmp_ge (tgt := 70) hx hb dX3_fill_13 (by decide) (fun c3 => ?_) (fun c3 => ?_)
      · have h := fl_ifp c3 h
        obtain rfl := fl_s1 h
        exact kk0 H locs ls hg (lv_sub hl [0] rfl)
      · have h := fl_ifn c3 h
        refine lv_aload_n hx hb dX3_fill_16 rfl (lv_at hl 0 rfl) ?_
        refine va_get (D := D) (ci := 3) (v := .ref (ad 5)) (C := RX3) (T := TX3) (N := 16) hx hb hts k_1 hown hK.1 hg.1 0 rfl rfl 5 (by decide) k_3 (fun _ h9 => h9) rfl dX3_fill_17 ?_
        refine lv_iload_n hx hb dX3_fill_20 rfl (lv_at hl 1 rfl) ?_
        obtain ⟨v4, i5, e6, h⟩ := fl_rd_b h
        refine g_ld (n := 8) (t0 := 4) hx hb hK hg (wm_a4 ad cz _) rfl i5 e6 dX3_fill_21 ?_
        obtain ⟨σ8, hB10, h⟩ := fl_bnd h
        have J9 : ∀ (H : Heap) (locs : List Loc) (ls : Array Slot), gS D (wm ad cz) A s.heap σ8 H locs → lv_has ls 2 [(0, .ref (ad 0)), (1, .int x1)] → W p l e rm_X3_fill s m args below meth c H locs 0 0 Q (F0 m 64 ls []) := by
          intro H locs ls hg hl
          refine lv_iinc (v := (x1 + 1)) (lv' := [(1, .int (x1 + 1)), (0, .ref (ad 0))]) hx hb dX3_fill_64 hl (k := 1) rfl rfl (by decide) rfl (fun ls hl => ?_)
          refine lv_goto (tgt := 10) hx hb dX3_fill_67 (by decide) ?_
          exact ih _ _ _ _ _ _ h hg (lv_sub hl [1, 0] rfl) kk0
        clear h
        have h := hB10
        refine lv_if_le (tgt := 41) hx hb dX3_fill_22 (by decide) (fun c7 => ?_) (fun c7 => ?_)
        · have h := fl_ifp c7 h
          refine lv_aload_n hx hb dX3_fill_41 rfl (lv_at hl 0 rfl) ?_
          refine va_get (D := D) (ci := 3) (v := .ref (ad 5)) (C := RX3) (T := TX3) (N := 16) hx hb hts k_1 hown hK.1 hg.1 0 rfl rfl 5 (by decide) k_3 (fun _ h9 => h9) rfl dX3_fill_42 ?_
          refine lv_iload_n hx hb dX3_fill_45 rfl (lv_at hl 1 rfl) ?_
          obtain ⟨v11, i12, e13, h⟩ := fl_rd_b h
          refine g_ld (n := 8) (t0 := 4) hx hb hK hg (wm_a4 ad cz _) rfl i12 e13 dX3_fill_46 ?_
          refine lv_if_ge (tgt := 64) hx hb dX3_fill_47 (by decide) (fun c14 => ?_) (fun c14 => ?_)
          · have h := fl_ifp c14 h
            obtain rfl := fl_s1 h
            exact J9 H locs ls hg (lv_sub hl [0, 1] rfl)
          · have h := fl_ifn c14 h
            refine lv_aload_n hx hb dX3_fill_50 rfl (lv_at hl 0 rfl) ?_
            refine lv_iload_n hx hb dX3_fill_51 rfl (lv_at hl 1 rfl) ?_
            refine lv_bipush (v := (9)) hx hb dX3_fill_52 (by decide) ?_
            refine lv_aload_n hx hb dX3_fill_54 rfl (lv_at hl 0 rfl) ?_
            refine va_get (D := D) (ci := 3) (v := .ref (ad 5)) (C := RX3) (T := TX3) (N := 16) hx hb hts k_1 hown hK.1 hg.1 0 rfl rfl 5 (by decide) k_3 (fun _ h9 => h9) rfl dX3_fill_55 ?_
            refine lv_iload_n hx hb dX3_fill_58 rfl (lv_at hl 1 rfl) ?_
            obtain ⟨v15, i16, e17, h⟩ := fl_rd_b h
            refine g_ld (n := 8) (t0 := 4) hx hb hK hg (wm_a4 ad cz _) rfl i16 e17 dX3_fill_59 ?_
            refine lv_ineg hx hb dX3_fill_60 ?_
            obtain ⟨σ19, e18, h⟩ := fl_bnd h
            refine g_callVv (As := [.int x1, .int (9), .int (-v15)]) (rest := []) ⟨hx, hb, hml, hown, hts⟩ (c_X3_lead l D ad cz (x1) ((9)) ((-v15)) (σ) e18) (cwV 3 hts gX3_fill_X3_lead rfl rfl rfl (by decide +kernel) ⟨Nat.le_of_ble_eq_true rfl, Nat.le_of_ble_eq_true rfl⟩) (va_recv hK.1 hg.1 (ci := 3) (q0 := 0) rfl rfl) hK hA hg rfl hl.1 rfl (Nat.le_of_ble_eq_true rfl) dX3_fill_61 ⟨Nat.le_of_ble_eq_true rfl, Nat.le_of_ble_eq_true rfl⟩ (fun H locs hg => ?_)
            obtain rfl := fl_s1 h
            exact J9 H locs ls hg (lv_sub hl [0, 1] rfl)
        · have h := fl_ifn c7 h
          refine lv_aload_n hx hb dX3_fill_25 rfl (lv_at hl 0 rfl) ?_
          refine lv_bipush (v := (8)) hx hb dX3_fill_26 (by decide) ?_
          refine lv_iload_n hx hb dX3_fill_28 rfl (lv_at hl 1 rfl) ?_
          refine lv_aload_n hx hb dX3_fill_29 rfl (lv_at hl 0 rfl) ?_
          refine va_get (D := D) (ci := 3) (v := .ref (ad 5)) (C := RX3) (T := TX3) (N := 16) hx hb hts k_1 hown hK.1 hg.1 0 rfl rfl 5 (by decide) k_3 (fun _ h9 => h9) rfl dX3_fill_30 ?_
          refine lv_iload_n hx hb dX3_fill_33 rfl (lv_at hl 1 rfl) ?_
          obtain ⟨v20, i21, e22, h⟩ := fl_rd_b h
          refine g_ld (n := 8) (t0 := 4) hx hb hK hg (wm_a4 ad cz _) rfl i21 e22 dX3_fill_34 ?_
          obtain ⟨σ24, e23, h⟩ := fl_bnd h
          refine g_callVv (As := [.int (8), .int x1, .int v20]) (rest := []) ⟨hx, hb, hml, hown, hts⟩ (c_X3_lead l D ad cz ((8)) (x1) (v20) (σ) e23) (cwV 3 hts gX3_fill_X3_lead rfl rfl rfl (by decide +kernel) ⟨Nat.le_of_ble_eq_true rfl, Nat.le_of_ble_eq_true rfl⟩) (va_recv hK.1 hg.1 (ci := 3) (q0 := 0) rfl rfl) hK hA hg rfl hl.1 rfl (Nat.le_of_ble_eq_true rfl) dX3_fill_35 ⟨Nat.le_of_ble_eq_true rfl, Nat.le_of_ble_eq_true rfl⟩ (fun H locs hg => ?_)
          refine lv_goto (tgt := 64) hx hb dX3_fill_38 (by decide) ?_
          obtain rfl := fl_s1 h
          exact J9 H locs ls hg (lv_sub hl [0, 1] rfl)
  have L72 : ∀ (n : Nat) (x1 : Int32) (σ : fl_St) (σo : fl_St) (H : Heap) (locs : List Loc) (ls : Array Slot), f_X3_fill_l72 n x1 σ = some (σo) → gS D (wm ad cz) A s.heap σ H locs → lv_has ls 2 [(0, .ref (ad 0)), (1, .int x1)] → (∀ (H : Heap) (locs : List Loc) (ls : Array Slot), gS D (wm ad cz) A s.heap σo H locs → lv_has ls 2 [(0, .ref (ad 0))] → W p l e rm_X3_fill s m args below meth c H locs 0 0 Q (F0 m 100 ls [])) → W p l e rm_X3_fill s m args below meth c H locs 0 0 Q (F0 m 72 ls []) := by
    intro n
    induction n with
    | zero =>
      intro x1 σ σo H locs ls h hg hl kk0
      rw [f_X3_fill_l72] at h
      cases h
    | succ n ih =>
      intro x1 σ σo H locs ls h hg hl kk0
      rw [f_X3_fill_l72] at h
      refine lv_iload_n hx hb dX3_fill_72 rfl (lv_at hl 1 rfl) ?_
      refine lv_aload_n hx hb dX3_fill_73 rfl (lv_at hl 0 rfl) ?_
      refine va_get (D := D) (ci := 3) (v := .int (σ 13 1)) (C := RX3) (T := TX3) (N := 16) hx hb hts k_1 hown hK.1 hg.1 0 rfl rfl 8 (by decide) k_2 (fun _ h9 => h9) rfl dX3_fill_74 ?_
      refine lv_icmp_ge (tgt := 100) hx hb dX3_fill_77 (by decide) (fun c27 => ?_) (fun c27 => ?_)
      · have h := fl_ifp c27 h
        obtain rfl := fl_s1 h
        exact kk0 H locs ls hg (lv_sub hl [0] rfl)
      · have h := fl_ifn c27 h
        refine lv_aload_n hx hb dX3_fill_80 rfl (lv_at hl 0 rfl) ?_
        refine va_get (D := D) (ci := 3) (v := .ref (ad 6)) (C := RX3) (T := TX3) (N := 16) hx hb hts k_1 hown hK.1 hg.1 0 rfl rfl 6 (by decide) k_4 (fun _ h9 => h9) rfl dX3_fill_81 ?_
        refine lv_iload_n hx hb dX3_fill_84 rfl (lv_at hl 1 rfl) ?_
        refine lv_iconst (v := (0)) hx hb dX3_fill_85 (by decide) ?_
        obtain ⟨σ28, i29, e30, h⟩ := fl_wr_b h
        refine g_st (n := 36) (t0 := 5) hx hb hK hg (wm_a5 ad cz _) (wm_s5 ad cz _) rfl i29 e30 dX3_fill_86 (fun H locs hg => ?_)
        refine lv_aload_n hx hb dX3_fill_87 rfl (lv_at hl 0 rfl) ?_
        refine va_get (D := D) (ci := 3) (v := .ref (ad 11)) (C := RX3) (T := TX3) (N := 16) hx hb hts k_1 hown hK.1 hg.1 0 rfl rfl 12 (by decide) k_5 (fun _ h9 => h9) rfl dX3_fill_88 ?_
        refine lv_iload_n hx hb dX3_fill_91 rfl (lv_at hl 1 rfl) ?_
        refine lv_iconst (v := (1)) hx hb dX3_fill_92 (by decide) ?_
        obtain ⟨σ31, i32, e33, h⟩ := fl_wr_b h
        refine g_stz (n := 36) (t0 := 10) hx hb hK hg (wm_a10 ad cz _) (wm_s10 ad cz _) rfl rfl i32 e33 dX3_fill_93 (fun H locs hg => ?_)
        refine lv_iinc (v := (x1 + 1)) (lv' := [(1, .int (x1 + 1)), (0, .ref (ad 0))]) hx hb dX3_fill_94 hl (k := 1) rfl rfl (by decide) rfl (fun ls hl => ?_)
        refine lv_goto (tgt := 72) hx hb dX3_fill_97 (by decide) ?_
        exact ih _ _ _ _ _ _ h hg (lv_sub hl [1, 0] rfl) kk0
  unfold f_X3_fill at h
  have W0 : ∀ (H : Heap) (locs : List Loc), gS D (wm ad cz) A s.heap σ H locs → W p l e rm_X3_fill s m args below meth c H locs 0 0 Q (F0 m 0 ls []) := by
    intro H locs hg
    refine lv_aload_n hx hb dX3_fill_0 rfl (lv_at hl 0 rfl) ?_
    refine lv_aload_n hx hb dX3_fill_1 rfl (lv_at hl 0 rfl) ?_
    refine va_get (D := D) (ci := 3) (v := .int (σ 13 0)) (C := RX3) (T := TX3) (N := 16) hx hb hts k_1 hown hK.1 hg.1 0 rfl rfl 0 (by decide) k_0 (fun _ h9 => h9) rfl dX3_fill_2 ?_
    obtain ⟨σ1, e2, h⟩ := fl_bnd h
    have e2 := fl_s1 e2
    refine g_put (σ' := σ1) (ci := 3) (C := RX3) (T := TX3) (N := 16) (z := (σ 13 0)) hx hb hts k_1 tyX3 tyX3_ok nmX3 hown hK hg 0 rfl rfl 8 (by decide) k_2 (fun _ h9 => h9) rfl (by decide +kernel) (Nat.le_of_ble_eq_true rfl) (by rw [← e2]; exact wm_c1 ad cz _ _) dX3_fill_5 (fun H locs hg => ?_)
    refine lv_iconst (v := (0)) hx hb dX3_fill_8 (by decide) ?_
    refine lv_istore_n (lv' := [(1, .int (0)), (0, .ref (ad 0))]) hx hb dX3_fill_9 rfl hl (by decide) rfl (fun ls hl => ?_)
    obtain ⟨σ25, hB26, h⟩ := fl_bnd h
    refine L10 fl_N _ _ _ H locs ls hB26 hg (lv_sub hl [1, 0] rfl) (fun H locs ls hg hl => ?_)
    refine lv_iconst (v := (0)) hx hb dX3_fill_70 (by decide) ?_
    refine lv_istore_n (lv' := [(1, .int (0)), (0, .ref (ad 0))]) hx hb dX3_fill_71 rfl hl (by decide) rfl (fun ls hl => ?_)
    obtain ⟨σ34, hB35, h⟩ := fl_bnd h
    refine L72 fl_N _ _ _ H locs ls hB35 hg (lv_sub hl [1, 0] rfl) (fun H locs ls hg hl => ?_)
    refine lv_aload_n hx hb dX3_fill_100 rfl (lv_at hl 0 rfl) ?_
    refine lv_aload_n hx hb dX3_fill_101 rfl (lv_at hl 0 rfl) ?_
    refine va_get (D := D) (ci := 3) (v := .ref (ad 6)) (C := RX3) (T := TX3) (N := 16) hx hb hts k_1 hown hK.1 hg.1 0 rfl rfl 6 (by decide) k_4 (fun _ h9 => h9) rfl dX3_fill_102 ?_
    refine lv_bipush (v := (8)) hx hb dX3_fill_105 (by decide) ?_
    refine lv_bipush (v := (9)) hx hb dX3_fill_107 (by decide) ?_
    refine lv_ldc hx hb hown k_6 dX3_fill_109 ?_
    obtain ⟨r37, σ38, e36, h⟩ := fl_b2_b h
    refine g_callVi (As := [.ref (ad 6), .int (8), .int (9), .int (1000000)]) (rest := []) ⟨hx, hb, hml, hown, hts⟩ (c_X3_pushAll l D ad cz (Or.inl rfl) ((8)) ((9)) ((1000000)) (σ34) e36) (cwV 4 hts gX3_fill_X3_pushAll rfl rfl rfl (by decide +kernel) ⟨Nat.le_of_ble_eq_true rfl, Nat.le_of_ble_eq_true rfl⟩) (va_recv hK.1 hg.1 (ci := 3) (q0 := 0) rfl rfl) hK hA hg rfl hl.1 rfl (Nat.le_of_ble_eq_true rfl) dX3_fill_111 ⟨Nat.le_of_ble_eq_true rfl, Nat.le_of_ble_eq_true rfl⟩ (fun H locs hg => ?_)
    exact hret _ _ _ _ _ _ h hg rfl dX3_fill_114
  exact W0 _ _ hg
def f_X3_amount (σ : fl_St) : Option (Int32 × fl_St) := fl_b2 (f_X3_fill  σ) fun r2 σ3 => some (r2, σ3)
def rm_X3_amount : Room := { frames := 4, cells := 0, slots := 0, locals := 100 }
set_option maxHeartbeats 4000000 in
set_option maxRecDepth 100000 in
theorem c_X3_amount (l : Launch) (D : va_G) (ad : Nat → Nat) (cz : Nat → ClassId) (σ : fl_St) {r : Int32} {σ' : fl_St} (h : f_X3_amount σ = some (r, σ')) : gMi l yX3_amount wsX3_amount rm_X3_amount D (wm ad cz) (wmT cz) [] [.ref (ad 0)] σ r σ' := by
  refine gMi_of (cc := cX3_amount) (maxL := 1) (by decide) rfl (Nat.le_of_ble_eq_true rfl) ?_
  intro p e s m args below meth c A Q ls hx hb hml hown hts hK hA hg hl hret
  have hown : s.vm.findClass RX3 = some m.cls := hown
  have hl : lv_has ls 1 [(0, .ref (ad 0))] := hl
  unfold f_X3_amount at h
  have W0 : ∀ (H : Heap) (locs : List Loc), gS D (wm ad cz) A s.heap σ H locs → W p l e rm_X3_amount s m args below meth c H locs 0 0 Q (F0 m 0 ls []) := by
    intro H locs hg
    refine lv_aload_n hx hb dX3_amount_0 rfl (lv_at hl 0 rfl) ?_
    obtain ⟨r2, σ3, e1, h⟩ := fl_b2_b h
    refine g_callVi (As := []) (rest := []) ⟨hx, hb, hml, hown, hts⟩ (c_X3_fill l D ad cz (σ) e1) (cwV 0 hts gX3_amount_X3_fill rfl rfl rfl (by decide +kernel) ⟨Nat.le_of_ble_eq_true rfl, Nat.le_of_ble_eq_true rfl⟩) (va_recv hK.1 hg.1 (ci := 3) (q0 := 0) rfl rfl) hK hA hg rfl hl.1 rfl (Nat.le_of_ble_eq_true rfl) dX3_amount_1 ⟨Nat.le_of_ble_eq_true rfl, Nat.le_of_ble_eq_true rfl⟩ (fun H locs hg => ?_)
    exact hret _ _ _ _ _ _ h hg rfl dX3_amount_4
  exact W0 _ _ hg
def f_X3_bottleneck_l20 (x1 : Int32) (x2 : Int32) (x3 : Int32) (σ : fl_St) : Nat → Int32 → Int32 → Option (Int32)
  | 0, _, _ => none
  | n + 1, x4, x5 => if (8) ≤ x5 then (some (x4)) else ((if ((x3 >>> (x5 &&& 31)) &&& (1)) = (1) then (some ((1))) else (some ((0)))).bind fun (t4 : Int32) => (if t4 = 0 then ((fl_rd σ 4 8 x5).bind fun v19 => if v19 ≤ 0 then (if t4 = 0 then (some ((0))) else ((fl_rd σ 4 8 x5).bind fun v24 => if 0 ≤ v24 then (some ((0))) else ((fl_rd σ 4 8 x5).bind fun v28 => some ((-v28))))) else ((fl_rd σ 4 8 x5).bind fun v31 => some (v31))) else (if t4 = 0 then (some ((0))) else ((fl_rd σ 4 8 x5).bind fun v12 => if 0 ≤ v12 then (some ((0))) else ((fl_rd σ 4 8 x5).bind fun v16 => some ((-v16)))))).bind fun (t8 : Int32) => f_X3_bottleneck_l20 x1 x2 x3 σ n (x4 + t8) (x5 + 1))
def f_X3_bottleneck_l110 (x1 : Int32) (x2 : Int32) (x3 : Int32) (σ : fl_St) : Nat → Int32 → Int32 → Option (Int32)
  | 0, _, _ => none
  | n + 1, x4, x5 => if (σ 13 0) ≤ x5 then (some (x4)) else ((fl_rd σ 0 36 x5).bind fun v37 => (if ((x3 >>> (v37 &&& 31)) &&& (1)) = (1) then ((fl_rd σ 1 36 x5).bind fun v51 => if ((x3 >>> (v51 &&& 31)) &&& (1)) = 0 then (some ((1))) else (some ((0)))) else (some ((0)))).bind fun (t41 : Int32) => (if t41 = 0 then (some ((0))) else ((fl_rd σ 2 36 x5).bind fun v48 => some (v48))).bind fun (t45 : Int32) => f_X3_bottleneck_l110 x1 x2 x3 σ n (x4 + t45) (x5 + 1))
def f_X3_bottleneck_l7 (σ : fl_St) : Nat → Int32 → Int32 → Int32 → Option (Int32)
  | 0, _, _, _ => none
  | n + 1, x1, x2, x3 => if (256) ≤ x3 then (some (x1)) else ((f_X3_bottleneck_l20 x1 x2 x3 σ fl_N (0) (0)).bind fun (w34 : Int32) => (f_X3_bottleneck_l110 x1 x2 x3 σ fl_N w34 (0)).bind fun (w55 : Int32) => fl_b2 (if (500000) ≤ w55 then (some (x1, x2)) else (if x1 = (-1000004) then (some (x3, w55)) else (if x2 ≤ w55 then (if w55 = x2 then (some ((x1 &&& x3), x2)) else (some (x1, x2))) else (some (x3, w55))))) fun (w58 : Int32) (w59 : Int32) => f_X3_bottleneck_l7 σ n w58 w59 (x3 + 1))
def f_X3_bottleneck (σ : fl_St) : Option (Int32) := (f_X3_bottleneck_l7 σ fl_N (-1000004) (0) (0)).bind fun (w65 : Int32) => some w65
def rm_X3_bottleneck : Room := { frames := 0, cells := 0, slots := 0, locals := 0 }
set_option maxHeartbeats 4000000 in
set_option maxRecDepth 100000 in
theorem c_X3_bottleneck (l : Launch) (D : va_G) (ad : Nat → Nat) (cz : Nat → ClassId) (σ : fl_St) {r : Int32} (h : f_X3_bottleneck σ = some r) : gMi l yX3_bottleneck wsX3_bottleneck rm_X3_bottleneck D (wm ad cz) (wmT cz) [] [.ref (ad 0)] σ r σ := by
  refine gMi_of (cc := cX3_bottleneck) (maxL := 7) (by decide) rfl (Nat.le_of_ble_eq_true rfl) ?_
  intro p e s m args below meth c A Q ls hx hb hml hown hts hK hA hg hl hret
  have hown : s.vm.findClass RX3 = some m.cls := hown
  have hl : lv_has ls 7 [(0, .ref (ad 0))] := hl
  have k_0 := hts (.constant RX3 84 (-1000004)) (by decide +kernel)
  have k_1 := hts (.fieldLink RX3 22 "FlowLedgerModel" "supplies" "[I") (by decide +kernel)
  have k_2 := (by decide +kernel : ∀ w ∈ wsX30, w ∈ wsX3_bottleneck)
  have k_3 := hts (.fieldLink RX3 55 "FlowLedgerModel" "arcs" "I") (by decide +kernel)
  have k_4 := hts (.fieldLink RX3 7 "FlowLedgerModel" "froms" "[I") (by decide +kernel)
  have k_5 := hts (.fieldLink RX3 16 "FlowLedgerModel" "capacities" "[I") (by decide +kernel)
  have k_6 := hts (.fieldLink RX3 13 "FlowLedgerModel" "tos" "[I") (by decide +kernel)
  have k_7 := hts (.constant RX3 85 (500000)) (by decide +kernel)
  have L20 : ∀ (n : Nat) (x1 : Int32) (x2 : Int32) (x3 : Int32) (σ : fl_St) (x4 : Int32) (x5 : Int32) (o4 : Int32) (H : Heap) (locs : List Loc) (ls : Array Slot), f_X3_bottleneck_l20 x1 x2 x3 σ n x4 x5 = some (o4) → gS D (wm ad cz) A s.heap σ H locs → lv_has ls 7 [(0, .ref (ad 0)), (1, .int x1), (2, .int x2), (3, .int x3), (4, .int x4), (5, .int x5)] → (∀ (H : Heap) (locs : List Loc) (ls : Array Slot), gS D (wm ad cz) A s.heap σ H locs → lv_has ls 7 [(0, .ref (ad 0)), (1, .int x1), (2, .int x2), (3, .int x3), (4, .int o4)] → W p l e rm_X3_bottleneck s m args below meth c H locs 0 0 Q (F0 m 107 ls [])) → W p l e rm_X3_bottleneck s m args below meth c H locs 0 0 Q (F0 m 20 ls []) := by
    intro n
    induction n with
    | zero =>
      intro x1 x2 x3 σ x4 x5 o4 H locs ls h hg hl kk0
      rw [f_X3_bottleneck_l20] at h
      cases h
    | succ n ih =>
      intro x1 x2 x3 σ x4 x5 o4 H locs ls h hg hl kk0
      rw [f_X3_bottleneck_l20] at h
      refine lv_iload hx hb dX3_bottleneck_20 (lv_at hl 5 rfl) ?_
      refine lv_bipush (v := (8)) hx hb dX3_bottleneck_22 (by decide) ?_
      refine lv_icmp_ge (tgt := 107) hx hb dX3_bottleneck_24 (by decide) (fun c2 => ?_) (fun c2 => ?_)
      · have h := fl_ifp c2 h
        obtain rfl := fl_s1 h
        exact kk0 H locs ls hg (lv_sub hl [0, 1, 2, 3, 4] rfl)
      · have h := fl_ifn c2 h
        refine lv_iload_n hx hb dX3_bottleneck_27 rfl (lv_at hl 3 rfl) ?_
        refine lv_iload hx hb dX3_bottleneck_28 (lv_at hl 5 rfl) ?_
        refine lv_ishr hx hb dX3_bottleneck_30 ?_
        refine lv_iconst (v := (1)) hx hb dX3_bottleneck_31 (by decide) ?_
        refine lv_iand hx hb dX3_bottleneck_32 ?_
        refine lv_iconst (v := (1)) hx hb dX3_bottleneck_33 (by decide) ?_
        obtain ⟨t4, hB6, h⟩ := fl_bnd h
        have J5 : ∀ (H : Heap) (locs : List Loc) (ls : Array Slot), gS D (wm ad cz) A s.heap σ H locs → lv_has ls 7 [(0, .ref (ad 0)), (1, .int x1), (2, .int x2), (3, .int x3), (4, .int x4), (5, .int x5)] → W p l e rm_X3_bottleneck s m args below meth c H locs 0 0 Q (F0 m 42 ls [.int t4]) := by
          intro H locs ls hg hl
          refine lv_istore (lv' := [(6, .int t4), (0, .ref (ad 0)), (1, .int x1), (2, .int x2), (3, .int x3), (4, .int x4), (5, .int x5)]) hx hb dX3_bottleneck_42 hl (by decide) rfl (fun ls hl => ?_)
          refine lv_iload hx hb dX3_bottleneck_44 (lv_at hl 5 rfl) ?_
          refine lv_iload hx hb dX3_bottleneck_46 (lv_at hl 0 rfl) ?_
          obtain ⟨t8, hB10, h⟩ := fl_bnd h
          have J9 : ∀ (H : Heap) (locs : List Loc) (ls : Array Slot), gS D (wm ad cz) A s.heap σ H locs → lv_has ls 7 [(0, .ref (ad 0)), (1, .int x1), (2, .int x2), (3, .int x3), (5, .int x5)] → W p l e rm_X3_bottleneck s m args below meth c H locs 0 0 Q (F0 m 98 ls [.int t8, .int x4]) := by
            intro H locs ls hg hl
            refine lv_iadd hx hb dX3_bottleneck_98 ?_
            refine lv_istore (lv' := [(4, .int (x4 + t8)), (0, .ref (ad 0)), (1, .int x1), (2, .int x2), (3, .int x3), (5, .int x5)]) hx hb dX3_bottleneck_99 hl (by decide) rfl (fun ls hl => ?_)
            refine lv_iinc (v := (x5 + 1)) (lv' := [(5, .int (x5 + 1)), (4, .int (x4 + t8)), (0, .ref (ad 0)), (1, .int x1), (2, .int x2), (3, .int x3)]) hx hb dX3_bottleneck_101 hl (k := 5) rfl rfl (by decide) rfl (fun ls hl => ?_)
            refine lv_goto (tgt := 20) hx hb dX3_bottleneck_104 (by decide) ?_
            exact ih _ _ _ _ _ _ _ _ _ _ h hg (lv_sub hl [2, 3, 4, 5, 1, 0] rfl) kk0
          clear h
          have h := hB10
          refine lv_if_ne (tgt := 71) hx hb dX3_bottleneck_48 (by decide) (fun c7 => ?_) (fun c7 => ?_)
          · have h := fl_ifn c7 h
            refine lv_iload hx hb dX3_bottleneck_71 (lv_at hl 0 rfl) ?_
            refine lv_if_eq (tgt := 97) hx hb dX3_bottleneck_73 (by decide) (fun c11 => ?_) (fun c11 => ?_)
            · have h := fl_ifp c11 h
              refine lv_iconst (v := (0)) hx hb dX3_bottleneck_97 (by decide) ?_
              obtain rfl := fl_s1 h
              exact J9 H locs ls hg (lv_sub hl [1, 2, 3, 4, 6] rfl)
            · have h := fl_ifn c11 h
              refine lv_aload_n hx hb dX3_bottleneck_76 rfl (lv_at hl 1 rfl) ?_
              refine va_get (D := D) (ci := 3) (v := .ref (ad 5)) (C := RX3) (T := TX3) (N := 16) hx hb hts k_2 hown hK.1 hg.1 0 rfl rfl 5 (by decide) k_1 (fun _ h9 => h9) rfl dX3_bottleneck_77 ?_
              refine lv_iload hx hb dX3_bottleneck_80 (lv_at hl 6 rfl) ?_
              obtain ⟨v12, i13, e14, h⟩ := fl_rd_b h
              refine g_ld (n := 8) (t0 := 4) hx hb hK hg (wm_a4 ad cz _) rfl i13 e14 dX3_bottleneck_82 ?_
              refine lv_if_ge (tgt := 97) hx hb dX3_bottleneck_83 (by decide) (fun c15 => ?_) (fun c15 => ?_)
              · have h := fl_ifp c15 h
                refine lv_iconst (v := (0)) hx hb dX3_bottleneck_97 (by decide) ?_
                obtain rfl := fl_s1 h
                exact J9 H locs ls hg (lv_sub hl [1, 2, 3, 4, 6] rfl)
              · have h := fl_ifn c15 h
                refine lv_aload_n hx hb dX3_bottleneck_86 rfl (lv_at hl 1 rfl) ?_
                refine va_get (D := D) (ci := 3) (v := .ref (ad 5)) (C := RX3) (T := TX3) (N := 16) hx hb hts k_2 hown hK.1 hg.1 0 rfl rfl 5 (by decide) k_1 (fun _ h9 => h9) rfl dX3_bottleneck_87 ?_
                refine lv_iload hx hb dX3_bottleneck_90 (lv_at hl 6 rfl) ?_
                obtain ⟨v16, i17, e18, h⟩ := fl_rd_b h
                refine g_ld (n := 8) (t0 := 4) hx hb hK hg (wm_a4 ad cz _) rfl i17 e18 dX3_bottleneck_92 ?_
                refine lv_ineg hx hb dX3_bottleneck_93 ?_
                refine lv_goto (tgt := 98) hx hb dX3_bottleneck_94 (by decide) ?_
                obtain rfl := fl_s1 h
                exact J9 H locs ls hg (lv_sub hl [1, 2, 3, 4, 6] rfl)
          · have h := fl_ifp c7 h
            refine lv_aload_n hx hb dX3_bottleneck_51 rfl (lv_at hl 1 rfl) ?_
            refine va_get (D := D) (ci := 3) (v := .ref (ad 5)) (C := RX3) (T := TX3) (N := 16) hx hb hts k_2 hown hK.1 hg.1 0 rfl rfl 5 (by decide) k_1 (fun _ h9 => h9) rfl dX3_bottleneck_52 ?_
            refine lv_iload hx hb dX3_bottleneck_55 (lv_at hl 6 rfl) ?_
            obtain ⟨v19, i20, e21, h⟩ := fl_rd_b h
            refine g_ld (n := 8) (t0 := 4) hx hb hK hg (wm_a4 ad cz _) rfl i20 e21 dX3_bottleneck_57 ?_
            refine lv_if_le (tgt := 71) hx hb dX3_bottleneck_58 (by decide) (fun c22 => ?_) (fun c22 => ?_)
            · have h := fl_ifp c22 h
              refine lv_iload hx hb dX3_bottleneck_71 (lv_at hl 0 rfl) ?_
              refine lv_if_eq (tgt := 97) hx hb dX3_bottleneck_73 (by decide) (fun c23 => ?_) (fun c23 => ?_)
              · have h := fl_ifp c23 h
                refine lv_iconst (v := (0)) hx hb dX3_bottleneck_97 (by decide) ?_
                obtain rfl := fl_s1 h
                exact J9 H locs ls hg (lv_sub hl [1, 2, 3, 4, 6] rfl)
              · have h := fl_ifn c23 h
                refine lv_aload_n hx hb dX3_bottleneck_76 rfl (lv_at hl 1 rfl) ?_
                refine va_get (D := D) (ci := 3) (v := .ref (ad 5)) (C := RX3) (T := TX3) (N := 16) hx hb hts k_2 hown hK.1 hg.1 0 rfl rfl 5 (by decide) k_1 (fun _ h9 => h9) rfl dX3_bottleneck_77 ?_
                refine lv_iload hx hb dX3_bottleneck_80 (lv_at hl 6 rfl) ?_
                obtain ⟨v24, i25, e26, h⟩ := fl_rd_b h
                refine g_ld (n := 8) (t0 := 4) hx hb hK hg (wm_a4 ad cz _) rfl i25 e26 dX3_bottleneck_82 ?_
                refine lv_if_ge (tgt := 97) hx hb dX3_bottleneck_83 (by decide) (fun c27 => ?_) (fun c27 => ?_)
                · have h := fl_ifp c27 h
                  refine lv_iconst (v := (0)) hx hb dX3_bottleneck_97 (by decide) ?_
                  obtain rfl := fl_s1 h
                  exact J9 H locs ls hg (lv_sub hl [1, 2, 3, 4, 6] rfl)
                · have h := fl_ifn c27 h
                  refine lv_aload_n hx hb dX3_bottleneck_86 rfl (lv_at hl 1 rfl) ?_
                  refine va_get (D := D) (ci := 3) (v := .ref (ad 5)) (C := RX3) (T := TX3) (N := 16) hx hb hts k_2 hown hK.1 hg.1 0 rfl rfl 5 (by decide) k_1 (fun _ h9 => h9) rfl dX3_bottleneck_87 ?_
                  refine lv_iload hx hb dX3_bottleneck_90 (lv_at hl 6 rfl) ?_
                  obtain ⟨v28, i29, e30, h⟩ := fl_rd_b h
                  refine g_ld (n := 8) (t0 := 4) hx hb hK hg (wm_a4 ad cz _) rfl i29 e30 dX3_bottleneck_92 ?_
                  refine lv_ineg hx hb dX3_bottleneck_93 ?_
                  refine lv_goto (tgt := 98) hx hb dX3_bottleneck_94 (by decide) ?_
                  obtain rfl := fl_s1 h
                  exact J9 H locs ls hg (lv_sub hl [1, 2, 3, 4, 6] rfl)
            · have h := fl_ifn c22 h
              refine lv_aload_n hx hb dX3_bottleneck_61 rfl (lv_at hl 1 rfl) ?_
              refine va_get (D := D) (ci := 3) (v := .ref (ad 5)) (C := RX3) (T := TX3) (N := 16) hx hb hts k_2 hown hK.1 hg.1 0 rfl rfl 5 (by decide) k_1 (fun _ h9 => h9) rfl dX3_bottleneck_62 ?_
              refine lv_iload hx hb dX3_bottleneck_65 (lv_at hl 6 rfl) ?_
              obtain ⟨v31, i32, e33, h⟩ := fl_rd_b h
              refine g_ld (n := 8) (t0 := 4) hx hb hK hg (wm_a4 ad cz _) rfl i32 e33 dX3_bottleneck_67 ?_
              refine lv_goto (tgt := 98) hx hb dX3_bottleneck_68 (by decide) ?_
              obtain rfl := fl_s1 h
              exact J9 H locs ls hg (lv_sub hl [1, 2, 3, 4, 6] rfl)
        clear h
        have h := hB6
        refine lv_icmp_ne (tgt := 41) hx hb dX3_bottleneck_34 (by decide) (fun c3 => ?_) (fun c3 => ?_)
        · have h := fl_ifn c3 h
          refine lv_iconst (v := (0)) hx hb dX3_bottleneck_41 (by decide) ?_
          obtain rfl := fl_s1 h
          exact J5 H locs ls hg (lv_sub hl [0, 1, 2, 3, 4, 5] rfl)
        · have h := fl_ifp c3 h
          refine lv_iconst (v := (1)) hx hb dX3_bottleneck_37 (by decide) ?_
          refine lv_goto (tgt := 42) hx hb dX3_bottleneck_38 (by decide) ?_
          obtain rfl := fl_s1 h
          exact J5 H locs ls hg (lv_sub hl [0, 1, 2, 3, 4, 5] rfl)
  have L110 : ∀ (n : Nat) (x1 : Int32) (x2 : Int32) (x3 : Int32) (σ : fl_St) (x4 : Int32) (x5 : Int32) (o4 : Int32) (H : Heap) (locs : List Loc) (ls : Array Slot), f_X3_bottleneck_l110 x1 x2 x3 σ n x4 x5 = some (o4) → gS D (wm ad cz) A s.heap σ H locs → lv_has ls 7 [(0, .ref (ad 0)), (1, .int x1), (2, .int x2), (3, .int x3), (4, .int x4), (5, .int x5)] → (∀ (H : Heap) (locs : List Loc) (ls : Array Slot), gS D (wm ad cz) A s.heap σ H locs → lv_has ls 7 [(0, .ref (ad 0)), (1, .int x1), (2, .int x2), (3, .int x3), (4, .int o4)] → W p l e rm_X3_bottleneck s m args below meth c H locs 0 0 Q (F0 m 182 ls [])) → W p l e rm_X3_bottleneck s m args below meth c H locs 0 0 Q (F0 m 110 ls []) := by
    intro n
    induction n with
    | zero =>
      intro x1 x2 x3 σ x4 x5 o4 H locs ls h hg hl kk0
      rw [f_X3_bottleneck_l110] at h
      cases h
    | succ n ih =>
      intro x1 x2 x3 σ x4 x5 o4 H locs ls h hg hl kk0
      rw [f_X3_bottleneck_l110] at h
      refine lv_iload hx hb dX3_bottleneck_110 (lv_at hl 5 rfl) ?_
      refine lv_aload_n hx hb dX3_bottleneck_112 rfl (lv_at hl 0 rfl) ?_
      refine va_get (D := D) (ci := 3) (v := .int (σ 13 0)) (C := RX3) (T := TX3) (N := 16) hx hb hts k_2 hown hK.1 hg.1 0 rfl rfl 0 (by decide) k_3 (fun _ h9 => h9) rfl dX3_bottleneck_113 ?_
      refine lv_icmp_ge (tgt := 182) hx hb dX3_bottleneck_116 (by decide) (fun c36 => ?_) (fun c36 => ?_)
      · have h := fl_ifp c36 h
        obtain rfl := fl_s1 h
        exact kk0 H locs ls hg (lv_sub hl [0, 1, 2, 3, 4] rfl)
      · have h := fl_ifn c36 h
        refine lv_iload_n hx hb dX3_bottleneck_119 rfl (lv_at hl 3 rfl) ?_
        refine lv_aload_n hx hb dX3_bottleneck_120 rfl (lv_at hl 0 rfl) ?_
        refine va_get (D := D) (ci := 3) (v := .ref (ad 1)) (C := RX3) (T := TX3) (N := 16) hx hb hts k_2 hown hK.1 hg.1 0 rfl rfl 1 (by decide) k_4 (fun _ h9 => h9) rfl dX3_bottleneck_121 ?_
        refine lv_iload hx hb dX3_bottleneck_124 (lv_at hl 5 rfl) ?_
        obtain ⟨v37, i38, e39, h⟩ := fl_rd_b h
        refine g_ld (n := 36) (t0 := 0) hx hb hK hg (wm_a0 ad cz _) rfl i38 e39 dX3_bottleneck_126 ?_
        refine lv_ishr hx hb dX3_bottleneck_127 ?_
        refine lv_iconst (v := (1)) hx hb dX3_bottleneck_128 (by decide) ?_
        refine lv_iand hx hb dX3_bottleneck_129 ?_
        refine lv_iconst (v := (1)) hx hb dX3_bottleneck_130 (by decide) ?_
        obtain ⟨t41, hB43, h⟩ := fl_bnd h
        have J42 : ∀ (H : Heap) (locs : List Loc) (ls : Array Slot), gS D (wm ad cz) A s.heap σ H locs → lv_has ls 7 [(0, .ref (ad 0)), (1, .int x1), (2, .int x2), (3, .int x3), (4, .int x4), (5, .int x5)] → W p l e rm_X3_bottleneck s m args below meth c H locs 0 0 Q (F0 m 153 ls [.int t41]) := by
          intro H locs ls hg hl
          refine lv_istore (lv' := [(6, .int t41), (0, .ref (ad 0)), (1, .int x1), (2, .int x2), (3, .int x3), (4, .int x4), (5, .int x5)]) hx hb dX3_bottleneck_153 hl (by decide) rfl (fun ls hl => ?_)
          refine lv_iload hx hb dX3_bottleneck_155 (lv_at hl 5 rfl) ?_
          refine lv_iload hx hb dX3_bottleneck_157 (lv_at hl 0 rfl) ?_
          obtain ⟨t45, hB47, h⟩ := fl_bnd h
          have J46 : ∀ (H : Heap) (locs : List Loc) (ls : Array Slot), gS D (wm ad cz) A s.heap σ H locs → lv_has ls 7 [(0, .ref (ad 0)), (1, .int x1), (2, .int x2), (3, .int x3), (5, .int x5)] → W p l e rm_X3_bottleneck s m args below meth c H locs 0 0 Q (F0 m 173 ls [.int t45, .int x4]) := by
            intro H locs ls hg hl
            refine lv_iadd hx hb dX3_bottleneck_173 ?_
            refine lv_istore (lv' := [(4, .int (x4 + t45)), (0, .ref (ad 0)), (1, .int x1), (2, .int x2), (3, .int x3), (5, .int x5)]) hx hb dX3_bottleneck_174 hl (by decide) rfl (fun ls hl => ?_)
            refine lv_iinc (v := (x5 + 1)) (lv' := [(5, .int (x5 + 1)), (4, .int (x4 + t45)), (0, .ref (ad 0)), (1, .int x1), (2, .int x2), (3, .int x3)]) hx hb dX3_bottleneck_176 hl (k := 5) rfl rfl (by decide) rfl (fun ls hl => ?_)
            refine lv_goto (tgt := 110) hx hb dX3_bottleneck_179 (by decide) ?_
            exact ih _ _ _ _ _ _ _ _ _ _ h hg (lv_sub hl [2, 3, 4, 5, 1, 0] rfl) kk0
          clear h
          have h := hB47
          refine lv_if_eq (tgt := 172) hx hb dX3_bottleneck_159 (by decide) (fun c44 => ?_) (fun c44 => ?_)
          · have h := fl_ifp c44 h
            refine lv_iconst (v := (0)) hx hb dX3_bottleneck_172 (by decide) ?_
            obtain rfl := fl_s1 h
            exact J46 H locs ls hg (lv_sub hl [1, 2, 3, 4, 6] rfl)
          · have h := fl_ifn c44 h
            refine lv_aload_n hx hb dX3_bottleneck_162 rfl (lv_at hl 1 rfl) ?_
            refine va_get (D := D) (ci := 3) (v := .ref (ad 3)) (C := RX3) (T := TX3) (N := 16) hx hb hts k_2 hown hK.1 hg.1 0 rfl rfl 3 (by decide) k_5 (fun _ h9 => h9) rfl dX3_bottleneck_163 ?_
            refine lv_iload hx hb dX3_bottleneck_166 (lv_at hl 6 rfl) ?_
            obtain ⟨v48, i49, e50, h⟩ := fl_rd_b h
            refine g_ld (n := 36) (t0 := 2) hx hb hK hg (wm_a2 ad cz _) rfl i49 e50 dX3_bottleneck_168 ?_
            refine lv_goto (tgt := 173) hx hb dX3_bottleneck_169 (by decide) ?_
            obtain rfl := fl_s1 h
            exact J46 H locs ls hg (lv_sub hl [1, 2, 3, 4, 6] rfl)
        clear h
        have h := hB43
        refine lv_icmp_ne (tgt := 152) hx hb dX3_bottleneck_131 (by decide) (fun c40 => ?_) (fun c40 => ?_)
        · have h := fl_ifn c40 h
          refine lv_iconst (v := (0)) hx hb dX3_bottleneck_152 (by decide) ?_
          obtain rfl := fl_s1 h
          exact J42 H locs ls hg (lv_sub hl [0, 1, 2, 3, 4, 5] rfl)
        · have h := fl_ifp c40 h
          refine lv_iload_n hx hb dX3_bottleneck_134 rfl (lv_at hl 3 rfl) ?_
          refine lv_aload_n hx hb dX3_bottleneck_135 rfl (lv_at hl 0 rfl) ?_
          refine va_get (D := D) (ci := 3) (v := .ref (ad 2)) (C := RX3) (T := TX3) (N := 16) hx hb hts k_2 hown hK.1 hg.1 0 rfl rfl 2 (by decide) k_6 (fun _ h9 => h9) rfl dX3_bottleneck_136 ?_
          refine lv_iload hx hb dX3_bottleneck_139 (lv_at hl 5 rfl) ?_
          obtain ⟨v51, i52, e53, h⟩ := fl_rd_b h
          refine g_ld (n := 36) (t0 := 1) hx hb hK hg (wm_a1 ad cz _) rfl i52 e53 dX3_bottleneck_141 ?_
          refine lv_ishr hx hb dX3_bottleneck_142 ?_
          refine lv_iconst (v := (1)) hx hb dX3_bottleneck_143 (by decide) ?_
          refine lv_iand hx hb dX3_bottleneck_144 ?_
          refine lv_if_ne (tgt := 152) hx hb dX3_bottleneck_145 (by decide) (fun c54 => ?_) (fun c54 => ?_)
          · have h := fl_ifn c54 h
            refine lv_iconst (v := (0)) hx hb dX3_bottleneck_152 (by decide) ?_
            obtain rfl := fl_s1 h
            exact J42 H locs ls hg (lv_sub hl [0, 1, 2, 3, 4, 5] rfl)
          · have h := fl_ifp c54 h
            refine lv_iconst (v := (1)) hx hb dX3_bottleneck_148 (by decide) ?_
            refine lv_goto (tgt := 153) hx hb dX3_bottleneck_149 (by decide) ?_
            obtain rfl := fl_s1 h
            exact J42 H locs ls hg (lv_sub hl [0, 1, 2, 3, 4, 5] rfl)
  have L7 : ∀ (n : Nat) (σ : fl_St) (x1 : Int32) (x2 : Int32) (x3 : Int32) (o1 : Int32) (H : Heap) (locs : List Loc) (ls : Array Slot), f_X3_bottleneck_l7 σ n x1 x2 x3 = some (o1) → gS D (wm ad cz) A s.heap σ H locs → lv_has ls 7 [(0, .ref (ad 0)), (1, .int x1), (2, .int x2), (3, .int x3)] → (∀ (H : Heap) (locs : List Loc) (ls : Array Slot), gS D (wm ad cz) A s.heap σ H locs → lv_has ls 7 [(1, .int o1)] → W p l e rm_X3_bottleneck s m args below meth c H locs 0 0 Q (F0 m 225 ls [])) → W p l e rm_X3_bottleneck s m args below meth c H locs 0 0 Q (F0 m 7 ls []) := by
    intro n
    induction n with
    | zero =>
      intro σ x1 x2 x3 o1 H locs ls h hg hl kk0
      rw [f_X3_bottleneck_l7] at h
      cases h
    | succ n ih =>
      intro σ x1 x2 x3 o1 H locs ls h hg hl kk0
      rw [f_X3_bottleneck_l7] at h
      refine lv_iload_n hx hb dX3_bottleneck_7 rfl (lv_at hl 3 rfl) ?_
      refine lv_sipush (v := (256)) hx hb dX3_bottleneck_8 (by decide) ?_
      refine lv_icmp_ge (tgt := 225) hx hb dX3_bottleneck_11 (by decide) (fun c1 => ?_) (fun c1 => ?_)
      · have h := fl_ifp c1 h
        obtain rfl := fl_s1 h
        exact kk0 H locs ls hg (lv_sub hl [1] rfl)
      · have h := fl_ifn c1 h
        refine lv_iconst (v := (0)) hx hb dX3_bottleneck_14 (by decide) ?_
        refine lv_istore (lv' := [(4, .int (0)), (0, .ref (ad 0)), (1, .int x1), (2, .int x2), (3, .int x3)]) hx hb dX3_bottleneck_15 hl (by decide) rfl (fun ls hl => ?_)
        refine lv_iconst (v := (0)) hx hb dX3_bottleneck_17 (by decide) ?_
        refine lv_istore (lv' := [(5, .int (0)), (4, .int (0)), (0, .ref (ad 0)), (1, .int x1), (2, .int x2), (3, .int x3)]) hx hb dX3_bottleneck_18 hl (by decide) rfl (fun ls hl => ?_)
        obtain ⟨w34, hB35, h⟩ := fl_bnd h
        refine L20 fl_N _ _ _ _ _ _ _ H locs ls hB35 hg (lv_sub hl [2, 3, 4, 5, 1, 0] rfl) (fun H locs ls hg hl => ?_)
        refine lv_iconst (v := (0)) hx hb dX3_bottleneck_107 (by decide) ?_
        refine lv_istore (lv' := [(5, .int (0)), (0, .ref (ad 0)), (1, .int x1), (2, .int x2), (3, .int x3), (4, .int w34)]) hx hb dX3_bottleneck_108 hl (by decide) rfl (fun ls hl => ?_)
        obtain ⟨w55, hB56, h⟩ := fl_bnd h
        refine L110 fl_N _ _ _ _ _ _ _ H locs ls hB56 hg (lv_sub hl [1, 2, 3, 4, 5, 0] rfl) (fun H locs ls hg hl => ?_)
        refine lv_iload hx hb dX3_bottleneck_182 (lv_at hl 4 rfl) ?_
        refine lv_ldc hx hb hown k_7 dX3_bottleneck_184 ?_
        obtain ⟨w58, w59, hB61, h⟩ := fl_b2_b h
        have J60 : ∀ (H : Heap) (locs : List Loc) (ls : Array Slot), gS D (wm ad cz) A s.heap σ H locs → lv_has ls 7 [(0, .ref (ad 0)), (1, .int w58), (2, .int w59), (3, .int x3)] → W p l e rm_X3_bottleneck s m args below meth c H locs 0 0 Q (F0 m 219 ls []) := by
          intro H locs ls hg hl
          refine lv_iinc (v := (x3 + 1)) (lv' := [(3, .int (x3 + 1)), (0, .ref (ad 0)), (1, .int w58), (2, .int w59)]) hx hb dX3_bottleneck_219 hl (k := 3) rfl rfl (by decide) rfl (fun ls hl => ?_)
          refine lv_goto (tgt := 7) hx hb dX3_bottleneck_222 (by decide) ?_
          exact ih _ _ _ _ _ _ _ _ h hg (lv_sub hl [1, 2, 3, 0] rfl) kk0
        clear h
        have h := hB61
        refine lv_icmp_ge (tgt := 219) hx hb dX3_bottleneck_186 (by decide) (fun c57 => ?_) (fun c57 => ?_)
        · have h := fl_ifp c57 h
          obtain ⟨rfl, rfl⟩ := fl_s2 h
          exact J60 H locs ls hg (lv_sub hl [0, 1, 2, 3] rfl)
        · have h := fl_ifn c57 h
          refine lv_iload_n hx hb dX3_bottleneck_189 rfl (lv_at hl 1 rfl) ?_
          refine lv_ldc hx hb hown k_0 dX3_bottleneck_190 ?_
          refine lv_icmp_eq (tgt := 201) hx hb dX3_bottleneck_192 (by decide) (fun c62 => ?_) (fun c62 => ?_)
          · have h := fl_ifp c62 h
            refine lv_iload_n hx hb dX3_bottleneck_201 rfl (lv_at hl 3 rfl) ?_
            refine lv_istore_n (lv' := [(1, .int x3), (0, .ref (ad 0)), (2, .int x2), (3, .int x3), (4, .int w55)]) hx hb dX3_bottleneck_202 rfl hl (by decide) rfl (fun ls hl => ?_)
            refine lv_iload hx hb dX3_bottleneck_203 (lv_at hl 4 rfl) ?_
            refine lv_istore_n (lv' := [(2, .int w55), (1, .int x3), (0, .ref (ad 0)), (3, .int x3), (4, .int w55)]) hx hb dX3_bottleneck_205 rfl hl (by decide) rfl (fun ls hl => ?_)
            refine lv_goto (tgt := 219) hx hb dX3_bottleneck_206 (by decide) ?_
            obtain ⟨rfl, rfl⟩ := fl_s2 h
            exact J60 H locs ls hg (lv_sub hl [2, 1, 0, 3] rfl)
          · have h := fl_ifn c62 h
            refine lv_iload hx hb dX3_bottleneck_195 (lv_at hl 4 rfl) ?_
            refine lv_iload_n hx hb dX3_bottleneck_197 rfl (lv_at hl 2 rfl) ?_
            refine lv_icmp_ge (tgt := 209) hx hb dX3_bottleneck_198 (by decide) (fun c63 => ?_) (fun c63 => ?_)
            · have h := fl_ifp c63 h
              refine lv_iload hx hb dX3_bottleneck_209 (lv_at hl 4 rfl) ?_
              refine lv_iload_n hx hb dX3_bottleneck_211 rfl (lv_at hl 2 rfl) ?_
              refine lv_icmp_ne (tgt := 219) hx hb dX3_bottleneck_212 (by decide) (fun c64 => ?_) (fun c64 => ?_)
              · have h := fl_ifn c64 h
                obtain ⟨rfl, rfl⟩ := fl_s2 h
                exact J60 H locs ls hg (lv_sub hl [0, 1, 2, 3] rfl)
              · have h := fl_ifp c64 h
                refine lv_iload_n hx hb dX3_bottleneck_215 rfl (lv_at hl 1 rfl) ?_
                refine lv_iload_n hx hb dX3_bottleneck_216 rfl (lv_at hl 3 rfl) ?_
                refine lv_iand hx hb dX3_bottleneck_217 ?_
                refine lv_istore_n (lv' := [(1, .int (x1 &&& x3)), (0, .ref (ad 0)), (2, .int x2), (3, .int x3), (4, .int w55)]) hx hb dX3_bottleneck_218 rfl hl (by decide) rfl (fun ls hl => ?_)
                obtain ⟨rfl, rfl⟩ := fl_s2 h
                exact J60 H locs ls hg (lv_sub hl [1, 0, 2, 3] rfl)
            · have h := fl_ifn c63 h
              refine lv_iload_n hx hb dX3_bottleneck_201 rfl (lv_at hl 3 rfl) ?_
              refine lv_istore_n (lv' := [(1, .int x3), (0, .ref (ad 0)), (2, .int x2), (3, .int x3), (4, .int w55)]) hx hb dX3_bottleneck_202 rfl hl (by decide) rfl (fun ls hl => ?_)
              refine lv_iload hx hb dX3_bottleneck_203 (lv_at hl 4 rfl) ?_
              refine lv_istore_n (lv' := [(2, .int w55), (1, .int x3), (0, .ref (ad 0)), (3, .int x3), (4, .int w55)]) hx hb dX3_bottleneck_205 rfl hl (by decide) rfl (fun ls hl => ?_)
              refine lv_goto (tgt := 219) hx hb dX3_bottleneck_206 (by decide) ?_
              obtain ⟨rfl, rfl⟩ := fl_s2 h
              exact J60 H locs ls hg (lv_sub hl [2, 1, 0, 3] rfl)
  unfold f_X3_bottleneck at h
  have W0 : ∀ (H : Heap) (locs : List Loc), gS D (wm ad cz) A s.heap σ H locs → W p l e rm_X3_bottleneck s m args below meth c H locs 0 0 Q (F0 m 0 ls []) := by
    intro H locs hg
    refine lv_ldc hx hb hown k_0 dX3_bottleneck_0 ?_
    refine lv_istore_n (lv' := [(1, .int (-1000004)), (0, .ref (ad 0))]) hx hb dX3_bottleneck_2 rfl hl (by decide) rfl (fun ls hl => ?_)
    refine lv_iconst (v := (0)) hx hb dX3_bottleneck_3 (by decide) ?_
    refine lv_istore_n (lv' := [(2, .int (0)), (1, .int (-1000004)), (0, .ref (ad 0))]) hx hb dX3_bottleneck_4 rfl hl (by decide) rfl (fun ls hl => ?_)
    refine lv_iconst (v := (0)) hx hb dX3_bottleneck_5 (by decide) ?_
    refine lv_istore_n (lv' := [(3, .int (0)), (2, .int (0)), (1, .int (-1000004)), (0, .ref (ad 0))]) hx hb dX3_bottleneck_6 rfl hl (by decide) rfl (fun ls hl => ?_)
    obtain ⟨w65, hB66, h⟩ := fl_bnd h
    refine L7 fl_N _ _ _ _ _ H locs ls hB66 hg (lv_sub hl [3, 2, 1, 0] rfl) (fun H locs ls hg hl => ?_)
    refine lv_iload_n hx hb dX3_bottleneck_225 rfl (lv_at hl 0 rfl) ?_
    exact hret _ _ _ _ _ _ (congrArg (Option.map (fun q => (q, σ))) h) hg rfl dX3_bottleneck_226
  exact W0 _ _ hg
end
section
def f_X3_findRound_l2 (x1 : Int32) : Nat → Int32 → fl_St → Option (fl_St)
  | 0, _, _ => none
  | n + 1, x2, σ => if (8) ≤ x2 then (some (σ)) else ((fl_wr σ 8 10 x2 (0)).bind fun σ2 => (fl_wr σ2 9 10 x2 (-1000004)).bind fun σ5 => f_X3_findRound_l2 x1 n (x2 + 1) σ5)
def f_X3_findRound_l46 (x1 : Int32) (x3 : Int32) : Nat → Int32 → Int32 → fl_St → Option (Int32 × fl_St)
  | 0, _, _, _ => none
  | n + 1, x2, x4, σ => if (σ 13 0) ≤ x4 then (some (x2, σ)) else ((if x1 = 0 then ((fl_rd σ 5 36 x4).bind fun v110 => (fl_rd σ 2 36 x4).bind fun v113 => if v113 ≤ v110 then (some ((0))) else (some ((1)))) else ((fl_rd σ 2 36 x4).bind fun v117 => if v117 = (1000000) then (some ((1))) else (some ((0))))).bind fun (t13 : Int32) => fl_b2 (if t13 = 0 then (some (x2, σ)) else ((fl_rd σ 0 36 x4).bind fun v70 => (fl_rd σ 8 10 v70).bind fun v73 => (fl_rd σ 3 36 x4).bind fun v76 => (fl_rd σ 1 36 x4).bind fun v79 => (fl_rd σ 8 10 v79).bind fun v82 => if v82 ≤ (v73 + v76) then (some (x2, σ)) else ((fl_rd σ 1 36 x4).bind fun v86 => (fl_rd σ 0 36 x4).bind fun v89 => (fl_rd σ 8 10 v89).bind fun v92 => (fl_rd σ 3 36 x4).bind fun v95 => (fl_wr σ 8 10 v86 (v92 + v95)).bind fun σ98 => (fl_rd σ98 1 36 x4).bind fun v101 => (fl_wr σ98 9 10 v101 x4).bind fun σ104 => (fl_rd σ104 1 36 x4).bind fun v107 => some (v107, σ104)))) fun (w17 : Int32) (σ18 : fl_St) => fl_b2 (if x1 = 0 then ((fl_rd σ18 5 36 x4).bind fun v26 => if v26 ≤ 0 then (some (w17, σ18)) else ((fl_rd σ18 1 36 x4).bind fun v30 => (fl_rd σ18 8 10 v30).bind fun v33 => (fl_rd σ18 3 36 x4).bind fun v36 => (fl_rd σ18 0 36 x4).bind fun v39 => (fl_rd σ18 8 10 v39).bind fun v42 => if v42 ≤ (v33 - v36) then (some (w17, σ18)) else ((fl_rd σ18 0 36 x4).bind fun v46 => (fl_rd σ18 1 36 x4).bind fun v49 => (fl_rd σ18 8 10 v49).bind fun v52 => (fl_rd σ18 3 36 x4).bind fun v55 => (fl_wr σ18 8 10 v46 (v52 - v55)).bind fun σ58 => (fl_rd σ58 0 36 x4).bind fun v61 => (fl_wr σ58 9 10 v61 ((-1) - x4)).bind fun σ64 => (fl_rd σ64 0 36 x4).bind fun v67 => some (v67, σ64)))) else (some (w17, σ18))) fun (w22 : Int32) (σ23 : fl_St) => f_X3_findRound_l46 x1 x3 n w22 (x4 + 1) σ23)
def f_X3_findRound_l34 (x1 : Int32) : Nat → Int32 → Int32 → fl_St → Option (Int32 × fl_St)
  | 0, _, _, _ => none
  | n + 1, x2, x3, σ => if (8) < x3 then (some (x2, σ)) else (fl_b2 (f_X3_findRound_l46 x1 x3 fl_N (-1000004) (0) σ) fun (w121 : Int32) (σ122 : fl_St) => f_X3_findRound_l34 x1 n w121 (x3 + 1) σ122)
def f_X3_findRound (x1 : Int32) (σ : fl_St) : Option (Int32 × fl_St) := (f_X3_findRound_l2 x1 fl_N (0) σ).bind fun (σ8 : fl_St) => fl_b2 (f_X3_findRound_l34 x1 fl_N (-1000004) (0) σ8) fun (w124 : Int32) (σ125 : fl_St) => some (w124, σ125)
def rm_X3_findRound : Room := { frames := 0, cells := 0, slots := 0, locals := 0 }
set_option maxHeartbeats 4000000 in
set_option maxRecDepth 100000 in
theorem c_X3_findRound (l : Launch) (D : va_G) (ad : Nat → Nat) (cz : Nat → ClassId) (x1 : Int32) (σ : fl_St) {r : Int32} {σ' : fl_St} (h : f_X3_findRound x1 σ = some (r, σ')) : gMi l yX3_findRound wsX3_findRound rm_X3_findRound D (wm ad cz) (wmT cz) [] [.ref (ad 0), .int x1] σ r σ' := by
  refine gMi_of (cc := cX3_findRound) (maxL := 6) (by decide) rfl (Nat.le_of_ble_eq_true rfl) ?_
  intro p e s m args below meth c A Q ls hx hb hml hown hts hK hA hg hl hret
  have hown : s.vm.findClass RX3 = some m.cls := hown
  have hl : lv_has ls 6 [(0, .ref (ad 0)), (1, .int x1)] := hl
  have k_0 := hts (.fieldLink RX3 35 "FlowLedgerModel" "far" "[I") (by decide +kernel)
  have k_1 := (by decide +kernel : ∀ w ∈ wsX30, w ∈ wsX3_findRound)
  have k_2 := hts (.fieldLink RX3 38 "FlowLedgerModel" "by" "[I") (by decide +kernel)
  have k_3 := hts (.constant RX3 84 (-1000004)) (by decide +kernel)
  have k_4 := hts (.fieldLink RX3 55 "FlowLedgerModel" "arcs" "I") (by decide +kernel)
  have k_5 := hts (.fieldLink RX3 25 "FlowLedgerModel" "flow" "[I") (by decide +kernel)
  have k_6 := hts (.fieldLink RX3 13 "FlowLedgerModel" "tos" "[I") (by decide +kernel)
  have k_7 := hts (.fieldLink RX3 19 "FlowLedgerModel" "costs" "[I") (by decide +kernel)
  have k_8 := hts (.fieldLink RX3 7 "FlowLedgerModel" "froms" "[I") (by decide +kernel)
  have k_9 := hts (.fieldLink RX3 16 "FlowLedgerModel" "capacities" "[I") (by decide +kernel)
  have k_10 := hts (.constant RX3 60 (1000000)) (by decide +kernel)
  have L2 : ∀ (n : Nat) (x1 : Int32) (x2 : Int32) (σ : fl_St) (σo : fl_St) (H : Heap) (locs : List Loc) (ls : Array Slot), f_X3_findRound_l2 x1 n x2 σ = some (σo) → gS D (wm ad cz) A s.heap σ H locs → lv_has ls 6 [(0, .ref (ad 0)), (1, .int x1), (2, .int x2)] → (∀ (H : Heap) (locs : List Loc) (ls : Array Slot), gS D (wm ad cz) A s.heap σo H locs → lv_has ls 6 [(0, .ref (ad 0)), (1, .int x1)] → W p l e rm_X3_findRound s m args below meth c H locs 0 0 Q (F0 m 29 ls [])) → W p l e rm_X3_findRound s m args below meth c H locs 0 0 Q (F0 m 2 ls []) := by
    intro n
    induction n with
    | zero =>
      intro x1 x2 σ σo H locs ls h hg hl kk0
      rw [f_X3_findRound_l2] at h
      cases h
    | succ n ih =>
      intro x1 x2 σ σo H locs ls h hg hl kk0
      rw [f_X3_findRound_l2] at h
      refine lv_iload_n hx hb dX3_findRound_2 rfl (lv_at hl 2 rfl) ?_
      refine lv_bipush (v := (8)) hx hb dX3_findRound_3 (by decide) ?_
      refine lv_icmp_ge (tgt := 29) hx hb dX3_findRound_5 (by decide) (fun c1 => ?_) (fun c1 => ?_)
      · have h := fl_ifp c1 h
        obtain rfl := fl_s1 h
        exact kk0 H locs ls hg (lv_sub hl [0, 1] rfl)
      · have h := fl_ifn c1 h
        refine lv_aload_n hx hb dX3_findRound_8 rfl (lv_at hl 0 rfl) ?_
        refine va_get (D := D) (ci := 3) (v := .ref (ad 9)) (C := RX3) (T := TX3) (N := 16) hx hb hts k_1 hown hK.1 hg.1 0 rfl rfl 10 (by decide) k_0 (fun _ h9 => h9) rfl dX3_findRound_9 ?_
        refine lv_iload_n hx hb dX3_findRound_12 rfl (lv_at hl 2 rfl) ?_
        refine lv_iconst (v := (0)) hx hb dX3_findRound_13 (by decide) ?_
        obtain ⟨σ2, i3, e4, h⟩ := fl_wr_b h
        refine g_st (n := 10) (t0 := 8) hx hb hK hg (wm_a8 ad cz _) (wm_s8 ad cz _) rfl i3 e4 dX3_findRound_14 (fun H locs hg => ?_)
        refine lv_aload_n hx hb dX3_findRound_15 rfl (lv_at hl 0 rfl) ?_
        refine va_get (D := D) (ci := 3) (v := .ref (ad 10)) (C := RX3) (T := TX3) (N := 16) hx hb hts k_1 hown hK.1 hg.1 0 rfl rfl 11 (by decide) k_2 (fun _ h9 => h9) rfl dX3_findRound_16 ?_
        refine lv_iload_n hx hb dX3_findRound_19 rfl (lv_at hl 2 rfl) ?_
        refine lv_ldc hx hb hown k_3 dX3_findRound_20 ?_
        obtain ⟨σ5, i6, e7, h⟩ := fl_wr_b h
        refine g_st (n := 10) (t0 := 9) hx hb hK hg (wm_a9 ad cz _) (wm_s9 ad cz _) rfl i6 e7 dX3_findRound_22 (fun H locs hg => ?_)
        refine lv_iinc (v := (x2 + 1)) (lv' := [(2, .int (x2 + 1)), (0, .ref (ad 0)), (1, .int x1)]) hx hb dX3_findRound_23 hl (k := 2) rfl rfl (by decide) rfl (fun ls hl => ?_)
        refine lv_goto (tgt := 2) hx hb dX3_findRound_26 (by decide) ?_
        exact ih _ _ _ _ _ _ _ h hg (lv_sub hl [1, 2, 0] rfl) kk0
  have L46 : ∀ (n : Nat) (x1 : Int32) (x3 : Int32) (x2 : Int32) (x4 : Int32) (σ : fl_St) (o2 : Int32) (σo : fl_St) (H : Heap) (locs : List Loc) (ls : Array Slot), f_X3_findRound_l46 x1 x3 n x2 x4 σ = some (o2, σo) → gS D (wm ad cz) A s.heap σ H locs → lv_has ls 6 [(0, .ref (ad 0)), (1, .int x1), (2, .int x2), (3, .int x3), (4, .int x4)] → (∀ (H : Heap) (locs : List Loc) (ls : Array Slot), gS D (wm ad cz) A s.heap σo H locs → lv_has ls 6 [(0, .ref (ad 0)), (1, .int x1), (2, .int o2), (3, .int x3)] → W p l e rm_X3_findRound s m args below meth c H locs 0 0 Q (F0 m 308 ls [])) → W p l e rm_X3_findRound s m args below meth c H locs 0 0 Q (F0 m 46 ls []) := by
    intro n
    induction n with
    | zero =>
      intro x1 x3 x2 x4 σ o2 σo H locs ls h hg hl kk0
      rw [f_X3_findRound_l46] at h
      cases h
    | succ n ih =>
      intro x1 x3 x2 x4 σ o2 σo H locs ls h hg hl kk0
      rw [f_X3_findRound_l46] at h
      refine lv_iload hx hb dX3_findRound_46 (lv_at hl 4 rfl) ?_
      refine lv_aload_n hx hb dX3_findRound_48 rfl (lv_at hl 0 rfl) ?_
      refine va_get (D := D) (ci := 3) (v := .int (σ 13 0)) (C := RX3) (T := TX3) (N := 16) hx hb hts k_1 hown hK.1 hg.1 0 rfl rfl 0 (by decide) k_4 (fun _ h9 => h9) rfl dX3_findRound_49 ?_
      refine lv_icmp_ge (tgt := 308) hx hb dX3_findRound_52 (by decide) (fun c11 => ?_) (fun c11 => ?_)
      · have h := fl_ifp c11 h
        obtain ⟨rfl, rfl⟩ := fl_s2 h
        exact kk0 H locs ls hg (lv_sub hl [0, 1, 2, 3] rfl)
      · have h := fl_ifn c11 h
        refine lv_iload_n hx hb dX3_findRound_55 rfl (lv_at hl 1 rfl) ?_
        obtain ⟨t13, hB15, h⟩ := fl_bnd h
        have J14 : ∀ (H : Heap) (locs : List Loc) (ls : Array Slot), gS D (wm ad cz) A s.heap σ H locs → lv_has ls 6 [(0, .ref (ad 0)), (1, .int x1), (2, .int x2), (3, .int x3), (4, .int x4)] → W p l e rm_X3_findRound s m args below meth c H locs 0 0 Q (F0 m 101 ls [.int t13]) := by
          intro H locs ls hg hl
          refine lv_istore (lv' := [(5, .int t13), (0, .ref (ad 0)), (1, .int x1), (2, .int x2), (3, .int x3), (4, .int x4)]) hx hb dX3_findRound_101 hl (by decide) rfl (fun ls hl => ?_)
          refine lv_iload hx hb dX3_findRound_103 (lv_at hl 0 rfl) ?_
          obtain ⟨w17, σ18, hB20, h⟩ := fl_b2_b h
          have J19 : ∀ (H : Heap) (locs : List Loc) (ls : Array Slot), gS D (wm ad cz) A s.heap σ18 H locs → lv_has ls 6 [(0, .ref (ad 0)), (1, .int x1), (2, .int w17), (3, .int x3), (4, .int x4)] → W p l e rm_X3_findRound s m args below meth c H locs 0 0 Q (F0 m 197 ls []) := by
            intro H locs ls hg hl
            refine lv_iload_n hx hb dX3_findRound_197 rfl (lv_at hl 1 rfl) ?_
            obtain ⟨w22, σ23, hB25, h⟩ := fl_b2_b h
            have J24 : ∀ (H : Heap) (locs : List Loc) (ls : Array Slot), gS D (wm ad cz) A s.heap σ23 H locs → lv_has ls 6 [(0, .ref (ad 0)), (1, .int x1), (2, .int w22), (3, .int x3), (4, .int x4)] → W p l e rm_X3_findRound s m args below meth c H locs 0 0 Q (F0 m 302 ls []) := by
              intro H locs ls hg hl
              refine lv_iinc (v := (x4 + 1)) (lv' := [(4, .int (x4 + 1)), (0, .ref (ad 0)), (1, .int x1), (2, .int w22), (3, .int x3)]) hx hb dX3_findRound_302 hl (k := 4) rfl rfl (by decide) rfl (fun ls hl => ?_)
              refine lv_goto (tgt := 46) hx hb dX3_findRound_305 (by decide) ?_
              exact ih _ _ _ _ _ _ _ _ _ _ h hg (lv_sub hl [1, 2, 3, 4, 0] rfl) kk0
            clear h
            have h := hB25
            refine lv_if_ne (tgt := 302) hx hb dX3_findRound_198 (by decide) (fun c21 => ?_) (fun c21 => ?_)
            · have h := fl_ifn c21 h
              obtain ⟨rfl, rfl⟩ := fl_s2 h
              exact J24 H locs ls hg (lv_sub hl [0, 1, 2, 3, 4] rfl)
            · have h := fl_ifp c21 h
              refine lv_aload_n hx hb dX3_findRound_201 rfl (lv_at hl 0 rfl) ?_
              refine va_get (D := D) (ci := 3) (v := .ref (ad 6)) (C := RX3) (T := TX3) (N := 16) hx hb hts k_1 hown hK.1 hg.1 0 rfl rfl 6 (by decide) k_5 (fun _ h9 => h9) rfl dX3_findRound_202 ?_
              refine lv_iload hx hb dX3_findRound_205 (lv_at hl 4 rfl) ?_
              obtain ⟨v26, i27, e28, h⟩ := fl_rd_b h
              refine g_ld (n := 36) (t0 := 5) hx hb hK hg (wm_a5 ad cz _) rfl i27 e28 dX3_findRound_207 ?_
              refine lv_if_le (tgt := 302) hx hb dX3_findRound_208 (by decide) (fun c29 => ?_) (fun c29 => ?_)
              · have h := fl_ifp c29 h
                obtain ⟨rfl, rfl⟩ := fl_s2 h
                exact J24 H locs ls hg (lv_sub hl [0, 1, 2, 3, 4] rfl)
              · have h := fl_ifn c29 h
                refine lv_aload_n hx hb dX3_findRound_211 rfl (lv_at hl 0 rfl) ?_
                refine va_get (D := D) (ci := 3) (v := .ref (ad 9)) (C := RX3) (T := TX3) (N := 16) hx hb hts k_1 hown hK.1 hg.1 0 rfl rfl 10 (by decide) k_0 (fun _ h9 => h9) rfl dX3_findRound_212 ?_
                refine lv_aload_n hx hb dX3_findRound_215 rfl (lv_at hl 0 rfl) ?_
                refine va_get (D := D) (ci := 3) (v := .ref (ad 2)) (C := RX3) (T := TX3) (N := 16) hx hb hts k_1 hown hK.1 hg.1 0 rfl rfl 2 (by decide) k_6 (fun _ h9 => h9) rfl dX3_findRound_216 ?_
                refine lv_iload hx hb dX3_findRound_219 (lv_at hl 4 rfl) ?_
                obtain ⟨v30, i31, e32, h⟩ := fl_rd_b h
                refine g_ld (n := 36) (t0 := 1) hx hb hK hg (wm_a1 ad cz _) rfl i31 e32 dX3_findRound_221 ?_
                obtain ⟨v33, i34, e35, h⟩ := fl_rd_b h
                refine g_ld (n := 10) (t0 := 8) hx hb hK hg (wm_a8 ad cz _) rfl i34 e35 dX3_findRound_222 ?_
                refine lv_aload_n hx hb dX3_findRound_223 rfl (lv_at hl 0 rfl) ?_
                refine va_get (D := D) (ci := 3) (v := .ref (ad 4)) (C := RX3) (T := TX3) (N := 16) hx hb hts k_1 hown hK.1 hg.1 0 rfl rfl 4 (by decide) k_7 (fun _ h9 => h9) rfl dX3_findRound_224 ?_
                refine lv_iload hx hb dX3_findRound_227 (lv_at hl 4 rfl) ?_
                obtain ⟨v36, i37, e38, h⟩ := fl_rd_b h
                refine g_ld (n := 36) (t0 := 3) hx hb hK hg (wm_a3 ad cz _) rfl i37 e38 dX3_findRound_229 ?_
                refine lv_isub hx hb dX3_findRound_230 ?_
                refine lv_aload_n hx hb dX3_findRound_231 rfl (lv_at hl 0 rfl) ?_
                refine va_get (D := D) (ci := 3) (v := .ref (ad 9)) (C := RX3) (T := TX3) (N := 16) hx hb hts k_1 hown hK.1 hg.1 0 rfl rfl 10 (by decide) k_0 (fun _ h9 => h9) rfl dX3_findRound_232 ?_
                refine lv_aload_n hx hb dX3_findRound_235 rfl (lv_at hl 0 rfl) ?_
                refine va_get (D := D) (ci := 3) (v := .ref (ad 1)) (C := RX3) (T := TX3) (N := 16) hx hb hts k_1 hown hK.1 hg.1 0 rfl rfl 1 (by decide) k_8 (fun _ h9 => h9) rfl dX3_findRound_236 ?_
                refine lv_iload hx hb dX3_findRound_239 (lv_at hl 4 rfl) ?_
                obtain ⟨v39, i40, e41, h⟩ := fl_rd_b h
                refine g_ld (n := 36) (t0 := 0) hx hb hK hg (wm_a0 ad cz _) rfl i40 e41 dX3_findRound_241 ?_
                obtain ⟨v42, i43, e44, h⟩ := fl_rd_b h
                refine g_ld (n := 10) (t0 := 8) hx hb hK hg (wm_a8 ad cz _) rfl i43 e44 dX3_findRound_242 ?_
                refine lv_icmp_ge (tgt := 302) hx hb dX3_findRound_243 (by decide) (fun c45 => ?_) (fun c45 => ?_)
                · have h := fl_ifp c45 h
                  obtain ⟨rfl, rfl⟩ := fl_s2 h
                  exact J24 H locs ls hg (lv_sub hl [0, 1, 2, 3, 4] rfl)
                · have h := fl_ifn c45 h
                  refine lv_aload_n hx hb dX3_findRound_246 rfl (lv_at hl 0 rfl) ?_
                  refine va_get (D := D) (ci := 3) (v := .ref (ad 9)) (C := RX3) (T := TX3) (N := 16) hx hb hts k_1 hown hK.1 hg.1 0 rfl rfl 10 (by decide) k_0 (fun _ h9 => h9) rfl dX3_findRound_247 ?_
                  refine lv_aload_n hx hb dX3_findRound_250 rfl (lv_at hl 0 rfl) ?_
                  refine va_get (D := D) (ci := 3) (v := .ref (ad 1)) (C := RX3) (T := TX3) (N := 16) hx hb hts k_1 hown hK.1 hg.1 0 rfl rfl 1 (by decide) k_8 (fun _ h9 => h9) rfl dX3_findRound_251 ?_
                  refine lv_iload hx hb dX3_findRound_254 (lv_at hl 4 rfl) ?_
                  obtain ⟨v46, i47, e48, h⟩ := fl_rd_b h
                  refine g_ld (n := 36) (t0 := 0) hx hb hK hg (wm_a0 ad cz _) rfl i47 e48 dX3_findRound_256 ?_
                  refine lv_aload_n hx hb dX3_findRound_257 rfl (lv_at hl 0 rfl) ?_
                  refine va_get (D := D) (ci := 3) (v := .ref (ad 9)) (C := RX3) (T := TX3) (N := 16) hx hb hts k_1 hown hK.1 hg.1 0 rfl rfl 10 (by decide) k_0 (fun _ h9 => h9) rfl dX3_findRound_258 ?_
                  refine lv_aload_n hx hb dX3_findRound_261 rfl (lv_at hl 0 rfl) ?_
                  refine va_get (D := D) (ci := 3) (v := .ref (ad 2)) (C := RX3) (T := TX3) (N := 16) hx hb hts k_1 hown hK.1 hg.1 0 rfl rfl 2 (by decide) k_6 (fun _ h9 => h9) rfl dX3_findRound_262 ?_
                  refine lv_iload hx hb dX3_findRound_265 (lv_at hl 4 rfl) ?_
                  obtain ⟨v49, i50, e51, h⟩ := fl_rd_b h
                  refine g_ld (n := 36) (t0 := 1) hx hb hK hg (wm_a1 ad cz _) rfl i50 e51 dX3_findRound_267 ?_
                  obtain ⟨v52, i53, e54, h⟩ := fl_rd_b h
                  refine g_ld (n := 10) (t0 := 8) hx hb hK hg (wm_a8 ad cz _) rfl i53 e54 dX3_findRound_268 ?_
                  refine lv_aload_n hx hb dX3_findRound_269 rfl (lv_at hl 0 rfl) ?_
                  refine va_get (D := D) (ci := 3) (v := .ref (ad 4)) (C := RX3) (T := TX3) (N := 16) hx hb hts k_1 hown hK.1 hg.1 0 rfl rfl 4 (by decide) k_7 (fun _ h9 => h9) rfl dX3_findRound_270 ?_
                  refine lv_iload hx hb dX3_findRound_273 (lv_at hl 4 rfl) ?_
                  obtain ⟨v55, i56, e57, h⟩ := fl_rd_b h
                  refine g_ld (n := 36) (t0 := 3) hx hb hK hg (wm_a3 ad cz _) rfl i56 e57 dX3_findRound_275 ?_
                  refine lv_isub hx hb dX3_findRound_276 ?_
                  obtain ⟨σ58, i59, e60, h⟩ := fl_wr_b h
                  refine g_st (n := 10) (t0 := 8) hx hb hK hg (wm_a8 ad cz _) (wm_s8 ad cz _) rfl i59 e60 dX3_findRound_277 (fun H locs hg => ?_)
                  refine lv_aload_n hx hb dX3_findRound_278 rfl (lv_at hl 0 rfl) ?_
                  refine va_get (D := D) (ci := 3) (v := .ref (ad 10)) (C := RX3) (T := TX3) (N := 16) hx hb hts k_1 hown hK.1 hg.1 0 rfl rfl 11 (by decide) k_2 (fun _ h9 => h9) rfl dX3_findRound_279 ?_
                  refine lv_aload_n hx hb dX3_findRound_282 rfl (lv_at hl 0 rfl) ?_
                  refine va_get (D := D) (ci := 3) (v := .ref (ad 1)) (C := RX3) (T := TX3) (N := 16) hx hb hts k_1 hown hK.1 hg.1 0 rfl rfl 1 (by decide) k_8 (fun _ h9 => h9) rfl dX3_findRound_283 ?_
                  refine lv_iload hx hb dX3_findRound_286 (lv_at hl 4 rfl) ?_
                  obtain ⟨v61, i62, e63, h⟩ := fl_rd_b h
                  refine g_ld (n := 36) (t0 := 0) hx hb hK hg (wm_a0 ad cz _) rfl i62 e63 dX3_findRound_288 ?_
                  refine lv_iconst (v := (-1)) hx hb dX3_findRound_289 (by decide) ?_
                  refine lv_iload hx hb dX3_findRound_290 (lv_at hl 4 rfl) ?_
                  refine lv_isub hx hb dX3_findRound_292 ?_
                  obtain ⟨σ64, i65, e66, h⟩ := fl_wr_b h
                  refine g_st (n := 10) (t0 := 9) hx hb hK hg (wm_a9 ad cz _) (wm_s9 ad cz _) rfl i65 e66 dX3_findRound_293 (fun H locs hg => ?_)
                  refine lv_aload_n hx hb dX3_findRound_294 rfl (lv_at hl 0 rfl) ?_
                  refine va_get (D := D) (ci := 3) (v := .ref (ad 1)) (C := RX3) (T := TX3) (N := 16) hx hb hts k_1 hown hK.1 hg.1 0 rfl rfl 1 (by decide) k_8 (fun _ h9 => h9) rfl dX3_findRound_295 ?_
                  refine lv_iload hx hb dX3_findRound_298 (lv_at hl 4 rfl) ?_
                  obtain ⟨v67, i68, e69, h⟩ := fl_rd_b h
                  refine g_ld (n := 36) (t0 := 0) hx hb hK hg (wm_a0 ad cz _) rfl i68 e69 dX3_findRound_300 ?_
                  refine lv_istore_n (lv' := [(2, .int v67), (0, .ref (ad 0)), (1, .int x1), (3, .int x3), (4, .int x4)]) hx hb dX3_findRound_301 rfl hl (by decide) rfl (fun ls hl => ?_)
                  obtain ⟨rfl, rfl⟩ := fl_s2 h
                  exact J24 H locs ls hg (lv_sub hl [1, 2, 0, 3, 4] rfl)
          clear h
          have h := hB20
          refine lv_if_eq (tgt := 197) hx hb dX3_findRound_105 (by decide) (fun c16 => ?_) (fun c16 => ?_)
          · have h := fl_ifp c16 h
            obtain ⟨rfl, rfl⟩ := fl_s2 h
            exact J19 H locs ls hg (lv_sub hl [1, 2, 3, 4, 5] rfl)
          · have h := fl_ifn c16 h
            refine lv_aload_n hx hb dX3_findRound_108 rfl (lv_at hl 1 rfl) ?_
            refine va_get (D := D) (ci := 3) (v := .ref (ad 9)) (C := RX3) (T := TX3) (N := 16) hx hb hts k_1 hown hK.1 hg.1 0 rfl rfl 10 (by decide) k_0 (fun _ h9 => h9) rfl dX3_findRound_109 ?_
            refine lv_aload_n hx hb dX3_findRound_112 rfl (lv_at hl 1 rfl) ?_
            refine va_get (D := D) (ci := 3) (v := .ref (ad 1)) (C := RX3) (T := TX3) (N := 16) hx hb hts k_1 hown hK.1 hg.1 0 rfl rfl 1 (by decide) k_8 (fun _ h9 => h9) rfl dX3_findRound_113 ?_
            refine lv_iload hx hb dX3_findRound_116 (lv_at hl 5 rfl) ?_
            obtain ⟨v70, i71, e72, h⟩ := fl_rd_b h
            refine g_ld (n := 36) (t0 := 0) hx hb hK hg (wm_a0 ad cz _) rfl i71 e72 dX3_findRound_118 ?_
            obtain ⟨v73, i74, e75, h⟩ := fl_rd_b h
            refine g_ld (n := 10) (t0 := 8) hx hb hK hg (wm_a8 ad cz _) rfl i74 e75 dX3_findRound_119 ?_
            refine lv_aload_n hx hb dX3_findRound_120 rfl (lv_at hl 1 rfl) ?_
            refine va_get (D := D) (ci := 3) (v := .ref (ad 4)) (C := RX3) (T := TX3) (N := 16) hx hb hts k_1 hown hK.1 hg.1 0 rfl rfl 4 (by decide) k_7 (fun _ h9 => h9) rfl dX3_findRound_121 ?_
            refine lv_iload hx hb dX3_findRound_124 (lv_at hl 5 rfl) ?_
            obtain ⟨v76, i77, e78, h⟩ := fl_rd_b h
            refine g_ld (n := 36) (t0 := 3) hx hb hK hg (wm_a3 ad cz _) rfl i77 e78 dX3_findRound_126 ?_
            refine lv_iadd hx hb dX3_findRound_127 ?_
            refine lv_aload_n hx hb dX3_findRound_128 rfl (lv_at hl 1 rfl) ?_
            refine va_get (D := D) (ci := 3) (v := .ref (ad 9)) (C := RX3) (T := TX3) (N := 16) hx hb hts k_1 hown hK.1 hg.1 0 rfl rfl 10 (by decide) k_0 (fun _ h9 => h9) rfl dX3_findRound_129 ?_
            refine lv_aload_n hx hb dX3_findRound_132 rfl (lv_at hl 1 rfl) ?_
            refine va_get (D := D) (ci := 3) (v := .ref (ad 2)) (C := RX3) (T := TX3) (N := 16) hx hb hts k_1 hown hK.1 hg.1 0 rfl rfl 2 (by decide) k_6 (fun _ h9 => h9) rfl dX3_findRound_133 ?_
            refine lv_iload hx hb dX3_findRound_136 (lv_at hl 5 rfl) ?_
            obtain ⟨v79, i80, e81, h⟩ := fl_rd_b h
            refine g_ld (n := 36) (t0 := 1) hx hb hK hg (wm_a1 ad cz _) rfl i80 e81 dX3_findRound_138 ?_
            obtain ⟨v82, i83, e84, h⟩ := fl_rd_b h
            refine g_ld (n := 10) (t0 := 8) hx hb hK hg (wm_a8 ad cz _) rfl i83 e84 dX3_findRound_139 ?_
            refine lv_icmp_ge (tgt := 197) hx hb dX3_findRound_140 (by decide) (fun c85 => ?_) (fun c85 => ?_)
            · have h := fl_ifp c85 h
              obtain ⟨rfl, rfl⟩ := fl_s2 h
              exact J19 H locs ls hg (lv_sub hl [1, 2, 3, 4, 5] rfl)
            · have h := fl_ifn c85 h
              refine lv_aload_n hx hb dX3_findRound_143 rfl (lv_at hl 1 rfl) ?_
              refine va_get (D := D) (ci := 3) (v := .ref (ad 9)) (C := RX3) (T := TX3) (N := 16) hx hb hts k_1 hown hK.1 hg.1 0 rfl rfl 10 (by decide) k_0 (fun _ h9 => h9) rfl dX3_findRound_144 ?_
              refine lv_aload_n hx hb dX3_findRound_147 rfl (lv_at hl 1 rfl) ?_
              refine va_get (D := D) (ci := 3) (v := .ref (ad 2)) (C := RX3) (T := TX3) (N := 16) hx hb hts k_1 hown hK.1 hg.1 0 rfl rfl 2 (by decide) k_6 (fun _ h9 => h9) rfl dX3_findRound_148 ?_
              refine lv_iload hx hb dX3_findRound_151 (lv_at hl 5 rfl) ?_
              obtain ⟨v86, i87, e88, h⟩ := fl_rd_b h
              refine g_ld (n := 36) (t0 := 1) hx hb hK hg (wm_a1 ad cz _) rfl i87 e88 dX3_findRound_153 ?_
              refine lv_aload_n hx hb dX3_findRound_154 rfl (lv_at hl 1 rfl) ?_
              refine va_get (D := D) (ci := 3) (v := .ref (ad 9)) (C := RX3) (T := TX3) (N := 16) hx hb hts k_1 hown hK.1 hg.1 0 rfl rfl 10 (by decide) k_0 (fun _ h9 => h9) rfl dX3_findRound_155 ?_
              refine lv_aload_n hx hb dX3_findRound_158 rfl (lv_at hl 1 rfl) ?_
              refine va_get (D := D) (ci := 3) (v := .ref (ad 1)) (C := RX3) (T := TX3) (N := 16) hx hb hts k_1 hown hK.1 hg.1 0 rfl rfl 1 (by decide) k_8 (fun _ h9 => h9) rfl dX3_findRound_159 ?_
              refine lv_iload hx hb dX3_findRound_162 (lv_at hl 5 rfl) ?_
              obtain ⟨v89, i90, e91, h⟩ := fl_rd_b h
              refine g_ld (n := 36) (t0 := 0) hx hb hK hg (wm_a0 ad cz _) rfl i90 e91 dX3_findRound_164 ?_
              obtain ⟨v92, i93, e94, h⟩ := fl_rd_b h
              refine g_ld (n := 10) (t0 := 8) hx hb hK hg (wm_a8 ad cz _) rfl i93 e94 dX3_findRound_165 ?_
              refine lv_aload_n hx hb dX3_findRound_166 rfl (lv_at hl 1 rfl) ?_
              refine va_get (D := D) (ci := 3) (v := .ref (ad 4)) (C := RX3) (T := TX3) (N := 16) hx hb hts k_1 hown hK.1 hg.1 0 rfl rfl 4 (by decide) k_7 (fun _ h9 => h9) rfl dX3_findRound_167 ?_
              refine lv_iload hx hb dX3_findRound_170 (lv_at hl 5 rfl) ?_
              obtain ⟨v95, i96, e97, h⟩ := fl_rd_b h
              refine g_ld (n := 36) (t0 := 3) hx hb hK hg (wm_a3 ad cz _) rfl i96 e97 dX3_findRound_172 ?_
              refine lv_iadd hx hb dX3_findRound_173 ?_
              obtain ⟨σ98, i99, e100, h⟩ := fl_wr_b h
              refine g_st (n := 10) (t0 := 8) hx hb hK hg (wm_a8 ad cz _) (wm_s8 ad cz _) rfl i99 e100 dX3_findRound_174 (fun H locs hg => ?_)
              refine lv_aload_n hx hb dX3_findRound_175 rfl (lv_at hl 1 rfl) ?_
              refine va_get (D := D) (ci := 3) (v := .ref (ad 10)) (C := RX3) (T := TX3) (N := 16) hx hb hts k_1 hown hK.1 hg.1 0 rfl rfl 11 (by decide) k_2 (fun _ h9 => h9) rfl dX3_findRound_176 ?_
              refine lv_aload_n hx hb dX3_findRound_179 rfl (lv_at hl 1 rfl) ?_
              refine va_get (D := D) (ci := 3) (v := .ref (ad 2)) (C := RX3) (T := TX3) (N := 16) hx hb hts k_1 hown hK.1 hg.1 0 rfl rfl 2 (by decide) k_6 (fun _ h9 => h9) rfl dX3_findRound_180 ?_
              refine lv_iload hx hb dX3_findRound_183 (lv_at hl 5 rfl) ?_
              obtain ⟨v101, i102, e103, h⟩ := fl_rd_b h
              refine g_ld (n := 36) (t0 := 1) hx hb hK hg (wm_a1 ad cz _) rfl i102 e103 dX3_findRound_185 ?_
              refine lv_iload hx hb dX3_findRound_186 (lv_at hl 5 rfl) ?_
              obtain ⟨σ104, i105, e106, h⟩ := fl_wr_b h
              refine g_st (n := 10) (t0 := 9) hx hb hK hg (wm_a9 ad cz _) (wm_s9 ad cz _) rfl i105 e106 dX3_findRound_188 (fun H locs hg => ?_)
              refine lv_aload_n hx hb dX3_findRound_189 rfl (lv_at hl 1 rfl) ?_
              refine va_get (D := D) (ci := 3) (v := .ref (ad 2)) (C := RX3) (T := TX3) (N := 16) hx hb hts k_1 hown hK.1 hg.1 0 rfl rfl 2 (by decide) k_6 (fun _ h9 => h9) rfl dX3_findRound_190 ?_
              refine lv_iload hx hb dX3_findRound_193 (lv_at hl 5 rfl) ?_
              obtain ⟨v107, i108, e109, h⟩ := fl_rd_b h
              refine g_ld (n := 36) (t0 := 1) hx hb hK hg (wm_a1 ad cz _) rfl i108 e109 dX3_findRound_195 ?_
              refine lv_istore_n (lv' := [(2, .int v107), (5, .int t13), (0, .ref (ad 0)), (1, .int x1), (3, .int x3), (4, .int x4)]) hx hb dX3_findRound_196 rfl hl (by decide) rfl (fun ls hl => ?_)
              obtain ⟨rfl, rfl⟩ := fl_s2 h
              exact J19 H locs ls hg (lv_sub hl [2, 3, 0, 4, 5] rfl)
        clear h
        have h := hB15
        refine lv_if_eq (tgt := 79) hx hb dX3_findRound_56 (by decide) (fun c12 => ?_) (fun c12 => ?_)
        · have h := fl_ifp c12 h
          refine lv_aload_n hx hb dX3_findRound_79 rfl (lv_at hl 0 rfl) ?_
          refine va_get (D := D) (ci := 3) (v := .ref (ad 6)) (C := RX3) (T := TX3) (N := 16) hx hb hts k_1 hown hK.1 hg.1 0 rfl rfl 6 (by decide) k_5 (fun _ h9 => h9) rfl dX3_findRound_80 ?_
          refine lv_iload hx hb dX3_findRound_83 (lv_at hl 4 rfl) ?_
          obtain ⟨v110, i111, e112, h⟩ := fl_rd_b h
          refine g_ld (n := 36) (t0 := 5) hx hb hK hg (wm_a5 ad cz _) rfl i111 e112 dX3_findRound_85 ?_
          refine lv_aload_n hx hb dX3_findRound_86 rfl (lv_at hl 0 rfl) ?_
          refine va_get (D := D) (ci := 3) (v := .ref (ad 3)) (C := RX3) (T := TX3) (N := 16) hx hb hts k_1 hown hK.1 hg.1 0 rfl rfl 3 (by decide) k_9 (fun _ h9 => h9) rfl dX3_findRound_87 ?_
          refine lv_iload hx hb dX3_findRound_90 (lv_at hl 4 rfl) ?_
          obtain ⟨v113, i114, e115, h⟩ := fl_rd_b h
          refine g_ld (n := 36) (t0 := 2) hx hb hK hg (wm_a2 ad cz _) rfl i114 e115 dX3_findRound_92 ?_
          refine lv_icmp_ge (tgt := 100) hx hb dX3_findRound_93 (by decide) (fun c116 => ?_) (fun c116 => ?_)
          · have h := fl_ifp c116 h
            refine lv_iconst (v := (0)) hx hb dX3_findRound_100 (by decide) ?_
            obtain rfl := fl_s1 h
            exact J14 H locs ls hg (lv_sub hl [0, 1, 2, 3, 4] rfl)
          · have h := fl_ifn c116 h
            refine lv_iconst (v := (1)) hx hb dX3_findRound_96 (by decide) ?_
            refine lv_goto (tgt := 101) hx hb dX3_findRound_97 (by decide) ?_
            obtain rfl := fl_s1 h
            exact J14 H locs ls hg (lv_sub hl [0, 1, 2, 3, 4] rfl)
        · have h := fl_ifn c12 h
          refine lv_aload_n hx hb dX3_findRound_59 rfl (lv_at hl 0 rfl) ?_
          refine va_get (D := D) (ci := 3) (v := .ref (ad 3)) (C := RX3) (T := TX3) (N := 16) hx hb hts k_1 hown hK.1 hg.1 0 rfl rfl 3 (by decide) k_9 (fun _ h9 => h9) rfl dX3_findRound_60 ?_
          refine lv_iload hx hb dX3_findRound_63 (lv_at hl 4 rfl) ?_
          obtain ⟨v117, i118, e119, h⟩ := fl_rd_b h
          refine g_ld (n := 36) (t0 := 2) hx hb hK hg (wm_a2 ad cz _) rfl i118 e119 dX3_findRound_65 ?_
          refine lv_ldc hx hb hown k_10 dX3_findRound_66 ?_
          refine lv_icmp_ne (tgt := 75) hx hb dX3_findRound_68 (by decide) (fun c120 => ?_) (fun c120 => ?_)
          · have h := fl_ifn c120 h
            refine lv_iconst (v := (0)) hx hb dX3_findRound_75 (by decide) ?_
            refine lv_goto (tgt := 101) hx hb dX3_findRound_76 (by decide) ?_
            obtain rfl := fl_s1 h
            exact J14 H locs ls hg (lv_sub hl [0, 1, 2, 3, 4] rfl)
          · have h := fl_ifp c120 h
            refine lv_iconst (v := (1)) hx hb dX3_findRound_71 (by decide) ?_
            refine lv_goto (tgt := 101) hx hb dX3_findRound_72 (by decide) ?_
            obtain rfl := fl_s1 h
            exact J14 H locs ls hg (lv_sub hl [0, 1, 2, 3, 4] rfl)
  have L34 : ∀ (n : Nat) (x1 : Int32) (x2 : Int32) (x3 : Int32) (σ : fl_St) (o2 : Int32) (σo : fl_St) (H : Heap) (locs : List Loc) (ls : Array Slot), f_X3_findRound_l34 x1 n x2 x3 σ = some (o2, σo) → gS D (wm ad cz) A s.heap σ H locs → lv_has ls 6 [(0, .ref (ad 0)), (1, .int x1), (2, .int x2), (3, .int x3)] → (∀ (H : Heap) (locs : List Loc) (ls : Array Slot), gS D (wm ad cz) A s.heap σo H locs → lv_has ls 6 [(2, .int o2)] → W p l e rm_X3_findRound s m args below meth c H locs 0 0 Q (F0 m 314 ls [])) → W p l e rm_X3_findRound s m args below meth c H locs 0 0 Q (F0 m 34 ls []) := by
    intro n
    induction n with
    | zero =>
      intro x1 x2 x3 σ o2 σo H locs ls h hg hl kk0
      rw [f_X3_findRound_l34] at h
      cases h
    | succ n ih =>
      intro x1 x2 x3 σ o2 σo H locs ls h hg hl kk0
      rw [f_X3_findRound_l34] at h
      refine lv_iload_n hx hb dX3_findRound_34 rfl (lv_at hl 3 rfl) ?_
      refine lv_bipush (v := (8)) hx hb dX3_findRound_35 (by decide) ?_
      refine lv_icmp_gt (tgt := 314) hx hb dX3_findRound_37 (by decide) (fun c10 => ?_) (fun c10 => ?_)
      · have h := fl_ifp c10 h
        obtain ⟨rfl, rfl⟩ := fl_s2 h
        exact kk0 H locs ls hg (lv_sub hl [2] rfl)
      · have h := fl_ifn c10 h
        refine lv_ldc hx hb hown k_3 dX3_findRound_40 ?_
        refine lv_istore_n (lv' := [(2, .int (-1000004)), (0, .ref (ad 0)), (1, .int x1), (3, .int x3)]) hx hb dX3_findRound_42 rfl hl (by decide) rfl (fun ls hl => ?_)
        refine lv_iconst (v := (0)) hx hb dX3_findRound_43 (by decide) ?_
        refine lv_istore (lv' := [(4, .int (0)), (2, .int (-1000004)), (0, .ref (ad 0)), (1, .int x1), (3, .int x3)]) hx hb dX3_findRound_44 hl (by decide) rfl (fun ls hl => ?_)
        obtain ⟨w121, σ122, hB123, h⟩ := fl_b2_b h
        refine L46 fl_N _ _ _ _ _ _ _ H locs ls hB123 hg (lv_sub hl [2, 3, 1, 4, 0] rfl) (fun H locs ls hg hl => ?_)
        refine lv_iinc (v := (x3 + 1)) (lv' := [(3, .int (x3 + 1)), (0, .ref (ad 0)), (1, .int x1), (2, .int w121)]) hx hb dX3_findRound_308 hl (k := 3) rfl rfl (by decide) rfl (fun ls hl => ?_)
        refine lv_goto (tgt := 34) hx hb dX3_findRound_311 (by decide) ?_
        exact ih _ _ _ _ _ _ _ _ _ h hg (lv_sub hl [1, 2, 3, 0] rfl) kk0
  unfold f_X3_findRound at h
  have W0 : ∀ (H : Heap) (locs : List Loc), gS D (wm ad cz) A s.heap σ H locs → W p l e rm_X3_findRound s m args below meth c H locs 0 0 Q (F0 m 0 ls []) := by
    intro H locs hg
    refine lv_iconst (v := (0)) hx hb dX3_findRound_0 (by decide) ?_
    refine lv_istore_n (lv' := [(2, .int (0)), (0, .ref (ad 0)), (1, .int x1)]) hx hb dX3_findRound_1 rfl hl (by decide) rfl (fun ls hl => ?_)
    obtain ⟨σ8, hB9, h⟩ := fl_bnd h
    refine L2 fl_N _ _ _ _ H locs ls hB9 hg (lv_sub hl [1, 2, 0] rfl) (fun H locs ls hg hl => ?_)
    refine lv_ldc hx hb hown k_3 dX3_findRound_29 ?_
    refine lv_istore_n (lv' := [(2, .int (-1000004)), (0, .ref (ad 0)), (1, .int x1)]) hx hb dX3_findRound_31 rfl hl (by decide) rfl (fun ls hl => ?_)
    refine lv_iconst (v := (0)) hx hb dX3_findRound_32 (by decide) ?_
    refine lv_istore_n (lv' := [(3, .int (0)), (2, .int (-1000004)), (0, .ref (ad 0)), (1, .int x1)]) hx hb dX3_findRound_33 rfl hl (by decide) rfl (fun ls hl => ?_)
    obtain ⟨w124, σ125, hB126, h⟩ := fl_b2_b h
    refine L34 fl_N _ _ _ _ _ _ H locs ls hB126 hg (lv_sub hl [2, 3, 1, 0] rfl) (fun H locs ls hg hl => ?_)
    refine lv_iload_n hx hb dX3_findRound_314 rfl (lv_at hl 0 rfl) ?_
    exact hret _ _ _ _ _ _ h hg rfl dX3_findRound_315
  exact W0 _ _ hg
def f_X3_before (x1 : Int32) (σ : fl_St) : Option (Int32) := (fl_rd σ 9 10 x1).bind fun v1 => (if v1 < 0 then ((fl_rd σ 1 36 ((-1) - v1)).bind fun v8 => some (v8)) else ((fl_rd σ 0 36 v1).bind fun v11 => some (v11))).bind fun (t5 : Int32) => some t5
def rm_X3_before : Room := { frames := 0, cells := 0, slots := 0, locals := 0 }
set_option maxHeartbeats 4000000 in
set_option maxRecDepth 100000 in
theorem c_X3_before (l : Launch) (D : va_G) (ad : Nat → Nat) (cz : Nat → ClassId) (x1 : Int32) (σ : fl_St) {r : Int32} (h : f_X3_before x1 σ = some r) : gMi l yX3_before wsX3_before rm_X3_before D (wm ad cz) (wmT cz) [] [.ref (ad 0), .int x1] σ r σ := by
  refine gMi_of (cc := cX3_before) (maxL := 3) (by decide) rfl (Nat.le_of_ble_eq_true rfl) ?_
  intro p e s m args below meth c A Q ls hx hb hml hown hts hK hA hg hl hret
  have hown : s.vm.findClass RX3 = some m.cls := hown
  have hl : lv_has ls 3 [(0, .ref (ad 0)), (1, .int x1)] := hl
  have k_0 := hts (.fieldLink RX3 38 "FlowLedgerModel" "by" "[I") (by decide +kernel)
  have k_1 := (by decide +kernel : ∀ w ∈ wsX30, w ∈ wsX3_before)
  have k_2 := hts (.fieldLink RX3 13 "FlowLedgerModel" "tos" "[I") (by decide +kernel)
  have k_3 := hts (.fieldLink RX3 7 "FlowLedgerModel" "froms" "[I") (by decide +kernel)
  unfold f_X3_before at h
  have W0 : ∀ (H : Heap) (locs : List Loc), gS D (wm ad cz) A s.heap σ H locs → W p l e rm_X3_before s m args below meth c H locs 0 0 Q (F0 m 0 ls []) := by
    intro H locs hg
    refine lv_aload_n hx hb dX3_before_0 rfl (lv_at hl 0 rfl) ?_
    refine va_get (D := D) (ci := 3) (v := .ref (ad 10)) (C := RX3) (T := TX3) (N := 16) hx hb hts k_1 hown hK.1 hg.1 0 rfl rfl 11 (by decide) k_0 (fun _ h9 => h9) rfl dX3_before_1 ?_
    refine lv_iload_n hx hb dX3_before_4 rfl (lv_at hl 1 rfl) ?_
    obtain ⟨v1, i2, e3, h⟩ := fl_rd_b h
    refine g_ld (n := 10) (t0 := 9) hx hb hK hg (wm_a9 ad cz _) rfl i2 e3 dX3_before_5 ?_
    refine lv_istore_n (lv' := [(2, .int v1), (0, .ref (ad 0)), (1, .int x1)]) hx hb dX3_before_6 rfl hl (by decide) rfl (fun ls hl => ?_)
    refine lv_iload_n hx hb dX3_before_7 rfl (lv_at hl 0 rfl) ?_
    obtain ⟨t5, hB7, h⟩ := fl_bnd h
    have J6 : ∀ (H : Heap) (locs : List Loc) (ls : Array Slot), gS D (wm ad cz) A s.heap σ H locs → lv_has ls 3 [] → W p l e rm_X3_before s m args below meth c H locs 0 0 Q (F0 m 28 ls [.int t5]) := by
      intro H locs ls hg hl
      exact hret _ _ _ _ _ _ (congrArg (Option.map (fun q => (q, σ))) h) hg rfl dX3_before_28
    clear h
    have h := hB7
    refine lv_if_lt (tgt := 20) hx hb dX3_before_8 (by decide) (fun c4 => ?_) (fun c4 => ?_)
    · have h := fl_ifp c4 h
      refine lv_aload_n hx hb dX3_before_20 rfl (lv_at hl 1 rfl) ?_
      refine va_get (D := D) (ci := 3) (v := .ref (ad 2)) (C := RX3) (T := TX3) (N := 16) hx hb hts k_1 hown hK.1 hg.1 0 rfl rfl 2 (by decide) k_2 (fun _ h9 => h9) rfl dX3_before_21 ?_
      refine lv_iconst (v := (-1)) hx hb dX3_before_24 (by decide) ?_
      refine lv_iload_n hx hb dX3_before_25 rfl (lv_at hl 0 rfl) ?_
      refine lv_isub hx hb dX3_before_26 ?_
      obtain ⟨v8, i9, e10, h⟩ := fl_rd_b h
      refine g_ld (n := 36) (t0 := 1) hx hb hK hg (wm_a1 ad cz _) rfl i9 e10 dX3_before_27 ?_
      obtain rfl := fl_s1 h
      exact J6 H locs ls hg (lv_sub hl [] rfl)
    · have h := fl_ifn c4 h
      refine lv_aload_n hx hb dX3_before_11 rfl (lv_at hl 1 rfl) ?_
      refine va_get (D := D) (ci := 3) (v := .ref (ad 1)) (C := RX3) (T := TX3) (N := 16) hx hb hts k_1 hown hK.1 hg.1 0 rfl rfl 1 (by decide) k_3 (fun _ h9 => h9) rfl dX3_before_12 ?_
      refine lv_iload_n hx hb dX3_before_15 rfl (lv_at hl 0 rfl) ?_
      obtain ⟨v11, i12, e13, h⟩ := fl_rd_b h
      refine g_ld (n := 36) (t0 := 0) hx hb hK hg (wm_a0 ad cz _) rfl i12 e13 dX3_before_16 ?_
      refine lv_goto (tgt := 28) hx hb dX3_before_17 (by decide) ?_
      obtain rfl := fl_s1 h
      exact J6 H locs ls hg (lv_sub hl [] rfl)
  exact W0 _ _ hg
def f_X3_goRound_l4 (σ : fl_St) : Nat → Int32 → Int32 → Option (Int32)
  | 0, _, _ => none
  | n + 1, x2, x3 => if (8) ≤ x3 then (some (x2)) else ((f_X3_before x2 σ).bind fun r3 => f_X3_goRound_l4 σ n r3 (x3 + 1))
def f_X3_goRound_l31 (x2 : Int32) (σ : fl_St) : Nat → Int32 → Int32 → Int32 → Option (Int32 × Int32)
  | 0, _, _, _ => none
  | n + 1, x3, x4, x5 => if x5 = 0 then (some (x3, x4)) else ((fl_rd σ 9 10 x4).bind fun v7 => (if v7 < 0 then ((fl_rd σ 5 36 ((-1) - v7)).bind fun v24 => some (v24)) else ((fl_rd σ 2 36 v7).bind fun v27 => (fl_rd σ 5 36 v7).bind fun v30 => some ((v27 - v30)))).bind fun (t11 : Int32) => (if x3 ≤ t11 then (some (x3)) else (some (t11))).bind fun (t15 : Int32) => (f_X3_before x4 σ).bind fun r19 => (if r19 = x2 then (some ((0))) else (some ((1)))).bind fun (t21 : Int32) => f_X3_goRound_l31 x2 σ n t15 r19 t21)
def f_X3_goRound_l119 (x2 : Int32) (x3 : Int32) : Nat → Int32 → Int32 → fl_St → Option (fl_St)
  | 0, _, _, _ => none
  | n + 1, x4, x5, σ => if x5 = 0 then (some (σ)) else ((fl_rd σ 9 10 x4).bind fun v37 => (f_X3_before x4 σ).bind fun r41 => (if v37 < 0 then ((fl_rd σ 5 36 ((-1) - v37)).bind fun v50 => (fl_wr σ 5 36 ((-1) - v37) (v50 - x3)).bind fun σ53 => some (σ53)) else ((fl_rd σ 5 36 v37).bind fun v56 => (fl_wr σ 5 36 v37 (v56 + x3)).bind fun σ59 => some (σ59))).bind fun (σ43 : fl_St) => (if r41 = x2 then (some ((0))) else (some ((1)))).bind fun (t47 : Int32) => f_X3_goRound_l119 x2 x3 n r41 t47 σ43)
def f_X3_goRound (x1 : Int32) (σ : fl_St) : Option (fl_St) := (f_X3_goRound_l4 σ fl_N x1 (0)).bind fun (w4 : Int32) => fl_b2 (f_X3_goRound_l31 w4 σ fl_N (1000000) w4 (1)) fun (w33 : Int32) (w34 : Int32) => (f_X3_goRound_l119 w4 w33 fl_N w34 (1) σ).bind fun (σ62 : fl_St) => some σ62
def rm_X3_goRound : Room := { frames := 1, cells := 0, slots := 0, locals := 22 }
set_option maxHeartbeats 4000000 in
set_option maxRecDepth 100000 in
theorem c_X3_goRound (l : Launch) (D : va_G) (ad : Nat → Nat) (cz : Nat → ClassId) (x1 : Int32) (σ : fl_St) {σ' : fl_St} (h : f_X3_goRound x1 σ = some σ') : gMv l yX3_goRound wsX3_goRound rm_X3_goRound D (wm ad cz) (wmT cz) [] [.ref (ad 0), .int x1] σ σ' := by
  refine gMv_of (cc := cX3_goRound) (maxL := 8) (by decide) rfl (Nat.le_of_ble_eq_true rfl) ?_
  intro p e s m args below meth c A Q ls hx hb hml hown hts hK hA hg hl hret
  have hown : s.vm.findClass RX3 = some m.cls := hown
  have hl : lv_has ls 8 [(0, .ref (ad 0)), (1, .int x1)] := hl
  have k_0 := hts (.constant RX3 60 (1000000)) (by decide +kernel)
  have k_1 := hts (.fieldLink RX3 38 "FlowLedgerModel" "by" "[I") (by decide +kernel)
  have k_2 := (by decide +kernel : ∀ w ∈ wsX30, w ∈ wsX3_goRound)
  have k_3 := hts (.fieldLink RX3 25 "FlowLedgerModel" "flow" "[I") (by decide +kernel)
  have k_4 := hts (.fieldLink RX3 16 "FlowLedgerModel" "capacities" "[I") (by decide +kernel)
  have L4 : ∀ (n : Nat) (σ : fl_St) (x2 : Int32) (x3 : Int32) (o2 : Int32) (H : Heap) (locs : List Loc) (ls : Array Slot), f_X3_goRound_l4 σ n x2 x3 = some (o2) → gS D (wm ad cz) A s.heap σ H locs → lv_has ls 8 [(0, .ref (ad 0)), (2, .int x2), (3, .int x3)] → (∀ (H : Heap) (locs : List Loc) (ls : Array Slot), gS D (wm ad cz) A s.heap σ H locs → lv_has ls 8 [(0, .ref (ad 0)), (2, .int o2)] → W p l e rm_X3_goRound s m args below meth c H locs 0 0 Q (F0 m 22 ls [])) → W p l e rm_X3_goRound s m args below meth c H locs 0 0 Q (F0 m 4 ls []) := by
    intro n
    induction n with
    | zero =>
      intro σ x2 x3 o2 H locs ls h hg hl kk0
      rw [f_X3_goRound_l4] at h
      cases h
    | succ n ih =>
      intro σ x2 x3 o2 H locs ls h hg hl kk0
      rw [f_X3_goRound_l4] at h
      refine lv_iload_n hx hb dX3_goRound_4 rfl (lv_at hl 2 rfl) ?_
      refine lv_bipush (v := (8)) hx hb dX3_goRound_5 (by decide) ?_
      refine lv_icmp_ge (tgt := 22) hx hb dX3_goRound_7 (by decide) (fun c1 => ?_) (fun c1 => ?_)
      · have h := fl_ifp c1 h
        obtain rfl := fl_s1 h
        exact kk0 H locs ls hg (lv_sub hl [0, 1] rfl)
      · have h := fl_ifn c1 h
        refine lv_aload_n hx hb dX3_goRound_10 rfl (lv_at hl 0 rfl) ?_
        refine lv_iload_n hx hb dX3_goRound_11 rfl (lv_at hl 1 rfl) ?_
        obtain ⟨r3, e2, h⟩ := fl_bnd h
        refine g_callVi (As := [.int x2]) (rest := []) ⟨hx, hb, hml, hown, hts⟩ (c_X3_before l D ad cz (x2) (σ) e2) (cwV 1 hts gX3_goRound_X3_before rfl rfl rfl (by decide +kernel) ⟨Nat.le_of_ble_eq_true rfl, Nat.le_of_ble_eq_true rfl⟩) (va_recv hK.1 hg.1 (ci := 3) (q0 := 0) rfl rfl) hK hA hg rfl hl.1 rfl (Nat.le_of_ble_eq_true rfl) dX3_goRound_12 ⟨Nat.le_of_ble_eq_true rfl, Nat.le_of_ble_eq_true rfl⟩ (fun H locs hg => ?_)
        refine lv_istore_n (lv' := [(2, .int r3), (0, .ref (ad 0)), (3, .int x3)]) hx hb dX3_goRound_15 rfl hl (by decide) rfl (fun ls hl => ?_)
        refine lv_iinc (v := (x3 + 1)) (lv' := [(3, .int (x3 + 1)), (2, .int r3), (0, .ref (ad 0))]) hx hb dX3_goRound_16 hl (k := 2) rfl rfl (by decide) rfl (fun ls hl => ?_)
        refine lv_goto (tgt := 4) hx hb dX3_goRound_19 (by decide) ?_
        exact ih _ _ _ _ _ _ _ h hg (lv_sub hl [2, 1, 0] rfl) kk0
  have L31 : ∀ (n : Nat) (x2 : Int32) (σ : fl_St) (x3 : Int32) (x4 : Int32) (x5 : Int32) (o3 : Int32) (o4 : Int32) (H : Heap) (locs : List Loc) (ls : Array Slot), f_X3_goRound_l31 x2 σ n x3 x4 x5 = some (o3, o4) → gS D (wm ad cz) A s.heap σ H locs → lv_has ls 8 [(0, .ref (ad 0)), (2, .int x2), (3, .int x3), (4, .int x4), (5, .int x5)] → (∀ (H : Heap) (locs : List Loc) (ls : Array Slot), gS D (wm ad cz) A s.heap σ H locs → lv_has ls 8 [(0, .ref (ad 0)), (2, .int x2), (3, .int o3), (4, .int o4)] → W p l e rm_X3_goRound s m args below meth c H locs 0 0 Q (F0 m 116 ls [])) → W p l e rm_X3_goRound s m args below meth c H locs 0 0 Q (F0 m 31 ls []) := by
    intro n
    induction n with
    | zero =>
      intro x2 σ x3 x4 x5 o3 o4 H locs ls h hg hl kk0
      rw [f_X3_goRound_l31] at h
      cases h
    | succ n ih =>
      intro x2 σ x3 x4 x5 o3 o4 H locs ls h hg hl kk0
      rw [f_X3_goRound_l31] at h
      refine lv_iload hx hb dX3_goRound_31 (lv_at hl 4 rfl) ?_
      refine lv_if_eq (tgt := 116) hx hb dX3_goRound_33 (by decide) (fun c6 => ?_) (fun c6 => ?_)
      · have h := fl_ifp c6 h
        obtain ⟨rfl, rfl⟩ := fl_s2 h
        exact kk0 H locs ls hg (lv_sub hl [0, 1, 2, 3] rfl)
      · have h := fl_ifn c6 h
        refine lv_aload_n hx hb dX3_goRound_36 rfl (lv_at hl 0 rfl) ?_
        refine va_get (D := D) (ci := 3) (v := .ref (ad 10)) (C := RX3) (T := TX3) (N := 16) hx hb hts k_2 hown hK.1 hg.1 0 rfl rfl 11 (by decide) k_1 (fun _ h9 => h9) rfl dX3_goRound_37 ?_
        refine lv_iload hx hb dX3_goRound_40 (lv_at hl 3 rfl) ?_
        obtain ⟨v7, i8, e9, h⟩ := fl_rd_b h
        refine g_ld (n := 10) (t0 := 9) hx hb hK hg (wm_a9 ad cz _) rfl i8 e9 dX3_goRound_42 ?_
        refine lv_istore (lv' := [(6, .int v7), (0, .ref (ad 0)), (2, .int x2), (3, .int x3), (4, .int x4), (5, .int x5)]) hx hb dX3_goRound_43 hl (by decide) rfl (fun ls hl => ?_)
        refine lv_iload hx hb dX3_goRound_45 (lv_at hl 0 rfl) ?_
        obtain ⟨t11, hB13, h⟩ := fl_bnd h
        have J12 : ∀ (H : Heap) (locs : List Loc) (ls : Array Slot), gS D (wm ad cz) A s.heap σ H locs → lv_has ls 8 [(0, .ref (ad 0)), (2, .int x2), (3, .int x3), (4, .int x4)] → W p l e rm_X3_goRound s m args below meth c H locs 0 0 Q (F0 m 77 ls [.int t11]) := by
          intro H locs ls hg hl
          refine lv_istore (lv' := [(7, .int t11), (0, .ref (ad 0)), (2, .int x2), (3, .int x3), (4, .int x4)]) hx hb dX3_goRound_77 hl (by decide) rfl (fun ls hl => ?_)
          refine lv_iload hx hb dX3_goRound_79 (lv_at hl 0 rfl) ?_
          refine lv_iload_n hx hb dX3_goRound_81 rfl (lv_at hl 3 rfl) ?_
          obtain ⟨t15, hB17, h⟩ := fl_bnd h
          have J16 : ∀ (H : Heap) (locs : List Loc) (ls : Array Slot), gS D (wm ad cz) A s.heap σ H locs → lv_has ls 8 [(0, .ref (ad 0)), (2, .int x2), (4, .int x4)] → W p l e rm_X3_goRound s m args below meth c H locs 0 0 Q (F0 m 91 ls [.int t15]) := by
            intro H locs ls hg hl
            refine lv_istore_n (lv' := [(3, .int t15), (0, .ref (ad 0)), (2, .int x2), (4, .int x4)]) hx hb dX3_goRound_91 rfl hl (by decide) rfl (fun ls hl => ?_)
            refine lv_aload_n hx hb dX3_goRound_92 rfl (lv_at hl 1 rfl) ?_
            refine lv_iload hx hb dX3_goRound_93 (lv_at hl 3 rfl) ?_
            obtain ⟨r19, e18, h⟩ := fl_bnd h
            refine g_callVi (As := [.int x4]) (rest := []) ⟨hx, hb, hml, hown, hts⟩ (c_X3_before l D ad cz (x4) (σ) e18) (cwV 1 hts gX3_goRound_X3_before rfl rfl rfl (by decide +kernel) ⟨Nat.le_of_ble_eq_true rfl, Nat.le_of_ble_eq_true rfl⟩) (va_recv hK.1 hg.1 (ci := 3) (q0 := 0) rfl rfl) hK hA hg rfl hl.1 rfl (Nat.le_of_ble_eq_true rfl) dX3_goRound_95 ⟨Nat.le_of_ble_eq_true rfl, Nat.le_of_ble_eq_true rfl⟩ (fun H locs hg => ?_)
            refine lv_istore (lv' := [(4, .int r19), (3, .int t15), (0, .ref (ad 0)), (2, .int x2)]) hx hb dX3_goRound_98 hl (by decide) rfl (fun ls hl => ?_)
            refine lv_iload hx hb dX3_goRound_100 (lv_at hl 0 rfl) ?_
            refine lv_iload_n hx hb dX3_goRound_102 rfl (lv_at hl 3 rfl) ?_
            obtain ⟨t21, hB23, h⟩ := fl_bnd h
            have J22 : ∀ (H : Heap) (locs : List Loc) (ls : Array Slot), gS D (wm ad cz) A s.heap σ H locs → lv_has ls 8 [(0, .ref (ad 0)), (2, .int x2), (3, .int t15), (4, .int r19)] → W p l e rm_X3_goRound s m args below meth c H locs 0 0 Q (F0 m 111 ls [.int t21]) := by
              intro H locs ls hg hl
              refine lv_istore (lv' := [(5, .int t21), (0, .ref (ad 0)), (2, .int x2), (3, .int t15), (4, .int r19)]) hx hb dX3_goRound_111 hl (by decide) rfl (fun ls hl => ?_)
              refine lv_goto (tgt := 31) hx hb dX3_goRound_113 (by decide) ?_
              exact ih _ _ _ _ _ _ _ _ _ _ h hg (lv_sub hl [1, 2, 3, 4, 0] rfl) kk0
            clear h
            have h := hB23
            refine lv_icmp_eq (tgt := 110) hx hb dX3_goRound_103 (by decide) (fun c20 => ?_) (fun c20 => ?_)
            · have h := fl_ifp c20 h
              refine lv_iconst (v := (0)) hx hb dX3_goRound_110 (by decide) ?_
              obtain rfl := fl_s1 h
              exact J22 H locs ls hg (lv_sub hl [2, 3, 1, 0] rfl)
            · have h := fl_ifn c20 h
              refine lv_iconst (v := (1)) hx hb dX3_goRound_106 (by decide) ?_
              refine lv_goto (tgt := 111) hx hb dX3_goRound_107 (by decide) ?_
              obtain rfl := fl_s1 h
              exact J22 H locs ls hg (lv_sub hl [2, 3, 1, 0] rfl)
          clear h
          have h := hB17
          refine lv_icmp_ge (tgt := 90) hx hb dX3_goRound_82 (by decide) (fun c14 => ?_) (fun c14 => ?_)
          · have h := fl_ifp c14 h
            refine lv_iload_n hx hb dX3_goRound_90 rfl (lv_at hl 3 rfl) ?_
            obtain rfl := fl_s1 h
            exact J16 H locs ls hg (lv_sub hl [1, 2, 4] rfl)
          · have h := fl_ifn c14 h
            refine lv_iload hx hb dX3_goRound_85 (lv_at hl 0 rfl) ?_
            refine lv_goto (tgt := 91) hx hb dX3_goRound_87 (by decide) ?_
            obtain rfl := fl_s1 h
            exact J16 H locs ls hg (lv_sub hl [1, 2, 4] rfl)
        clear h
        have h := hB13
        refine lv_if_lt (tgt := 68) hx hb dX3_goRound_47 (by decide) (fun c10 => ?_) (fun c10 => ?_)
        · have h := fl_ifp c10 h
          refine lv_aload_n hx hb dX3_goRound_68 rfl (lv_at hl 1 rfl) ?_
          refine va_get (D := D) (ci := 3) (v := .ref (ad 6)) (C := RX3) (T := TX3) (N := 16) hx hb hts k_2 hown hK.1 hg.1 0 rfl rfl 6 (by decide) k_3 (fun _ h9 => h9) rfl dX3_goRound_69 ?_
          refine lv_iconst (v := (-1)) hx hb dX3_goRound_72 (by decide) ?_
          refine lv_iload hx hb dX3_goRound_73 (lv_at hl 0 rfl) ?_
          refine lv_isub hx hb dX3_goRound_75 ?_
          obtain ⟨v24, i25, e26, h⟩ := fl_rd_b h
          refine g_ld (n := 36) (t0 := 5) hx hb hK hg (wm_a5 ad cz _) rfl i25 e26 dX3_goRound_76 ?_
          obtain rfl := fl_s1 h
          exact J12 H locs ls hg (lv_sub hl [1, 2, 3, 4] rfl)
        · have h := fl_ifn c10 h
          refine lv_aload_n hx hb dX3_goRound_50 rfl (lv_at hl 1 rfl) ?_
          refine va_get (D := D) (ci := 3) (v := .ref (ad 3)) (C := RX3) (T := TX3) (N := 16) hx hb hts k_2 hown hK.1 hg.1 0 rfl rfl 3 (by decide) k_4 (fun _ h9 => h9) rfl dX3_goRound_51 ?_
          refine lv_iload hx hb dX3_goRound_54 (lv_at hl 0 rfl) ?_
          obtain ⟨v27, i28, e29, h⟩ := fl_rd_b h
          refine g_ld (n := 36) (t0 := 2) hx hb hK hg (wm_a2 ad cz _) rfl i28 e29 dX3_goRound_56 ?_
          refine lv_aload_n hx hb dX3_goRound_57 rfl (lv_at hl 1 rfl) ?_
          refine va_get (D := D) (ci := 3) (v := .ref (ad 6)) (C := RX3) (T := TX3) (N := 16) hx hb hts k_2 hown hK.1 hg.1 0 rfl rfl 6 (by decide) k_3 (fun _ h9 => h9) rfl dX3_goRound_58 ?_
          refine lv_iload hx hb dX3_goRound_61 (lv_at hl 0 rfl) ?_
          obtain ⟨v30, i31, e32, h⟩ := fl_rd_b h
          refine g_ld (n := 36) (t0 := 5) hx hb hK hg (wm_a5 ad cz _) rfl i31 e32 dX3_goRound_63 ?_
          refine lv_isub hx hb dX3_goRound_64 ?_
          refine lv_goto (tgt := 77) hx hb dX3_goRound_65 (by decide) ?_
          obtain rfl := fl_s1 h
          exact J12 H locs ls hg (lv_sub hl [1, 2, 3, 4] rfl)
  have L119 : ∀ (n : Nat) (x2 : Int32) (x3 : Int32) (x4 : Int32) (x5 : Int32) (σ : fl_St) (σo : fl_St) (H : Heap) (locs : List Loc) (ls : Array Slot), f_X3_goRound_l119 x2 x3 n x4 x5 σ = some (σo) → gS D (wm ad cz) A s.heap σ H locs → lv_has ls 8 [(0, .ref (ad 0)), (2, .int x2), (3, .int x3), (4, .int x4), (5, .int x5)] → (∀ (H : Heap) (locs : List Loc) (ls : Array Slot), gS D (wm ad cz) A s.heap σo H locs → lv_has ls 8 [] → W p l e rm_X3_goRound s m args below meth c H locs 0 0 Q (F0 m 193 ls [])) → W p l e rm_X3_goRound s m args below meth c H locs 0 0 Q (F0 m 119 ls []) := by
    intro n
    induction n with
    | zero =>
      intro x2 x3 x4 x5 σ σo H locs ls h hg hl kk0
      rw [f_X3_goRound_l119] at h
      cases h
    | succ n ih =>
      intro x2 x3 x4 x5 σ σo H locs ls h hg hl kk0
      rw [f_X3_goRound_l119] at h
      refine lv_iload hx hb dX3_goRound_119 (lv_at hl 4 rfl) ?_
      refine lv_if_eq (tgt := 193) hx hb dX3_goRound_121 (by decide) (fun c36 => ?_) (fun c36 => ?_)
      · have h := fl_ifp c36 h
        obtain rfl := fl_s1 h
        exact kk0 H locs ls hg (lv_sub hl [] rfl)
      · have h := fl_ifn c36 h
        refine lv_aload_n hx hb dX3_goRound_124 rfl (lv_at hl 0 rfl) ?_
        refine va_get (D := D) (ci := 3) (v := .ref (ad 10)) (C := RX3) (T := TX3) (N := 16) hx hb hts k_2 hown hK.1 hg.1 0 rfl rfl 11 (by decide) k_1 (fun _ h9 => h9) rfl dX3_goRound_125 ?_
        refine lv_iload hx hb dX3_goRound_128 (lv_at hl 3 rfl) ?_
        obtain ⟨v37, i38, e39, h⟩ := fl_rd_b h
        refine g_ld (n := 10) (t0 := 9) hx hb hK hg (wm_a9 ad cz _) rfl i38 e39 dX3_goRound_130 ?_
        refine lv_istore (lv' := [(6, .int v37), (0, .ref (ad 0)), (2, .int x2), (3, .int x3), (4, .int x4), (5, .int x5)]) hx hb dX3_goRound_131 hl (by decide) rfl (fun ls hl => ?_)
        refine lv_aload_n hx hb dX3_goRound_133 rfl (lv_at hl 1 rfl) ?_
        refine lv_iload hx hb dX3_goRound_134 (lv_at hl 4 rfl) ?_
        obtain ⟨r41, e40, h⟩ := fl_bnd h
        refine g_callVi (As := [.int x4]) (rest := []) ⟨hx, hb, hml, hown, hts⟩ (c_X3_before l D ad cz (x4) (σ) e40) (cwV 1 hts gX3_goRound_X3_before rfl rfl rfl (by decide +kernel) ⟨Nat.le_of_ble_eq_true rfl, Nat.le_of_ble_eq_true rfl⟩) (va_recv hK.1 hg.1 (ci := 3) (q0 := 0) rfl rfl) hK hA hg rfl hl.1 rfl (Nat.le_of_ble_eq_true rfl) dX3_goRound_136 ⟨Nat.le_of_ble_eq_true rfl, Nat.le_of_ble_eq_true rfl⟩ (fun H locs hg => ?_)
        refine lv_istore (lv' := [(7, .int r41), (6, .int v37), (0, .ref (ad 0)), (2, .int x2), (3, .int x3), (4, .int x4), (5, .int x5)]) hx hb dX3_goRound_139 hl (by decide) rfl (fun ls hl => ?_)
        refine lv_iload hx hb dX3_goRound_141 (lv_at hl 1 rfl) ?_
        obtain ⟨σ43, hB45, h⟩ := fl_bnd h
        have J44 : ∀ (H : Heap) (locs : List Loc) (ls : Array Slot), gS D (wm ad cz) A s.heap σ43 H locs → lv_has ls 8 [(0, .ref (ad 0)), (2, .int x2), (3, .int x3), (7, .int r41)] → W p l e rm_X3_goRound s m args below meth c H locs 0 0 Q (F0 m 173 ls []) := by
          intro H locs ls hg hl
          refine lv_iload hx hb dX3_goRound_173 (lv_at hl 3 rfl) ?_
          refine lv_istore (lv' := [(4, .int r41), (0, .ref (ad 0)), (2, .int x2), (3, .int x3), (7, .int r41)]) hx hb dX3_goRound_175 hl (by decide) rfl (fun ls hl => ?_)
          refine lv_iload hx hb dX3_goRound_177 (lv_at hl 0 rfl) ?_
          refine lv_iload_n hx hb dX3_goRound_179 rfl (lv_at hl 2 rfl) ?_
          obtain ⟨t47, hB49, h⟩ := fl_bnd h
          have J48 : ∀ (H : Heap) (locs : List Loc) (ls : Array Slot), gS D (wm ad cz) A s.heap σ43 H locs → lv_has ls 8 [(0, .ref (ad 0)), (2, .int x2), (3, .int x3), (4, .int r41)] → W p l e rm_X3_goRound s m args below meth c H locs 0 0 Q (F0 m 188 ls [.int t47]) := by
            intro H locs ls hg hl
            refine lv_istore (lv' := [(5, .int t47), (0, .ref (ad 0)), (2, .int x2), (3, .int x3), (4, .int r41)]) hx hb dX3_goRound_188 hl (by decide) rfl (fun ls hl => ?_)
            refine lv_goto (tgt := 119) hx hb dX3_goRound_190 (by decide) ?_
            exact ih _ _ _ _ _ _ _ _ _ h hg (lv_sub hl [1, 2, 3, 4, 0] rfl) kk0
          clear h
          have h := hB49
          refine lv_icmp_eq (tgt := 187) hx hb dX3_goRound_180 (by decide) (fun c46 => ?_) (fun c46 => ?_)
          · have h := fl_ifp c46 h
            refine lv_iconst (v := (0)) hx hb dX3_goRound_187 (by decide) ?_
            obtain rfl := fl_s1 h
            exact J48 H locs ls hg (lv_sub hl [1, 2, 3, 0] rfl)
          · have h := fl_ifn c46 h
            refine lv_iconst (v := (1)) hx hb dX3_goRound_183 (by decide) ?_
            refine lv_goto (tgt := 188) hx hb dX3_goRound_184 (by decide) ?_
            obtain rfl := fl_s1 h
            exact J48 H locs ls hg (lv_sub hl [1, 2, 3, 0] rfl)
        clear h
        have h := hB45
        refine lv_if_lt (tgt := 160) hx hb dX3_goRound_143 (by decide) (fun c42 => ?_) (fun c42 => ?_)
        · have h := fl_ifp c42 h
          refine lv_aload_n hx hb dX3_goRound_160 rfl (lv_at hl 2 rfl) ?_
          refine va_get (D := D) (ci := 3) (v := .ref (ad 6)) (C := RX3) (T := TX3) (N := 16) hx hb hts k_2 hown hK.1 hg.1 0 rfl rfl 6 (by decide) k_3 (fun _ h9 => h9) rfl dX3_goRound_161 ?_
          refine lv_iconst (v := (-1)) hx hb dX3_goRound_164 (by decide) ?_
          refine lv_iload hx hb dX3_goRound_165 (lv_at hl 1 rfl) ?_
          refine lv_isub hx hb dX3_goRound_167 ?_
          refine lv_dup2_11 hx hb dX3_goRound_168 rfl rfl ?_
          obtain ⟨v50, i51, e52, h⟩ := fl_rd_b h
          refine g_ld (n := 36) (t0 := 5) hx hb hK hg (wm_a5 ad cz _) rfl i51 e52 dX3_goRound_169 ?_
          refine lv_iload_n hx hb dX3_goRound_170 rfl (lv_at hl 4 rfl) ?_
          refine lv_isub hx hb dX3_goRound_171 ?_
          obtain ⟨σ53, i54, e55, h⟩ := fl_wr_b h
          refine g_st (n := 36) (t0 := 5) hx hb hK hg (wm_a5 ad cz _) (wm_s5 ad cz _) rfl i54 e55 dX3_goRound_172 (fun H locs hg => ?_)
          obtain rfl := fl_s1 h
          exact J44 H locs ls hg (lv_sub hl [2, 3, 4, 0] rfl)
        · have h := fl_ifn c42 h
          refine lv_aload_n hx hb dX3_goRound_146 rfl (lv_at hl 2 rfl) ?_
          refine va_get (D := D) (ci := 3) (v := .ref (ad 6)) (C := RX3) (T := TX3) (N := 16) hx hb hts k_2 hown hK.1 hg.1 0 rfl rfl 6 (by decide) k_3 (fun _ h9 => h9) rfl dX3_goRound_147 ?_
          refine lv_iload hx hb dX3_goRound_150 (lv_at hl 1 rfl) ?_
          refine lv_dup2_11 hx hb dX3_goRound_152 rfl rfl ?_
          obtain ⟨v56, i57, e58, h⟩ := fl_rd_b h
          refine g_ld (n := 36) (t0 := 5) hx hb hK hg (wm_a5 ad cz _) rfl i57 e58 dX3_goRound_153 ?_
          refine lv_iload_n hx hb dX3_goRound_154 rfl (lv_at hl 4 rfl) ?_
          refine lv_iadd hx hb dX3_goRound_155 ?_
          obtain ⟨σ59, i60, e61, h⟩ := fl_wr_b h
          refine g_st (n := 36) (t0 := 5) hx hb hK hg (wm_a5 ad cz _) (wm_s5 ad cz _) rfl i60 e61 dX3_goRound_156 (fun H locs hg => ?_)
          refine lv_goto (tgt := 173) hx hb dX3_goRound_157 (by decide) ?_
          obtain rfl := fl_s1 h
          exact J44 H locs ls hg (lv_sub hl [2, 3, 4, 0] rfl)
  unfold f_X3_goRound at h
  have W0 : ∀ (H : Heap) (locs : List Loc), gS D (wm ad cz) A s.heap σ H locs → W p l e rm_X3_goRound s m args below meth c H locs 0 0 Q (F0 m 0 ls []) := by
    intro H locs hg
    refine lv_iload_n hx hb dX3_goRound_0 rfl (lv_at hl 1 rfl) ?_
    refine lv_istore_n (lv' := [(2, .int x1), (0, .ref (ad 0)), (1, .int x1)]) hx hb dX3_goRound_1 rfl hl (by decide) rfl (fun ls hl => ?_)
    refine lv_iconst (v := (0)) hx hb dX3_goRound_2 (by decide) ?_
    refine lv_istore_n (lv' := [(3, .int (0)), (2, .int x1), (0, .ref (ad 0)), (1, .int x1)]) hx hb dX3_goRound_3 rfl hl (by decide) rfl (fun ls hl => ?_)
    obtain ⟨w4, hB5, h⟩ := fl_bnd h
    refine L4 fl_N _ _ _ _ H locs ls hB5 hg (lv_sub hl [2, 1, 0] rfl) (fun H locs ls hg hl => ?_)
    refine lv_ldc hx hb hown k_0 dX3_goRound_22 ?_
    refine lv_istore_n (lv' := [(3, .int (1000000)), (0, .ref (ad 0)), (2, .int w4)]) hx hb dX3_goRound_24 rfl hl (by decide) rfl (fun ls hl => ?_)
    refine lv_iload_n hx hb dX3_goRound_25 rfl (lv_at hl 2 rfl) ?_
    refine lv_istore (lv' := [(4, .int w4), (3, .int (1000000)), (0, .ref (ad 0)), (2, .int w4)]) hx hb dX3_goRound_26 hl (by decide) rfl (fun ls hl => ?_)
    refine lv_iconst (v := (1)) hx hb dX3_goRound_28 (by decide) ?_
    refine lv_istore (lv' := [(5, .int (1)), (4, .int w4), (3, .int (1000000)), (0, .ref (ad 0)), (2, .int w4)]) hx hb dX3_goRound_29 hl (by decide) rfl (fun ls hl => ?_)
    obtain ⟨w33, w34, hB35, h⟩ := fl_b2_b h
    refine L31 fl_N _ _ _ _ _ _ _ H locs ls hB35 hg (lv_sub hl [3, 4, 2, 1, 0] rfl) (fun H locs ls hg hl => ?_)
    refine lv_iconst (v := (1)) hx hb dX3_goRound_116 (by decide) ?_
    refine lv_istore (lv' := [(5, .int (1)), (0, .ref (ad 0)), (2, .int w4), (3, .int w33), (4, .int w34)]) hx hb dX3_goRound_117 hl (by decide) rfl (fun ls hl => ?_)
    obtain ⟨σ62, hB63, h⟩ := fl_bnd h
    refine L119 fl_N _ _ _ _ _ _ H locs ls hB63 hg (lv_sub hl [1, 2, 3, 4, 0] rfl) (fun H locs ls hg hl => ?_)
    exact hret _ _ _ _ _ h hg dX3_goRound_193
  exact W0 _ _ hg
def f_X3_solve_l6 (σ : fl_St) : Nat → Int32 → Int32 → Int32 → Option (Int32 × Int32)
  | 0, _, _, _ => none
  | n + 1, x1, x2, x3 => if (8) ≤ x3 then (some (x1, x2)) else ((fl_rd σ 4 8 x3).bind fun v2 => (if v2 ≤ 0 then (some ((0))) else ((fl_rd σ 4 8 x3).bind fun v19 => some (v19))).bind fun (t6 : Int32) => (fl_rd σ 4 8 x3).bind fun v9 => (if 0 ≤ v9 then (some ((0))) else ((fl_rd σ 4 8 x3).bind fun v16 => some ((-v16)))).bind fun (t13 : Int32) => f_X3_solve_l6 σ n (x1 + t6) (x2 + t13) (x3 + 1))
def f_X3_solve_l98 : Nat → Int32 → fl_St → Option (fl_St)
  | 0, _, _ => none
  | n + 1, x3, σ => if x3 = (-1000004) then (some (σ)) else ((f_X3_goRound x3 σ).bind fun σ39 => fl_b2 (f_X3_findRound (0) σ39) fun r41 σ42 => f_X3_solve_l98 n r41 σ42)
def f_X3_solve_l126 : Nat → Int32 → fl_St → Option (fl_St)
  | 0, _, _ => none
  | n + 1, x4, σ => if (σ 13 0) ≤ x4 then (some (σ)) else ((fl_rd σ 5 36 x4).bind fun v48 => (fl_rd σ 3 36 x4).bind fun v51 => (some (st σ 13 2 ((σ 13 2) + (v48 * v51)))).bind fun σ54 => f_X3_solve_l126 n (x4 + 1) σ54)
def f_X3_solve (σ : fl_St) : Option (Int32 × fl_St) := fl_b2 (f_X3_solve_l6 σ fl_N (0) (0) (0)) fun (w22 : Int32) (w23 : Int32) => if w22 = w23 then (fl_b2 (f_X3_fill  σ) fun r27 σ28 => if r27 = w22 then (fl_b2 (f_X3_findRound (1) σ28) fun r31 σ32 => if r31 = (-1000004) then (fl_b2 (f_X3_findRound (0) σ32) fun r35 σ36 => (f_X3_solve_l98 fl_N r35 σ36).bind fun (σ43 : fl_St) => (some (st σ43 13 2 (0))).bind fun σ45 => (f_X3_solve_l126 fl_N (0) σ45).bind fun (σ56 : fl_St) => some ((0), σ56)) else (some ((-1000003), σ32))) else (some ((-1000002), σ28))) else (some ((-1000002), σ))
def rm_X3_solve : Room := { frames := 4, cells := 0, slots := 0, locals := 100 }
set_option maxHeartbeats 4000000 in
set_option maxRecDepth 100000 in
theorem c_X3_solve (l : Launch) (D : va_G) (ad : Nat → Nat) (cz : Nat → ClassId) (σ : fl_St) {r : Int32} {σ' : fl_St} (h : f_X3_solve σ = some (r, σ')) : gMi l yX3_solve wsX3_solve rm_X3_solve D (wm ad cz) (wmT cz) [] [.ref (ad 0)] σ r σ' := by
  refine gMi_of (cc := cX3_solve) (maxL := 5) (by decide) rfl (Nat.le_of_ble_eq_true rfl) ?_
  intro p e s m args below meth c A Q ls hx hb hml hown hts hK hA hg hl hret
  have hown : s.vm.findClass RX3 = some m.cls := hown
  have hl : lv_has ls 5 [(0, .ref (ad 0))] := hl
  have k_0 := hts (.fieldLink RX3 22 "FlowLedgerModel" "supplies" "[I") (by decide +kernel)
  have k_1 := (by decide +kernel : ∀ w ∈ wsX30, w ∈ wsX3_solve)
  have k_2 := hts (.constant RX3 90 (-1000002)) (by decide +kernel)
  have k_3 := hts (.constant RX3 84 (-1000004)) (by decide +kernel)
  have k_4 := hts (.fieldLink RX3 100 "FlowLedgerModel" "total" "I") (by decide +kernel)
  have k_5 := hts (.fieldLink RX3 55 "FlowLedgerModel" "arcs" "I") (by decide +kernel)
  have k_6 := hts (.fieldLink RX3 25 "FlowLedgerModel" "flow" "[I") (by decide +kernel)
  have k_7 := hts (.fieldLink RX3 19 "FlowLedgerModel" "costs" "[I") (by decide +kernel)
  have k_8 := hts (.constant RX3 95 (-1000003)) (by decide +kernel)
  have L6 : ∀ (n : Nat) (σ : fl_St) (x1 : Int32) (x2 : Int32) (x3 : Int32) (o1 : Int32) (o2 : Int32) (H : Heap) (locs : List Loc) (ls : Array Slot), f_X3_solve_l6 σ n x1 x2 x3 = some (o1, o2) → gS D (wm ad cz) A s.heap σ H locs → lv_has ls 5 [(0, .ref (ad 0)), (1, .int x1), (2, .int x2), (3, .int x3)] → (∀ (H : Heap) (locs : List Loc) (ls : Array Slot), gS D (wm ad cz) A s.heap σ H locs → lv_has ls 5 [(0, .ref (ad 0)), (1, .int o1), (2, .int o2)] → W p l e rm_X3_solve s m args below meth c H locs 0 0 Q (F0 m 63 ls [])) → W p l e rm_X3_solve s m args below meth c H locs 0 0 Q (F0 m 6 ls []) := by
    intro n
    induction n with
    | zero =>
      intro σ x1 x2 x3 o1 o2 H locs ls h hg hl kk0
      rw [f_X3_solve_l6] at h
      cases h
    | succ n ih =>
      intro σ x1 x2 x3 o1 o2 H locs ls h hg hl kk0
      rw [f_X3_solve_l6] at h
      refine lv_iload_n hx hb dX3_solve_6 rfl (lv_at hl 3 rfl) ?_
      refine lv_bipush (v := (8)) hx hb dX3_solve_7 (by decide) ?_
      refine lv_icmp_ge (tgt := 63) hx hb dX3_solve_9 (by decide) (fun c1 => ?_) (fun c1 => ?_)
      · have h := fl_ifp c1 h
        obtain ⟨rfl, rfl⟩ := fl_s2 h
        exact kk0 H locs ls hg (lv_sub hl [0, 1, 2] rfl)
      · have h := fl_ifn c1 h
        refine lv_iload_n hx hb dX3_solve_12 rfl (lv_at hl 1 rfl) ?_
        refine lv_aload_n hx hb dX3_solve_13 rfl (lv_at hl 0 rfl) ?_
        refine va_get (D := D) (ci := 3) (v := .ref (ad 5)) (C := RX3) (T := TX3) (N := 16) hx hb hts k_1 hown hK.1 hg.1 0 rfl rfl 5 (by decide) k_0 (fun _ h9 => h9) rfl dX3_solve_14 ?_
        refine lv_iload_n hx hb dX3_solve_17 rfl (lv_at hl 3 rfl) ?_
        obtain ⟨v2, i3, e4, h⟩ := fl_rd_b h
        refine g_ld (n := 8) (t0 := 4) hx hb hK hg (wm_a4 ad cz _) rfl i3 e4 dX3_solve_18 ?_
        obtain ⟨t6, hB8, h⟩ := fl_bnd h
        have J7 : ∀ (H : Heap) (locs : List Loc) (ls : Array Slot), gS D (wm ad cz) A s.heap σ H locs → lv_has ls 5 [(0, .ref (ad 0)), (2, .int x2), (3, .int x3)] → W p l e rm_X3_solve s m args below meth c H locs 0 0 Q (F0 m 32 ls [.int t6, .int x1]) := by
          intro H locs ls hg hl
          refine lv_iadd hx hb dX3_solve_32 ?_
          refine lv_istore_n (lv' := [(1, .int (x1 + t6)), (0, .ref (ad 0)), (2, .int x2), (3, .int x3)]) hx hb dX3_solve_33 rfl hl (by decide) rfl (fun ls hl => ?_)
          refine lv_iload_n hx hb dX3_solve_34 rfl (lv_at hl 2 rfl) ?_
          refine lv_aload_n hx hb dX3_solve_35 rfl (lv_at hl 1 rfl) ?_
          refine va_get (D := D) (ci := 3) (v := .ref (ad 5)) (C := RX3) (T := TX3) (N := 16) hx hb hts k_1 hown hK.1 hg.1 0 rfl rfl 5 (by decide) k_0 (fun _ h9 => h9) rfl dX3_solve_36 ?_
          refine lv_iload_n hx hb dX3_solve_39 rfl (lv_at hl 3 rfl) ?_
          obtain ⟨v9, i10, e11, h⟩ := fl_rd_b h
          refine g_ld (n := 8) (t0 := 4) hx hb hK hg (wm_a4 ad cz _) rfl i10 e11 dX3_solve_40 ?_
          obtain ⟨t13, hB15, h⟩ := fl_bnd h
          have J14 : ∀ (H : Heap) (locs : List Loc) (ls : Array Slot), gS D (wm ad cz) A s.heap σ H locs → lv_has ls 5 [(0, .ref (ad 0)), (1, .int (x1 + t6)), (3, .int x3)] → W p l e rm_X3_solve s m args below meth c H locs 0 0 Q (F0 m 55 ls [.int t13, .int x2]) := by
            intro H locs ls hg hl
            refine lv_iadd hx hb dX3_solve_55 ?_
            refine lv_istore_n (lv' := [(2, .int (x2 + t13)), (0, .ref (ad 0)), (1, .int (x1 + t6)), (3, .int x3)]) hx hb dX3_solve_56 rfl hl (by decide) rfl (fun ls hl => ?_)
            refine lv_iinc (v := (x3 + 1)) (lv' := [(3, .int (x3 + 1)), (2, .int (x2 + t13)), (0, .ref (ad 0)), (1, .int (x1 + t6))]) hx hb dX3_solve_57 hl (k := 3) rfl rfl (by decide) rfl (fun ls hl => ?_)
            refine lv_goto (tgt := 6) hx hb dX3_solve_60 (by decide) ?_
            exact ih _ _ _ _ _ _ _ _ _ h hg (lv_sub hl [2, 3, 1, 0] rfl) kk0
          clear h
          have h := hB15
          refine lv_if_ge (tgt := 54) hx hb dX3_solve_41 (by decide) (fun c12 => ?_) (fun c12 => ?_)
          · have h := fl_ifp c12 h
            refine lv_iconst (v := (0)) hx hb dX3_solve_54 (by decide) ?_
            obtain rfl := fl_s1 h
            exact J14 H locs ls hg (lv_sub hl [1, 0, 3] rfl)
          · have h := fl_ifn c12 h
            refine lv_aload_n hx hb dX3_solve_44 rfl (lv_at hl 1 rfl) ?_
            refine va_get (D := D) (ci := 3) (v := .ref (ad 5)) (C := RX3) (T := TX3) (N := 16) hx hb hts k_1 hown hK.1 hg.1 0 rfl rfl 5 (by decide) k_0 (fun _ h9 => h9) rfl dX3_solve_45 ?_
            refine lv_iload_n hx hb dX3_solve_48 rfl (lv_at hl 3 rfl) ?_
            obtain ⟨v16, i17, e18, h⟩ := fl_rd_b h
            refine g_ld (n := 8) (t0 := 4) hx hb hK hg (wm_a4 ad cz _) rfl i17 e18 dX3_solve_49 ?_
            refine lv_ineg hx hb dX3_solve_50 ?_
            refine lv_goto (tgt := 55) hx hb dX3_solve_51 (by decide) ?_
            obtain rfl := fl_s1 h
            exact J14 H locs ls hg (lv_sub hl [1, 0, 3] rfl)
        clear h
        have h := hB8
        refine lv_if_le (tgt := 31) hx hb dX3_solve_19 (by decide) (fun c5 => ?_) (fun c5 => ?_)
        · have h := fl_ifp c5 h
          refine lv_iconst (v := (0)) hx hb dX3_solve_31 (by decide) ?_
          obtain rfl := fl_s1 h
          exact J7 H locs ls hg (lv_sub hl [0, 2, 3] rfl)
        · have h := fl_ifn c5 h
          refine lv_aload_n hx hb dX3_solve_22 rfl (lv_at hl 0 rfl) ?_
          refine va_get (D := D) (ci := 3) (v := .ref (ad 5)) (C := RX3) (T := TX3) (N := 16) hx hb hts k_1 hown hK.1 hg.1 0 rfl rfl 5 (by decide) k_0 (fun _ h9 => h9) rfl dX3_solve_23 ?_
          refine lv_iload_n hx hb dX3_solve_26 rfl (lv_at hl 3 rfl) ?_
          obtain ⟨v19, i20, e21, h⟩ := fl_rd_b h
          refine g_ld (n := 8) (t0 := 4) hx hb hK hg (wm_a4 ad cz _) rfl i20 e21 dX3_solve_27 ?_
          refine lv_goto (tgt := 32) hx hb dX3_solve_28 (by decide) ?_
          obtain rfl := fl_s1 h
          exact J7 H locs ls hg (lv_sub hl [0, 2, 3] rfl)
  have L98 : ∀ (n : Nat) (x3 : Int32) (σ : fl_St) (σo : fl_St) (H : Heap) (locs : List Loc) (ls : Array Slot), f_X3_solve_l98 n x3 σ = some (σo) → gS D (wm ad cz) A s.heap σ H locs → lv_has ls 5 [(0, .ref (ad 0)), (3, .int x3)] → (∀ (H : Heap) (locs : List Loc) (ls : Array Slot), gS D (wm ad cz) A s.heap σo H locs → lv_has ls 5 [(0, .ref (ad 0))] → W p l e rm_X3_solve s m args below meth c H locs 0 0 Q (F0 m 118 ls [])) → W p l e rm_X3_solve s m args below meth c H locs 0 0 Q (F0 m 98 ls []) := by
    intro n
    induction n with
    | zero =>
      intro x3 σ σo H locs ls h hg hl kk0
      rw [f_X3_solve_l98] at h
      cases h
    | succ n ih =>
      intro x3 σ σo H locs ls h hg hl kk0
      rw [f_X3_solve_l98] at h
      refine lv_iload_n hx hb dX3_solve_98 rfl (lv_at hl 1 rfl) ?_
      refine lv_ldc hx hb hown k_3 dX3_solve_99 ?_
      refine lv_icmp_eq (tgt := 118) hx hb dX3_solve_101 (by decide) (fun c37 => ?_) (fun c37 => ?_)
      · have h := fl_ifp c37 h
        obtain rfl := fl_s1 h
        exact kk0 H locs ls hg (lv_sub hl [0] rfl)
      · have h := fl_ifn c37 h
        refine lv_aload_n hx hb dX3_solve_104 rfl (lv_at hl 0 rfl) ?_
        refine lv_iload_n hx hb dX3_solve_105 rfl (lv_at hl 1 rfl) ?_
        obtain ⟨σ39, e38, h⟩ := fl_bnd h
        refine g_callVv (As := [.int x3]) (rest := []) ⟨hx, hb, hml, hown, hts⟩ (c_X3_goRound l D ad cz (x3) (σ) e38) (cwV 1 hts gX3_solve_X3_goRound rfl rfl rfl (by decide +kernel) ⟨Nat.le_of_ble_eq_true rfl, Nat.le_of_ble_eq_true rfl⟩) (va_recv hK.1 hg.1 (ci := 3) (q0 := 0) rfl rfl) hK hA hg rfl hl.1 rfl (Nat.le_of_ble_eq_true rfl) dX3_solve_106 ⟨Nat.le_of_ble_eq_true rfl, Nat.le_of_ble_eq_true rfl⟩ (fun H locs hg => ?_)
        refine lv_aload_n hx hb dX3_solve_109 rfl (lv_at hl 0 rfl) ?_
        refine lv_iconst (v := (0)) hx hb dX3_solve_110 (by decide) ?_
        obtain ⟨r41, σ42, e40, h⟩ := fl_b2_b h
        refine g_callVi (As := [.int (0)]) (rest := []) ⟨hx, hb, hml, hown, hts⟩ (c_X3_findRound l D ad cz ((0)) (σ39) e40) (cwV 1 hts gX3_solve_X3_findRound rfl rfl rfl (by decide +kernel) ⟨Nat.le_of_ble_eq_true rfl, Nat.le_of_ble_eq_true rfl⟩) (va_recv hK.1 hg.1 (ci := 3) (q0 := 0) rfl rfl) hK hA hg rfl hl.1 rfl (Nat.le_of_ble_eq_true rfl) dX3_solve_111 ⟨Nat.le_of_ble_eq_true rfl, Nat.le_of_ble_eq_true rfl⟩ (fun H locs hg => ?_)
        refine lv_istore_n (lv' := [(3, .int r41), (0, .ref (ad 0))]) hx hb dX3_solve_114 rfl hl (by decide) rfl (fun ls hl => ?_)
        refine lv_goto (tgt := 98) hx hb dX3_solve_115 (by decide) ?_
        exact ih _ _ _ _ _ _ h hg (lv_sub hl [1, 0] rfl) kk0
  have L126 : ∀ (n : Nat) (x4 : Int32) (σ : fl_St) (σo : fl_St) (H : Heap) (locs : List Loc) (ls : Array Slot), f_X3_solve_l126 n x4 σ = some (σo) → gS D (wm ad cz) A s.heap σ H locs → lv_has ls 5 [(0, .ref (ad 0)), (4, .int x4)] → (∀ (H : Heap) (locs : List Loc) (ls : Array Slot), gS D (wm ad cz) A s.heap σo H locs → lv_has ls 5 [] → W p l e rm_X3_solve s m args below meth c H locs 0 0 Q (F0 m 165 ls [])) → W p l e rm_X3_solve s m args below meth c H locs 0 0 Q (F0 m 126 ls []) := by
    intro n
    induction n with
    | zero =>
      intro x4 σ σo H locs ls h hg hl kk0
      rw [f_X3_solve_l126] at h
      cases h
    | succ n ih =>
      intro x4 σ σo H locs ls h hg hl kk0
      rw [f_X3_solve_l126] at h
      refine lv_iload hx hb dX3_solve_126 (lv_at hl 1 rfl) ?_
      refine lv_aload_n hx hb dX3_solve_128 rfl (lv_at hl 0 rfl) ?_
      refine va_get (D := D) (ci := 3) (v := .int (σ 13 0)) (C := RX3) (T := TX3) (N := 16) hx hb hts k_1 hown hK.1 hg.1 0 rfl rfl 0 (by decide) k_5 (fun _ h9 => h9) rfl dX3_solve_129 ?_
      refine lv_icmp_ge (tgt := 165) hx hb dX3_solve_132 (by decide) (fun c47 => ?_) (fun c47 => ?_)
      · have h := fl_ifp c47 h
        obtain rfl := fl_s1 h
        exact kk0 H locs ls hg (lv_sub hl [] rfl)
      · have h := fl_ifn c47 h
        refine lv_aload_n hx hb dX3_solve_135 rfl (lv_at hl 0 rfl) ?_
        refine lv_dup hx hb dX3_solve_136 rfl ?_
        refine va_get (D := D) (ci := 3) (v := .int (σ 13 2)) (C := RX3) (T := TX3) (N := 16) hx hb hts k_1 hown hK.1 hg.1 0 rfl rfl 13 (by decide) k_4 (fun _ h9 => h9) rfl dX3_solve_137 ?_
        refine lv_aload_n hx hb dX3_solve_140 rfl (lv_at hl 0 rfl) ?_
        refine va_get (D := D) (ci := 3) (v := .ref (ad 6)) (C := RX3) (T := TX3) (N := 16) hx hb hts k_1 hown hK.1 hg.1 0 rfl rfl 6 (by decide) k_6 (fun _ h9 => h9) rfl dX3_solve_141 ?_
        refine lv_iload hx hb dX3_solve_144 (lv_at hl 1 rfl) ?_
        obtain ⟨v48, i49, e50, h⟩ := fl_rd_b h
        refine g_ld (n := 36) (t0 := 5) hx hb hK hg (wm_a5 ad cz _) rfl i49 e50 dX3_solve_146 ?_
        refine lv_aload_n hx hb dX3_solve_147 rfl (lv_at hl 0 rfl) ?_
        refine va_get (D := D) (ci := 3) (v := .ref (ad 4)) (C := RX3) (T := TX3) (N := 16) hx hb hts k_1 hown hK.1 hg.1 0 rfl rfl 4 (by decide) k_7 (fun _ h9 => h9) rfl dX3_solve_148 ?_
        refine lv_iload hx hb dX3_solve_151 (lv_at hl 1 rfl) ?_
        obtain ⟨v51, i52, e53, h⟩ := fl_rd_b h
        refine g_ld (n := 36) (t0 := 3) hx hb hK hg (wm_a3 ad cz _) rfl i52 e53 dX3_solve_153 ?_
        refine lv_imul hx hb dX3_solve_154 ?_
        refine lv_iadd hx hb dX3_solve_155 ?_
        obtain ⟨σ54, e55, h⟩ := fl_bnd h
        have e55 := fl_s1 e55
        refine g_put (σ' := σ54) (ci := 3) (C := RX3) (T := TX3) (N := 16) (z := ((σ 13 2) + (v48 * v51))) hx hb hts k_1 tyX3 tyX3_ok nmX3 hown hK hg 0 rfl rfl 13 (by decide) k_4 (fun _ h9 => h9) rfl (by decide +kernel) (Nat.le_of_ble_eq_true rfl) (by rw [← e55]; exact wm_c2 ad cz _ _) dX3_solve_156 (fun H locs hg => ?_)
        refine lv_iinc (v := (x4 + 1)) (lv' := [(4, .int (x4 + 1)), (0, .ref (ad 0))]) hx hb dX3_solve_159 hl (k := 1) rfl rfl (by decide) rfl (fun ls hl => ?_)
        refine lv_goto (tgt := 126) hx hb dX3_solve_162 (by decide) ?_
        exact ih _ _ _ _ _ _ h hg (lv_sub hl [1, 0] rfl) kk0
  unfold f_X3_solve at h
  have W0 : ∀ (H : Heap) (locs : List Loc), gS D (wm ad cz) A s.heap σ H locs → W p l e rm_X3_solve s m args below meth c H locs 0 0 Q (F0 m 0 ls []) := by
    intro H locs hg
    refine lv_iconst (v := (0)) hx hb dX3_solve_0 (by decide) ?_
    refine lv_istore_n (lv' := [(1, .int (0)), (0, .ref (ad 0))]) hx hb dX3_solve_1 rfl hl (by decide) rfl (fun ls hl => ?_)
    refine lv_iconst (v := (0)) hx hb dX3_solve_2 (by decide) ?_
    refine lv_istore_n (lv' := [(2, .int (0)), (1, .int (0)), (0, .ref (ad 0))]) hx hb dX3_solve_3 rfl hl (by decide) rfl (fun ls hl => ?_)
    refine lv_iconst (v := (0)) hx hb dX3_solve_4 (by decide) ?_
    refine lv_istore_n (lv' := [(3, .int (0)), (2, .int (0)), (1, .int (0)), (0, .ref (ad 0))]) hx hb dX3_solve_5 rfl hl (by decide) rfl (fun ls hl => ?_)
    obtain ⟨w22, w23, hB24, h⟩ := fl_b2_b h
    refine L6 fl_N _ _ _ _ _ _ H locs ls hB24 hg (lv_sub hl [3, 2, 1, 0] rfl) (fun H locs ls hg hl => ?_)
    refine lv_iload_n hx hb dX3_solve_63 rfl (lv_at hl 1 rfl) ?_
    refine lv_iload_n hx hb dX3_solve_64 rfl (lv_at hl 2 rfl) ?_
    refine lv_icmp_ne (tgt := 76) hx hb dX3_solve_65 (by decide) (fun c25 => ?_) (fun c25 => ?_)
    · have h := fl_ifn c25 h
      refine lv_ldc hx hb hown k_2 dX3_solve_76 ?_
      exact hret _ _ _ _ _ _ h hg rfl dX3_solve_78
    · have h := fl_ifp c25 h
      refine lv_aload_n hx hb dX3_solve_68 rfl (lv_at hl 0 rfl) ?_
      obtain ⟨r27, σ28, e26, h⟩ := fl_b2_b h
      refine g_callVi (As := []) (rest := []) ⟨hx, hb, hml, hown, hts⟩ (c_X3_fill l D ad cz (σ) e26) (cwV 0 hts gX3_solve_X3_fill rfl rfl rfl (by decide +kernel) ⟨Nat.le_of_ble_eq_true rfl, Nat.le_of_ble_eq_true rfl⟩) (va_recv hK.1 hg.1 (ci := 3) (q0 := 0) rfl rfl) hK hA hg rfl hl.1 rfl (Nat.le_of_ble_eq_true rfl) dX3_solve_69 ⟨Nat.le_of_ble_eq_true rfl, Nat.le_of_ble_eq_true rfl⟩ (fun H locs hg => ?_)
      refine lv_iload_n hx hb dX3_solve_72 rfl (lv_at hl 1 rfl) ?_
      refine lv_icmp_eq (tgt := 79) hx hb dX3_solve_73 (by decide) (fun c29 => ?_) (fun c29 => ?_)
      · have h := fl_ifp c29 h
        refine lv_aload_n hx hb dX3_solve_79 rfl (lv_at hl 0 rfl) ?_
        refine lv_iconst (v := (1)) hx hb dX3_solve_80 (by decide) ?_
        obtain ⟨r31, σ32, e30, h⟩ := fl_b2_b h
        refine g_callVi (As := [.int (1)]) (rest := []) ⟨hx, hb, hml, hown, hts⟩ (c_X3_findRound l D ad cz ((1)) (σ28) e30) (cwV 1 hts gX3_solve_X3_findRound rfl rfl rfl (by decide +kernel) ⟨Nat.le_of_ble_eq_true rfl, Nat.le_of_ble_eq_true rfl⟩) (va_recv hK.1 hg.1 (ci := 3) (q0 := 0) rfl rfl) hK hA hg rfl hl.1 rfl (Nat.le_of_ble_eq_true rfl) dX3_solve_81 ⟨Nat.le_of_ble_eq_true rfl, Nat.le_of_ble_eq_true rfl⟩ (fun H locs hg => ?_)
        refine lv_ldc hx hb hown k_3 dX3_solve_84 ?_
        refine lv_icmp_eq (tgt := 92) hx hb dX3_solve_86 (by decide) (fun c33 => ?_) (fun c33 => ?_)
        · have h := fl_ifp c33 h
          refine lv_aload_n hx hb dX3_solve_92 rfl (lv_at hl 0 rfl) ?_
          refine lv_iconst (v := (0)) hx hb dX3_solve_93 (by decide) ?_
          obtain ⟨r35, σ36, e34, h⟩ := fl_b2_b h
          refine g_callVi (As := [.int (0)]) (rest := []) ⟨hx, hb, hml, hown, hts⟩ (c_X3_findRound l D ad cz ((0)) (σ32) e34) (cwV 1 hts gX3_solve_X3_findRound rfl rfl rfl (by decide +kernel) ⟨Nat.le_of_ble_eq_true rfl, Nat.le_of_ble_eq_true rfl⟩) (va_recv hK.1 hg.1 (ci := 3) (q0 := 0) rfl rfl) hK hA hg rfl hl.1 rfl (Nat.le_of_ble_eq_true rfl) dX3_solve_94 ⟨Nat.le_of_ble_eq_true rfl, Nat.le_of_ble_eq_true rfl⟩ (fun H locs hg => ?_)
          refine lv_istore_n (lv' := [(3, .int r35), (0, .ref (ad 0)), (1, .int w22), (2, .int w23)]) hx hb dX3_solve_97 rfl hl (by decide) rfl (fun ls hl => ?_)
          obtain ⟨σ43, hB44, h⟩ := fl_bnd h
          refine L98 fl_N _ _ _ H locs ls hB44 hg (lv_sub hl [1, 0] rfl) (fun H locs ls hg hl => ?_)
          refine lv_aload_n hx hb dX3_solve_118 rfl (lv_at hl 0 rfl) ?_
          refine lv_iconst (v := (0)) hx hb dX3_solve_119 (by decide) ?_
          obtain ⟨σ45, e46, h⟩ := fl_bnd h
          have e46 := fl_s1 e46
          refine g_put (σ' := σ45) (ci := 3) (C := RX3) (T := TX3) (N := 16) (z := (0)) hx hb hts k_1 tyX3 tyX3_ok nmX3 hown hK hg 0 rfl rfl 13 (by decide) k_4 (fun _ h9 => h9) rfl (by decide +kernel) (Nat.le_of_ble_eq_true rfl) (by rw [← e46]; exact wm_c2 ad cz _ _) dX3_solve_120 (fun H locs hg => ?_)
          refine lv_iconst (v := (0)) hx hb dX3_solve_123 (by decide) ?_
          refine lv_istore (lv' := [(4, .int (0)), (0, .ref (ad 0))]) hx hb dX3_solve_124 hl (by decide) rfl (fun ls hl => ?_)
          obtain ⟨σ56, hB57, h⟩ := fl_bnd h
          refine L126 fl_N _ _ _ H locs ls hB57 hg (lv_sub hl [1, 0] rfl) (fun H locs ls hg hl => ?_)
          refine lv_iconst (v := (0)) hx hb dX3_solve_165 (by decide) ?_
          exact hret _ _ _ _ _ _ h hg rfl dX3_solve_166
        · have h := fl_ifn c33 h
          refine lv_ldc hx hb hown k_8 dX3_solve_89 ?_
          exact hret _ _ _ _ _ _ h hg rfl dX3_solve_91
      · have h := fl_ifn c29 h
        refine lv_ldc hx hb hown k_2 dX3_solve_76 ?_
        exact hret _ _ _ _ _ _ h hg rfl dX3_solve_78
  exact W0 _ _ hg
def f_X3_state (σ : fl_St) : Option (Int32 × fl_St) := fl_b2 (f_X3_solve  σ) fun r2 σ3 => some (r2, σ3)
def rm_X3_state : Room := { frames := 5, cells := 0, slots := 0, locals := 124 }
set_option maxHeartbeats 4000000 in
set_option maxRecDepth 100000 in
theorem c_X3_state (l : Launch) (D : va_G) (ad : Nat → Nat) (cz : Nat → ClassId) (σ : fl_St) {r : Int32} {σ' : fl_St} (h : f_X3_state σ = some (r, σ')) : gMi l yX3_state wsX3_state rm_X3_state D (wm ad cz) (wmT cz) [] [.ref (ad 0)] σ r σ' := by
  refine gMi_of (cc := cX3_state) (maxL := 1) (by decide) rfl (Nat.le_of_ble_eq_true rfl) ?_
  intro p e s m args below meth c A Q ls hx hb hml hown hts hK hA hg hl hret
  have hown : s.vm.findClass RX3 = some m.cls := hown
  have hl : lv_has ls 1 [(0, .ref (ad 0))] := hl
  unfold f_X3_state at h
  have W0 : ∀ (H : Heap) (locs : List Loc), gS D (wm ad cz) A s.heap σ H locs → W p l e rm_X3_state s m args below meth c H locs 0 0 Q (F0 m 0 ls []) := by
    intro H locs hg
    refine lv_aload_n hx hb dX3_state_0 rfl (lv_at hl 0 rfl) ?_
    obtain ⟨r2, σ3, e1, h⟩ := fl_b2_b h
    refine g_callVi (As := []) (rest := []) ⟨hx, hb, hml, hown, hts⟩ (c_X3_solve l D ad cz (σ) e1) (cwV 0 hts gX3_state_X3_solve rfl rfl rfl (by decide +kernel) ⟨Nat.le_of_ble_eq_true rfl, Nat.le_of_ble_eq_true rfl⟩) (va_recv hK.1 hg.1 (ci := 3) (q0 := 0) rfl rfl) hK hA hg rfl hl.1 rfl (Nat.le_of_ble_eq_true rfl) dX3_state_1 ⟨Nat.le_of_ble_eq_true rfl, Nat.le_of_ble_eq_true rfl⟩ (fun H locs hg => ?_)
    exact hret _ _ _ _ _ _ h hg rfl dX3_state_4
  exact W0 _ _ hg
def f_X3_cost (σ : fl_St) : Option (Int32 × fl_St) := fl_b2 (f_X3_solve  σ) fun r2 σ3 => (if 0 ≤ r2 then (some ((σ3 13 2))) else (some (r2))).bind fun (t5 : Int32) => some (t5, σ3)
def rm_X3_cost : Room := { frames := 5, cells := 0, slots := 0, locals := 124 }
set_option maxHeartbeats 4000000 in
set_option maxRecDepth 100000 in
theorem c_X3_cost (l : Launch) (D : va_G) (ad : Nat → Nat) (cz : Nat → ClassId) (σ : fl_St) {r : Int32} {σ' : fl_St} (h : f_X3_cost σ = some (r, σ')) : gMi l yX3_cost wsX3_cost rm_X3_cost D (wm ad cz) (wmT cz) [] [.ref (ad 0)] σ r σ' := by
  refine gMi_of (cc := cX3_cost) (maxL := 2) (by decide) rfl (Nat.le_of_ble_eq_true rfl) ?_
  intro p e s m args below meth c A Q ls hx hb hml hown hts hK hA hg hl hret
  have hown : s.vm.findClass RX3 = some m.cls := hown
  have hl : lv_has ls 2 [(0, .ref (ad 0))] := hl
  have k_0 := hts (.fieldLink RX3 100 "FlowLedgerModel" "total" "I") (by decide +kernel)
  have k_1 := (by decide +kernel : ∀ w ∈ wsX30, w ∈ wsX3_cost)
  unfold f_X3_cost at h
  have W0 : ∀ (H : Heap) (locs : List Loc), gS D (wm ad cz) A s.heap σ H locs → W p l e rm_X3_cost s m args below meth c H locs 0 0 Q (F0 m 0 ls []) := by
    intro H locs hg
    refine lv_aload_n hx hb dX3_cost_0 rfl (lv_at hl 0 rfl) ?_
    obtain ⟨r2, σ3, e1, h⟩ := fl_b2_b h
    refine g_callVi (As := []) (rest := []) ⟨hx, hb, hml, hown, hts⟩ (c_X3_solve l D ad cz (σ) e1) (cwV 0 hts gX3_cost_X3_solve rfl rfl rfl (by decide +kernel) ⟨Nat.le_of_ble_eq_true rfl, Nat.le_of_ble_eq_true rfl⟩) (va_recv hK.1 hg.1 (ci := 3) (q0 := 0) rfl rfl) hK hA hg rfl hl.1 rfl (Nat.le_of_ble_eq_true rfl) dX3_cost_1 ⟨Nat.le_of_ble_eq_true rfl, Nat.le_of_ble_eq_true rfl⟩ (fun H locs hg => ?_)
    refine lv_istore_n (lv' := [(1, .int r2), (0, .ref (ad 0))]) hx hb dX3_cost_4 rfl hl (by decide) rfl (fun ls hl => ?_)
    refine lv_iload_n hx hb dX3_cost_5 rfl (lv_at hl 0 rfl) ?_
    obtain ⟨t5, hB7, h⟩ := fl_bnd h
    have J6 : ∀ (H : Heap) (locs : List Loc) (ls : Array Slot), gS D (wm ad cz) A s.heap σ3 H locs → lv_has ls 2 [] → W p l e rm_X3_cost s m args below meth c H locs 0 0 Q (F0 m 17 ls [.int t5]) := by
      intro H locs ls hg hl
      exact hret _ _ _ _ _ _ h hg rfl dX3_cost_17
    clear h
    have h := hB7
    refine lv_if_ge (tgt := 13) hx hb dX3_cost_6 (by decide) (fun c4 => ?_) (fun c4 => ?_)
    · have h := fl_ifp c4 h
      refine lv_aload_n hx hb dX3_cost_13 rfl (lv_at hl 1 rfl) ?_
      refine va_get (D := D) (ci := 3) (v := .int (σ3 13 2)) (C := RX3) (T := TX3) (N := 16) hx hb hts k_1 hown hK.1 hg.1 0 rfl rfl 13 (by decide) k_0 (fun _ h9 => h9) rfl dX3_cost_14 ?_
      obtain rfl := fl_s1 h
      exact J6 H locs ls hg (lv_sub hl [] rfl)
    · have h := fl_ifn c4 h
      refine lv_iload_n hx hb dX3_cost_9 rfl (lv_at hl 0 rfl) ?_
      refine lv_goto (tgt := 17) hx hb dX3_cost_10 (by decide) ?_
      obtain rfl := fl_s1 h
      exact J6 H locs ls hg (lv_sub hl [] rfl)
  exact W0 _ _ hg
end
section
def f_X3_marginal (x1 : Int32) (x2 : Int32) (σ : fl_St) : Option (Int32 × fl_St) := (f_X3_in x1 (0) (7) σ).bind fun r2 => if r2 = 0 then (some ((-1000000), σ)) else ((f_X3_in x2 (0) (7) σ).bind fun r5 => if r5 = 0 then (some ((-1000000), σ)) else (fl_b2 (f_X3_solve  σ) fun r8 σ9 => if r8 < 0 then (some (r8, σ9)) else (if x1 = x2 then (some (r8, σ9)) else ((fl_rd σ9 4 8 x1).bind fun v12 => (fl_wr σ9 4 8 x1 (v12 + (1))).bind fun σ15 => (fl_rd σ15 4 8 x2).bind fun v18 => (fl_wr σ15 4 8 x2 (v18 - (1))).bind fun σ21 => fl_b2 (f_X3_solve  σ21) fun r25 σ26 => (fl_rd σ26 4 8 x1).bind fun v27 => (fl_wr σ26 4 8 x1 (v27 - (1))).bind fun σ30 => (fl_rd σ30 4 8 x2).bind fun v33 => (fl_wr σ30 4 8 x2 (v33 + (1))).bind fun σ36 => (if 0 ≤ r25 then (some (((σ36 13 2) - (σ9 13 2)))) else (some ((-1000004)))).bind fun (t40 : Int32) => some (t40, σ36)))))
def rm_X3_marginal : Room := { frames := 5, cells := 0, slots := 0, locals := 124 }
set_option maxHeartbeats 4000000 in
set_option maxRecDepth 100000 in
theorem c_X3_marginal (l : Launch) (D : va_G) (ad : Nat → Nat) (cz : Nat → ClassId) (x1 : Int32) (x2 : Int32) (σ : fl_St) {r : Int32} {σ' : fl_St} (h : f_X3_marginal x1 x2 σ = some (r, σ')) : gMi l yX3_marginal wsX3_marginal rm_X3_marginal D (wm ad cz) (wmT cz) [] [.ref (ad 0), .int x1, .int x2] σ r σ' := by
  refine gMi_of (cc := cX3_marginal) (maxL := 5) (by decide) rfl (Nat.le_of_ble_eq_true rfl) ?_
  intro p e s m args below meth c A Q ls hx hb hml hown hts hK hA hg hl hret
  have hown : s.vm.findClass RX3 = some m.cls := hown
  have hl : lv_has ls 5 [(0, .ref (ad 0)), (1, .int x1), (2, .int x2)] := hl
  have k_0 := hts (.constant RX3 54 (-1000000)) (by decide +kernel)
  have k_1 := hts (.fieldLink RX3 100 "FlowLedgerModel" "total" "I") (by decide +kernel)
  have k_2 := (by decide +kernel : ∀ w ∈ wsX30, w ∈ wsX3_marginal)
  have k_3 := hts (.fieldLink RX3 22 "FlowLedgerModel" "supplies" "[I") (by decide +kernel)
  have k_4 := hts (.constant RX3 84 (-1000004)) (by decide +kernel)
  unfold f_X3_marginal at h
  have W0 : ∀ (H : Heap) (locs : List Loc), gS D (wm ad cz) A s.heap σ H locs → W p l e rm_X3_marginal s m args below meth c H locs 0 0 Q (F0 m 0 ls []) := by
    intro H locs hg
    refine lv_iload_n hx hb dX3_marginal_0 rfl (lv_at hl 1 rfl) ?_
    refine lv_iconst (v := (0)) hx hb dX3_marginal_1 (by decide) ?_
    refine lv_bipush (v := (7)) hx hb dX3_marginal_2 (by decide) ?_
    obtain ⟨r2, e1, h⟩ := fl_bnd h
    refine g_callSi (As := [.int x1, .int (0), .int (7)]) (rest := []) ⟨hx, hb, hml, hown, hts⟩ (c_X3_in l D ad cz (x1) ((0)) ((7)) (σ) e1) (cwS 3 hts gX3_marginal_X3_in rfl rfl rfl (by decide +kernel) ⟨Nat.le_of_ble_eq_true rfl, Nat.le_of_ble_eq_true rfl⟩) hK hA hg rfl hl.1 rfl (Nat.le_of_ble_eq_true rfl) dX3_marginal_4 ⟨Nat.le_of_ble_eq_true rfl, Nat.le_of_ble_eq_true rfl⟩ (fun H locs hg => ?_)
    refine lv_if_eq (tgt := 20) hx hb dX3_marginal_7 (by decide) (fun c3 => ?_) (fun c3 => ?_)
    · have h := fl_ifp c3 h
      refine lv_ldc hx hb hown k_0 dX3_marginal_20 ?_
      exact hret _ _ _ _ _ _ h hg rfl dX3_marginal_22
    · have h := fl_ifn c3 h
      refine lv_iload_n hx hb dX3_marginal_10 rfl (lv_at hl 2 rfl) ?_
      refine lv_iconst (v := (0)) hx hb dX3_marginal_11 (by decide) ?_
      refine lv_bipush (v := (7)) hx hb dX3_marginal_12 (by decide) ?_
      obtain ⟨r5, e4, h⟩ := fl_bnd h
      refine g_callSi (As := [.int x2, .int (0), .int (7)]) (rest := []) ⟨hx, hb, hml, hown, hts⟩ (c_X3_in l D ad cz (x2) ((0)) ((7)) (σ) e4) (cwS 3 hts gX3_marginal_X3_in rfl rfl rfl (by decide +kernel) ⟨Nat.le_of_ble_eq_true rfl, Nat.le_of_ble_eq_true rfl⟩) hK hA hg rfl hl.1 rfl (Nat.le_of_ble_eq_true rfl) dX3_marginal_14 ⟨Nat.le_of_ble_eq_true rfl, Nat.le_of_ble_eq_true rfl⟩ (fun H locs hg => ?_)
      refine lv_if_ne (tgt := 23) hx hb dX3_marginal_17 (by decide) (fun c6 => ?_) (fun c6 => ?_)
      · have h := fl_ifn c6 h
        refine lv_aload_n hx hb dX3_marginal_23 rfl (lv_at hl 0 rfl) ?_
        obtain ⟨r8, σ9, e7, h⟩ := fl_b2_b h
        refine g_callVi (As := []) (rest := []) ⟨hx, hb, hml, hown, hts⟩ (c_X3_solve l D ad cz (σ) e7) (cwV 0 hts gX3_marginal_X3_solve rfl rfl rfl (by decide +kernel) ⟨Nat.le_of_ble_eq_true rfl, Nat.le_of_ble_eq_true rfl⟩) (va_recv hK.1 hg.1 (ci := 3) (q0 := 0) rfl rfl) hK hA hg rfl hl.1 rfl (Nat.le_of_ble_eq_true rfl) dX3_marginal_24 ⟨Nat.le_of_ble_eq_true rfl, Nat.le_of_ble_eq_true rfl⟩ (fun H locs hg => ?_)
        refine lv_istore_n (lv' := [(3, .int r8), (0, .ref (ad 0)), (1, .int x1), (2, .int x2)]) hx hb dX3_marginal_27 rfl hl (by decide) rfl (fun ls hl => ?_)
        refine lv_iload_n hx hb dX3_marginal_28 rfl (lv_at hl 0 rfl) ?_
        refine lv_if_lt (tgt := 37) hx hb dX3_marginal_29 (by decide) (fun c10 => ?_) (fun c10 => ?_)
        · have h := fl_ifp c10 h
          refine lv_iload_n hx hb dX3_marginal_37 rfl (lv_at hl 0 rfl) ?_
          exact hret _ _ _ _ _ _ h hg rfl dX3_marginal_38
        · have h := fl_ifn c10 h
          refine lv_iload_n hx hb dX3_marginal_32 rfl (lv_at hl 2 rfl) ?_
          refine lv_iload_n hx hb dX3_marginal_33 rfl (lv_at hl 3 rfl) ?_
          refine lv_icmp_ne (tgt := 39) hx hb dX3_marginal_34 (by decide) (fun c11 => ?_) (fun c11 => ?_)
          · have h := fl_ifn c11 h
            refine lv_aload_n hx hb dX3_marginal_39 rfl (lv_at hl 1 rfl) ?_
            refine va_get (D := D) (ci := 3) (v := .int (σ9 13 2)) (C := RX3) (T := TX3) (N := 16) hx hb hts k_2 hown hK.1 hg.1 0 rfl rfl 13 (by decide) k_1 (fun _ h9 => h9) rfl dX3_marginal_40 ?_
            refine lv_istore (lv' := [(4, .int (σ9 13 2)), (3, .int r8), (0, .ref (ad 0)), (1, .int x1), (2, .int x2)]) hx hb dX3_marginal_43 hl (by decide) rfl (fun ls hl => ?_)
            refine lv_aload_n hx hb dX3_marginal_45 rfl (lv_at hl 2 rfl) ?_
            refine va_get (D := D) (ci := 3) (v := .ref (ad 5)) (C := RX3) (T := TX3) (N := 16) hx hb hts k_2 hown hK.1 hg.1 0 rfl rfl 5 (by decide) k_3 (fun _ h9 => h9) rfl dX3_marginal_46 ?_
            refine lv_iload_n hx hb dX3_marginal_49 rfl (lv_at hl 3 rfl) ?_
            refine lv_dup2_11 hx hb dX3_marginal_50 rfl rfl ?_
            obtain ⟨v12, i13, e14, h⟩ := fl_rd_b h
            refine g_ld (n := 8) (t0 := 4) hx hb hK hg (wm_a4 ad cz _) rfl i13 e14 dX3_marginal_51 ?_
            refine lv_iconst (v := (1)) hx hb dX3_marginal_52 (by decide) ?_
            refine lv_iadd hx hb dX3_marginal_53 ?_
            obtain ⟨σ15, i16, e17, h⟩ := fl_wr_b h
            refine g_st (n := 8) (t0 := 4) hx hb hK hg (wm_a4 ad cz _) (wm_s4 ad cz _) rfl i16 e17 dX3_marginal_54 (fun H locs hg => ?_)
            refine lv_aload_n hx hb dX3_marginal_55 rfl (lv_at hl 2 rfl) ?_
            refine va_get (D := D) (ci := 3) (v := .ref (ad 5)) (C := RX3) (T := TX3) (N := 16) hx hb hts k_2 hown hK.1 hg.1 0 rfl rfl 5 (by decide) k_3 (fun _ h9 => h9) rfl dX3_marginal_56 ?_
            refine lv_iload_n hx hb dX3_marginal_59 rfl (lv_at hl 4 rfl) ?_
            refine lv_dup2_11 hx hb dX3_marginal_60 rfl rfl ?_
            obtain ⟨v18, i19, e20, h⟩ := fl_rd_b h
            refine g_ld (n := 8) (t0 := 4) hx hb hK hg (wm_a4 ad cz _) rfl i19 e20 dX3_marginal_61 ?_
            refine lv_iconst (v := (1)) hx hb dX3_marginal_62 (by decide) ?_
            refine lv_isub hx hb dX3_marginal_63 ?_
            obtain ⟨σ21, i22, e23, h⟩ := fl_wr_b h
            refine g_st (n := 8) (t0 := 4) hx hb hK hg (wm_a4 ad cz _) (wm_s4 ad cz _) rfl i22 e23 dX3_marginal_64 (fun H locs hg => ?_)
            refine lv_aload_n hx hb dX3_marginal_65 rfl (lv_at hl 2 rfl) ?_
            obtain ⟨r25, σ26, e24, h⟩ := fl_b2_b h
            refine g_callVi (As := []) (rest := []) ⟨hx, hb, hml, hown, hts⟩ (c_X3_solve l D ad cz (σ21) e24) (cwV 0 hts gX3_marginal_X3_solve rfl rfl rfl (by decide +kernel) ⟨Nat.le_of_ble_eq_true rfl, Nat.le_of_ble_eq_true rfl⟩) (va_recv hK.1 hg.1 (ci := 3) (q0 := 0) rfl rfl) hK hA hg rfl hl.1 rfl (Nat.le_of_ble_eq_true rfl) dX3_marginal_66 ⟨Nat.le_of_ble_eq_true rfl, Nat.le_of_ble_eq_true rfl⟩ (fun H locs hg => ?_)
            refine lv_istore_n (lv' := [(3, .int r25), (4, .int (σ9 13 2)), (0, .ref (ad 0)), (1, .int x1), (2, .int x2)]) hx hb dX3_marginal_69 rfl hl (by decide) rfl (fun ls hl => ?_)
            refine lv_aload_n hx hb dX3_marginal_70 rfl (lv_at hl 2 rfl) ?_
            refine va_get (D := D) (ci := 3) (v := .ref (ad 5)) (C := RX3) (T := TX3) (N := 16) hx hb hts k_2 hown hK.1 hg.1 0 rfl rfl 5 (by decide) k_3 (fun _ h9 => h9) rfl dX3_marginal_71 ?_
            refine lv_iload_n hx hb dX3_marginal_74 rfl (lv_at hl 3 rfl) ?_
            refine lv_dup2_11 hx hb dX3_marginal_75 rfl rfl ?_
            obtain ⟨v27, i28, e29, h⟩ := fl_rd_b h
            refine g_ld (n := 8) (t0 := 4) hx hb hK hg (wm_a4 ad cz _) rfl i28 e29 dX3_marginal_76 ?_
            refine lv_iconst (v := (1)) hx hb dX3_marginal_77 (by decide) ?_
            refine lv_isub hx hb dX3_marginal_78 ?_
            obtain ⟨σ30, i31, e32, h⟩ := fl_wr_b h
            refine g_st (n := 8) (t0 := 4) hx hb hK hg (wm_a4 ad cz _) (wm_s4 ad cz _) rfl i31 e32 dX3_marginal_79 (fun H locs hg => ?_)
            refine lv_aload_n hx hb dX3_marginal_80 rfl (lv_at hl 2 rfl) ?_
            refine va_get (D := D) (ci := 3) (v := .ref (ad 5)) (C := RX3) (T := TX3) (N := 16) hx hb hts k_2 hown hK.1 hg.1 0 rfl rfl 5 (by decide) k_3 (fun _ h9 => h9) rfl dX3_marginal_81 ?_
            refine lv_iload_n hx hb dX3_marginal_84 rfl (lv_at hl 4 rfl) ?_
            refine lv_dup2_11 hx hb dX3_marginal_85 rfl rfl ?_
            obtain ⟨v33, i34, e35, h⟩ := fl_rd_b h
            refine g_ld (n := 8) (t0 := 4) hx hb hK hg (wm_a4 ad cz _) rfl i34 e35 dX3_marginal_86 ?_
            refine lv_iconst (v := (1)) hx hb dX3_marginal_87 (by decide) ?_
            refine lv_iadd hx hb dX3_marginal_88 ?_
            obtain ⟨σ36, i37, e38, h⟩ := fl_wr_b h
            refine g_st (n := 8) (t0 := 4) hx hb hK hg (wm_a4 ad cz _) (wm_s4 ad cz _) rfl i37 e38 dX3_marginal_89 (fun H locs hg => ?_)
            refine lv_iload_n hx hb dX3_marginal_90 rfl (lv_at hl 0 rfl) ?_
            obtain ⟨t40, hB42, h⟩ := fl_bnd h
            have J41 : ∀ (H : Heap) (locs : List Loc) (ls : Array Slot), gS D (wm ad cz) A s.heap σ36 H locs → lv_has ls 5 [] → W p l e rm_X3_marginal s m args below meth c H locs 0 0 Q (F0 m 106 ls [.int t40]) := by
              intro H locs ls hg hl
              exact hret _ _ _ _ _ _ h hg rfl dX3_marginal_106
            clear h
            have h := hB42
            refine lv_if_ge (tgt := 99) hx hb dX3_marginal_91 (by decide) (fun c39 => ?_) (fun c39 => ?_)
            · have h := fl_ifp c39 h
              refine lv_aload_n hx hb dX3_marginal_99 rfl (lv_at hl 2 rfl) ?_
              refine va_get (D := D) (ci := 3) (v := .int (σ36 13 2)) (C := RX3) (T := TX3) (N := 16) hx hb hts k_2 hown hK.1 hg.1 0 rfl rfl 13 (by decide) k_1 (fun _ h9 => h9) rfl dX3_marginal_100 ?_
              refine lv_iload hx hb dX3_marginal_103 (lv_at hl 1 rfl) ?_
              refine lv_isub hx hb dX3_marginal_105 ?_
              obtain rfl := fl_s1 h
              exact J41 H locs ls hg (lv_sub hl [] rfl)
            · have h := fl_ifn c39 h
              refine lv_ldc hx hb hown k_4 dX3_marginal_94 ?_
              refine lv_goto (tgt := 106) hx hb dX3_marginal_96 (by decide) ?_
              obtain rfl := fl_s1 h
              exact J41 H locs ls hg (lv_sub hl [] rfl)
          · have h := fl_ifp c11 h
            refine lv_iload_n hx hb dX3_marginal_37 rfl (lv_at hl 0 rfl) ?_
            exact hret _ _ _ _ _ _ h hg rfl dX3_marginal_38
      · have h := fl_ifp c6 h
        refine lv_ldc hx hb hown k_0 dX3_marginal_20 ?_
        exact hret _ _ _ _ _ _ h hg rfl dX3_marginal_22
  exact W0 _ _ hg
def f_X3_isFree (x1 : Int32) (σ : fl_St) : Option (Int32) := (fl_rd σ 3 36 x1).bind fun v1 => (fl_rd σ 0 36 x1).bind fun v4 => (fl_rd σ 8 10 v4).bind fun v7 => (fl_rd σ 1 36 x1).bind fun v10 => (fl_rd σ 8 10 v10).bind fun v13 => (if ((v1 + v7) - v13) = 0 then (some ((1))) else (some ((0)))).bind fun (t17 : Int32) => if ¬ (t17 = 0 ∨ t17 = 1) then none else some t17
def rm_X3_isFree : Room := { frames := 0, cells := 0, slots := 0, locals := 0 }
set_option maxHeartbeats 4000000 in
set_option maxRecDepth 100000 in
theorem c_X3_isFree (l : Launch) (D : va_G) (ad : Nat → Nat) (cz : Nat → ClassId) (x1 : Int32) (σ : fl_St) {r : Int32} (h : f_X3_isFree x1 σ = some r) : gMi l yX3_isFree wsX3_isFree rm_X3_isFree D (wm ad cz) (wmT cz) [] [.ref (ad 0), .int x1] σ r σ := by
  refine gMi_of (cc := cX3_isFree) (maxL := 2) (by decide) rfl (Nat.le_of_ble_eq_true rfl) ?_
  intro p e s m args below meth c A Q ls hx hb hml hown hts hK hA hg hl hret
  have hown : s.vm.findClass RX3 = some m.cls := hown
  have hl : lv_has ls 2 [(0, .ref (ad 0)), (1, .int x1)] := hl
  have k_0 := hts (.fieldLink RX3 19 "FlowLedgerModel" "costs" "[I") (by decide +kernel)
  have k_1 := (by decide +kernel : ∀ w ∈ wsX30, w ∈ wsX3_isFree)
  have k_2 := hts (.fieldLink RX3 35 "FlowLedgerModel" "far" "[I") (by decide +kernel)
  have k_3 := hts (.fieldLink RX3 7 "FlowLedgerModel" "froms" "[I") (by decide +kernel)
  have k_4 := hts (.fieldLink RX3 13 "FlowLedgerModel" "tos" "[I") (by decide +kernel)
  unfold f_X3_isFree at h
  have W0 : ∀ (H : Heap) (locs : List Loc), gS D (wm ad cz) A s.heap σ H locs → W p l e rm_X3_isFree s m args below meth c H locs 0 0 Q (F0 m 0 ls []) := by
    intro H locs hg
    refine lv_aload_n hx hb dX3_isFree_0 rfl (lv_at hl 0 rfl) ?_
    refine va_get (D := D) (ci := 3) (v := .ref (ad 4)) (C := RX3) (T := TX3) (N := 16) hx hb hts k_1 hown hK.1 hg.1 0 rfl rfl 4 (by decide) k_0 (fun _ h9 => h9) rfl dX3_isFree_1 ?_
    refine lv_iload_n hx hb dX3_isFree_4 rfl (lv_at hl 1 rfl) ?_
    obtain ⟨v1, i2, e3, h⟩ := fl_rd_b h
    refine g_ld (n := 36) (t0 := 3) hx hb hK hg (wm_a3 ad cz _) rfl i2 e3 dX3_isFree_5 ?_
    refine lv_aload_n hx hb dX3_isFree_6 rfl (lv_at hl 0 rfl) ?_
    refine va_get (D := D) (ci := 3) (v := .ref (ad 9)) (C := RX3) (T := TX3) (N := 16) hx hb hts k_1 hown hK.1 hg.1 0 rfl rfl 10 (by decide) k_2 (fun _ h9 => h9) rfl dX3_isFree_7 ?_
    refine lv_aload_n hx hb dX3_isFree_10 rfl (lv_at hl 0 rfl) ?_
    refine va_get (D := D) (ci := 3) (v := .ref (ad 1)) (C := RX3) (T := TX3) (N := 16) hx hb hts k_1 hown hK.1 hg.1 0 rfl rfl 1 (by decide) k_3 (fun _ h9 => h9) rfl dX3_isFree_11 ?_
    refine lv_iload_n hx hb dX3_isFree_14 rfl (lv_at hl 1 rfl) ?_
    obtain ⟨v4, i5, e6, h⟩ := fl_rd_b h
    refine g_ld (n := 36) (t0 := 0) hx hb hK hg (wm_a0 ad cz _) rfl i5 e6 dX3_isFree_15 ?_
    obtain ⟨v7, i8, e9, h⟩ := fl_rd_b h
    refine g_ld (n := 10) (t0 := 8) hx hb hK hg (wm_a8 ad cz _) rfl i8 e9 dX3_isFree_16 ?_
    refine lv_iadd hx hb dX3_isFree_17 ?_
    refine lv_aload_n hx hb dX3_isFree_18 rfl (lv_at hl 0 rfl) ?_
    refine va_get (D := D) (ci := 3) (v := .ref (ad 9)) (C := RX3) (T := TX3) (N := 16) hx hb hts k_1 hown hK.1 hg.1 0 rfl rfl 10 (by decide) k_2 (fun _ h9 => h9) rfl dX3_isFree_19 ?_
    refine lv_aload_n hx hb dX3_isFree_22 rfl (lv_at hl 0 rfl) ?_
    refine va_get (D := D) (ci := 3) (v := .ref (ad 2)) (C := RX3) (T := TX3) (N := 16) hx hb hts k_1 hown hK.1 hg.1 0 rfl rfl 2 (by decide) k_4 (fun _ h9 => h9) rfl dX3_isFree_23 ?_
    refine lv_iload_n hx hb dX3_isFree_26 rfl (lv_at hl 1 rfl) ?_
    obtain ⟨v10, i11, e12, h⟩ := fl_rd_b h
    refine g_ld (n := 36) (t0 := 1) hx hb hK hg (wm_a1 ad cz _) rfl i11 e12 dX3_isFree_27 ?_
    obtain ⟨v13, i14, e15, h⟩ := fl_rd_b h
    refine g_ld (n := 10) (t0 := 8) hx hb hK hg (wm_a8 ad cz _) rfl i14 e15 dX3_isFree_28 ?_
    refine lv_isub hx hb dX3_isFree_29 ?_
    obtain ⟨t17, hB19, h⟩ := fl_bnd h
    have J18 : ∀ (H : Heap) (locs : List Loc) (ls : Array Slot), gS D (wm ad cz) A s.heap σ H locs → lv_has ls 2 [] → W p l e rm_X3_isFree s m args below meth c H locs 0 0 Q (F0 m 38 ls [.int t17]) := by
      intro H locs ls hg hl
      obtain ⟨z20, h⟩ := fl_bool h
      exact hret _ _ _ _ _ _ (congrArg (Option.map (fun q => (q, σ))) h) hg (fl_nar2 z20) dX3_isFree_38
    clear h
    have h := hB19
    refine lv_if_ne (tgt := 37) hx hb dX3_isFree_30 (by decide) (fun c16 => ?_) (fun c16 => ?_)
    · have h := fl_ifn c16 h
      refine lv_iconst (v := (0)) hx hb dX3_isFree_37 (by decide) ?_
      obtain rfl := fl_s1 h
      exact J18 H locs ls hg (lv_sub hl [] rfl)
    · have h := fl_ifp c16 h
      refine lv_iconst (v := (1)) hx hb dX3_isFree_33 (by decide) ?_
      refine lv_goto (tgt := 38) hx hb dX3_isFree_34 (by decide) ?_
      obtain rfl := fl_s1 h
      exact J18 H locs ls hg (lv_sub hl [] rfl)
  exact W0 _ _ hg
def f_X3_room_l18 (x1 : Int32) (x2 : Int32) (x3 : Int32) (x4 : Int32) (x5 : Int32) : Nat → Int32 → fl_St → Option (fl_St)
  | 0, _, _ => none
  | n + 1, x6, σ => if (σ 13 0) ≤ x6 then (some (σ)) else ((if x6 = x1 then (some ((0))) else ((f_X3_isFree x6 σ).bind fun r22 => if r22 = 0 then (some ((0))) else (if x5 = (-1000004) then (some ((1))) else (some ((0)))))).bind fun (t8 : Int32) => if ¬ (t8 = 0 ∨ t8 = 1) then none else (fl_wr σ 10 36 x6 t8).bind fun σ11 => (fl_rd σ11 5 36 x6).bind fun v15 => (fl_wr σ11 6 36 x6 v15).bind fun σ18 => f_X3_room_l18 x1 x2 x3 x4 x5 n (x6 + 1) σ18)
def f_X3_room (x1 : Int32) (x2 : Int32) (x3 : Int32) (x4 : Int32) (σ : fl_St) : Option (Int32 × fl_St) := fl_b2 (f_X3_findRound (0) σ) fun r2 σ3 => (some (st σ3 13 1 (σ3 13 0))).bind fun σ4 => (f_X3_room_l18 x1 x2 x3 x4 r2 fl_N (0) σ4).bind fun (σ25 : fl_St) => fl_b2 (if 0 < x4 then (fl_b2 (f_X3_pushAll 6 x2 x3 x4 σ25) fun r33 σ34 => some (r33, σ34)) else (some ((0), σ25))) fun (t28 : Int32) (σ29 : fl_St) => some (t28, σ29)
def rm_X3_room : Room := { frames := 3, cells := 0, slots := 0, locals := 79 }
set_option maxHeartbeats 4000000 in
set_option maxRecDepth 100000 in
theorem c_X3_room (l : Launch) (D : va_G) (ad : Nat → Nat) (cz : Nat → ClassId) (x1 : Int32) (x2 : Int32) (x3 : Int32) (x4 : Int32) (σ : fl_St) {r : Int32} {σ' : fl_St} (h : f_X3_room x1 x2 x3 x4 σ = some (r, σ')) : gMi l yX3_room wsX3_room rm_X3_room D (wm ad cz) (wmT cz) [] [.ref (ad 0), .int x1, .int x2, .int x3, .int x4] σ r σ' := by
  refine gMi_of (cc := cX3_room) (maxL := 7) (by decide) rfl (Nat.le_of_ble_eq_true rfl) ?_
  intro p e s m args below meth c A Q ls hx hb hml hown hts hK hA hg hl hret
  have hown : s.vm.findClass RX3 = some m.cls := hown
  have hl : lv_has ls 7 [(0, .ref (ad 0)), (1, .int x1), (2, .int x2), (3, .int x3), (4, .int x4)] := hl
  have k_0 := hts (.fieldLink RX3 55 "FlowLedgerModel" "arcs" "I") (by decide +kernel)
  have k_1 := (by decide +kernel : ∀ w ∈ wsX30, w ∈ wsX3_room)
  have k_2 := hts (.fieldLink RX3 61 "FlowLedgerModel" "all" "I") (by decide +kernel)
  have k_3 := hts (.fieldLink RX3 41 "FlowLedgerModel" "allowed" "[Z") (by decide +kernel)
  have k_4 := hts (.fieldLink RX3 28 "FlowLedgerModel" "other" "[I") (by decide +kernel)
  have k_5 := hts (.fieldLink RX3 25 "FlowLedgerModel" "flow" "[I") (by decide +kernel)
  have k_6 := hts (.constant RX3 84 (-1000004)) (by decide +kernel)
  have L18 : ∀ (n : Nat) (x1 : Int32) (x2 : Int32) (x3 : Int32) (x4 : Int32) (x5 : Int32) (x6 : Int32) (σ : fl_St) (σo : fl_St) (H : Heap) (locs : List Loc) (ls : Array Slot), f_X3_room_l18 x1 x2 x3 x4 x5 n x6 σ = some (σo) → gS D (wm ad cz) A s.heap σ H locs → lv_has ls 7 [(0, .ref (ad 0)), (1, .int x1), (2, .int x2), (3, .int x3), (4, .int x4), (5, .int x5), (6, .int x6)] → (∀ (H : Heap) (locs : List Loc) (ls : Array Slot), gS D (wm ad cz) A s.heap σo H locs → lv_has ls 7 [(0, .ref (ad 0)), (2, .int x2), (3, .int x3), (4, .int x4)] → W p l e rm_X3_room s m args below meth c H locs 0 0 Q (F0 m 81 ls [])) → W p l e rm_X3_room s m args below meth c H locs 0 0 Q (F0 m 18 ls []) := by
    intro n
    induction n with
    | zero =>
      intro x1 x2 x3 x4 x5 x6 σ σo H locs ls h hg hl kk0
      rw [f_X3_room_l18] at h
      cases h
    | succ n ih =>
      intro x1 x2 x3 x4 x5 x6 σ σo H locs ls h hg hl kk0
      rw [f_X3_room_l18] at h
      refine lv_iload hx hb dX3_room_18 (lv_at hl 6 rfl) ?_
      refine lv_aload_n hx hb dX3_room_20 rfl (lv_at hl 0 rfl) ?_
      refine va_get (D := D) (ci := 3) (v := .int (σ 13 0)) (C := RX3) (T := TX3) (N := 16) hx hb hts k_1 hown hK.1 hg.1 0 rfl rfl 0 (by decide) k_0 (fun _ h9 => h9) rfl dX3_room_21 ?_
      refine lv_icmp_ge (tgt := 81) hx hb dX3_room_24 (by decide) (fun c6 => ?_) (fun c6 => ?_)
      · have h := fl_ifp c6 h
        obtain rfl := fl_s1 h
        exact kk0 H locs ls hg (lv_sub hl [0, 2, 3, 4] rfl)
      · have h := fl_ifn c6 h
        refine lv_aload_n hx hb dX3_room_27 rfl (lv_at hl 0 rfl) ?_
        refine va_get (D := D) (ci := 3) (v := .ref (ad 11)) (C := RX3) (T := TX3) (N := 16) hx hb hts k_1 hown hK.1 hg.1 0 rfl rfl 12 (by decide) k_3 (fun _ h9 => h9) rfl dX3_room_28 ?_
        refine lv_iload hx hb dX3_room_31 (lv_at hl 6 rfl) ?_
        refine lv_iload hx hb dX3_room_33 (lv_at hl 6 rfl) ?_
        refine lv_iload_n hx hb dX3_room_35 rfl (lv_at hl 1 rfl) ?_
        obtain ⟨t8, hB10, h⟩ := fl_bnd h
        have J9 : ∀ (H : Heap) (locs : List Loc) (ls : Array Slot), gS D (wm ad cz) A s.heap σ H locs → lv_has ls 7 [(0, .ref (ad 0)), (1, .int x1), (2, .int x2), (3, .int x3), (4, .int x4), (5, .int x5), (6, .int x6)] → W p l e rm_X3_room s m args below meth c H locs 0 0 Q (F0 m 60 ls [.int t8, .int x6, .ref (ad 11)]) := by
          intro H locs ls hg hl
          obtain ⟨z14, h⟩ := fl_bool h
          obtain ⟨σ11, i12, e13, h⟩ := fl_wr_b h
          refine g_stz (n := 36) (t0 := 10) hx hb hK hg (wm_a10 ad cz _) (wm_s10 ad cz _) rfl (fl_nar z14) i12 e13 dX3_room_60 (fun H locs hg => ?_)
          refine lv_aload_n hx hb dX3_room_61 rfl (lv_at hl 0 rfl) ?_
          refine va_get (D := D) (ci := 3) (v := .ref (ad 7)) (C := RX3) (T := TX3) (N := 16) hx hb hts k_1 hown hK.1 hg.1 0 rfl rfl 7 (by decide) k_4 (fun _ h9 => h9) rfl dX3_room_62 ?_
          refine lv_iload hx hb dX3_room_65 (lv_at hl 6 rfl) ?_
          refine lv_aload_n hx hb dX3_room_67 rfl (lv_at hl 0 rfl) ?_
          refine va_get (D := D) (ci := 3) (v := .ref (ad 6)) (C := RX3) (T := TX3) (N := 16) hx hb hts k_1 hown hK.1 hg.1 0 rfl rfl 6 (by decide) k_5 (fun _ h9 => h9) rfl dX3_room_68 ?_
          refine lv_iload hx hb dX3_room_71 (lv_at hl 6 rfl) ?_
          obtain ⟨v15, i16, e17, h⟩ := fl_rd_b h
          refine g_ld (n := 36) (t0 := 5) hx hb hK hg (wm_a5 ad cz _) rfl i16 e17 dX3_room_73 ?_
          obtain ⟨σ18, i19, e20, h⟩ := fl_wr_b h
          refine g_st (n := 36) (t0 := 6) hx hb hK hg (wm_a6 ad cz _) (wm_s6 ad cz _) rfl i19 e20 dX3_room_74 (fun H locs hg => ?_)
          refine lv_iinc (v := (x6 + 1)) (lv' := [(6, .int (x6 + 1)), (0, .ref (ad 0)), (1, .int x1), (2, .int x2), (3, .int x3), (4, .int x4), (5, .int x5)]) hx hb dX3_room_75 hl (k := 6) rfl rfl (by decide) rfl (fun ls hl => ?_)
          refine lv_goto (tgt := 18) hx hb dX3_room_78 (by decide) ?_
          exact ih _ _ _ _ _ _ _ _ _ _ _ h hg (lv_sub hl [1, 2, 3, 4, 5, 6, 0] rfl) kk0
        clear h
        have h := hB10
        refine lv_icmp_eq (tgt := 59) hx hb dX3_room_36 (by decide) (fun c7 => ?_) (fun c7 => ?_)
        · have h := fl_ifp c7 h
          refine lv_iconst (v := (0)) hx hb dX3_room_59 (by decide) ?_
          obtain rfl := fl_s1 h
          exact J9 H locs ls hg (lv_sub hl [0, 1, 2, 3, 4, 5, 6] rfl)
        · have h := fl_ifn c7 h
          refine lv_aload_n hx hb dX3_room_39 rfl (lv_at hl 0 rfl) ?_
          refine lv_iload hx hb dX3_room_40 (lv_at hl 6 rfl) ?_
          obtain ⟨r22, e21, h⟩ := fl_bnd h
          refine g_callVi (As := [.int x6]) (rest := [.int x6, .ref (ad 11)]) ⟨hx, hb, hml, hown, hts⟩ (c_X3_isFree l D ad cz (x6) (σ) e21) (cwV 1 hts gX3_room_X3_isFree rfl rfl rfl (by decide +kernel) ⟨Nat.le_of_ble_eq_true rfl, Nat.le_of_ble_eq_true rfl⟩) (va_recv hK.1 hg.1 (ci := 3) (q0 := 0) rfl rfl) hK hA hg rfl hl.1 rfl (Nat.le_of_ble_eq_true rfl) dX3_room_42 ⟨Nat.le_of_ble_eq_true rfl, Nat.le_of_ble_eq_true rfl⟩ (fun H locs hg => ?_)
          refine lv_if_eq (tgt := 59) hx hb dX3_room_45 (by decide) (fun c23 => ?_) (fun c23 => ?_)
          · have h := fl_ifp c23 h
            refine lv_iconst (v := (0)) hx hb dX3_room_59 (by decide) ?_
            obtain rfl := fl_s1 h
            exact J9 H locs ls hg (lv_sub hl [0, 1, 2, 3, 4, 5, 6] rfl)
          · have h := fl_ifn c23 h
            refine lv_iload hx hb dX3_room_48 (lv_at hl 5 rfl) ?_
            refine lv_ldc hx hb hown k_6 dX3_room_50 ?_
            refine lv_icmp_ne (tgt := 59) hx hb dX3_room_52 (by decide) (fun c24 => ?_) (fun c24 => ?_)
            · have h := fl_ifn c24 h
              refine lv_iconst (v := (0)) hx hb dX3_room_59 (by decide) ?_
              obtain rfl := fl_s1 h
              exact J9 H locs ls hg (lv_sub hl [0, 1, 2, 3, 4, 5, 6] rfl)
            · have h := fl_ifp c24 h
              refine lv_iconst (v := (1)) hx hb dX3_room_55 (by decide) ?_
              refine lv_goto (tgt := 60) hx hb dX3_room_56 (by decide) ?_
              obtain rfl := fl_s1 h
              exact J9 H locs ls hg (lv_sub hl [0, 1, 2, 3, 4, 5, 6] rfl)
  unfold f_X3_room at h
  have W0 : ∀ (H : Heap) (locs : List Loc), gS D (wm ad cz) A s.heap σ H locs → W p l e rm_X3_room s m args below meth c H locs 0 0 Q (F0 m 0 ls []) := by
    intro H locs hg
    refine lv_aload_n hx hb dX3_room_0 rfl (lv_at hl 0 rfl) ?_
    refine lv_iconst (v := (0)) hx hb dX3_room_1 (by decide) ?_
    obtain ⟨r2, σ3, e1, h⟩ := fl_b2_b h
    refine g_callVi (As := [.int (0)]) (rest := []) ⟨hx, hb, hml, hown, hts⟩ (c_X3_findRound l D ad cz ((0)) (σ) e1) (cwV 1 hts gX3_room_X3_findRound rfl rfl rfl (by decide +kernel) ⟨Nat.le_of_ble_eq_true rfl, Nat.le_of_ble_eq_true rfl⟩) (va_recv hK.1 hg.1 (ci := 3) (q0 := 0) rfl rfl) hK hA hg rfl hl.1 rfl (Nat.le_of_ble_eq_true rfl) dX3_room_2 ⟨Nat.le_of_ble_eq_true rfl, Nat.le_of_ble_eq_true rfl⟩ (fun H locs hg => ?_)
    refine lv_istore (lv' := [(5, .int r2), (0, .ref (ad 0)), (1, .int x1), (2, .int x2), (3, .int x3), (4, .int x4)]) hx hb dX3_room_5 hl (by decide) rfl (fun ls hl => ?_)
    refine lv_aload_n hx hb dX3_room_7 rfl (lv_at hl 1 rfl) ?_
    refine lv_aload_n hx hb dX3_room_8 rfl (lv_at hl 1 rfl) ?_
    refine va_get (D := D) (ci := 3) (v := .int (σ3 13 0)) (C := RX3) (T := TX3) (N := 16) hx hb hts k_1 hown hK.1 hg.1 0 rfl rfl 0 (by decide) k_0 (fun _ h9 => h9) rfl dX3_room_9 ?_
    obtain ⟨σ4, e5, h⟩ := fl_bnd h
    have e5 := fl_s1 e5
    refine g_put (σ' := σ4) (ci := 3) (C := RX3) (T := TX3) (N := 16) (z := (σ3 13 0)) hx hb hts k_1 tyX3 tyX3_ok nmX3 hown hK hg 0 rfl rfl 8 (by decide) k_2 (fun _ h9 => h9) rfl (by decide +kernel) (Nat.le_of_ble_eq_true rfl) (by rw [← e5]; exact wm_c1 ad cz _ _) dX3_room_12 (fun H locs hg => ?_)
    refine lv_iconst (v := (0)) hx hb dX3_room_15 (by decide) ?_
    refine lv_istore (lv' := [(6, .int (0)), (5, .int r2), (0, .ref (ad 0)), (1, .int x1), (2, .int x2), (3, .int x3), (4, .int x4)]) hx hb dX3_room_16 hl (by decide) rfl (fun ls hl => ?_)
    obtain ⟨σ25, hB26, h⟩ := fl_bnd h
    refine L18 fl_N _ _ _ _ _ _ _ _ H locs ls hB26 hg (lv_sub hl [2, 3, 4, 5, 6, 1, 0] rfl) (fun H locs ls hg hl => ?_)
    refine lv_iload hx hb dX3_room_81 (lv_at hl 3 rfl) ?_
    obtain ⟨t28, σ29, hB31, h⟩ := fl_b2_b h
    have J30 : ∀ (H : Heap) (locs : List Loc) (ls : Array Slot), gS D (wm ad cz) A s.heap σ29 H locs → lv_has ls 7 [] → W p l e rm_X3_room s m args below meth c H locs 0 0 Q (F0 m 102 ls [.int t28]) := by
      intro H locs ls hg hl
      exact hret _ _ _ _ _ _ h hg rfl dX3_room_102
    clear h
    have h := hB31
    refine lv_if_gt (tgt := 90) hx hb dX3_room_83 (by decide) (fun c27 => ?_) (fun c27 => ?_)
    · have h := fl_ifp c27 h
      refine lv_aload_n hx hb dX3_room_90 rfl (lv_at hl 0 rfl) ?_
      refine lv_aload_n hx hb dX3_room_91 rfl (lv_at hl 0 rfl) ?_
      refine va_get (D := D) (ci := 3) (v := .ref (ad 7)) (C := RX3) (T := TX3) (N := 16) hx hb hts k_1 hown hK.1 hg.1 0 rfl rfl 7 (by decide) k_4 (fun _ h9 => h9) rfl dX3_room_92 ?_
      refine lv_iload_n hx hb dX3_room_95 rfl (lv_at hl 1 rfl) ?_
      refine lv_iload_n hx hb dX3_room_96 rfl (lv_at hl 2 rfl) ?_
      refine lv_iload hx hb dX3_room_97 (lv_at hl 3 rfl) ?_
      obtain ⟨r33, σ34, e32, h⟩ := fl_b2_b h
      refine g_callVi (As := [.ref (ad 7), .int x2, .int x3, .int x4]) (rest := []) ⟨hx, hb, hml, hown, hts⟩ (c_X3_pushAll l D ad cz (Or.inr rfl) (x2) (x3) (x4) (σ25) e32) (cwV 4 hts gX3_room_X3_pushAll rfl rfl rfl (by decide +kernel) ⟨Nat.le_of_ble_eq_true rfl, Nat.le_of_ble_eq_true rfl⟩) (va_recv hK.1 hg.1 (ci := 3) (q0 := 0) rfl rfl) hK hA hg rfl hl.1 rfl (Nat.le_of_ble_eq_true rfl) dX3_room_99 ⟨Nat.le_of_ble_eq_true rfl, Nat.le_of_ble_eq_true rfl⟩ (fun H locs hg => ?_)
      obtain ⟨rfl, rfl⟩ := fl_s2 h
      exact J30 H locs ls hg (lv_sub hl [] rfl)
    · have h := fl_ifn c27 h
      refine lv_iconst (v := (0)) hx hb dX3_room_86 (by decide) ?_
      refine lv_goto (tgt := 102) hx hb dX3_room_87 (by decide) ?_
      obtain ⟨rfl, rfl⟩ := fl_s2 h
      exact J30 H locs ls hg (lv_sub hl [] rfl)
  exact W0 _ _ hg
def f_X3_least (x1 : Int32) (σ : fl_St) : Option (Int32 × fl_St) := (f_X3_in x1 (0) ((σ 13 0) - (1)) σ).bind fun r2 => if r2 = 0 then (some ((-1000000), σ)) else (fl_b2 (f_X3_solve  σ) fun r5 σ6 => if 0 ≤ r5 then (fl_b2 (f_X3_findRound (0) σ6) fun r9 σ10 => (f_X3_isFree x1 σ10).bind fun r12 => fl_b2 (if r12 = 0 then ((fl_rd σ10 5 36 x1).bind fun v18 => some (v18, σ10)) else ((fl_rd σ10 5 36 x1).bind fun v21 => (fl_rd σ10 0 36 x1).bind fun v24 => (fl_rd σ10 1 36 x1).bind fun v27 => (fl_rd σ10 5 36 x1).bind fun v30 => fl_b2 (f_X3_room x1 v24 v27 v30 σ10) fun r34 σ35 => some ((v21 - r34), σ35))) fun (t14 : Int32) (σ15 : fl_St) => some (t14, σ15)) else (some (r5, σ6)))
def rm_X3_least : Room := { frames := 5, cells := 0, slots := 0, locals := 124 }
set_option maxHeartbeats 4000000 in
set_option maxRecDepth 100000 in
theorem c_X3_least (l : Launch) (D : va_G) (ad : Nat → Nat) (cz : Nat → ClassId) (x1 : Int32) (σ : fl_St) {r : Int32} {σ' : fl_St} (h : f_X3_least x1 σ = some (r, σ')) : gMi l yX3_least wsX3_least rm_X3_least D (wm ad cz) (wmT cz) [] [.ref (ad 0), .int x1] σ r σ' := by
  refine gMi_of (cc := cX3_least) (maxL := 3) (by decide) rfl (Nat.le_of_ble_eq_true rfl) ?_
  intro p e s m args below meth c A Q ls hx hb hml hown hts hK hA hg hl hret
  have hown : s.vm.findClass RX3 = some m.cls := hown
  have hl : lv_has ls 3 [(0, .ref (ad 0)), (1, .int x1)] := hl
  have k_0 := hts (.fieldLink RX3 55 "FlowLedgerModel" "arcs" "I") (by decide +kernel)
  have k_1 := (by decide +kernel : ∀ w ∈ wsX30, w ∈ wsX3_least)
  have k_2 := hts (.fieldLink RX3 25 "FlowLedgerModel" "flow" "[I") (by decide +kernel)
  have k_3 := hts (.fieldLink RX3 7 "FlowLedgerModel" "froms" "[I") (by decide +kernel)
  have k_4 := hts (.fieldLink RX3 13 "FlowLedgerModel" "tos" "[I") (by decide +kernel)
  have k_5 := hts (.constant RX3 54 (-1000000)) (by decide +kernel)
  unfold f_X3_least at h
  have W0 : ∀ (H : Heap) (locs : List Loc), gS D (wm ad cz) A s.heap σ H locs → W p l e rm_X3_least s m args below meth c H locs 0 0 Q (F0 m 0 ls []) := by
    intro H locs hg
    refine lv_iload_n hx hb dX3_least_0 rfl (lv_at hl 1 rfl) ?_
    refine lv_iconst (v := (0)) hx hb dX3_least_1 (by decide) ?_
    refine lv_aload_n hx hb dX3_least_2 rfl (lv_at hl 0 rfl) ?_
    refine va_get (D := D) (ci := 3) (v := .int (σ 13 0)) (C := RX3) (T := TX3) (N := 16) hx hb hts k_1 hown hK.1 hg.1 0 rfl rfl 0 (by decide) k_0 (fun _ h9 => h9) rfl dX3_least_3 ?_
    refine lv_iconst (v := (1)) hx hb dX3_least_6 (by decide) ?_
    refine lv_isub hx hb dX3_least_7 ?_
    obtain ⟨r2, e1, h⟩ := fl_bnd h
    refine g_callSi (As := [.int x1, .int (0), .int ((σ 13 0) - (1))]) (rest := []) ⟨hx, hb, hml, hown, hts⟩ (c_X3_in l D ad cz (x1) ((0)) (((σ 13 0) - (1))) (σ) e1) (cwS 3 hts gX3_least_X3_in rfl rfl rfl (by decide +kernel) ⟨Nat.le_of_ble_eq_true rfl, Nat.le_of_ble_eq_true rfl⟩) hK hA hg rfl hl.1 rfl (Nat.le_of_ble_eq_true rfl) dX3_least_8 ⟨Nat.le_of_ble_eq_true rfl, Nat.le_of_ble_eq_true rfl⟩ (fun H locs hg => ?_)
    refine lv_if_ne (tgt := 17) hx hb dX3_least_11 (by decide) (fun c3 => ?_) (fun c3 => ?_)
    · have h := fl_ifn c3 h
      refine lv_aload_n hx hb dX3_least_17 rfl (lv_at hl 0 rfl) ?_
      obtain ⟨r5, σ6, e4, h⟩ := fl_b2_b h
      refine g_callVi (As := []) (rest := []) ⟨hx, hb, hml, hown, hts⟩ (c_X3_solve l D ad cz (σ) e4) (cwV 0 hts gX3_least_X3_solve rfl rfl rfl (by decide +kernel) ⟨Nat.le_of_ble_eq_true rfl, Nat.le_of_ble_eq_true rfl⟩) (va_recv hK.1 hg.1 (ci := 3) (q0 := 0) rfl rfl) hK hA hg rfl hl.1 rfl (Nat.le_of_ble_eq_true rfl) dX3_least_18 ⟨Nat.le_of_ble_eq_true rfl, Nat.le_of_ble_eq_true rfl⟩ (fun H locs hg => ?_)
      refine lv_istore_n (lv' := [(2, .int r5), (0, .ref (ad 0)), (1, .int x1)]) hx hb dX3_least_21 rfl hl (by decide) rfl (fun ls hl => ?_)
      refine lv_iload_n hx hb dX3_least_22 rfl (lv_at hl 0 rfl) ?_
      refine lv_if_ge (tgt := 28) hx hb dX3_least_23 (by decide) (fun c7 => ?_) (fun c7 => ?_)
      · have h := fl_ifp c7 h
        refine lv_aload_n hx hb dX3_least_28 rfl (lv_at hl 1 rfl) ?_
        refine lv_iconst (v := (0)) hx hb dX3_least_29 (by decide) ?_
        obtain ⟨r9, σ10, e8, h⟩ := fl_b2_b h
        refine g_callVi (As := [.int (0)]) (rest := []) ⟨hx, hb, hml, hown, hts⟩ (c_X3_findRound l D ad cz ((0)) (σ6) e8) (cwV 1 hts gX3_least_X3_findRound rfl rfl rfl (by decide +kernel) ⟨Nat.le_of_ble_eq_true rfl, Nat.le_of_ble_eq_true rfl⟩) (va_recv hK.1 hg.1 (ci := 3) (q0 := 0) rfl rfl) hK hA hg rfl hl.1 rfl (Nat.le_of_ble_eq_true rfl) dX3_least_30 ⟨Nat.le_of_ble_eq_true rfl, Nat.le_of_ble_eq_true rfl⟩ (fun H locs hg => ?_)
        refine lv_pop hx hb dX3_least_33 rfl ?_
        refine lv_aload_n hx hb dX3_least_34 rfl (lv_at hl 1 rfl) ?_
        refine lv_iload_n hx hb dX3_least_35 rfl (lv_at hl 2 rfl) ?_
        obtain ⟨r12, e11, h⟩ := fl_bnd h
        refine g_callVi (As := [.int x1]) (rest := []) ⟨hx, hb, hml, hown, hts⟩ (c_X3_isFree l D ad cz (x1) (σ10) e11) (cwV 1 hts gX3_least_X3_isFree rfl rfl rfl (by decide +kernel) ⟨Nat.le_of_ble_eq_true rfl, Nat.le_of_ble_eq_true rfl⟩) (va_recv hK.1 hg.1 (ci := 3) (q0 := 0) rfl rfl) hK hA hg rfl hl.1 rfl (Nat.le_of_ble_eq_true rfl) dX3_least_36 ⟨Nat.le_of_ble_eq_true rfl, Nat.le_of_ble_eq_true rfl⟩ (fun H locs hg => ?_)
        obtain ⟨t14, σ15, hB17, h⟩ := fl_b2_b h
        have J16 : ∀ (H : Heap) (locs : List Loc) (ls : Array Slot), gS D (wm ad cz) A s.heap σ15 H locs → lv_has ls 3 [] → W p l e rm_X3_least s m args below meth c H locs 0 0 Q (F0 m 81 ls [.int t14]) := by
          intro H locs ls hg hl
          exact hret _ _ _ _ _ _ h hg rfl dX3_least_81
        clear h
        have h := hB17
        refine lv_if_eq (tgt := 75) hx hb dX3_least_39 (by decide) (fun c13 => ?_) (fun c13 => ?_)
        · have h := fl_ifp c13 h
          refine lv_aload_n hx hb dX3_least_75 rfl (lv_at hl 1 rfl) ?_
          refine va_get (D := D) (ci := 3) (v := .ref (ad 6)) (C := RX3) (T := TX3) (N := 16) hx hb hts k_1 hown hK.1 hg.1 0 rfl rfl 6 (by decide) k_2 (fun _ h9 => h9) rfl dX3_least_76 ?_
          refine lv_iload_n hx hb dX3_least_79 rfl (lv_at hl 2 rfl) ?_
          obtain ⟨v18, i19, e20, h⟩ := fl_rd_b h
          refine g_ld (n := 36) (t0 := 5) hx hb hK hg (wm_a5 ad cz _) rfl i19 e20 dX3_least_80 ?_
          obtain ⟨rfl, rfl⟩ := fl_s2 h
          exact J16 H locs ls hg (lv_sub hl [] rfl)
        · have h := fl_ifn c13 h
          refine lv_aload_n hx hb dX3_least_42 rfl (lv_at hl 1 rfl) ?_
          refine va_get (D := D) (ci := 3) (v := .ref (ad 6)) (C := RX3) (T := TX3) (N := 16) hx hb hts k_1 hown hK.1 hg.1 0 rfl rfl 6 (by decide) k_2 (fun _ h9 => h9) rfl dX3_least_43 ?_
          refine lv_iload_n hx hb dX3_least_46 rfl (lv_at hl 2 rfl) ?_
          obtain ⟨v21, i22, e23, h⟩ := fl_rd_b h
          refine g_ld (n := 36) (t0 := 5) hx hb hK hg (wm_a5 ad cz _) rfl i22 e23 dX3_least_47 ?_
          refine lv_aload_n hx hb dX3_least_48 rfl (lv_at hl 1 rfl) ?_
          refine lv_iload_n hx hb dX3_least_49 rfl (lv_at hl 2 rfl) ?_
          refine lv_aload_n hx hb dX3_least_50 rfl (lv_at hl 1 rfl) ?_
          refine va_get (D := D) (ci := 3) (v := .ref (ad 1)) (C := RX3) (T := TX3) (N := 16) hx hb hts k_1 hown hK.1 hg.1 0 rfl rfl 1 (by decide) k_3 (fun _ h9 => h9) rfl dX3_least_51 ?_
          refine lv_iload_n hx hb dX3_least_54 rfl (lv_at hl 2 rfl) ?_
          obtain ⟨v24, i25, e26, h⟩ := fl_rd_b h
          refine g_ld (n := 36) (t0 := 0) hx hb hK hg (wm_a0 ad cz _) rfl i25 e26 dX3_least_55 ?_
          refine lv_aload_n hx hb dX3_least_56 rfl (lv_at hl 1 rfl) ?_
          refine va_get (D := D) (ci := 3) (v := .ref (ad 2)) (C := RX3) (T := TX3) (N := 16) hx hb hts k_1 hown hK.1 hg.1 0 rfl rfl 2 (by decide) k_4 (fun _ h9 => h9) rfl dX3_least_57 ?_
          refine lv_iload_n hx hb dX3_least_60 rfl (lv_at hl 2 rfl) ?_
          obtain ⟨v27, i28, e29, h⟩ := fl_rd_b h
          refine g_ld (n := 36) (t0 := 1) hx hb hK hg (wm_a1 ad cz _) rfl i28 e29 dX3_least_61 ?_
          refine lv_aload_n hx hb dX3_least_62 rfl (lv_at hl 1 rfl) ?_
          refine va_get (D := D) (ci := 3) (v := .ref (ad 6)) (C := RX3) (T := TX3) (N := 16) hx hb hts k_1 hown hK.1 hg.1 0 rfl rfl 6 (by decide) k_2 (fun _ h9 => h9) rfl dX3_least_63 ?_
          refine lv_iload_n hx hb dX3_least_66 rfl (lv_at hl 2 rfl) ?_
          obtain ⟨v30, i31, e32, h⟩ := fl_rd_b h
          refine g_ld (n := 36) (t0 := 5) hx hb hK hg (wm_a5 ad cz _) rfl i31 e32 dX3_least_67 ?_
          obtain ⟨r34, σ35, e33, h⟩ := fl_b2_b h
          refine g_callVi (As := [.int x1, .int v24, .int v27, .int v30]) (rest := [.int v21]) ⟨hx, hb, hml, hown, hts⟩ (c_X3_room l D ad cz (x1) (v24) (v27) (v30) (σ10) e33) (cwV 4 hts gX3_least_X3_room rfl rfl rfl (by decide +kernel) ⟨Nat.le_of_ble_eq_true rfl, Nat.le_of_ble_eq_true rfl⟩) (va_recv hK.1 hg.1 (ci := 3) (q0 := 0) rfl rfl) hK hA hg rfl hl.1 rfl (Nat.le_of_ble_eq_true rfl) dX3_least_68 ⟨Nat.le_of_ble_eq_true rfl, Nat.le_of_ble_eq_true rfl⟩ (fun H locs hg => ?_)
          refine lv_isub hx hb dX3_least_71 ?_
          refine lv_goto (tgt := 81) hx hb dX3_least_72 (by decide) ?_
          obtain ⟨rfl, rfl⟩ := fl_s2 h
          exact J16 H locs ls hg (lv_sub hl [] rfl)
      · have h := fl_ifn c7 h
        refine lv_iload_n hx hb dX3_least_26 rfl (lv_at hl 0 rfl) ?_
        exact hret _ _ _ _ _ _ h hg rfl dX3_least_27
    · have h := fl_ifp c3 h
      refine lv_ldc hx hb hown k_5 dX3_least_14 ?_
      exact hret _ _ _ _ _ _ h hg rfl dX3_least_16
  exact W0 _ _ hg
def f_X3_mostOf (x1 : Int32) (σ : fl_St) : Option (Int32 × fl_St) := fl_b2 (f_X3_findRound (0) σ) fun r2 σ3 => (f_X3_isFree x1 σ3).bind fun r5 => if r5 = 0 then ((fl_rd σ3 5 36 x1).bind fun v29 => some (v29, σ3)) else ((fl_rd σ3 1 36 x1).bind fun v7 => (fl_rd σ3 0 36 x1).bind fun v10 => (fl_rd σ3 2 36 x1).bind fun v13 => (fl_rd σ3 5 36 x1).bind fun v16 => fl_b2 (f_X3_room x1 v7 v10 (v13 - v16) σ3) fun r20 σ21 => (if r20 < (500000) then ((fl_rd σ21 5 36 x1).bind fun v26 => some ((v26 + r20))) else (some ((-1000004)))).bind fun (t23 : Int32) => some (t23, σ21))
def rm_X3_mostOf : Room := { frames := 4, cells := 0, slots := 0, locals := 105 }
set_option maxHeartbeats 4000000 in
set_option maxRecDepth 100000 in
theorem c_X3_mostOf (l : Launch) (D : va_G) (ad : Nat → Nat) (cz : Nat → ClassId) (x1 : Int32) (σ : fl_St) {r : Int32} {σ' : fl_St} (h : f_X3_mostOf x1 σ = some (r, σ')) : gMi l yX3_mostOf wsX3_mostOf rm_X3_mostOf D (wm ad cz) (wmT cz) [] [.ref (ad 0), .int x1] σ r σ' := by
  refine gMi_of (cc := cX3_mostOf) (maxL := 3) (by decide) rfl (Nat.le_of_ble_eq_true rfl) ?_
  intro p e s m args below meth c A Q ls hx hb hml hown hts hK hA hg hl hret
  have hown : s.vm.findClass RX3 = some m.cls := hown
  have hl : lv_has ls 3 [(0, .ref (ad 0)), (1, .int x1)] := hl
  have k_0 := hts (.fieldLink RX3 13 "FlowLedgerModel" "tos" "[I") (by decide +kernel)
  have k_1 := (by decide +kernel : ∀ w ∈ wsX30, w ∈ wsX3_mostOf)
  have k_2 := hts (.fieldLink RX3 7 "FlowLedgerModel" "froms" "[I") (by decide +kernel)
  have k_3 := hts (.fieldLink RX3 16 "FlowLedgerModel" "capacities" "[I") (by decide +kernel)
  have k_4 := hts (.fieldLink RX3 25 "FlowLedgerModel" "flow" "[I") (by decide +kernel)
  have k_5 := hts (.constant RX3 85 (500000)) (by decide +kernel)
  have k_6 := hts (.constant RX3 84 (-1000004)) (by decide +kernel)
  unfold f_X3_mostOf at h
  have W0 : ∀ (H : Heap) (locs : List Loc), gS D (wm ad cz) A s.heap σ H locs → W p l e rm_X3_mostOf s m args below meth c H locs 0 0 Q (F0 m 0 ls []) := by
    intro H locs hg
    refine lv_aload_n hx hb dX3_mostOf_0 rfl (lv_at hl 0 rfl) ?_
    refine lv_iconst (v := (0)) hx hb dX3_mostOf_1 (by decide) ?_
    obtain ⟨r2, σ3, e1, h⟩ := fl_b2_b h
    refine g_callVi (As := [.int (0)]) (rest := []) ⟨hx, hb, hml, hown, hts⟩ (c_X3_findRound l D ad cz ((0)) (σ) e1) (cwV 1 hts gX3_mostOf_X3_findRound rfl rfl rfl (by decide +kernel) ⟨Nat.le_of_ble_eq_true rfl, Nat.le_of_ble_eq_true rfl⟩) (va_recv hK.1 hg.1 (ci := 3) (q0 := 0) rfl rfl) hK hA hg rfl hl.1 rfl (Nat.le_of_ble_eq_true rfl) dX3_mostOf_2 ⟨Nat.le_of_ble_eq_true rfl, Nat.le_of_ble_eq_true rfl⟩ (fun H locs hg => ?_)
    refine lv_pop hx hb dX3_mostOf_5 rfl ?_
    refine lv_aload_n hx hb dX3_mostOf_6 rfl (lv_at hl 0 rfl) ?_
    refine lv_iload_n hx hb dX3_mostOf_7 rfl (lv_at hl 1 rfl) ?_
    obtain ⟨r5, e4, h⟩ := fl_bnd h
    refine g_callVi (As := [.int x1]) (rest := []) ⟨hx, hb, hml, hown, hts⟩ (c_X3_isFree l D ad cz (x1) (σ3) e4) (cwV 1 hts gX3_mostOf_X3_isFree rfl rfl rfl (by decide +kernel) ⟨Nat.le_of_ble_eq_true rfl, Nat.le_of_ble_eq_true rfl⟩) (va_recv hK.1 hg.1 (ci := 3) (q0 := 0) rfl rfl) hK hA hg rfl hl.1 rfl (Nat.le_of_ble_eq_true rfl) dX3_mostOf_8 ⟨Nat.le_of_ble_eq_true rfl, Nat.le_of_ble_eq_true rfl⟩ (fun H locs hg => ?_)
    refine lv_if_ne (tgt := 21) hx hb dX3_mostOf_11 (by decide) (fun c6 => ?_) (fun c6 => ?_)
    · have h := fl_ifn c6 h
      refine lv_aload_n hx hb dX3_mostOf_21 rfl (lv_at hl 0 rfl) ?_
      refine lv_iload_n hx hb dX3_mostOf_22 rfl (lv_at hl 1 rfl) ?_
      refine lv_aload_n hx hb dX3_mostOf_23 rfl (lv_at hl 0 rfl) ?_
      refine va_get (D := D) (ci := 3) (v := .ref (ad 2)) (C := RX3) (T := TX3) (N := 16) hx hb hts k_1 hown hK.1 hg.1 0 rfl rfl 2 (by decide) k_0 (fun _ h9 => h9) rfl dX3_mostOf_24 ?_
      refine lv_iload_n hx hb dX3_mostOf_27 rfl (lv_at hl 1 rfl) ?_
      obtain ⟨v7, i8, e9, h⟩ := fl_rd_b h
      refine g_ld (n := 36) (t0 := 1) hx hb hK hg (wm_a1 ad cz _) rfl i8 e9 dX3_mostOf_28 ?_
      refine lv_aload_n hx hb dX3_mostOf_29 rfl (lv_at hl 0 rfl) ?_
      refine va_get (D := D) (ci := 3) (v := .ref (ad 1)) (C := RX3) (T := TX3) (N := 16) hx hb hts k_1 hown hK.1 hg.1 0 rfl rfl 1 (by decide) k_2 (fun _ h9 => h9) rfl dX3_mostOf_30 ?_
      refine lv_iload_n hx hb dX3_mostOf_33 rfl (lv_at hl 1 rfl) ?_
      obtain ⟨v10, i11, e12, h⟩ := fl_rd_b h
      refine g_ld (n := 36) (t0 := 0) hx hb hK hg (wm_a0 ad cz _) rfl i11 e12 dX3_mostOf_34 ?_
      refine lv_aload_n hx hb dX3_mostOf_35 rfl (lv_at hl 0 rfl) ?_
      refine va_get (D := D) (ci := 3) (v := .ref (ad 3)) (C := RX3) (T := TX3) (N := 16) hx hb hts k_1 hown hK.1 hg.1 0 rfl rfl 3 (by decide) k_3 (fun _ h9 => h9) rfl dX3_mostOf_36 ?_
      refine lv_iload_n hx hb dX3_mostOf_39 rfl (lv_at hl 1 rfl) ?_
      obtain ⟨v13, i14, e15, h⟩ := fl_rd_b h
      refine g_ld (n := 36) (t0 := 2) hx hb hK hg (wm_a2 ad cz _) rfl i14 e15 dX3_mostOf_40 ?_
      refine lv_aload_n hx hb dX3_mostOf_41 rfl (lv_at hl 0 rfl) ?_
      refine va_get (D := D) (ci := 3) (v := .ref (ad 6)) (C := RX3) (T := TX3) (N := 16) hx hb hts k_1 hown hK.1 hg.1 0 rfl rfl 6 (by decide) k_4 (fun _ h9 => h9) rfl dX3_mostOf_42 ?_
      refine lv_iload_n hx hb dX3_mostOf_45 rfl (lv_at hl 1 rfl) ?_
      obtain ⟨v16, i17, e18, h⟩ := fl_rd_b h
      refine g_ld (n := 36) (t0 := 5) hx hb hK hg (wm_a5 ad cz _) rfl i17 e18 dX3_mostOf_46 ?_
      refine lv_isub hx hb dX3_mostOf_47 ?_
      obtain ⟨r20, σ21, e19, h⟩ := fl_b2_b h
      refine g_callVi (As := [.int x1, .int v7, .int v10, .int (v13 - v16)]) (rest := []) ⟨hx, hb, hml, hown, hts⟩ (c_X3_room l D ad cz (x1) (v7) (v10) ((v13 - v16)) (σ3) e19) (cwV 4 hts gX3_mostOf_X3_room rfl rfl rfl (by decide +kernel) ⟨Nat.le_of_ble_eq_true rfl, Nat.le_of_ble_eq_true rfl⟩) (va_recv hK.1 hg.1 (ci := 3) (q0 := 0) rfl rfl) hK hA hg rfl hl.1 rfl (Nat.le_of_ble_eq_true rfl) dX3_mostOf_48 ⟨Nat.le_of_ble_eq_true rfl, Nat.le_of_ble_eq_true rfl⟩ (fun H locs hg => ?_)
      refine lv_istore_n (lv' := [(2, .int r20), (0, .ref (ad 0)), (1, .int x1)]) hx hb dX3_mostOf_51 rfl hl (by decide) rfl (fun ls hl => ?_)
      refine lv_iload_n hx hb dX3_mostOf_52 rfl (lv_at hl 0 rfl) ?_
      refine lv_ldc hx hb hown k_5 dX3_mostOf_53 ?_
      obtain ⟨t23, hB25, h⟩ := fl_bnd h
      have J24 : ∀ (H : Heap) (locs : List Loc) (ls : Array Slot), gS D (wm ad cz) A s.heap σ21 H locs → lv_has ls 3 [] → W p l e rm_X3_mostOf s m args below meth c H locs 0 0 Q (F0 m 71 ls [.int t23]) := by
        intro H locs ls hg hl
        exact hret _ _ _ _ _ _ h hg rfl dX3_mostOf_71
      clear h
      have h := hB25
      refine lv_icmp_lt (tgt := 63) hx hb dX3_mostOf_55 (by decide) (fun c22 => ?_) (fun c22 => ?_)
      · have h := fl_ifp c22 h
        refine lv_aload_n hx hb dX3_mostOf_63 rfl (lv_at hl 1 rfl) ?_
        refine va_get (D := D) (ci := 3) (v := .ref (ad 6)) (C := RX3) (T := TX3) (N := 16) hx hb hts k_1 hown hK.1 hg.1 0 rfl rfl 6 (by decide) k_4 (fun _ h9 => h9) rfl dX3_mostOf_64 ?_
        refine lv_iload_n hx hb dX3_mostOf_67 rfl (lv_at hl 2 rfl) ?_
        obtain ⟨v26, i27, e28, h⟩ := fl_rd_b h
        refine g_ld (n := 36) (t0 := 5) hx hb hK hg (wm_a5 ad cz _) rfl i27 e28 dX3_mostOf_68 ?_
        refine lv_iload_n hx hb dX3_mostOf_69 rfl (lv_at hl 0 rfl) ?_
        refine lv_iadd hx hb dX3_mostOf_70 ?_
        obtain rfl := fl_s1 h
        exact J24 H locs ls hg (lv_sub hl [] rfl)
      · have h := fl_ifn c22 h
        refine lv_ldc hx hb hown k_6 dX3_mostOf_58 ?_
        refine lv_goto (tgt := 71) hx hb dX3_mostOf_60 (by decide) ?_
        obtain rfl := fl_s1 h
        exact J24 H locs ls hg (lv_sub hl [] rfl)
    · have h := fl_ifp c6 h
      refine lv_aload_n hx hb dX3_mostOf_14 rfl (lv_at hl 0 rfl) ?_
      refine va_get (D := D) (ci := 3) (v := .ref (ad 6)) (C := RX3) (T := TX3) (N := 16) hx hb hts k_1 hown hK.1 hg.1 0 rfl rfl 6 (by decide) k_4 (fun _ h9 => h9) rfl dX3_mostOf_15 ?_
      refine lv_iload_n hx hb dX3_mostOf_18 rfl (lv_at hl 1 rfl) ?_
      obtain ⟨v29, i30, e31, h⟩ := fl_rd_b h
      refine g_ld (n := 36) (t0 := 5) hx hb hK hg (wm_a5 ad cz _) rfl i30 e31 dX3_mostOf_19 ?_
      exact hret _ _ _ _ _ _ h hg rfl dX3_mostOf_20
  exact W0 _ _ hg
def f_X3_most (x1 : Int32) (σ : fl_St) : Option (Int32 × fl_St) := (f_X3_in x1 (0) ((σ 13 0) - (1)) σ).bind fun r2 => if r2 = 0 then (some ((-1000000), σ)) else (fl_b2 (f_X3_solve  σ) fun r5 σ6 => fl_b2 (if 0 ≤ r5 then (fl_b2 (f_X3_mostOf x1 σ6) fun r13 σ14 => some (r13, σ14)) else (some (r5, σ6))) fun (t8 : Int32) (σ9 : fl_St) => some (t8, σ9))
def rm_X3_most : Room := { frames := 5, cells := 0, slots := 0, locals := 127 }
set_option maxHeartbeats 4000000 in
set_option maxRecDepth 100000 in
theorem c_X3_most (l : Launch) (D : va_G) (ad : Nat → Nat) (cz : Nat → ClassId) (x1 : Int32) (σ : fl_St) {r : Int32} {σ' : fl_St} (h : f_X3_most x1 σ = some (r, σ')) : gMi l yX3_most wsX3_most rm_X3_most D (wm ad cz) (wmT cz) [] [.ref (ad 0), .int x1] σ r σ' := by
  refine gMi_of (cc := cX3_most) (maxL := 3) (by decide) rfl (Nat.le_of_ble_eq_true rfl) ?_
  intro p e s m args below meth c A Q ls hx hb hml hown hts hK hA hg hl hret
  have hown : s.vm.findClass RX3 = some m.cls := hown
  have hl : lv_has ls 3 [(0, .ref (ad 0)), (1, .int x1)] := hl
  have k_0 := hts (.fieldLink RX3 55 "FlowLedgerModel" "arcs" "I") (by decide +kernel)
  have k_1 := (by decide +kernel : ∀ w ∈ wsX30, w ∈ wsX3_most)
  have k_2 := hts (.constant RX3 54 (-1000000)) (by decide +kernel)
  unfold f_X3_most at h
  have W0 : ∀ (H : Heap) (locs : List Loc), gS D (wm ad cz) A s.heap σ H locs → W p l e rm_X3_most s m args below meth c H locs 0 0 Q (F0 m 0 ls []) := by
    intro H locs hg
    refine lv_iload_n hx hb dX3_most_0 rfl (lv_at hl 1 rfl) ?_
    refine lv_iconst (v := (0)) hx hb dX3_most_1 (by decide) ?_
    refine lv_aload_n hx hb dX3_most_2 rfl (lv_at hl 0 rfl) ?_
    refine va_get (D := D) (ci := 3) (v := .int (σ 13 0)) (C := RX3) (T := TX3) (N := 16) hx hb hts k_1 hown hK.1 hg.1 0 rfl rfl 0 (by decide) k_0 (fun _ h9 => h9) rfl dX3_most_3 ?_
    refine lv_iconst (v := (1)) hx hb dX3_most_6 (by decide) ?_
    refine lv_isub hx hb dX3_most_7 ?_
    obtain ⟨r2, e1, h⟩ := fl_bnd h
    refine g_callSi (As := [.int x1, .int (0), .int ((σ 13 0) - (1))]) (rest := []) ⟨hx, hb, hml, hown, hts⟩ (c_X3_in l D ad cz (x1) ((0)) (((σ 13 0) - (1))) (σ) e1) (cwS 3 hts gX3_most_X3_in rfl rfl rfl (by decide +kernel) ⟨Nat.le_of_ble_eq_true rfl, Nat.le_of_ble_eq_true rfl⟩) hK hA hg rfl hl.1 rfl (Nat.le_of_ble_eq_true rfl) dX3_most_8 ⟨Nat.le_of_ble_eq_true rfl, Nat.le_of_ble_eq_true rfl⟩ (fun H locs hg => ?_)
    refine lv_if_ne (tgt := 17) hx hb dX3_most_11 (by decide) (fun c3 => ?_) (fun c3 => ?_)
    · have h := fl_ifn c3 h
      refine lv_aload_n hx hb dX3_most_17 rfl (lv_at hl 0 rfl) ?_
      obtain ⟨r5, σ6, e4, h⟩ := fl_b2_b h
      refine g_callVi (As := []) (rest := []) ⟨hx, hb, hml, hown, hts⟩ (c_X3_solve l D ad cz (σ) e4) (cwV 0 hts gX3_most_X3_solve rfl rfl rfl (by decide +kernel) ⟨Nat.le_of_ble_eq_true rfl, Nat.le_of_ble_eq_true rfl⟩) (va_recv hK.1 hg.1 (ci := 3) (q0 := 0) rfl rfl) hK hA hg rfl hl.1 rfl (Nat.le_of_ble_eq_true rfl) dX3_most_18 ⟨Nat.le_of_ble_eq_true rfl, Nat.le_of_ble_eq_true rfl⟩ (fun H locs hg => ?_)
      refine lv_istore_n (lv' := [(2, .int r5), (0, .ref (ad 0)), (1, .int x1)]) hx hb dX3_most_21 rfl hl (by decide) rfl (fun ls hl => ?_)
      refine lv_iload_n hx hb dX3_most_22 rfl (lv_at hl 0 rfl) ?_
      obtain ⟨t8, σ9, hB11, h⟩ := fl_b2_b h
      have J10 : ∀ (H : Heap) (locs : List Loc) (ls : Array Slot), gS D (wm ad cz) A s.heap σ9 H locs → lv_has ls 3 [] → W p l e rm_X3_most s m args below meth c H locs 0 0 Q (F0 m 35 ls [.int t8]) := by
        intro H locs ls hg hl
        exact hret _ _ _ _ _ _ h hg rfl dX3_most_35
      clear h
      have h := hB11
      refine lv_if_ge (tgt := 30) hx hb dX3_most_23 (by decide) (fun c7 => ?_) (fun c7 => ?_)
      · have h := fl_ifp c7 h
        refine lv_aload_n hx hb dX3_most_30 rfl (lv_at hl 1 rfl) ?_
        refine lv_iload_n hx hb dX3_most_31 rfl (lv_at hl 2 rfl) ?_
        obtain ⟨r13, σ14, e12, h⟩ := fl_b2_b h
        refine g_callVi (As := [.int x1]) (rest := []) ⟨hx, hb, hml, hown, hts⟩ (c_X3_mostOf l D ad cz (x1) (σ6) e12) (cwV 1 hts gX3_most_X3_mostOf rfl rfl rfl (by decide +kernel) ⟨Nat.le_of_ble_eq_true rfl, Nat.le_of_ble_eq_true rfl⟩) (va_recv hK.1 hg.1 (ci := 3) (q0 := 0) rfl rfl) hK hA hg rfl hl.1 rfl (Nat.le_of_ble_eq_true rfl) dX3_most_32 ⟨Nat.le_of_ble_eq_true rfl, Nat.le_of_ble_eq_true rfl⟩ (fun H locs hg => ?_)
        obtain ⟨rfl, rfl⟩ := fl_s2 h
        exact J10 H locs ls hg (lv_sub hl [] rfl)
      · have h := fl_ifn c7 h
        refine lv_iload_n hx hb dX3_most_26 rfl (lv_at hl 0 rfl) ?_
        refine lv_goto (tgt := 35) hx hb dX3_most_27 (by decide) ?_
        obtain ⟨rfl, rfl⟩ := fl_s2 h
        exact J10 H locs ls hg (lv_sub hl [] rfl)
    · have h := fl_ifp c3 h
      refine lv_ldc hx hb hown k_2 dX3_most_14 ?_
      exact hret _ _ _ _ _ _ h hg rfl dX3_most_16
  exact W0 _ _ hg
def f_X3_slack_l55 (x1 : Int32) (x3 : Int32) (x4 : Int32) (x5 : Int32) : Nat → Int32 → Int32 → fl_St → Option (Int32 × fl_St)
  | 0, _, _, _ => none
  | n + 1, x6, x7, σ => if x7 ≤ 0 then (some (x6, σ)) else (if x6 = 0 then (if x4 = (-1000004) then (some (x6, σ)) else ((fl_wr σ 3 36 x1 (x5 - x7)).bind fun σ17 => fl_b2 (f_X3_solve  σ17) fun r21 σ22 => (if r21 = 0 then (if (σ22 13 2) = (x3 - (x7 * x4)) then (some (x7)) else (some ((0)))) else (some ((0)))).bind fun (t24 : Int32) => f_X3_slack_l55 x1 x3 x4 x5 n t24 (x7 + (-1)) σ22)) else (some (x6, σ)))
def f_X3_slack (x1 : Int32) (σ : fl_St) : Option (Int32 × fl_St) := (f_X3_in x1 (0) ((σ 13 0) - (1)) σ).bind fun r2 => if r2 = 0 then (some ((-1000000), σ)) else (fl_b2 (f_X3_solve  σ) fun r5 σ6 => if 0 ≤ r5 then (fl_b2 (f_X3_mostOf x1 σ6) fun r9 σ10 => (fl_rd σ10 3 36 x1).bind fun v11 => fl_b2 (f_X3_slack_l55 x1 (σ6 13 2) r9 v11 fl_N (0) (40) σ10) fun (w28 : Int32) (σ29 : fl_St) => (fl_wr σ29 3 36 x1 v11).bind fun σ31 => some (w28, σ31)) else (some (r5, σ6)))
def rm_X3_slack : Room := { frames := 5, cells := 0, slots := 0, locals := 127 }
set_option maxHeartbeats 4000000 in
set_option maxRecDepth 100000 in
theorem c_X3_slack (l : Launch) (D : va_G) (ad : Nat → Nat) (cz : Nat → ClassId) (x1 : Int32) (σ : fl_St) {r : Int32} {σ' : fl_St} (h : f_X3_slack x1 σ = some (r, σ')) : gMi l yX3_slack wsX3_slack rm_X3_slack D (wm ad cz) (wmT cz) [] [.ref (ad 0), .int x1] σ r σ' := by
  refine gMi_of (cc := cX3_slack) (maxL := 8) (by decide) rfl (Nat.le_of_ble_eq_true rfl) ?_
  intro p e s m args below meth c A Q ls hx hb hml hown hts hK hA hg hl hret
  have hown : s.vm.findClass RX3 = some m.cls := hown
  have hl : lv_has ls 8 [(0, .ref (ad 0)), (1, .int x1)] := hl
  have k_0 := hts (.fieldLink RX3 55 "FlowLedgerModel" "arcs" "I") (by decide +kernel)
  have k_1 := (by decide +kernel : ∀ w ∈ wsX30, w ∈ wsX3_slack)
  have k_2 := hts (.fieldLink RX3 100 "FlowLedgerModel" "total" "I") (by decide +kernel)
  have k_3 := hts (.fieldLink RX3 19 "FlowLedgerModel" "costs" "[I") (by decide +kernel)
  have k_4 := hts (.constant RX3 84 (-1000004)) (by decide +kernel)
  have k_5 := hts (.constant RX3 54 (-1000000)) (by decide +kernel)
  have L55 : ∀ (n : Nat) (x1 : Int32) (x3 : Int32) (x4 : Int32) (x5 : Int32) (x6 : Int32) (x7 : Int32) (σ : fl_St) (o6 : Int32) (σo : fl_St) (H : Heap) (locs : List Loc) (ls : Array Slot), f_X3_slack_l55 x1 x3 x4 x5 n x6 x7 σ = some (o6, σo) → gS D (wm ad cz) A s.heap σ H locs → lv_has ls 8 [(0, .ref (ad 0)), (1, .int x1), (3, .int x3), (4, .int x4), (5, .int x5), (6, .int x6), (7, .int x7)] → (∀ (H : Heap) (locs : List Loc) (ls : Array Slot), gS D (wm ad cz) A s.heap σo H locs → lv_has ls 8 [(0, .ref (ad 0)), (1, .int x1), (5, .int x5), (6, .int o6)] → W p l e rm_X3_slack s m args below meth c H locs 0 0 Q (F0 m 118 ls [])) → W p l e rm_X3_slack s m args below meth c H locs 0 0 Q (F0 m 55 ls []) := by
    intro n
    induction n with
    | zero =>
      intro x1 x3 x4 x5 x6 x7 σ o6 σo H locs ls h hg hl kk0
      rw [f_X3_slack_l55] at h
      cases h
    | succ n ih =>
      intro x1 x3 x4 x5 x6 x7 σ o6 σo H locs ls h hg hl kk0
      rw [f_X3_slack_l55] at h
      refine lv_iload hx hb dX3_slack_55 (lv_at hl 6 rfl) ?_
      refine lv_if_le (tgt := 118) hx hb dX3_slack_57 (by decide) (fun c14 => ?_) (fun c14 => ?_)
      · have h := fl_ifp c14 h
        obtain ⟨rfl, rfl⟩ := fl_s2 h
        exact kk0 H locs ls hg (lv_sub hl [0, 1, 4, 5] rfl)
      · have h := fl_ifn c14 h
        refine lv_iload hx hb dX3_slack_60 (lv_at hl 5 rfl) ?_
        refine lv_if_ne (tgt := 118) hx hb dX3_slack_62 (by decide) (fun c15 => ?_) (fun c15 => ?_)
        · have h := fl_ifn c15 h
          obtain ⟨rfl, rfl⟩ := fl_s2 h
          exact kk0 H locs ls hg (lv_sub hl [0, 1, 4, 5] rfl)
        · have h := fl_ifp c15 h
          refine lv_iload hx hb dX3_slack_65 (lv_at hl 3 rfl) ?_
          refine lv_ldc hx hb hown k_4 dX3_slack_67 ?_
          refine lv_icmp_eq (tgt := 118) hx hb dX3_slack_69 (by decide) (fun c16 => ?_) (fun c16 => ?_)
          · have h := fl_ifp c16 h
            obtain ⟨rfl, rfl⟩ := fl_s2 h
            exact kk0 H locs ls hg (lv_sub hl [0, 1, 4, 5] rfl)
          · have h := fl_ifn c16 h
            refine lv_aload_n hx hb dX3_slack_72 rfl (lv_at hl 0 rfl) ?_
            refine va_get (D := D) (ci := 3) (v := .ref (ad 4)) (C := RX3) (T := TX3) (N := 16) hx hb hts k_1 hown hK.1 hg.1 0 rfl rfl 4 (by decide) k_3 (fun _ h9 => h9) rfl dX3_slack_73 ?_
            refine lv_iload_n hx hb dX3_slack_76 rfl (lv_at hl 1 rfl) ?_
            refine lv_iload hx hb dX3_slack_77 (lv_at hl 4 rfl) ?_
            refine lv_iload hx hb dX3_slack_79 (lv_at hl 6 rfl) ?_
            refine lv_isub hx hb dX3_slack_81 ?_
            obtain ⟨σ17, i18, e19, h⟩ := fl_wr_b h
            refine g_st (n := 36) (t0 := 3) hx hb hK hg (wm_a3 ad cz _) (wm_s3 ad cz _) rfl i18 e19 dX3_slack_82 (fun H locs hg => ?_)
            refine lv_aload_n hx hb dX3_slack_83 rfl (lv_at hl 0 rfl) ?_
            obtain ⟨r21, σ22, e20, h⟩ := fl_b2_b h
            refine g_callVi (As := []) (rest := []) ⟨hx, hb, hml, hown, hts⟩ (c_X3_solve l D ad cz (σ17) e20) (cwV 0 hts gX3_slack_X3_solve rfl rfl rfl (by decide +kernel) ⟨Nat.le_of_ble_eq_true rfl, Nat.le_of_ble_eq_true rfl⟩) (va_recv hK.1 hg.1 (ci := 3) (q0 := 0) rfl rfl) hK hA hg rfl hl.1 rfl (Nat.le_of_ble_eq_true rfl) dX3_slack_84 ⟨Nat.le_of_ble_eq_true rfl, Nat.le_of_ble_eq_true rfl⟩ (fun H locs hg => ?_)
            obtain ⟨t24, hB26, h⟩ := fl_bnd h
            have J25 : ∀ (H : Heap) (locs : List Loc) (ls : Array Slot), gS D (wm ad cz) A s.heap σ22 H locs → lv_has ls 8 [(0, .ref (ad 0)), (1, .int x1), (3, .int x3), (4, .int x4), (5, .int x5), (7, .int x7)] → W p l e rm_X3_slack s m args below meth c H locs 0 0 Q (F0 m 110 ls [.int t24]) := by
              intro H locs ls hg hl
              refine lv_istore (lv' := [(6, .int t24), (0, .ref (ad 0)), (1, .int x1), (3, .int x3), (4, .int x4), (5, .int x5), (7, .int x7)]) hx hb dX3_slack_110 hl (by decide) rfl (fun ls hl => ?_)
              refine lv_iinc (v := (x7 + (-1))) (lv' := [(7, .int (x7 + (-1))), (6, .int t24), (0, .ref (ad 0)), (1, .int x1), (3, .int x3), (4, .int x4), (5, .int x5)]) hx hb dX3_slack_112 hl (k := 6) rfl rfl (by decide) rfl (fun ls hl => ?_)
              refine lv_goto (tgt := 55) hx hb dX3_slack_115 (by decide) ?_
              exact ih _ _ _ _ _ _ _ _ _ _ _ _ h hg (lv_sub hl [2, 3, 4, 5, 6, 1, 0] rfl) kk0
            clear h
            have h := hB26
            refine lv_if_ne (tgt := 109) hx hb dX3_slack_87 (by decide) (fun c23 => ?_) (fun c23 => ?_)
            · have h := fl_ifn c23 h
              refine lv_iconst (v := (0)) hx hb dX3_slack_109 (by decide) ?_
              obtain rfl := fl_s1 h
              exact J25 H locs ls hg (lv_sub hl [0, 1, 2, 3, 4, 6] rfl)
            · have h := fl_ifp c23 h
              refine lv_aload_n hx hb dX3_slack_90 rfl (lv_at hl 0 rfl) ?_
              refine va_get (D := D) (ci := 3) (v := .int (σ22 13 2)) (C := RX3) (T := TX3) (N := 16) hx hb hts k_1 hown hK.1 hg.1 0 rfl rfl 13 (by decide) k_2 (fun _ h9 => h9) rfl dX3_slack_91 ?_
              refine lv_iload_n hx hb dX3_slack_94 rfl (lv_at hl 2 rfl) ?_
              refine lv_iload hx hb dX3_slack_95 (lv_at hl 6 rfl) ?_
              refine lv_iload hx hb dX3_slack_97 (lv_at hl 3 rfl) ?_
              refine lv_imul hx hb dX3_slack_99 ?_
              refine lv_isub hx hb dX3_slack_100 ?_
              refine lv_icmp_ne (tgt := 109) hx hb dX3_slack_101 (by decide) (fun c27 => ?_) (fun c27 => ?_)
              · have h := fl_ifn c27 h
                refine lv_iconst (v := (0)) hx hb dX3_slack_109 (by decide) ?_
                obtain rfl := fl_s1 h
                exact J25 H locs ls hg (lv_sub hl [0, 1, 2, 3, 4, 6] rfl)
              · have h := fl_ifp c27 h
                refine lv_iload hx hb dX3_slack_104 (lv_at hl 6 rfl) ?_
                refine lv_goto (tgt := 110) hx hb dX3_slack_106 (by decide) ?_
                obtain rfl := fl_s1 h
                exact J25 H locs ls hg (lv_sub hl [0, 1, 2, 3, 4, 6] rfl)
  unfold f_X3_slack at h
  have W0 : ∀ (H : Heap) (locs : List Loc), gS D (wm ad cz) A s.heap σ H locs → W p l e rm_X3_slack s m args below meth c H locs 0 0 Q (F0 m 0 ls []) := by
    intro H locs hg
    refine lv_iload_n hx hb dX3_slack_0 rfl (lv_at hl 1 rfl) ?_
    refine lv_iconst (v := (0)) hx hb dX3_slack_1 (by decide) ?_
    refine lv_aload_n hx hb dX3_slack_2 rfl (lv_at hl 0 rfl) ?_
    refine va_get (D := D) (ci := 3) (v := .int (σ 13 0)) (C := RX3) (T := TX3) (N := 16) hx hb hts k_1 hown hK.1 hg.1 0 rfl rfl 0 (by decide) k_0 (fun _ h9 => h9) rfl dX3_slack_3 ?_
    refine lv_iconst (v := (1)) hx hb dX3_slack_6 (by decide) ?_
    refine lv_isub hx hb dX3_slack_7 ?_
    obtain ⟨r2, e1, h⟩ := fl_bnd h
    refine g_callSi (As := [.int x1, .int (0), .int ((σ 13 0) - (1))]) (rest := []) ⟨hx, hb, hml, hown, hts⟩ (c_X3_in l D ad cz (x1) ((0)) (((σ 13 0) - (1))) (σ) e1) (cwS 3 hts gX3_slack_X3_in rfl rfl rfl (by decide +kernel) ⟨Nat.le_of_ble_eq_true rfl, Nat.le_of_ble_eq_true rfl⟩) hK hA hg rfl hl.1 rfl (Nat.le_of_ble_eq_true rfl) dX3_slack_8 ⟨Nat.le_of_ble_eq_true rfl, Nat.le_of_ble_eq_true rfl⟩ (fun H locs hg => ?_)
    refine lv_if_ne (tgt := 17) hx hb dX3_slack_11 (by decide) (fun c3 => ?_) (fun c3 => ?_)
    · have h := fl_ifn c3 h
      refine lv_aload_n hx hb dX3_slack_17 rfl (lv_at hl 0 rfl) ?_
      obtain ⟨r5, σ6, e4, h⟩ := fl_b2_b h
      refine g_callVi (As := []) (rest := []) ⟨hx, hb, hml, hown, hts⟩ (c_X3_solve l D ad cz (σ) e4) (cwV 0 hts gX3_slack_X3_solve rfl rfl rfl (by decide +kernel) ⟨Nat.le_of_ble_eq_true rfl, Nat.le_of_ble_eq_true rfl⟩) (va_recv hK.1 hg.1 (ci := 3) (q0 := 0) rfl rfl) hK hA hg rfl hl.1 rfl (Nat.le_of_ble_eq_true rfl) dX3_slack_18 ⟨Nat.le_of_ble_eq_true rfl, Nat.le_of_ble_eq_true rfl⟩ (fun H locs hg => ?_)
      refine lv_istore_n (lv' := [(2, .int r5), (0, .ref (ad 0)), (1, .int x1)]) hx hb dX3_slack_21 rfl hl (by decide) rfl (fun ls hl => ?_)
      refine lv_iload_n hx hb dX3_slack_22 rfl (lv_at hl 0 rfl) ?_
      refine lv_if_ge (tgt := 28) hx hb dX3_slack_23 (by decide) (fun c7 => ?_) (fun c7 => ?_)
      · have h := fl_ifp c7 h
        refine lv_aload_n hx hb dX3_slack_28 rfl (lv_at hl 1 rfl) ?_
        refine va_get (D := D) (ci := 3) (v := .int (σ6 13 2)) (C := RX3) (T := TX3) (N := 16) hx hb hts k_1 hown hK.1 hg.1 0 rfl rfl 13 (by decide) k_2 (fun _ h9 => h9) rfl dX3_slack_29 ?_
        refine lv_istore_n (lv' := [(3, .int (σ6 13 2)), (2, .int r5), (0, .ref (ad 0)), (1, .int x1)]) hx hb dX3_slack_32 rfl hl (by decide) rfl (fun ls hl => ?_)
        refine lv_aload_n hx hb dX3_slack_33 rfl (lv_at hl 2 rfl) ?_
        refine lv_iload_n hx hb dX3_slack_34 rfl (lv_at hl 3 rfl) ?_
        obtain ⟨r9, σ10, e8, h⟩ := fl_b2_b h
        refine g_callVi (As := [.int x1]) (rest := []) ⟨hx, hb, hml, hown, hts⟩ (c_X3_mostOf l D ad cz (x1) (σ6) e8) (cwV 1 hts gX3_slack_X3_mostOf rfl rfl rfl (by decide +kernel) ⟨Nat.le_of_ble_eq_true rfl, Nat.le_of_ble_eq_true rfl⟩) (va_recv hK.1 hg.1 (ci := 3) (q0 := 0) rfl rfl) hK hA hg rfl hl.1 rfl (Nat.le_of_ble_eq_true rfl) dX3_slack_35 ⟨Nat.le_of_ble_eq_true rfl, Nat.le_of_ble_eq_true rfl⟩ (fun H locs hg => ?_)
        refine lv_istore (lv' := [(4, .int r9), (3, .int (σ6 13 2)), (2, .int r5), (0, .ref (ad 0)), (1, .int x1)]) hx hb dX3_slack_38 hl (by decide) rfl (fun ls hl => ?_)
        refine lv_aload_n hx hb dX3_slack_40 rfl (lv_at hl 3 rfl) ?_
        refine va_get (D := D) (ci := 3) (v := .ref (ad 4)) (C := RX3) (T := TX3) (N := 16) hx hb hts k_1 hown hK.1 hg.1 0 rfl rfl 4 (by decide) k_3 (fun _ h9 => h9) rfl dX3_slack_41 ?_
        refine lv_iload_n hx hb dX3_slack_44 rfl (lv_at hl 4 rfl) ?_
        obtain ⟨v11, i12, e13, h⟩ := fl_rd_b h
        refine g_ld (n := 36) (t0 := 3) hx hb hK hg (wm_a3 ad cz _) rfl i12 e13 dX3_slack_45 ?_
        refine lv_istore (lv' := [(5, .int v11), (4, .int r9), (3, .int (σ6 13 2)), (2, .int r5), (0, .ref (ad 0)), (1, .int x1)]) hx hb dX3_slack_46 hl (by decide) rfl (fun ls hl => ?_)
        refine lv_iconst (v := (0)) hx hb dX3_slack_48 (by decide) ?_
        refine lv_istore (lv' := [(6, .int (0)), (5, .int v11), (4, .int r9), (3, .int (σ6 13 2)), (2, .int r5), (0, .ref (ad 0)), (1, .int x1)]) hx hb dX3_slack_49 hl (by decide) rfl (fun ls hl => ?_)
        refine lv_bipush (v := (40)) hx hb dX3_slack_51 (by decide) ?_
        refine lv_istore (lv' := [(7, .int (40)), (6, .int (0)), (5, .int v11), (4, .int r9), (3, .int (σ6 13 2)), (2, .int r5), (0, .ref (ad 0)), (1, .int x1)]) hx hb dX3_slack_53 hl (by decide) rfl (fun ls hl => ?_)
        obtain ⟨w28, σ29, hB30, h⟩ := fl_b2_b h
        refine L55 fl_N _ _ _ _ _ _ _ _ _ H locs ls hB30 hg (lv_sub hl [6, 7, 4, 3, 2, 1, 0] rfl) (fun H locs ls hg hl => ?_)
        refine lv_aload_n hx hb dX3_slack_118 rfl (lv_at hl 0 rfl) ?_
        refine va_get (D := D) (ci := 3) (v := .ref (ad 4)) (C := RX3) (T := TX3) (N := 16) hx hb hts k_1 hown hK.1 hg.1 0 rfl rfl 4 (by decide) k_3 (fun _ h9 => h9) rfl dX3_slack_119 ?_
        refine lv_iload_n hx hb dX3_slack_122 rfl (lv_at hl 1 rfl) ?_
        refine lv_iload hx hb dX3_slack_123 (lv_at hl 2 rfl) ?_
        obtain ⟨σ31, i32, e33, h⟩ := fl_wr_b h
        refine g_st (n := 36) (t0 := 3) hx hb hK hg (wm_a3 ad cz _) (wm_s3 ad cz _) rfl i32 e33 dX3_slack_125 (fun H locs hg => ?_)
        refine lv_iload hx hb dX3_slack_126 (lv_at hl 3 rfl) ?_
        exact hret _ _ _ _ _ _ h hg rfl dX3_slack_128
      · have h := fl_ifn c7 h
        refine lv_iload_n hx hb dX3_slack_26 rfl (lv_at hl 0 rfl) ?_
        exact hret _ _ _ _ _ _ h hg rfl dX3_slack_27
    · have h := fl_ifp c3 h
      refine lv_ldc hx hb hown k_5 dX3_slack_14 ?_
      exact hret _ _ _ _ _ _ h hg rfl dX3_slack_16
  exact W0 _ _ hg
end
