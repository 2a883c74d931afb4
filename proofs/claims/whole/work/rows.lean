section
-- ===== PART A: goes FIRST, ahead of the names: the tables' words, and 'selects' of the private methods out of them =====
/-- a private method of a class that the tables say can be made, by its rows of tables_1 -/
def lw_okq (q : MethodName × Nat) : Prop := (q.1.cls ≠ "java/lang/invoke/MethodHandle" ∧ q.1.cls ≠ "java/lang/invoke/VarHandle") ∧ Cond.instantiable q.1.cls q.2 ∈ tables_1 ∧ Cond.privateMethod q.1 ∈ tables_1 ∧ Cond.instanceMethod q.1 ∈ tables_1
theorem lw_p0 : lw_okq (⟨"FencedWords", "append", "(II)Z"⟩, 10) := ⟨⟨by decide +kernel, by decide +kernel⟩, List.mem_of_getElem? (i := 6) (by decide +kernel), List.mem_of_getElem? (i := 101) (by decide +kernel), List.mem_of_getElem? (i := 102) (by decide +kernel)⟩
theorem lw_p1 : lw_okq (⟨"FencedWords", "doPlainActs", "(I)Z"⟩, 10) := ⟨⟨by decide +kernel, by decide +kernel⟩, List.mem_of_getElem? (i := 6) (by decide +kernel), List.mem_of_getElem? (i := 105) (by decide +kernel), List.mem_of_getElem? (i := 106) (by decide +kernel)⟩
theorem lw_p2 : lw_okq (⟨"FencedWords", "endAct", "()Z"⟩, 10) := ⟨⟨by decide +kernel, by decide +kernel⟩, List.mem_of_getElem? (i := 6) (by decide +kernel), List.mem_of_getElem? (i := 109) (by decide +kernel), List.mem_of_getElem? (i := 110) (by decide +kernel)⟩
theorem lw_p3 : lw_okq (⟨"FencedWords", "losePower", "()V"⟩, 10) := ⟨⟨by decide +kernel, by decide +kernel⟩, List.mem_of_getElem? (i := 6) (by decide +kernel), List.mem_of_getElem? (i := 113) (by decide +kernel), List.mem_of_getElem? (i := 114) (by decide +kernel)⟩
theorem lw_p4 : lw_okq (⟨"FencedWords", "fence", "()Z"⟩, 10) := ⟨⟨by decide +kernel, by decide +kernel⟩, List.mem_of_getElem? (i := 6) (by decide +kernel), List.mem_of_getElem? (i := 135) (by decide +kernel), List.mem_of_getElem? (i := 136) (by decide +kernel)⟩
theorem lw_p5 : lw_okq (⟨"FencedWords", "storeValue", "(IJ)Z"⟩, 10) := ⟨⟨by decide +kernel, by decide +kernel⟩, List.mem_of_getElem? (i := 6) (by decide +kernel), List.mem_of_getElem? (i := 153) (by decide +kernel), List.mem_of_getElem? (i := 154) (by decide +kernel)⟩
theorem lw_p6 : lw_okq (⟨"FencedWords", "keepLines", "(I)Z"⟩, 10) := ⟨⟨by decide +kernel, by decide +kernel⟩, List.mem_of_getElem? (i := 6) (by decide +kernel), List.mem_of_getElem? (i := 161) (by decide +kernel), List.mem_of_getElem? (i := 162) (by decide +kernel)⟩
theorem lw_p7 : lw_okq (⟨"FencedWords", "flush", "(I)Z"⟩, 10) := ⟨⟨by decide +kernel, by decide +kernel⟩, List.mem_of_getElem? (i := 6) (by decide +kernel), List.mem_of_getElem? (i := 165) (by decide +kernel), List.mem_of_getElem? (i := 166) (by decide +kernel)⟩
theorem lw_p8 : lw_okq (⟨"FencedWords", "clearLog", "()Z"⟩, 10) := ⟨⟨by decide +kernel, by decide +kernel⟩, List.mem_of_getElem? (i := 6) (by decide +kernel), List.mem_of_getElem? (i := 169) (by decide +kernel), List.mem_of_getElem? (i := 170) (by decide +kernel)⟩
theorem lw_p9 : lw_okq (⟨"FencedWords", "undo", "()Z"⟩, 10) := ⟨⟨by decide +kernel, by decide +kernel⟩, List.mem_of_getElem? (i := 6) (by decide +kernel), List.mem_of_getElem? (i := 185) (by decide +kernel), List.mem_of_getElem? (i := 186) (by decide +kernel)⟩
theorem lw_p10 : lw_okq (⟨"FencedWords", "storeOldValues", "()Z"⟩, 10) := ⟨⟨by decide +kernel, by decide +kernel⟩, List.mem_of_getElem? (i := 6) (by decide +kernel), List.mem_of_getElem? (i := 189) (by decide +kernel), List.mem_of_getElem? (i := 190) (by decide +kernel)⟩
theorem lw_p11 : lw_okq (⟨"FencedWordsModel", "list", "(IIJ)V"⟩, 19) := ⟨⟨by decide +kernel, by decide +kernel⟩, List.mem_of_getElem? (i := 235) (by decide +kernel), List.mem_of_getElem? (i := 319) (by decide +kernel), List.mem_of_getElem? (i := 320) (by decide +kernel)⟩
theorem lw_p12 : lw_okq (⟨"FencedWordsModel", "go", "()I"⟩, 19) := ⟨⟨by decide +kernel, by decide +kernel⟩, List.mem_of_getElem? (i := 235) (by decide +kernel), List.mem_of_getElem? (i := 323) (by decide +kernel), List.mem_of_getElem? (i := 324) (by decide +kernel)⟩
theorem lw_p13 : lw_okq (⟨"FencedWordsModel", "one", "(I)V"⟩, 19) := ⟨⟨by decide +kernel, by decide +kernel⟩, List.mem_of_getElem? (i := 235) (by decide +kernel), List.mem_of_getElem? (i := 327) (by decide +kernel), List.mem_of_getElem? (i := 328) (by decide +kernel)⟩
theorem lw_p14 : lw_okq (⟨"FencedWordsModel", "fence", "()V"⟩, 19) := ⟨⟨by decide +kernel, by decide +kernel⟩, List.mem_of_getElem? (i := 235) (by decide +kernel), List.mem_of_getElem? (i := 331) (by decide +kernel), List.mem_of_getElem? (i := 332) (by decide +kernel)⟩
theorem lw_p15 : lw_okq (⟨"FencedWordsModel", "stand", "(I)V"⟩, 19) := ⟨⟨by decide +kernel, by decide +kernel⟩, List.mem_of_getElem? (i := 235) (by decide +kernel), List.mem_of_getElem? (i := 335) (by decide +kernel), List.mem_of_getElem? (i := 336) (by decide +kernel)⟩
def lw_privs_1 : List (MethodName × Nat) := [(⟨"FencedWords", "append", "(II)Z"⟩, 10), (⟨"FencedWords", "doPlainActs", "(I)Z"⟩, 10), (⟨"FencedWords", "endAct", "()Z"⟩, 10), (⟨"FencedWords", "losePower", "()V"⟩, 10), (⟨"FencedWords", "fence", "()Z"⟩, 10), (⟨"FencedWords", "storeValue", "(IJ)Z"⟩, 10), (⟨"FencedWords", "keepLines", "(I)Z"⟩, 10), (⟨"FencedWords", "flush", "(I)Z"⟩, 10), (⟨"FencedWords", "clearLog", "()Z"⟩, 10), (⟨"FencedWords", "undo", "()Z"⟩, 10), (⟨"FencedWords", "storeOldValues", "()Z"⟩, 10), (⟨"FencedWordsModel", "list", "(IIJ)V"⟩, 19), (⟨"FencedWordsModel", "go", "()I"⟩, 19), (⟨"FencedWordsModel", "one", "(I)V"⟩, 19), (⟨"FencedWordsModel", "fence", "()V"⟩, 19), (⟨"FencedWordsModel", "stand", "(I)V"⟩, 19)]
theorem lw_r1 : ∀ q ∈ lw_privs_1, lw_okq q := List.forall_mem_cons.mpr ⟨lw_p0, List.forall_mem_cons.mpr ⟨lw_p1, List.forall_mem_cons.mpr ⟨lw_p2, List.forall_mem_cons.mpr ⟨lw_p3, List.forall_mem_cons.mpr ⟨lw_p4, List.forall_mem_cons.mpr ⟨lw_p5, List.forall_mem_cons.mpr ⟨lw_p6, List.forall_mem_cons.mpr ⟨lw_p7, List.forall_mem_cons.mpr ⟨lw_p8, List.forall_mem_cons.mpr ⟨lw_p9, List.forall_mem_cons.mpr ⟨lw_p10, List.forall_mem_cons.mpr ⟨lw_p11, List.forall_mem_cons.mpr ⟨lw_p12, List.forall_mem_cons.mpr ⟨lw_p13, List.forall_mem_cons.mpr ⟨lw_p14, List.forall_mem_cons.mpr ⟨lw_p15, fun _ h => absurd h List.not_mem_nil⟩⟩⟩⟩⟩⟩⟩⟩⟩⟩⟩⟩⟩⟩⟩⟩
theorem lw_p16 : lw_okq (⟨"FencedWordsModel", "fail", "()V"⟩, 19) := ⟨⟨by decide +kernel, by decide +kernel⟩, List.mem_of_getElem? (i := 235) (by decide +kernel), List.mem_of_getElem? (i := 339) (by decide +kernel), List.mem_of_getElem? (i := 340) (by decide +kernel)⟩
theorem lw_p17 : lw_okq (⟨"FencedWordsModel", "bit", "(I)Z"⟩, 19) := ⟨⟨by decide +kernel, by decide +kernel⟩, List.mem_of_getElem? (i := 235) (by decide +kernel), List.mem_of_getElem? (i := 343) (by decide +kernel), List.mem_of_getElem? (i := 344) (by decide +kernel)⟩
theorem lw_p18 : lw_okq (⟨"FencedWordsModel", "covered", "(I)Z"⟩, 19) := ⟨⟨by decide +kernel, by decide +kernel⟩, List.mem_of_getElem? (i := 235) (by decide +kernel), List.mem_of_getElem? (i := 351) (by decide +kernel), List.mem_of_getElem? (i := 352) (by decide +kernel)⟩
theorem lw_p19 : lw_okq (⟨"FencedWordsModel", "listClearing", "()V"⟩, 19) := ⟨⟨by decide +kernel, by decide +kernel⟩, List.mem_of_getElem? (i := 235) (by decide +kernel), List.mem_of_getElem? (i := 359) (by decide +kernel), List.mem_of_getElem? (i := 360) (by decide +kernel)⟩
theorem lw_p20 : lw_okq (⟨"FencedWordsModel", "listUndoing", "()V"⟩, 19) := ⟨⟨by decide +kernel, by decide +kernel⟩, List.mem_of_getElem? (i := 235) (by decide +kernel), List.mem_of_getElem? (i := 367) (by decide +kernel), List.mem_of_getElem? (i := 368) (by decide +kernel)⟩
def lw_privs_2 : List (MethodName × Nat) := [(⟨"FencedWordsModel", "fail", "()V"⟩, 19), (⟨"FencedWordsModel", "bit", "(I)Z"⟩, 19), (⟨"FencedWordsModel", "covered", "(I)Z"⟩, 19), (⟨"FencedWordsModel", "listClearing", "()V"⟩, 19), (⟨"FencedWordsModel", "listUndoing", "()V"⟩, 19)]
theorem lw_r2 : ∀ q ∈ lw_privs_2, lw_okq q := List.forall_mem_cons.mpr ⟨lw_p16, List.forall_mem_cons.mpr ⟨lw_p17, List.forall_mem_cons.mpr ⟨lw_p18, List.forall_mem_cons.mpr ⟨lw_p19, List.forall_mem_cons.mpr ⟨lw_p20, fun _ h => absurd h List.not_mem_nil⟩⟩⟩⟩⟩
def lw_privs : List (MethodName × Nat) := lw_privs_1 ++ (lw_privs_2)
def lw_tbl : List Cond := k2_sels lw_privs ++ tables_1
theorem lw_privs_ok : ∀ q ∈ lw_privs, lw_okq q := by
  show ∀ q ∈ lw_privs_1 ++ (lw_privs_2), lw_okq q
  exact List.forall_mem_append.mpr ⟨lw_r1, lw_r2⟩
end
section
/-! ===== BEGIN words of one list among another's, by their places ===== -/
theorem goodIn_r {big : List Cond} (ws : List Cond) (ps : List Nat) (hp : ws = ps.filterMap (fun i => big[i]?)) (h : ws.all goodWord = true) : GoodIn big ws := by
  intro w hw
  have h1 := List.all_eq_true.mp h w hw
  rw [hp] at hw
  obtain ⟨i, -, hi⟩ := List.mem_filterMap.mp hw
  have hm : w ∈ big := by first | exact List.mem_of_getElem? hi | exact List.getElem?_mem hi
  exact ⟨hm, good_of_word h1⟩
theorem goodIn_app {big a b : List Cond} (ha : GoodIn big a) (hb : GoodIn big b) : GoodIn big (a ++ b) := fun w h => (List.mem_append.mp h).elim (ha w) (hb w)
theorem goodIn_ca {big a b : List Cond} {c : Cond} (ha : GoodIn big (c :: a)) (hb : GoodIn big b) : GoodIn big (c :: (a ++ b)) := fun w h => (List.mem_cons.mp h).elim (fun e => ha w (List.mem_cons.mpr (Or.inl e))) (fun h => (List.mem_append.mp h).elim (fun h => ha w (List.mem_cons.mpr (Or.inr h))) (hb w))
theorem goodIn_sub {big ws : List Cond} (hm : ∀ w ∈ ws, w ∈ big) (h : ws.all goodWord = true) : GoodIn big ws := fun w hw => ⟨hm w hw, good_of_word (List.all_eq_true.mp h w hw)⟩
/-! ===== END ===== -/

/-! ===== BEGIN printed: names, fields, word lists, decode rows ===== -/
def RX0 : String := "FencedWords$Log"
def TX0 : u_T := fun k => match k with
  | 0 => ("FencedWords$Log", "firsts", "[I", true)
  | 1 => ("FencedWords$Log", "counts", "[I", true)
  | 2 => ("FencedWords$Log", "startCells", "[I", true)
  | 3 => ("FencedWords$Log", "cells", "[J", true)
  | 4 => ("FencedWords$Log", "size", "I", false)
  | 5 => ("FencedWords$Log", "cellsTaken", "I", false)
  | 6 => ("FencedWords$Log", "newestNotKept", "Z", false)
  | _ => ("FencedWords$Log", "crossedOut", "Z", false)
def tyX0 : Nat → FieldType := fun k => match k with
  | 0 => .array .int
  | 1 => .array .int
  | 2 => .array .int
  | 3 => .array .long
  | 4 => .int
  | 5 => .int
  | 6 => .boolean
  | _ => .boolean
abbrev wsX00 : List Cond := u_ws RX0 TX0 8
theorem nmX0 : ∀ a, a < 8 → ∀ b, b < 8 → a ≠ b → (TX0 a).2.1 ≠ (TX0 b).2.1 := by decide +kernel
theorem tyX0_ok : ∀ k, k < 8 → parseFieldDescriptor (TX0 k).2.2.1 = some (tyX0 k) := by decide +kernel
abbrev cX0_init : ByteArray := prog_2_method_1_code
def yX0_init : MethodName := ⟨RX0, "<init>", "()V"⟩
abbrev cX0_hasRoomFor : ByteArray := prog_2_method_2_code
def yX0_hasRoomFor : MethodName := ⟨RX0, "hasRoomFor", "(I)Z"⟩
abbrev cX0_covers : ByteArray := prog_2_method_3_code
def yX0_covers : MethodName := ⟨RX0, "covers", "(I)Z"⟩
abbrev cX0_coveredLines : ByteArray := prog_2_method_4_code
def yX0_coveredLines : MethodName := ⟨RX0, "coveredLines", "()I"⟩
abbrev cX0_oldValue : ByteArray := prog_2_method_5_code
def yX0_oldValue : MethodName := ⟨RX0, "oldValue", "(II)J"⟩
abbrev cX0_write : ByteArray := prog_2_method_6_code
def yX0_write : MethodName := ⟨RX0, "write", "(II[J)V"⟩
abbrev cX0_keepNewest : ByteArray := prog_2_method_7_code
def yX0_keepNewest : MethodName := ⟨RX0, "keepNewest", "()V"⟩
abbrev cX0_crossOut : ByteArray := prog_2_method_8_code
def yX0_crossOut : MethodName := ⟨RX0, "crossOut", "()V"⟩
abbrev cX0_dropAll : ByteArray := prog_2_method_9_code
def yX0_dropAll : MethodName := ⟨RX0, "dropAll", "()V"⟩
abbrev cX0_settle : ByteArray := prog_2_method_10_code
def yX0_settle : MethodName := ⟨RX0, "settle", "(ZZ)V"⟩
def RX1 : String := "FencedWords"
def TX1 : u_T := fun k => match k with
  | 0 => ("FencedWords", "seenValues", "[J", true)
  | 1 => ("FencedWords", "keptValues", "[J", true)
  | 2 => ("FencedWords", "log", "LFencedWords$Log;", true)
  | 3 => ("FencedWords", "powerOn", "Z", false)
  | 4 => ("FencedWords", "transactionOpen", "Z", false)
  | 5 => ("FencedWords", "flushedLines", "I", false)
  | 6 => ("FencedWords", "storedLines", "I", false)
  | 7 => ("FencedWords", "actsUntilLoss", "I", false)
  | 8 => ("FencedWords", "maskOfLoss", "J", false)
  | _ => ("FencedWords", "actsDone", "I", false)
def tyX1 : Nat → FieldType := fun k => match k with
  | 0 => .array .long
  | 1 => .array .long
  | 2 => .object "FencedWords$Log"
  | 3 => .boolean
  | 4 => .boolean
  | 5 => .int
  | 6 => .int
  | 7 => .int
  | 8 => .long
  | _ => .int
abbrev wsX10 : List Cond := u_ws RX1 TX1 10
theorem nmX1 : ∀ a, a < 10 → ∀ b, b < 10 → a ≠ b → (TX1 a).2.1 ≠ (TX1 b).2.1 := by decide +kernel
theorem tyX1_ok : ∀ k, k < 10 → parseFieldDescriptor (TX1 k).2.2.1 = some (tyX1 k) := by decide +kernel
abbrev cX1_init : ByteArray := prog_1_method_1_code
def yX1_init : MethodName := ⟨RX1, "<init>", "()V"⟩
abbrev cX1_arm : ByteArray := prog_1_method_2_code
def yX1_arm : MethodName := ⟨RX1, "arm", "(IJ)Z"⟩
abbrev cX1_begin : ByteArray := prog_1_method_3_code
def yX1_begin : MethodName := ⟨RX1, "begin", "()I"⟩
abbrev cX1_snapshot : ByteArray := prog_1_method_4_code
def yX1_snapshot : MethodName := ⟨RX1, "snapshot", "(II)I"⟩
abbrev cX1_store : ByteArray := prog_1_method_5_code
def yX1_store : MethodName := ⟨RX1, "store", "(IJ)I"⟩
abbrev cX1_commit : ByteArray := prog_1_method_6_code
def yX1_commit : MethodName := ⟨RX1, "commit", "()I"⟩
abbrev cX1_abort : ByteArray := prog_1_method_7_code
def yX1_abort : MethodName := ⟨RX1, "abort", "()I"⟩
abbrev cX1_recover : ByteArray := prog_1_method_8_code
def yX1_recover : MethodName := ⟨RX1, "recover", "()I"⟩
abbrev cX1_on : ByteArray := prog_1_method_9_code
def yX1_on : MethodName := ⟨RX1, "on", "()Z"⟩
abbrev cX1_open : ByteArray := prog_1_method_10_code
def yX1_open : MethodName := ⟨RX1, "open", "()Z"⟩
abbrev cX1_seen : ByteArray := prog_1_method_11_code
def yX1_seen : MethodName := ⟨RX1, "seen", "(I)J"⟩
abbrev cX1_kept : ByteArray := prog_1_method_12_code
def yX1_kept : MethodName := ⟨RX1, "kept", "(I)J"⟩
abbrev cX1_records : ByteArray := prog_1_method_13_code
def yX1_records : MethodName := ⟨RX1, "records", "()I"⟩
abbrev cX1_taken : ByteArray := prog_1_method_14_code
def yX1_taken : MethodName := ⟨RX1, "taken", "()I"⟩
abbrev cX1_meter : ByteArray := prog_1_method_15_code
def yX1_meter : MethodName := ⟨RX1, "meter", "()I"⟩
abbrev cX1_isWord : ByteArray := prog_1_method_16_code
def yX1_isWord : MethodName := ⟨RX1, "isWord", "(I)Z"⟩
abbrev cX1_areWords : ByteArray := prog_1_method_17_code
def yX1_areWords : MethodName := ⟨RX1, "areWords", "(II)Z"⟩
abbrev cX1_lineOf : ByteArray := prog_1_method_18_code
def yX1_lineOf : MethodName := ⟨RX1, "lineOf", "(I)I"⟩
abbrev cX1_hasBit : ByteArray := prog_1_method_19_code
def yX1_hasBit : MethodName := ⟨RX1, "hasBit", "(JI)Z"⟩
abbrev cX1_append : ByteArray := prog_1_method_20_code
def yX1_append : MethodName := ⟨RX1, "append", "(II)Z"⟩
abbrev cX1_clearLog : ByteArray := prog_1_method_21_code
def yX1_clearLog : MethodName := ⟨RX1, "clearLog", "()Z"⟩
abbrev cX1_undo : ByteArray := prog_1_method_22_code
def yX1_undo : MethodName := ⟨RX1, "undo", "()Z"⟩
abbrev cX1_storeOldValues : ByteArray := prog_1_method_23_code
def yX1_storeOldValues : MethodName := ⟨RX1, "storeOldValues", "()Z"⟩
abbrev cX1_keepLines : ByteArray := prog_1_method_24_code
def yX1_keepLines : MethodName := ⟨RX1, "keepLines", "(I)Z"⟩
abbrev cX1_storeValue : ByteArray := prog_1_method_25_code
def yX1_storeValue : MethodName := ⟨RX1, "storeValue", "(IJ)Z"⟩
abbrev cX1_flush : ByteArray := prog_1_method_26_code
def yX1_flush : MethodName := ⟨RX1, "flush", "(I)Z"⟩
abbrev cX1_fence : ByteArray := prog_1_method_27_code
def yX1_fence : MethodName := ⟨RX1, "fence", "()Z"⟩
abbrev cX1_doPlainActs : ByteArray := prog_1_method_28_code
def yX1_doPlainActs : MethodName := ⟨RX1, "doPlainActs", "(I)Z"⟩
abbrev cX1_endAct : ByteArray := prog_1_method_29_code
def yX1_endAct : MethodName := ⟨RX1, "endAct", "()Z"⟩
abbrev cX1_losePower : ByteArray := prog_1_method_30_code
def yX1_losePower : MethodName := ⟨RX1, "losePower", "()V"⟩
def RX2 : String := "FencedWordsModel"
def TX2 : u_T := fun k => match k with
  | 0 => ("FencedWordsModel", "seen", "[J", true)
  | 1 => ("FencedWordsModel", "kept", "[J", true)
  | 2 => ("FencedWordsModel", "flushed", "[Z", true)
  | 3 => ("FencedWordsModel", "records", "I", false)
  | 4 => ("FencedWordsModel", "first", "[I", true)
  | 5 => ("FencedWordsModel", "many", "[I", true)
  | 6 => ("FencedWordsModel", "from", "[I", true)
  | 7 => ("FencedWordsModel", "stands", "[I", true)
  | 8 => ("FencedWordsModel", "old", "[J", true)
  | 9 => ("FencedWordsModel", "off", "Z", false)
  | 10 => ("FencedWordsModel", "open", "Z", false)
  | 11 => ("FencedWordsModel", "touched", "[Z", true)
  | 12 => ("FencedWordsModel", "armed", "I", false)
  | 13 => ("FencedWordsModel", "mask", "J", false)
  | 14 => ("FencedWordsModel", "meter", "I", false)
  | 15 => ("FencedWordsModel", "acts", "I", false)
  | 16 => ("FencedWordsModel", "act", "[I", true)
  | 17 => ("FencedWordsModel", "on", "[I", true)
  | _ => ("FencedWordsModel", "with", "[J", true)
def tyX2 : Nat → FieldType := fun k => match k with
  | 0 => .array .long
  | 1 => .array .long
  | 2 => .array .boolean
  | 3 => .int
  | 4 => .array .int
  | 5 => .array .int
  | 6 => .array .int
  | 7 => .array .int
  | 8 => .array .long
  | 9 => .boolean
  | 10 => .boolean
  | 11 => .array .boolean
  | 12 => .int
  | 13 => .long
  | 14 => .int
  | 15 => .int
  | 16 => .array .int
  | 17 => .array .int
  | _ => .array .long
abbrev wsX20 : List Cond := u_ws RX2 TX2 19
theorem nmX2 : ∀ a, a < 19 → ∀ b, b < 19 → a ≠ b → (TX2 a).2.1 ≠ (TX2 b).2.1 := by decide +kernel
theorem tyX2_ok : ∀ k, k < 19 → parseFieldDescriptor (TX2 k).2.2.1 = some (tyX2 k) := by decide +kernel
abbrev cX2_init : ByteArray := prog_4_method_1_code
def yX2_init : MethodName := ⟨RX2, "<init>", "()V"⟩
abbrev cX2_word : ByteArray := prog_4_method_2_code
def yX2_word : MethodName := ⟨RX2, "word", "(I)Z"⟩
abbrev cX2_list : ByteArray := prog_4_method_3_code
def yX2_list : MethodName := ⟨RX2, "list", "(IIJ)V"⟩
abbrev cX2_fence : ByteArray := prog_4_method_4_code
def yX2_fence : MethodName := ⟨RX2, "fence", "()V"⟩
abbrev cX2_stand : ByteArray := prog_4_method_5_code
def yX2_stand : MethodName := ⟨RX2, "stand", "(I)V"⟩
abbrev cX2_one : ByteArray := prog_4_method_6_code
def yX2_one : MethodName := ⟨RX2, "one", "(I)V"⟩
abbrev cX2_go : ByteArray := prog_4_method_7_code
def yX2_go : MethodName := ⟨RX2, "go", "()I"⟩
abbrev cX2_bit : ByteArray := prog_4_method_8_code
def yX2_bit : MethodName := ⟨RX2, "bit", "(I)Z"⟩
abbrev cX2_fail : ByteArray := prog_4_method_9_code
def yX2_fail : MethodName := ⟨RX2, "fail", "()V"⟩
abbrev cX2_arm : ByteArray := prog_4_method_10_code
def yX2_arm : MethodName := ⟨RX2, "arm", "(IJ)Z"⟩
abbrev cX2_begin : ByteArray := prog_4_method_11_code
def yX2_begin : MethodName := ⟨RX2, "begin", "()I"⟩
abbrev cX2_snapshot : ByteArray := prog_4_method_12_code
def yX2_snapshot : MethodName := ⟨RX2, "snapshot", "(II)I"⟩
abbrev cX2_covered : ByteArray := prog_4_method_13_code
def yX2_covered : MethodName := ⟨RX2, "covered", "(I)Z"⟩
abbrev cX2_store : ByteArray := prog_4_method_14_code
def yX2_store : MethodName := ⟨RX2, "store", "(IJ)I"⟩
abbrev cX2_listClearing : ByteArray := prog_4_method_15_code
def yX2_listClearing : MethodName := ⟨RX2, "listClearing", "()V"⟩
abbrev cX2_commit : ByteArray := prog_4_method_16_code
def yX2_commit : MethodName := ⟨RX2, "commit", "()I"⟩
abbrev cX2_listUndoing : ByteArray := prog_4_method_17_code
def yX2_listUndoing : MethodName := ⟨RX2, "listUndoing", "()V"⟩
abbrev cX2_abort : ByteArray := prog_4_method_18_code
def yX2_abort : MethodName := ⟨RX2, "abort", "()I"⟩
abbrev cX2_recover : ByteArray := prog_4_method_19_code
def yX2_recover : MethodName := ⟨RX2, "recover", "()I"⟩
abbrev cX2_on : ByteArray := prog_4_method_20_code
def yX2_on : MethodName := ⟨RX2, "on", "()Z"⟩
abbrev cX2_open : ByteArray := prog_4_method_21_code
def yX2_open : MethodName := ⟨RX2, "open", "()Z"⟩
abbrev cX2_seen : ByteArray := prog_4_method_22_code
def yX2_seen : MethodName := ⟨RX2, "seen", "(I)J"⟩
abbrev cX2_kept : ByteArray := prog_4_method_23_code
def yX2_kept : MethodName := ⟨RX2, "kept", "(I)J"⟩
abbrev cX2_records : ByteArray := prog_4_method_24_code
def yX2_records : MethodName := ⟨RX2, "records", "()I"⟩
abbrev cX2_taken : ByteArray := prog_4_method_25_code
def yX2_taken : MethodName := ⟨RX2, "taken", "()I"⟩
abbrev cX2_meter : ByteArray := prog_4_method_26_code
def yX2_meter : MethodName := ⟨RX2, "meter", "()I"⟩
def RJ10 : String := "java/lang/System"
def TJ10 : u_T := fun k => match k with
  | _ => ("", "", "", false)
def tyJ10 : Nat → FieldType := fun k => match k with
  | _ => .int
abbrev wsJ100 : List Cond := u_ws RJ10 TJ10 0
theorem nmJ10 : ∀ a, a < 0 → ∀ b, b < 0 → a ≠ b → (TJ10 a).2.1 ≠ (TJ10 b).2.1 := by decide +kernel
theorem tyJ10_ok : ∀ k, k < 0 → parseFieldDescriptor (TJ10 k).2.2.1 = some (tyJ10 k) := by decide +kernel
def RL : String := "FencedWordsLaw"
abbrev cL_law : ByteArray := code
def yL_law : MethodName := ⟨RL, "law", "([I)Z"⟩
def wsX0_init : List Cond := .code yX0_init cX0_init 1 none :: ([.methodLink RX0 3 objectInit, .instanceMethod objectInit, .code objectInit ⟨#[0xb1]⟩ 1 none, .arrayClass .int, .fieldLink RX0 9 "FencedWords$Log" "firsts" "[I", .fieldLink RX0 15 "FencedWords$Log" "counts" "[I", .fieldLink RX0 18 "FencedWords$Log" "startCells" "[I", .arrayClass .long, .fieldLink RX0 21 "FencedWords$Log" "cells" "[J"] ++ wsX00)
def wsX0_hasRoomFor : List Cond := .code yX0_hasRoomFor cX0_hasRoomFor 2 (some .boolean) :: ([.fieldLink RX0 25 "FencedWords$Log" "cellsTaken" "I"] ++ wsX00)
def wsX0_covers : List Cond := .code yX0_covers cX0_covers 3 (some .boolean) :: ([.fieldLink RX0 29 "FencedWords$Log" "size" "I", .fieldLink RX0 9 "FencedWords$Log" "firsts" "[I", .fieldLink RX0 15 "FencedWords$Log" "counts" "[I"] ++ wsX00)
def wsX1_lineOf : List Cond := .code yX1_lineOf cX1_lineOf 1 (some .int) :: ([])
def wsX0_coveredLines : List Cond := .code yX0_coveredLines cX0_coveredLines 3 (some .int) :: ([.fieldLink RX0 29 "FencedWords$Log" "size" "I", .fieldLink RX0 9 "FencedWords$Log" "firsts" "[I", .fieldLink RX0 15 "FencedWords$Log" "counts" "[I", .static yX1_lineOf, .initialized RX1, .code yX1_lineOf cX1_lineOf 1 (some .int)] ++ wsX00)
def wsX0_oldValue : List Cond := .code yX0_oldValue cX0_oldValue 3 (some .long) :: ([.fieldLink RX0 21 "FencedWords$Log" "cells" "[J", .fieldLink RX0 18 "FencedWords$Log" "startCells" "[I"] ++ wsX00)
def wsX0_write : List Cond := .code yX0_write cX0_write 4 none :: ([.fieldLink RX0 9 "FencedWords$Log" "firsts" "[I", .fieldLink RX0 29 "FencedWords$Log" "size" "I", .fieldLink RX0 15 "FencedWords$Log" "counts" "[I", .fieldLink RX0 18 "FencedWords$Log" "startCells" "[I", .fieldLink RX0 25 "FencedWords$Log" "cellsTaken" "I", .fieldLink RX0 21 "FencedWords$Log" "cells" "[J", .methodLink RX0 36 arraycopyName, .native arraycopyName, .static arraycopyName, .initialized "java/lang/System", .fieldLink RX0 42 "FencedWords$Log" "newestNotKept" "Z"] ++ wsX00)
def wsX0_keepNewest : List Cond := .code yX0_keepNewest cX0_keepNewest 1 none :: ([.fieldLink RX0 42 "FencedWords$Log" "newestNotKept" "Z"] ++ wsX00)
def wsX0_crossOut : List Cond := .code yX0_crossOut cX0_crossOut 1 none :: ([.fieldLink RX0 46 "FencedWords$Log" "crossedOut" "Z"] ++ wsX00)
def wsX0_dropAll : List Cond := .code yX0_dropAll cX0_dropAll 1 none :: ([.fieldLink RX0 29 "FencedWords$Log" "size" "I", .fieldLink RX0 25 "FencedWords$Log" "cellsTaken" "I", .fieldLink RX0 46 "FencedWords$Log" "crossedOut" "Z"] ++ wsX00)
def wsX0_settle : List Cond := .code yX0_settle cX0_settle 3 none :: ([.fieldLink RX0 42 "FencedWords$Log" "newestNotKept" "Z", .fieldLink RX0 29 "FencedWords$Log" "size" "I", .fieldLink RX0 18 "FencedWords$Log" "startCells" "[I", .fieldLink RX0 25 "FencedWords$Log" "cellsTaken" "I", .fieldLink RX0 46 "FencedWords$Log" "crossedOut" "Z"] ++ wsX00)
def wsX1_init : List Cond := .code yX1_init cX1_init 1 none :: ([.methodLink RX1 1 objectInit, .instanceMethod objectInit, .code objectInit ⟨#[0xb1]⟩ 1 none, .arrayClass .long, .fieldLink RX1 9 "FencedWords" "seenValues" "[J", .fieldLink RX1 13 "FencedWords" "keptValues" "[J", .classLink RX1 16 RX0, .instantiable RX0 8, .initialized RX0, .fieldLink RX1 19 "FencedWords" "log" "LFencedWords$Log;", .fieldLink RX1 23 "FencedWords" "powerOn" "Z", .methodLink RX1 18 yX0_init, .instanceMethod yX0_init, .code yX0_init cX0_init 1 none, .methodLink RX0 3 objectInit, .arrayClass .int, .fieldLink RX0 9 "FencedWords$Log" "firsts" "[I", .fieldLink RX0 15 "FencedWords$Log" "counts" "[I", .fieldLink RX0 18 "FencedWords$Log" "startCells" "[I", .fieldLink RX0 21 "FencedWords$Log" "cells" "[J"] ++ wsX10 ++ wsX00)
def wsX1_arm : List Cond := .code yX1_arm cX1_arm 4 (some .boolean) :: ([.fieldLink RX1 27 "FencedWords" "actsUntilLoss" "I", .fieldLink RX1 31 "FencedWords" "maskOfLoss" "J"] ++ wsX10)
def wsX1_begin : List Cond := .code yX1_begin cX1_begin 1 (some .int) :: ([.fieldLink RX1 23 "FencedWords" "powerOn" "Z", .fieldLink RX1 35 "FencedWords" "transactionOpen" "Z", .fieldLink RX1 38 "FencedWords" "storedLines" "I"] ++ wsX10)
def wsX1_areWords : List Cond := .code yX1_areWords cX1_areWords 2 (some .boolean) :: ([])
def wsX1_hasBit : List Cond := .code yX1_hasBit cX1_hasBit 3 (some .boolean) :: ([])
def wsX1_losePower : List Cond := .code yX1_losePower cX1_losePower 3 none :: ([.fieldLink RX1 31 "FencedWords" "maskOfLoss" "J", .fieldLink RX1 13 "FencedWords" "keptValues" "[J", .fieldLink RX1 9 "FencedWords" "seenValues" "[J", .fieldLink RX1 19 "FencedWords" "log" "LFencedWords$Log;", .fieldLink RX1 23 "FencedWords" "powerOn" "Z", .fieldLink RX1 35 "FencedWords" "transactionOpen" "Z", .fieldLink RX1 138 "FencedWords" "flushedLines" "I", .methodLink RX1 128 yX1_hasBit, .static yX1_hasBit, .initialized RX1, .code yX1_hasBit cX1_hasBit 3 (some .boolean), .methodLink RX1 144 yX0_settle, .instanceMethod yX0_settle, .selects RX0 yX0_settle yX0_settle, .initialized RX0, .code yX0_settle cX0_settle 3 none, .fieldLink RX0 42 "FencedWords$Log" "newestNotKept" "Z", .fieldLink RX0 29 "FencedWords$Log" "size" "I", .fieldLink RX0 18 "FencedWords$Log" "startCells" "[I", .fieldLink RX0 25 "FencedWords$Log" "cellsTaken" "I", .fieldLink RX0 46 "FencedWords$Log" "crossedOut" "Z"] ++ wsX10 ++ wsX00)
def wsX1_endAct_r1 : List Cond := [Cond.fieldLink RX1 88 "FencedWords" "actsDone" "I", Cond.fieldLink RX1 27 "FencedWords" "actsUntilLoss" "I", Cond.methodLink RX1 141 yX1_losePower, Cond.instanceMethod yX1_losePower, Cond.selects RX1 yX1_losePower yX1_losePower, Cond.initialized RX1, Cond.code yX1_losePower cX1_losePower 3 none, Cond.fieldLink RX1 31 "FencedWords" "maskOfLoss" "J", Cond.fieldLink RX1 13 "FencedWords" "keptValues" "[J", Cond.fieldLink RX1 9 "FencedWords" "seenValues" "[J", Cond.fieldLink RX1 19 "FencedWords" "log" "LFencedWords$Log;", Cond.fieldLink RX1 23 "FencedWords" "powerOn" "Z", Cond.fieldLink RX1 35 "FencedWords" "transactionOpen" "Z", Cond.fieldLink RX1 138 "FencedWords" "flushedLines" "I", Cond.methodLink RX1 128 yX1_hasBit, Cond.static yX1_hasBit, Cond.code yX1_hasBit cX1_hasBit 3 (some .boolean), Cond.methodLink RX1 144 yX0_settle, Cond.instanceMethod yX0_settle, Cond.selects RX0 yX0_settle yX0_settle, Cond.initialized RX0, Cond.code yX0_settle cX0_settle 3 none, Cond.fieldLink RX0 42 "FencedWords$Log" "newestNotKept" "Z", Cond.fieldLink RX0 29 "FencedWords$Log" "size" "I"]
def wsX1_endAct_r2 : List Cond := [Cond.fieldLink RX0 18 "FencedWords$Log" "startCells" "[I", Cond.fieldLink RX0 25 "FencedWords$Log" "cellsTaken" "I", Cond.fieldLink RX0 46 "FencedWords$Log" "crossedOut" "Z"]
def wsX1_endAct : List Cond := .code yX1_endAct cX1_endAct 1 (some .boolean) :: ((wsX1_endAct_r1 ++ wsX1_endAct_r2) ++ wsX10 ++ wsX00)
def wsX1_doPlainActs_r1 : List Cond := [Cond.methodLink RX1 135 yX1_endAct, Cond.instanceMethod yX1_endAct, Cond.selects RX1 yX1_endAct yX1_endAct, Cond.initialized RX1, Cond.code yX1_endAct cX1_endAct 1 (some .boolean), Cond.fieldLink RX1 88 "FencedWords" "actsDone" "I", Cond.fieldLink RX1 27 "FencedWords" "actsUntilLoss" "I", Cond.methodLink RX1 141 yX1_losePower, Cond.instanceMethod yX1_losePower, Cond.selects RX1 yX1_losePower yX1_losePower, Cond.code yX1_losePower cX1_losePower 3 none, Cond.fieldLink RX1 31 "FencedWords" "maskOfLoss" "J", Cond.fieldLink RX1 13 "FencedWords" "keptValues" "[J", Cond.fieldLink RX1 9 "FencedWords" "seenValues" "[J", Cond.fieldLink RX1 19 "FencedWords" "log" "LFencedWords$Log;", Cond.fieldLink RX1 23 "FencedWords" "powerOn" "Z", Cond.fieldLink RX1 35 "FencedWords" "transactionOpen" "Z", Cond.fieldLink RX1 138 "FencedWords" "flushedLines" "I", Cond.methodLink RX1 128 yX1_hasBit, Cond.static yX1_hasBit, Cond.code yX1_hasBit cX1_hasBit 3 (some .boolean), Cond.methodLink RX1 144 yX0_settle, Cond.instanceMethod yX0_settle, Cond.selects RX0 yX0_settle yX0_settle]
def wsX1_doPlainActs_r2 : List Cond := [Cond.initialized RX0, Cond.code yX0_settle cX0_settle 3 none, Cond.fieldLink RX0 42 "FencedWords$Log" "newestNotKept" "Z", Cond.fieldLink RX0 29 "FencedWords$Log" "size" "I", Cond.fieldLink RX0 18 "FencedWords$Log" "startCells" "[I", Cond.fieldLink RX0 25 "FencedWords$Log" "cellsTaken" "I", Cond.fieldLink RX0 46 "FencedWords$Log" "crossedOut" "Z"]
def wsX1_doPlainActs : List Cond := .code yX1_doPlainActs cX1_doPlainActs 3 (some .boolean) :: ((wsX1_doPlainActs_r1 ++ wsX1_doPlainActs_r2) ++ wsX10 ++ wsX00)
def wsX1_fence_r1 : List Cond := [Cond.fieldLink RX1 138 "FencedWords" "flushedLines" "I", Cond.fieldLink RX1 13 "FencedWords" "keptValues" "[J", Cond.fieldLink RX1 9 "FencedWords" "seenValues" "[J", Cond.methodLink RX1 58 yX1_lineOf, Cond.static yX1_lineOf, Cond.initialized RX1, Cond.code yX1_lineOf cX1_lineOf 1 (some .int), Cond.methodLink RX1 128 yX1_hasBit, Cond.static yX1_hasBit, Cond.code yX1_hasBit cX1_hasBit 3 (some .boolean), Cond.methodLink RX1 135 yX1_endAct, Cond.instanceMethod yX1_endAct, Cond.selects RX1 yX1_endAct yX1_endAct, Cond.code yX1_endAct cX1_endAct 1 (some .boolean), Cond.fieldLink RX1 88 "FencedWords" "actsDone" "I", Cond.fieldLink RX1 27 "FencedWords" "actsUntilLoss" "I", Cond.methodLink RX1 141 yX1_losePower, Cond.instanceMethod yX1_losePower, Cond.selects RX1 yX1_losePower yX1_losePower, Cond.code yX1_losePower cX1_losePower 3 none, Cond.fieldLink RX1 31 "FencedWords" "maskOfLoss" "J", Cond.fieldLink RX1 19 "FencedWords" "log" "LFencedWords$Log;", Cond.fieldLink RX1 23 "FencedWords" "powerOn" "Z", Cond.fieldLink RX1 35 "FencedWords" "transactionOpen" "Z"]
def wsX1_fence_r2 : List Cond := [Cond.methodLink RX1 144 yX0_settle, Cond.instanceMethod yX0_settle, Cond.selects RX0 yX0_settle yX0_settle, Cond.initialized RX0, Cond.code yX0_settle cX0_settle 3 none, Cond.fieldLink RX0 42 "FencedWords$Log" "newestNotKept" "Z", Cond.fieldLink RX0 29 "FencedWords$Log" "size" "I", Cond.fieldLink RX0 18 "FencedWords$Log" "startCells" "[I", Cond.fieldLink RX0 25 "FencedWords$Log" "cellsTaken" "I", Cond.fieldLink RX0 46 "FencedWords$Log" "crossedOut" "Z"]
def wsX1_fence : List Cond := .code yX1_fence cX1_fence 2 (some .boolean) :: ((wsX1_fence_r1 ++ wsX1_fence_r2) ++ wsX10 ++ wsX00)
def wsX1_append_r1 : List Cond := [Cond.fieldLink RX1 19 "FencedWords" "log" "LFencedWords$Log;", Cond.fieldLink RX1 9 "FencedWords" "seenValues" "[J", Cond.methodLink RX1 91 yX1_doPlainActs, Cond.instanceMethod yX1_doPlainActs, Cond.selects RX1 yX1_doPlainActs yX1_doPlainActs, Cond.initialized RX1, Cond.code yX1_doPlainActs cX1_doPlainActs 3 (some .boolean), Cond.methodLink RX1 135 yX1_endAct, Cond.instanceMethod yX1_endAct, Cond.selects RX1 yX1_endAct yX1_endAct, Cond.code yX1_endAct cX1_endAct 1 (some .boolean), Cond.fieldLink RX1 88 "FencedWords" "actsDone" "I", Cond.fieldLink RX1 27 "FencedWords" "actsUntilLoss" "I", Cond.methodLink RX1 141 yX1_losePower, Cond.instanceMethod yX1_losePower, Cond.selects RX1 yX1_losePower yX1_losePower, Cond.code yX1_losePower cX1_losePower 3 none, Cond.fieldLink RX1 31 "FencedWords" "maskOfLoss" "J", Cond.fieldLink RX1 13 "FencedWords" "keptValues" "[J", Cond.fieldLink RX1 23 "FencedWords" "powerOn" "Z", Cond.fieldLink RX1 35 "FencedWords" "transactionOpen" "Z", Cond.fieldLink RX1 138 "FencedWords" "flushedLines" "I", Cond.methodLink RX1 128 yX1_hasBit, Cond.static yX1_hasBit]
def wsX1_append_r2 : List Cond := [Cond.code yX1_hasBit cX1_hasBit 3 (some .boolean), Cond.methodLink RX1 144 yX0_settle, Cond.instanceMethod yX0_settle, Cond.selects RX0 yX0_settle yX0_settle, Cond.initialized RX0, Cond.code yX0_settle cX0_settle 3 none, Cond.fieldLink RX0 42 "FencedWords$Log" "newestNotKept" "Z", Cond.fieldLink RX0 29 "FencedWords$Log" "size" "I", Cond.fieldLink RX0 18 "FencedWords$Log" "startCells" "[I", Cond.fieldLink RX0 25 "FencedWords$Log" "cellsTaken" "I", Cond.fieldLink RX0 46 "FencedWords$Log" "crossedOut" "Z", Cond.methodLink RX1 94 yX0_write, Cond.instanceMethod yX0_write, Cond.selects RX0 yX0_write yX0_write, Cond.code yX0_write cX0_write 4 none, Cond.fieldLink RX0 9 "FencedWords$Log" "firsts" "[I", Cond.fieldLink RX0 15 "FencedWords$Log" "counts" "[I", Cond.fieldLink RX0 21 "FencedWords$Log" "cells" "[J", Cond.methodLink RX0 36 arraycopyName, Cond.native arraycopyName, Cond.static arraycopyName, Cond.initialized "java/lang/System", Cond.methodLink RX1 98 yX0_keepNewest, Cond.instanceMethod yX0_keepNewest]
def wsX1_append_r3 : List Cond := [Cond.selects RX0 yX0_keepNewest yX0_keepNewest, Cond.code yX0_keepNewest cX0_keepNewest 1 none, Cond.methodLink RX1 101 yX1_fence, Cond.instanceMethod yX1_fence, Cond.selects RX1 yX1_fence yX1_fence, Cond.code yX1_fence cX1_fence 2 (some .boolean), Cond.methodLink RX1 58 yX1_lineOf, Cond.static yX1_lineOf, Cond.code yX1_lineOf cX1_lineOf 1 (some .int)]
def wsX1_append : List Cond := .code yX1_append cX1_append 3 (some .boolean) :: ((wsX1_append_r1 ++ (wsX1_append_r2 ++ wsX1_append_r3)) ++ wsX10 ++ wsX00)
def wsX1_snapshot_r1 : List Cond := [Cond.fieldLink RX1 35 "FencedWords" "transactionOpen" "Z", Cond.fieldLink RX1 19 "FencedWords" "log" "LFencedWords$Log;", Cond.methodLink RX1 41 yX1_areWords, Cond.static yX1_areWords, Cond.initialized RX1, Cond.code yX1_areWords cX1_areWords 2 (some .boolean), Cond.methodLink RX1 45 yX0_hasRoomFor, Cond.instanceMethod yX0_hasRoomFor, Cond.selects RX0 yX0_hasRoomFor yX0_hasRoomFor, Cond.initialized RX0, Cond.code yX0_hasRoomFor cX0_hasRoomFor 2 (some .boolean), Cond.fieldLink RX0 25 "FencedWords$Log" "cellsTaken" "I", Cond.methodLink RX1 49 yX1_append, Cond.instanceMethod yX1_append, Cond.selects RX1 yX1_append yX1_append, Cond.code yX1_append cX1_append 3 (some .boolean), Cond.fieldLink RX1 9 "FencedWords" "seenValues" "[J", Cond.methodLink RX1 91 yX1_doPlainActs, Cond.instanceMethod yX1_doPlainActs, Cond.selects RX1 yX1_doPlainActs yX1_doPlainActs, Cond.code yX1_doPlainActs cX1_doPlainActs 3 (some .boolean), Cond.methodLink RX1 135 yX1_endAct, Cond.instanceMethod yX1_endAct, Cond.selects RX1 yX1_endAct yX1_endAct]
def wsX1_snapshot_r2 : List Cond := [Cond.code yX1_endAct cX1_endAct 1 (some .boolean), Cond.fieldLink RX1 88 "FencedWords" "actsDone" "I", Cond.fieldLink RX1 27 "FencedWords" "actsUntilLoss" "I", Cond.methodLink RX1 141 yX1_losePower, Cond.instanceMethod yX1_losePower, Cond.selects RX1 yX1_losePower yX1_losePower, Cond.code yX1_losePower cX1_losePower 3 none, Cond.fieldLink RX1 31 "FencedWords" "maskOfLoss" "J", Cond.fieldLink RX1 13 "FencedWords" "keptValues" "[J", Cond.fieldLink RX1 23 "FencedWords" "powerOn" "Z", Cond.fieldLink RX1 138 "FencedWords" "flushedLines" "I", Cond.methodLink RX1 128 yX1_hasBit, Cond.static yX1_hasBit, Cond.code yX1_hasBit cX1_hasBit 3 (some .boolean), Cond.methodLink RX1 144 yX0_settle, Cond.instanceMethod yX0_settle, Cond.selects RX0 yX0_settle yX0_settle, Cond.code yX0_settle cX0_settle 3 none, Cond.fieldLink RX0 42 "FencedWords$Log" "newestNotKept" "Z", Cond.fieldLink RX0 29 "FencedWords$Log" "size" "I", Cond.fieldLink RX0 18 "FencedWords$Log" "startCells" "[I", Cond.fieldLink RX0 46 "FencedWords$Log" "crossedOut" "Z", Cond.methodLink RX1 94 yX0_write, Cond.instanceMethod yX0_write]
def wsX1_snapshot_r3 : List Cond := [Cond.selects RX0 yX0_write yX0_write, Cond.code yX0_write cX0_write 4 none, Cond.fieldLink RX0 9 "FencedWords$Log" "firsts" "[I", Cond.fieldLink RX0 15 "FencedWords$Log" "counts" "[I", Cond.fieldLink RX0 21 "FencedWords$Log" "cells" "[J", Cond.methodLink RX0 36 arraycopyName, Cond.native arraycopyName, Cond.static arraycopyName, Cond.initialized "java/lang/System", Cond.methodLink RX1 98 yX0_keepNewest, Cond.instanceMethod yX0_keepNewest, Cond.selects RX0 yX0_keepNewest yX0_keepNewest, Cond.code yX0_keepNewest cX0_keepNewest 1 none, Cond.methodLink RX1 101 yX1_fence, Cond.instanceMethod yX1_fence, Cond.selects RX1 yX1_fence yX1_fence, Cond.code yX1_fence cX1_fence 2 (some .boolean), Cond.methodLink RX1 58 yX1_lineOf, Cond.static yX1_lineOf, Cond.code yX1_lineOf cX1_lineOf 1 (some .int)]
def wsX1_snapshot : List Cond := .code yX1_snapshot cX1_snapshot 3 (some .int) :: ((wsX1_snapshot_r1 ++ (wsX1_snapshot_r2 ++ wsX1_snapshot_r3)) ++ wsX10 ++ wsX00)
def wsX1_isWord : List Cond := .code yX1_isWord cX1_isWord 1 (some .boolean) :: ([])
def wsX1_storeValue_r1 : List Cond := [Cond.fieldLink RX1 9 "FencedWords" "seenValues" "[J", Cond.methodLink RX1 135 yX1_endAct, Cond.instanceMethod yX1_endAct, Cond.selects RX1 yX1_endAct yX1_endAct, Cond.initialized RX1, Cond.code yX1_endAct cX1_endAct 1 (some .boolean), Cond.fieldLink RX1 88 "FencedWords" "actsDone" "I", Cond.fieldLink RX1 27 "FencedWords" "actsUntilLoss" "I", Cond.methodLink RX1 141 yX1_losePower, Cond.instanceMethod yX1_losePower, Cond.selects RX1 yX1_losePower yX1_losePower, Cond.code yX1_losePower cX1_losePower 3 none, Cond.fieldLink RX1 31 "FencedWords" "maskOfLoss" "J", Cond.fieldLink RX1 13 "FencedWords" "keptValues" "[J", Cond.fieldLink RX1 19 "FencedWords" "log" "LFencedWords$Log;", Cond.fieldLink RX1 23 "FencedWords" "powerOn" "Z", Cond.fieldLink RX1 35 "FencedWords" "transactionOpen" "Z", Cond.fieldLink RX1 138 "FencedWords" "flushedLines" "I", Cond.methodLink RX1 128 yX1_hasBit, Cond.static yX1_hasBit, Cond.code yX1_hasBit cX1_hasBit 3 (some .boolean), Cond.methodLink RX1 144 yX0_settle, Cond.instanceMethod yX0_settle, Cond.selects RX0 yX0_settle yX0_settle]
def wsX1_storeValue_r2 : List Cond := [Cond.initialized RX0, Cond.code yX0_settle cX0_settle 3 none, Cond.fieldLink RX0 42 "FencedWords$Log" "newestNotKept" "Z", Cond.fieldLink RX0 29 "FencedWords$Log" "size" "I", Cond.fieldLink RX0 18 "FencedWords$Log" "startCells" "[I", Cond.fieldLink RX0 25 "FencedWords$Log" "cellsTaken" "I", Cond.fieldLink RX0 46 "FencedWords$Log" "crossedOut" "Z"]
def wsX1_storeValue : List Cond := .code yX1_storeValue cX1_storeValue 4 (some .boolean) :: ((wsX1_storeValue_r1 ++ wsX1_storeValue_r2) ++ wsX10 ++ wsX00)
def wsX1_store_r1 : List Cond := [Cond.fieldLink RX1 35 "FencedWords" "transactionOpen" "Z", Cond.fieldLink RX1 19 "FencedWords" "log" "LFencedWords$Log;", Cond.fieldLink RX1 38 "FencedWords" "storedLines" "I", Cond.methodLink RX1 52 yX1_isWord, Cond.static yX1_isWord, Cond.initialized RX1, Cond.code yX1_isWord cX1_isWord 1 (some .boolean), Cond.methodLink RX1 55 yX0_covers, Cond.instanceMethod yX0_covers, Cond.selects RX0 yX0_covers yX0_covers, Cond.initialized RX0, Cond.code yX0_covers cX0_covers 3 (some .boolean), Cond.fieldLink RX0 29 "FencedWords$Log" "size" "I", Cond.fieldLink RX0 9 "FencedWords$Log" "firsts" "[I", Cond.fieldLink RX0 15 "FencedWords$Log" "counts" "[I", Cond.methodLink RX1 58 yX1_lineOf, Cond.static yX1_lineOf, Cond.code yX1_lineOf cX1_lineOf 1 (some .int), Cond.methodLink RX1 62 yX1_storeValue, Cond.instanceMethod yX1_storeValue, Cond.selects RX1 yX1_storeValue yX1_storeValue, Cond.code yX1_storeValue cX1_storeValue 4 (some .boolean), Cond.fieldLink RX1 9 "FencedWords" "seenValues" "[J", Cond.methodLink RX1 135 yX1_endAct]
def wsX1_store_r2 : List Cond := [Cond.instanceMethod yX1_endAct, Cond.selects RX1 yX1_endAct yX1_endAct, Cond.code yX1_endAct cX1_endAct 1 (some .boolean), Cond.fieldLink RX1 88 "FencedWords" "actsDone" "I", Cond.fieldLink RX1 27 "FencedWords" "actsUntilLoss" "I", Cond.methodLink RX1 141 yX1_losePower, Cond.instanceMethod yX1_losePower, Cond.selects RX1 yX1_losePower yX1_losePower, Cond.code yX1_losePower cX1_losePower 3 none, Cond.fieldLink RX1 31 "FencedWords" "maskOfLoss" "J", Cond.fieldLink RX1 13 "FencedWords" "keptValues" "[J", Cond.fieldLink RX1 23 "FencedWords" "powerOn" "Z", Cond.fieldLink RX1 138 "FencedWords" "flushedLines" "I", Cond.methodLink RX1 128 yX1_hasBit, Cond.static yX1_hasBit, Cond.code yX1_hasBit cX1_hasBit 3 (some .boolean), Cond.methodLink RX1 144 yX0_settle, Cond.instanceMethod yX0_settle, Cond.selects RX0 yX0_settle yX0_settle, Cond.code yX0_settle cX0_settle 3 none, Cond.fieldLink RX0 42 "FencedWords$Log" "newestNotKept" "Z", Cond.fieldLink RX0 18 "FencedWords$Log" "startCells" "[I", Cond.fieldLink RX0 25 "FencedWords$Log" "cellsTaken" "I", Cond.fieldLink RX0 46 "FencedWords$Log" "crossedOut" "Z"]
def wsX1_store : List Cond := .code yX1_store cX1_store 4 (some .int) :: ((wsX1_store_r1 ++ wsX1_store_r2) ++ wsX10 ++ wsX00)
def wsX1_flush_r1 : List Cond := [Cond.fieldLink RX1 138 "FencedWords" "flushedLines" "I", Cond.methodLink RX1 135 yX1_endAct, Cond.instanceMethod yX1_endAct, Cond.selects RX1 yX1_endAct yX1_endAct, Cond.initialized RX1, Cond.code yX1_endAct cX1_endAct 1 (some .boolean), Cond.fieldLink RX1 88 "FencedWords" "actsDone" "I", Cond.fieldLink RX1 27 "FencedWords" "actsUntilLoss" "I", Cond.methodLink RX1 141 yX1_losePower, Cond.instanceMethod yX1_losePower, Cond.selects RX1 yX1_losePower yX1_losePower, Cond.code yX1_losePower cX1_losePower 3 none, Cond.fieldLink RX1 31 "FencedWords" "maskOfLoss" "J", Cond.fieldLink RX1 13 "FencedWords" "keptValues" "[J", Cond.fieldLink RX1 9 "FencedWords" "seenValues" "[J", Cond.fieldLink RX1 19 "FencedWords" "log" "LFencedWords$Log;", Cond.fieldLink RX1 23 "FencedWords" "powerOn" "Z", Cond.fieldLink RX1 35 "FencedWords" "transactionOpen" "Z", Cond.methodLink RX1 128 yX1_hasBit, Cond.static yX1_hasBit, Cond.code yX1_hasBit cX1_hasBit 3 (some .boolean), Cond.methodLink RX1 144 yX0_settle, Cond.instanceMethod yX0_settle, Cond.selects RX0 yX0_settle yX0_settle]
def wsX1_flush_r2 : List Cond := [Cond.initialized RX0, Cond.code yX0_settle cX0_settle 3 none, Cond.fieldLink RX0 42 "FencedWords$Log" "newestNotKept" "Z", Cond.fieldLink RX0 29 "FencedWords$Log" "size" "I", Cond.fieldLink RX0 18 "FencedWords$Log" "startCells" "[I", Cond.fieldLink RX0 25 "FencedWords$Log" "cellsTaken" "I", Cond.fieldLink RX0 46 "FencedWords$Log" "crossedOut" "Z"]
def wsX1_flush : List Cond := .code yX1_flush cX1_flush 2 (some .boolean) :: ((wsX1_flush_r1 ++ wsX1_flush_r2) ++ wsX10 ++ wsX00)
def wsX1_keepLines_r1 : List Cond := [Cond.methodLink RX1 128 yX1_hasBit, Cond.static yX1_hasBit, Cond.initialized RX1, Cond.code yX1_hasBit cX1_hasBit 3 (some .boolean), Cond.methodLink RX1 132 yX1_flush, Cond.instanceMethod yX1_flush, Cond.selects RX1 yX1_flush yX1_flush, Cond.code yX1_flush cX1_flush 2 (some .boolean), Cond.fieldLink RX1 138 "FencedWords" "flushedLines" "I", Cond.methodLink RX1 135 yX1_endAct, Cond.instanceMethod yX1_endAct, Cond.selects RX1 yX1_endAct yX1_endAct, Cond.code yX1_endAct cX1_endAct 1 (some .boolean), Cond.fieldLink RX1 88 "FencedWords" "actsDone" "I", Cond.fieldLink RX1 27 "FencedWords" "actsUntilLoss" "I", Cond.methodLink RX1 141 yX1_losePower, Cond.instanceMethod yX1_losePower, Cond.selects RX1 yX1_losePower yX1_losePower, Cond.code yX1_losePower cX1_losePower 3 none, Cond.fieldLink RX1 31 "FencedWords" "maskOfLoss" "J", Cond.fieldLink RX1 13 "FencedWords" "keptValues" "[J", Cond.fieldLink RX1 9 "FencedWords" "seenValues" "[J", Cond.fieldLink RX1 19 "FencedWords" "log" "LFencedWords$Log;", Cond.fieldLink RX1 23 "FencedWords" "powerOn" "Z"]
def wsX1_keepLines_r2 : List Cond := [Cond.fieldLink RX1 35 "FencedWords" "transactionOpen" "Z", Cond.methodLink RX1 144 yX0_settle, Cond.instanceMethod yX0_settle, Cond.selects RX0 yX0_settle yX0_settle, Cond.initialized RX0, Cond.code yX0_settle cX0_settle 3 none, Cond.fieldLink RX0 42 "FencedWords$Log" "newestNotKept" "Z", Cond.fieldLink RX0 29 "FencedWords$Log" "size" "I", Cond.fieldLink RX0 18 "FencedWords$Log" "startCells" "[I", Cond.fieldLink RX0 25 "FencedWords$Log" "cellsTaken" "I", Cond.fieldLink RX0 46 "FencedWords$Log" "crossedOut" "Z", Cond.methodLink RX1 101 yX1_fence, Cond.instanceMethod yX1_fence, Cond.selects RX1 yX1_fence yX1_fence, Cond.code yX1_fence cX1_fence 2 (some .boolean), Cond.methodLink RX1 58 yX1_lineOf, Cond.static yX1_lineOf, Cond.code yX1_lineOf cX1_lineOf 1 (some .int)]
def wsX1_keepLines : List Cond := .code yX1_keepLines cX1_keepLines 3 (some .boolean) :: ((wsX1_keepLines_r1 ++ wsX1_keepLines_r2) ++ wsX10 ++ wsX00)
def wsX1_clearLog_r1 : List Cond := [Cond.fieldLink RX1 19 "FencedWords" "log" "LFencedWords$Log;", Cond.methodLink RX1 104 yX0_crossOut, Cond.instanceMethod yX0_crossOut, Cond.selects RX0 yX0_crossOut yX0_crossOut, Cond.initialized RX0, Cond.code yX0_crossOut cX0_crossOut 1 none, Cond.fieldLink RX0 46 "FencedWords$Log" "crossedOut" "Z", Cond.methodLink RX1 91 yX1_doPlainActs, Cond.instanceMethod yX1_doPlainActs, Cond.selects RX1 yX1_doPlainActs yX1_doPlainActs, Cond.initialized RX1, Cond.code yX1_doPlainActs cX1_doPlainActs 3 (some .boolean), Cond.methodLink RX1 135 yX1_endAct, Cond.instanceMethod yX1_endAct, Cond.selects RX1 yX1_endAct yX1_endAct, Cond.code yX1_endAct cX1_endAct 1 (some .boolean), Cond.fieldLink RX1 88 "FencedWords" "actsDone" "I", Cond.fieldLink RX1 27 "FencedWords" "actsUntilLoss" "I", Cond.methodLink RX1 141 yX1_losePower, Cond.instanceMethod yX1_losePower, Cond.selects RX1 yX1_losePower yX1_losePower, Cond.code yX1_losePower cX1_losePower 3 none, Cond.fieldLink RX1 31 "FencedWords" "maskOfLoss" "J", Cond.fieldLink RX1 13 "FencedWords" "keptValues" "[J"]
def wsX1_clearLog_r2 : List Cond := [Cond.fieldLink RX1 9 "FencedWords" "seenValues" "[J", Cond.fieldLink RX1 23 "FencedWords" "powerOn" "Z", Cond.fieldLink RX1 35 "FencedWords" "transactionOpen" "Z", Cond.fieldLink RX1 138 "FencedWords" "flushedLines" "I", Cond.methodLink RX1 128 yX1_hasBit, Cond.static yX1_hasBit, Cond.code yX1_hasBit cX1_hasBit 3 (some .boolean), Cond.methodLink RX1 144 yX0_settle, Cond.instanceMethod yX0_settle, Cond.selects RX0 yX0_settle yX0_settle, Cond.code yX0_settle cX0_settle 3 none, Cond.fieldLink RX0 42 "FencedWords$Log" "newestNotKept" "Z", Cond.fieldLink RX0 29 "FencedWords$Log" "size" "I", Cond.fieldLink RX0 18 "FencedWords$Log" "startCells" "[I", Cond.fieldLink RX0 25 "FencedWords$Log" "cellsTaken" "I", Cond.methodLink RX1 107 yX0_dropAll, Cond.instanceMethod yX0_dropAll, Cond.selects RX0 yX0_dropAll yX0_dropAll, Cond.code yX0_dropAll cX0_dropAll 1 none, Cond.methodLink RX1 101 yX1_fence, Cond.instanceMethod yX1_fence, Cond.selects RX1 yX1_fence yX1_fence, Cond.code yX1_fence cX1_fence 2 (some .boolean), Cond.methodLink RX1 58 yX1_lineOf]
def wsX1_clearLog_r3 : List Cond := [Cond.static yX1_lineOf, Cond.code yX1_lineOf cX1_lineOf 1 (some .int)]
def wsX1_clearLog : List Cond := .code yX1_clearLog cX1_clearLog 1 (some .boolean) :: ((wsX1_clearLog_r1 ++ (wsX1_clearLog_r2 ++ wsX1_clearLog_r3)) ++ wsX10 ++ wsX00)
def wsX1_commit_r1 : List Cond := [Cond.fieldLink RX1 35 "FencedWords" "transactionOpen" "Z", Cond.fieldLink RX1 38 "FencedWords" "storedLines" "I", Cond.methodLink RX1 66 yX1_keepLines, Cond.instanceMethod yX1_keepLines, Cond.selects RX1 yX1_keepLines yX1_keepLines, Cond.initialized RX1, Cond.code yX1_keepLines cX1_keepLines 3 (some .boolean), Cond.methodLink RX1 128 yX1_hasBit, Cond.static yX1_hasBit, Cond.code yX1_hasBit cX1_hasBit 3 (some .boolean), Cond.methodLink RX1 132 yX1_flush, Cond.instanceMethod yX1_flush, Cond.selects RX1 yX1_flush yX1_flush, Cond.code yX1_flush cX1_flush 2 (some .boolean), Cond.fieldLink RX1 138 "FencedWords" "flushedLines" "I", Cond.methodLink RX1 135 yX1_endAct, Cond.instanceMethod yX1_endAct, Cond.selects RX1 yX1_endAct yX1_endAct, Cond.code yX1_endAct cX1_endAct 1 (some .boolean), Cond.fieldLink RX1 88 "FencedWords" "actsDone" "I", Cond.fieldLink RX1 27 "FencedWords" "actsUntilLoss" "I", Cond.methodLink RX1 141 yX1_losePower, Cond.instanceMethod yX1_losePower, Cond.selects RX1 yX1_losePower yX1_losePower]
def wsX1_commit_r2 : List Cond := [Cond.code yX1_losePower cX1_losePower 3 none, Cond.fieldLink RX1 31 "FencedWords" "maskOfLoss" "J", Cond.fieldLink RX1 13 "FencedWords" "keptValues" "[J", Cond.fieldLink RX1 9 "FencedWords" "seenValues" "[J", Cond.fieldLink RX1 19 "FencedWords" "log" "LFencedWords$Log;", Cond.fieldLink RX1 23 "FencedWords" "powerOn" "Z", Cond.methodLink RX1 144 yX0_settle, Cond.instanceMethod yX0_settle, Cond.selects RX0 yX0_settle yX0_settle, Cond.initialized RX0, Cond.code yX0_settle cX0_settle 3 none, Cond.fieldLink RX0 42 "FencedWords$Log" "newestNotKept" "Z", Cond.fieldLink RX0 29 "FencedWords$Log" "size" "I", Cond.fieldLink RX0 18 "FencedWords$Log" "startCells" "[I", Cond.fieldLink RX0 25 "FencedWords$Log" "cellsTaken" "I", Cond.fieldLink RX0 46 "FencedWords$Log" "crossedOut" "Z", Cond.methodLink RX1 101 yX1_fence, Cond.instanceMethod yX1_fence, Cond.selects RX1 yX1_fence yX1_fence, Cond.code yX1_fence cX1_fence 2 (some .boolean), Cond.methodLink RX1 58 yX1_lineOf, Cond.static yX1_lineOf, Cond.code yX1_lineOf cX1_lineOf 1 (some .int), Cond.methodLink RX1 69 yX1_clearLog]
def wsX1_commit_r3 : List Cond := [Cond.instanceMethod yX1_clearLog, Cond.selects RX1 yX1_clearLog yX1_clearLog, Cond.code yX1_clearLog cX1_clearLog 1 (some .boolean), Cond.methodLink RX1 104 yX0_crossOut, Cond.instanceMethod yX0_crossOut, Cond.selects RX0 yX0_crossOut yX0_crossOut, Cond.code yX0_crossOut cX0_crossOut 1 none, Cond.methodLink RX1 91 yX1_doPlainActs, Cond.instanceMethod yX1_doPlainActs, Cond.selects RX1 yX1_doPlainActs yX1_doPlainActs, Cond.code yX1_doPlainActs cX1_doPlainActs 3 (some .boolean), Cond.methodLink RX1 107 yX0_dropAll, Cond.instanceMethod yX0_dropAll, Cond.selects RX0 yX0_dropAll yX0_dropAll, Cond.code yX0_dropAll cX0_dropAll 1 none]
def wsX1_commit : List Cond := .code yX1_commit cX1_commit 1 (some .int) :: ((wsX1_commit_r1 ++ (wsX1_commit_r2 ++ wsX1_commit_r3)) ++ wsX10 ++ wsX00)
def wsX1_storeOldValues_r1 : List Cond := [Cond.fieldLink RX1 19 "FencedWords" "log" "LFencedWords$Log;", Cond.methodLink RX1 124 yX0_oldValue, Cond.instanceMethod yX0_oldValue, Cond.selects RX0 yX0_oldValue yX0_oldValue, Cond.initialized RX0, Cond.code yX0_oldValue cX0_oldValue 3 (some .long), Cond.fieldLink RX0 21 "FencedWords$Log" "cells" "[J", Cond.fieldLink RX0 18 "FencedWords$Log" "startCells" "[I", Cond.methodLink RX1 62 yX1_storeValue, Cond.instanceMethod yX1_storeValue, Cond.selects RX1 yX1_storeValue yX1_storeValue, Cond.initialized RX1, Cond.code yX1_storeValue cX1_storeValue 4 (some .boolean), Cond.fieldLink RX1 9 "FencedWords" "seenValues" "[J", Cond.methodLink RX1 135 yX1_endAct, Cond.instanceMethod yX1_endAct, Cond.selects RX1 yX1_endAct yX1_endAct, Cond.code yX1_endAct cX1_endAct 1 (some .boolean), Cond.fieldLink RX1 88 "FencedWords" "actsDone" "I", Cond.fieldLink RX1 27 "FencedWords" "actsUntilLoss" "I", Cond.methodLink RX1 141 yX1_losePower, Cond.instanceMethod yX1_losePower, Cond.selects RX1 yX1_losePower yX1_losePower, Cond.code yX1_losePower cX1_losePower 3 none]
def wsX1_storeOldValues_r2 : List Cond := [Cond.fieldLink RX1 31 "FencedWords" "maskOfLoss" "J", Cond.fieldLink RX1 13 "FencedWords" "keptValues" "[J", Cond.fieldLink RX1 23 "FencedWords" "powerOn" "Z", Cond.fieldLink RX1 35 "FencedWords" "transactionOpen" "Z", Cond.fieldLink RX1 138 "FencedWords" "flushedLines" "I", Cond.methodLink RX1 128 yX1_hasBit, Cond.static yX1_hasBit, Cond.code yX1_hasBit cX1_hasBit 3 (some .boolean), Cond.methodLink RX1 144 yX0_settle, Cond.instanceMethod yX0_settle, Cond.selects RX0 yX0_settle yX0_settle, Cond.code yX0_settle cX0_settle 3 none, Cond.fieldLink RX0 42 "FencedWords$Log" "newestNotKept" "Z", Cond.fieldLink RX0 29 "FencedWords$Log" "size" "I", Cond.fieldLink RX0 25 "FencedWords$Log" "cellsTaken" "I", Cond.fieldLink RX0 46 "FencedWords$Log" "crossedOut" "Z"]
def wsX1_storeOldValues : List Cond := .code yX1_storeOldValues cX1_storeOldValues 3 (some .boolean) :: ((wsX1_storeOldValues_r1 ++ wsX1_storeOldValues_r2) ++ wsX10 ++ wsX00)
def wsX1_undo_r1 : List Cond := [Cond.fieldLink RX1 19 "FencedWords" "log" "LFencedWords$Log;", Cond.methodLink RX1 110 yX1_storeOldValues, Cond.instanceMethod yX1_storeOldValues, Cond.selects RX1 yX1_storeOldValues yX1_storeOldValues, Cond.initialized RX1, Cond.code yX1_storeOldValues cX1_storeOldValues 3 (some .boolean), Cond.methodLink RX1 124 yX0_oldValue, Cond.instanceMethod yX0_oldValue, Cond.selects RX0 yX0_oldValue yX0_oldValue, Cond.initialized RX0, Cond.code yX0_oldValue cX0_oldValue 3 (some .long), Cond.fieldLink RX0 21 "FencedWords$Log" "cells" "[J", Cond.fieldLink RX0 18 "FencedWords$Log" "startCells" "[I", Cond.methodLink RX1 62 yX1_storeValue, Cond.instanceMethod yX1_storeValue, Cond.selects RX1 yX1_storeValue yX1_storeValue, Cond.code yX1_storeValue cX1_storeValue 4 (some .boolean), Cond.fieldLink RX1 9 "FencedWords" "seenValues" "[J", Cond.methodLink RX1 135 yX1_endAct, Cond.instanceMethod yX1_endAct, Cond.selects RX1 yX1_endAct yX1_endAct, Cond.code yX1_endAct cX1_endAct 1 (some .boolean), Cond.fieldLink RX1 88 "FencedWords" "actsDone" "I", Cond.fieldLink RX1 27 "FencedWords" "actsUntilLoss" "I"]
def wsX1_undo_r2 : List Cond := [Cond.methodLink RX1 141 yX1_losePower, Cond.instanceMethod yX1_losePower, Cond.selects RX1 yX1_losePower yX1_losePower, Cond.code yX1_losePower cX1_losePower 3 none, Cond.fieldLink RX1 31 "FencedWords" "maskOfLoss" "J", Cond.fieldLink RX1 13 "FencedWords" "keptValues" "[J", Cond.fieldLink RX1 23 "FencedWords" "powerOn" "Z", Cond.fieldLink RX1 35 "FencedWords" "transactionOpen" "Z", Cond.fieldLink RX1 138 "FencedWords" "flushedLines" "I", Cond.methodLink RX1 128 yX1_hasBit, Cond.static yX1_hasBit, Cond.code yX1_hasBit cX1_hasBit 3 (some .boolean), Cond.methodLink RX1 144 yX0_settle, Cond.instanceMethod yX0_settle, Cond.selects RX0 yX0_settle yX0_settle, Cond.code yX0_settle cX0_settle 3 none, Cond.fieldLink RX0 42 "FencedWords$Log" "newestNotKept" "Z", Cond.fieldLink RX0 29 "FencedWords$Log" "size" "I", Cond.fieldLink RX0 25 "FencedWords$Log" "cellsTaken" "I", Cond.fieldLink RX0 46 "FencedWords$Log" "crossedOut" "Z", Cond.methodLink RX1 113 yX0_coveredLines, Cond.instanceMethod yX0_coveredLines, Cond.selects RX0 yX0_coveredLines yX0_coveredLines, Cond.code yX0_coveredLines cX0_coveredLines 3 (some .int)]
def wsX1_undo_r3 : List Cond := [Cond.fieldLink RX0 9 "FencedWords$Log" "firsts" "[I", Cond.fieldLink RX0 15 "FencedWords$Log" "counts" "[I", Cond.static yX1_lineOf, Cond.code yX1_lineOf cX1_lineOf 1 (some .int), Cond.methodLink RX1 66 yX1_keepLines, Cond.instanceMethod yX1_keepLines, Cond.selects RX1 yX1_keepLines yX1_keepLines, Cond.code yX1_keepLines cX1_keepLines 3 (some .boolean), Cond.methodLink RX1 132 yX1_flush, Cond.instanceMethod yX1_flush, Cond.selects RX1 yX1_flush yX1_flush, Cond.code yX1_flush cX1_flush 2 (some .boolean), Cond.methodLink RX1 101 yX1_fence, Cond.instanceMethod yX1_fence, Cond.selects RX1 yX1_fence yX1_fence, Cond.code yX1_fence cX1_fence 2 (some .boolean), Cond.methodLink RX1 58 yX1_lineOf, Cond.methodLink RX1 69 yX1_clearLog, Cond.instanceMethod yX1_clearLog, Cond.selects RX1 yX1_clearLog yX1_clearLog, Cond.code yX1_clearLog cX1_clearLog 1 (some .boolean), Cond.methodLink RX1 104 yX0_crossOut, Cond.instanceMethod yX0_crossOut, Cond.selects RX0 yX0_crossOut yX0_crossOut]
def wsX1_undo_r4 : List Cond := [Cond.code yX0_crossOut cX0_crossOut 1 none, Cond.methodLink RX1 91 yX1_doPlainActs, Cond.instanceMethod yX1_doPlainActs, Cond.selects RX1 yX1_doPlainActs yX1_doPlainActs, Cond.code yX1_doPlainActs cX1_doPlainActs 3 (some .boolean), Cond.methodLink RX1 107 yX0_dropAll, Cond.instanceMethod yX0_dropAll, Cond.selects RX0 yX0_dropAll yX0_dropAll, Cond.code yX0_dropAll cX0_dropAll 1 none]
def wsX1_undo : List Cond := .code yX1_undo cX1_undo 1 (some .boolean) :: ((wsX1_undo_r1 ++ (wsX1_undo_r2 ++ (wsX1_undo_r3 ++ wsX1_undo_r4))) ++ wsX10 ++ wsX00)
def wsX1_abort_r1 : List Cond := [Cond.fieldLink RX1 35 "FencedWords" "transactionOpen" "Z", Cond.methodLink RX1 73 yX1_undo, Cond.instanceMethod yX1_undo, Cond.selects RX1 yX1_undo yX1_undo, Cond.initialized RX1, Cond.code yX1_undo cX1_undo 1 (some .boolean), Cond.fieldLink RX1 19 "FencedWords" "log" "LFencedWords$Log;", Cond.methodLink RX1 110 yX1_storeOldValues, Cond.instanceMethod yX1_storeOldValues, Cond.selects RX1 yX1_storeOldValues yX1_storeOldValues, Cond.code yX1_storeOldValues cX1_storeOldValues 3 (some .boolean), Cond.methodLink RX1 124 yX0_oldValue, Cond.instanceMethod yX0_oldValue, Cond.selects RX0 yX0_oldValue yX0_oldValue, Cond.initialized RX0, Cond.code yX0_oldValue cX0_oldValue 3 (some .long), Cond.fieldLink RX0 21 "FencedWords$Log" "cells" "[J", Cond.fieldLink RX0 18 "FencedWords$Log" "startCells" "[I", Cond.methodLink RX1 62 yX1_storeValue, Cond.instanceMethod yX1_storeValue, Cond.selects RX1 yX1_storeValue yX1_storeValue, Cond.code yX1_storeValue cX1_storeValue 4 (some .boolean), Cond.fieldLink RX1 9 "FencedWords" "seenValues" "[J", Cond.methodLink RX1 135 yX1_endAct]
def wsX1_abort_r2 : List Cond := [Cond.instanceMethod yX1_endAct, Cond.selects RX1 yX1_endAct yX1_endAct, Cond.code yX1_endAct cX1_endAct 1 (some .boolean), Cond.fieldLink RX1 88 "FencedWords" "actsDone" "I", Cond.fieldLink RX1 27 "FencedWords" "actsUntilLoss" "I", Cond.methodLink RX1 141 yX1_losePower, Cond.instanceMethod yX1_losePower, Cond.selects RX1 yX1_losePower yX1_losePower, Cond.code yX1_losePower cX1_losePower 3 none, Cond.fieldLink RX1 31 "FencedWords" "maskOfLoss" "J", Cond.fieldLink RX1 13 "FencedWords" "keptValues" "[J", Cond.fieldLink RX1 23 "FencedWords" "powerOn" "Z", Cond.fieldLink RX1 138 "FencedWords" "flushedLines" "I", Cond.methodLink RX1 128 yX1_hasBit, Cond.static yX1_hasBit, Cond.code yX1_hasBit cX1_hasBit 3 (some .boolean), Cond.methodLink RX1 144 yX0_settle, Cond.instanceMethod yX0_settle, Cond.selects RX0 yX0_settle yX0_settle, Cond.code yX0_settle cX0_settle 3 none, Cond.fieldLink RX0 42 "FencedWords$Log" "newestNotKept" "Z", Cond.fieldLink RX0 29 "FencedWords$Log" "size" "I", Cond.fieldLink RX0 25 "FencedWords$Log" "cellsTaken" "I", Cond.fieldLink RX0 46 "FencedWords$Log" "crossedOut" "Z"]
def wsX1_abort_r3 : List Cond := [Cond.methodLink RX1 113 yX0_coveredLines, Cond.instanceMethod yX0_coveredLines, Cond.selects RX0 yX0_coveredLines yX0_coveredLines, Cond.code yX0_coveredLines cX0_coveredLines 3 (some .int), Cond.fieldLink RX0 9 "FencedWords$Log" "firsts" "[I", Cond.fieldLink RX0 15 "FencedWords$Log" "counts" "[I", Cond.static yX1_lineOf, Cond.code yX1_lineOf cX1_lineOf 1 (some .int), Cond.methodLink RX1 66 yX1_keepLines, Cond.instanceMethod yX1_keepLines, Cond.selects RX1 yX1_keepLines yX1_keepLines, Cond.code yX1_keepLines cX1_keepLines 3 (some .boolean), Cond.methodLink RX1 132 yX1_flush, Cond.instanceMethod yX1_flush, Cond.selects RX1 yX1_flush yX1_flush, Cond.code yX1_flush cX1_flush 2 (some .boolean), Cond.methodLink RX1 101 yX1_fence, Cond.instanceMethod yX1_fence, Cond.selects RX1 yX1_fence yX1_fence, Cond.code yX1_fence cX1_fence 2 (some .boolean), Cond.methodLink RX1 58 yX1_lineOf, Cond.methodLink RX1 69 yX1_clearLog, Cond.instanceMethod yX1_clearLog, Cond.selects RX1 yX1_clearLog yX1_clearLog]
def wsX1_abort_r4 : List Cond := [Cond.code yX1_clearLog cX1_clearLog 1 (some .boolean), Cond.methodLink RX1 104 yX0_crossOut, Cond.instanceMethod yX0_crossOut, Cond.selects RX0 yX0_crossOut yX0_crossOut, Cond.code yX0_crossOut cX0_crossOut 1 none, Cond.methodLink RX1 91 yX1_doPlainActs, Cond.instanceMethod yX1_doPlainActs, Cond.selects RX1 yX1_doPlainActs yX1_doPlainActs, Cond.code yX1_doPlainActs cX1_doPlainActs 3 (some .boolean), Cond.methodLink RX1 107 yX0_dropAll, Cond.instanceMethod yX0_dropAll, Cond.selects RX0 yX0_dropAll yX0_dropAll, Cond.code yX0_dropAll cX0_dropAll 1 none]
def wsX1_abort : List Cond := .code yX1_abort cX1_abort 1 (some .int) :: ((wsX1_abort_r1 ++ (wsX1_abort_r2 ++ (wsX1_abort_r3 ++ wsX1_abort_r4))) ++ wsX10 ++ wsX00)
def wsX1_recover_r1 : List Cond := [Cond.fieldLink RX1 23 "FencedWords" "powerOn" "Z", Cond.fieldLink RX1 13 "FencedWords" "keptValues" "[J", Cond.fieldLink RX1 9 "FencedWords" "seenValues" "[J", Cond.methodLink RX1 76 arraycopyName, Cond.native arraycopyName, Cond.static arraycopyName, Cond.initialized "java/lang/System", Cond.methodLink RX1 73 yX1_undo, Cond.instanceMethod yX1_undo, Cond.selects RX1 yX1_undo yX1_undo, Cond.initialized RX1, Cond.code yX1_undo cX1_undo 1 (some .boolean), Cond.fieldLink RX1 19 "FencedWords" "log" "LFencedWords$Log;", Cond.methodLink RX1 110 yX1_storeOldValues, Cond.instanceMethod yX1_storeOldValues, Cond.selects RX1 yX1_storeOldValues yX1_storeOldValues, Cond.code yX1_storeOldValues cX1_storeOldValues 3 (some .boolean), Cond.methodLink RX1 124 yX0_oldValue, Cond.instanceMethod yX0_oldValue, Cond.selects RX0 yX0_oldValue yX0_oldValue, Cond.initialized RX0, Cond.code yX0_oldValue cX0_oldValue 3 (some .long), Cond.fieldLink RX0 21 "FencedWords$Log" "cells" "[J", Cond.fieldLink RX0 18 "FencedWords$Log" "startCells" "[I"]
def wsX1_recover_r2 : List Cond := [Cond.methodLink RX1 62 yX1_storeValue, Cond.instanceMethod yX1_storeValue, Cond.selects RX1 yX1_storeValue yX1_storeValue, Cond.code yX1_storeValue cX1_storeValue 4 (some .boolean), Cond.methodLink RX1 135 yX1_endAct, Cond.instanceMethod yX1_endAct, Cond.selects RX1 yX1_endAct yX1_endAct, Cond.code yX1_endAct cX1_endAct 1 (some .boolean), Cond.fieldLink RX1 88 "FencedWords" "actsDone" "I", Cond.fieldLink RX1 27 "FencedWords" "actsUntilLoss" "I", Cond.methodLink RX1 141 yX1_losePower, Cond.instanceMethod yX1_losePower, Cond.selects RX1 yX1_losePower yX1_losePower, Cond.code yX1_losePower cX1_losePower 3 none, Cond.fieldLink RX1 31 "FencedWords" "maskOfLoss" "J", Cond.fieldLink RX1 35 "FencedWords" "transactionOpen" "Z", Cond.fieldLink RX1 138 "FencedWords" "flushedLines" "I", Cond.methodLink RX1 128 yX1_hasBit, Cond.static yX1_hasBit, Cond.code yX1_hasBit cX1_hasBit 3 (some .boolean), Cond.methodLink RX1 144 yX0_settle, Cond.instanceMethod yX0_settle, Cond.selects RX0 yX0_settle yX0_settle, Cond.code yX0_settle cX0_settle 3 none]
def wsX1_recover_r3 : List Cond := [Cond.fieldLink RX0 42 "FencedWords$Log" "newestNotKept" "Z", Cond.fieldLink RX0 29 "FencedWords$Log" "size" "I", Cond.fieldLink RX0 25 "FencedWords$Log" "cellsTaken" "I", Cond.fieldLink RX0 46 "FencedWords$Log" "crossedOut" "Z", Cond.methodLink RX1 113 yX0_coveredLines, Cond.instanceMethod yX0_coveredLines, Cond.selects RX0 yX0_coveredLines yX0_coveredLines, Cond.code yX0_coveredLines cX0_coveredLines 3 (some .int), Cond.fieldLink RX0 9 "FencedWords$Log" "firsts" "[I", Cond.fieldLink RX0 15 "FencedWords$Log" "counts" "[I", Cond.static yX1_lineOf, Cond.code yX1_lineOf cX1_lineOf 1 (some .int), Cond.methodLink RX1 66 yX1_keepLines, Cond.instanceMethod yX1_keepLines, Cond.selects RX1 yX1_keepLines yX1_keepLines, Cond.code yX1_keepLines cX1_keepLines 3 (some .boolean), Cond.methodLink RX1 132 yX1_flush, Cond.instanceMethod yX1_flush, Cond.selects RX1 yX1_flush yX1_flush, Cond.code yX1_flush cX1_flush 2 (some .boolean), Cond.methodLink RX1 101 yX1_fence, Cond.instanceMethod yX1_fence, Cond.selects RX1 yX1_fence yX1_fence, Cond.code yX1_fence cX1_fence 2 (some .boolean)]
def wsX1_recover_r4 : List Cond := [Cond.methodLink RX1 58 yX1_lineOf, Cond.methodLink RX1 69 yX1_clearLog, Cond.instanceMethod yX1_clearLog, Cond.selects RX1 yX1_clearLog yX1_clearLog, Cond.code yX1_clearLog cX1_clearLog 1 (some .boolean), Cond.methodLink RX1 104 yX0_crossOut, Cond.instanceMethod yX0_crossOut, Cond.selects RX0 yX0_crossOut yX0_crossOut, Cond.code yX0_crossOut cX0_crossOut 1 none, Cond.methodLink RX1 91 yX1_doPlainActs, Cond.instanceMethod yX1_doPlainActs, Cond.selects RX1 yX1_doPlainActs yX1_doPlainActs, Cond.code yX1_doPlainActs cX1_doPlainActs 3 (some .boolean), Cond.methodLink RX1 107 yX0_dropAll, Cond.instanceMethod yX0_dropAll, Cond.selects RX0 yX0_dropAll yX0_dropAll, Cond.code yX0_dropAll cX0_dropAll 1 none]
def wsX1_recover : List Cond := .code yX1_recover cX1_recover 1 (some .int) :: ((wsX1_recover_r1 ++ (wsX1_recover_r2 ++ (wsX1_recover_r3 ++ wsX1_recover_r4))) ++ wsX10 ++ wsX00)
def wsX1_on : List Cond := .code yX1_on cX1_on 1 (some .boolean) :: ([.fieldLink RX1 23 "FencedWords" "powerOn" "Z"] ++ wsX10)
def wsX1_open : List Cond := .code yX1_open cX1_open 1 (some .boolean) :: ([.fieldLink RX1 35 "FencedWords" "transactionOpen" "Z"] ++ wsX10)
def wsX1_seen : List Cond := .code yX1_seen cX1_seen 2 (some .long) :: ([.fieldLink RX1 23 "FencedWords" "powerOn" "Z", .fieldLink RX1 9 "FencedWords" "seenValues" "[J", .methodLink RX1 52 yX1_isWord, .static yX1_isWord, .initialized RX1, .code yX1_isWord cX1_isWord 1 (some .boolean)] ++ wsX10)
def wsX1_kept : List Cond := .code yX1_kept cX1_kept 2 (some .long) :: ([.fieldLink RX1 13 "FencedWords" "keptValues" "[J", .methodLink RX1 52 yX1_isWord, .static yX1_isWord, .initialized RX1, .code yX1_isWord cX1_isWord 1 (some .boolean)] ++ wsX10)
def wsX1_records : List Cond := .code yX1_records cX1_records 1 (some .int) :: ([.fieldLink RX1 19 "FencedWords" "log" "LFencedWords$Log;"] ++ wsX10 ++ wsX00)
def wsX1_taken : List Cond := .code yX1_taken cX1_taken 1 (some .int) :: ([.fieldLink RX1 19 "FencedWords" "log" "LFencedWords$Log;"] ++ wsX10 ++ wsX00)
def wsX1_meter : List Cond := .code yX1_meter cX1_meter 1 (some .int) :: ([.fieldLink RX1 88 "FencedWords" "actsDone" "I"] ++ wsX10)
def wsX2_init : List Cond := .code yX2_init cX2_init 1 none :: ([.methodLink RX2 1 objectInit, .instanceMethod objectInit, .code objectInit ⟨#[0xb1]⟩ 1 none, .arrayClass .long, .fieldLink RX2 7 "FencedWordsModel" "seen" "[J", .fieldLink RX2 13 "FencedWordsModel" "kept" "[J", .arrayClass .boolean, .fieldLink RX2 16 "FencedWordsModel" "flushed" "[Z", .arrayClass .int, .fieldLink RX2 20 "FencedWordsModel" "first" "[I", .fieldLink RX2 24 "FencedWordsModel" "many" "[I", .fieldLink RX2 27 "FencedWordsModel" "from" "[I", .fieldLink RX2 30 "FencedWordsModel" "stands" "[I", .fieldLink RX2 33 "FencedWordsModel" "old" "[J", .fieldLink RX2 36 "FencedWordsModel" "touched" "[Z", .fieldLink RX2 39 "FencedWordsModel" "act" "[I", .fieldLink RX2 42 "FencedWordsModel" "on" "[I", .fieldLink RX2 45 "FencedWordsModel" "with" "[J"] ++ wsX20)
def wsX2_word : List Cond := .code yX2_word cX2_word 1 (some .boolean) :: ([])
def wsX2_list : List Cond := .code yX2_list cX2_list 5 none :: ([.fieldLink RX2 39 "FencedWordsModel" "act" "[I", .fieldLink RX2 48 "FencedWordsModel" "acts" "I", .fieldLink RX2 42 "FencedWordsModel" "on" "[I", .fieldLink RX2 45 "FencedWordsModel" "with" "[J"] ++ wsX20)
def wsX2_fence : List Cond := .code yX2_fence cX2_fence 2 none :: ([.fieldLink RX2 13 "FencedWordsModel" "kept" "[J", .fieldLink RX2 16 "FencedWordsModel" "flushed" "[Z", .fieldLink RX2 7 "FencedWordsModel" "seen" "[J"] ++ wsX20)
def wsX2_stand : List Cond := .code yX2_stand cX2_stand 3 none :: ([.fieldLink RX2 52 "FencedWordsModel" "records" "I", .fieldLink RX2 30 "FencedWordsModel" "stands" "[I"] ++ wsX20)
def wsX2_one : List Cond := .code yX2_one cX2_one 3 none :: ([.fieldLink RX2 39 "FencedWordsModel" "act" "[I", .fieldLink RX2 55 "FencedWordsModel" "meter" "I", .fieldLink RX2 7 "FencedWordsModel" "seen" "[J", .fieldLink RX2 42 "FencedWordsModel" "on" "[I", .fieldLink RX2 45 "FencedWordsModel" "with" "[J", .fieldLink RX2 16 "FencedWordsModel" "flushed" "[Z", .fieldLink RX2 30 "FencedWordsModel" "stands" "[I", .fieldLink RX2 52 "FencedWordsModel" "records" "I", .methodLink RX2 58 yX2_fence, .instanceMethod yX2_fence, .selects RX2 yX2_fence yX2_fence, .initialized RX2, .code yX2_fence cX2_fence 2 none, .fieldLink RX2 13 "FencedWordsModel" "kept" "[J", .methodLink RX2 61 yX2_stand, .instanceMethod yX2_stand, .selects RX2 yX2_stand yX2_stand, .code yX2_stand cX2_stand 3 none] ++ wsX20)
def wsX2_bit : List Cond := .code yX2_bit cX2_bit 2 (some .boolean) :: ([.fieldLink RX2 74 "FencedWordsModel" "mask" "J"] ++ wsX20)
def wsX2_fail : List Cond := .code yX2_fail cX2_fail 3 none :: ([.fieldLink RX2 13 "FencedWordsModel" "kept" "[J", .fieldLink RX2 7 "FencedWordsModel" "seen" "[J", .fieldLink RX2 52 "FencedWordsModel" "records" "I", .fieldLink RX2 30 "FencedWordsModel" "stands" "[I", .fieldLink RX2 82 "FencedWordsModel" "off" "Z", .fieldLink RX2 86 "FencedWordsModel" "open" "Z", .fieldLink RX2 16 "FencedWordsModel" "flushed" "[Z", .methodLink RX2 78 yX2_bit, .instanceMethod yX2_bit, .selects RX2 yX2_bit yX2_bit, .initialized RX2, .code yX2_bit cX2_bit 2 (some .boolean), .fieldLink RX2 74 "FencedWordsModel" "mask" "J", .methodLink RX2 61 yX2_stand, .instanceMethod yX2_stand, .selects RX2 yX2_stand yX2_stand, .code yX2_stand cX2_stand 3 none] ++ wsX20)
def wsX2_go_r1 : List Cond := [Cond.fieldLink RX2 48 "FencedWordsModel" "acts" "I", Cond.fieldLink RX2 68 "FencedWordsModel" "armed" "I", Cond.methodLink RX2 65 yX2_one, Cond.instanceMethod yX2_one, Cond.selects RX2 yX2_one yX2_one, Cond.initialized RX2, Cond.code yX2_one cX2_one 3 none, Cond.fieldLink RX2 39 "FencedWordsModel" "act" "[I", Cond.fieldLink RX2 55 "FencedWordsModel" "meter" "I", Cond.fieldLink RX2 7 "FencedWordsModel" "seen" "[J", Cond.fieldLink RX2 42 "FencedWordsModel" "on" "[I", Cond.fieldLink RX2 45 "FencedWordsModel" "with" "[J", Cond.fieldLink RX2 16 "FencedWordsModel" "flushed" "[Z", Cond.fieldLink RX2 30 "FencedWordsModel" "stands" "[I", Cond.fieldLink RX2 52 "FencedWordsModel" "records" "I", Cond.methodLink RX2 58 yX2_fence, Cond.instanceMethod yX2_fence, Cond.selects RX2 yX2_fence yX2_fence, Cond.code yX2_fence cX2_fence 2 none, Cond.fieldLink RX2 13 "FencedWordsModel" "kept" "[J", Cond.methodLink RX2 61 yX2_stand, Cond.instanceMethod yX2_stand, Cond.selects RX2 yX2_stand yX2_stand, Cond.code yX2_stand cX2_stand 3 none]
def wsX2_go_r2 : List Cond := [Cond.methodLink RX2 71 yX2_fail, Cond.instanceMethod yX2_fail, Cond.selects RX2 yX2_fail yX2_fail, Cond.code yX2_fail cX2_fail 3 none, Cond.fieldLink RX2 82 "FencedWordsModel" "off" "Z", Cond.fieldLink RX2 86 "FencedWordsModel" "open" "Z", Cond.methodLink RX2 78 yX2_bit, Cond.instanceMethod yX2_bit, Cond.selects RX2 yX2_bit yX2_bit, Cond.code yX2_bit cX2_bit 2 (some .boolean), Cond.fieldLink RX2 74 "FencedWordsModel" "mask" "J"]
def wsX2_go : List Cond := .code yX2_go cX2_go 2 (some .int) :: ((wsX2_go_r1 ++ wsX2_go_r2) ++ wsX20)
def wsX2_arm : List Cond := .code yX2_arm cX2_arm 4 (some .boolean) :: ([.fieldLink RX2 68 "FencedWordsModel" "armed" "I", .fieldLink RX2 74 "FencedWordsModel" "mask" "J"] ++ wsX20)
def wsX2_begin : List Cond := .code yX2_begin cX2_begin 2 (some .int) :: ([.fieldLink RX2 82 "FencedWordsModel" "off" "Z", .fieldLink RX2 86 "FencedWordsModel" "open" "Z", .fieldLink RX2 36 "FencedWordsModel" "touched" "[Z"] ++ wsX20)
def wsX2_taken : List Cond := .code yX2_taken cX2_taken 3 (some .int) :: ([.fieldLink RX2 52 "FencedWordsModel" "records" "I", .fieldLink RX2 24 "FencedWordsModel" "many" "[I"] ++ wsX20)
def wsX2_snapshot_r1 : List Cond := [Cond.fieldLink RX2 86 "FencedWordsModel" "open" "Z", Cond.fieldLink RX2 52 "FencedWordsModel" "records" "I", Cond.fieldLink RX2 20 "FencedWordsModel" "first" "[I", Cond.fieldLink RX2 24 "FencedWordsModel" "many" "[I", Cond.fieldLink RX2 27 "FencedWordsModel" "from" "[I", Cond.fieldLink RX2 30 "FencedWordsModel" "stands" "[I", Cond.fieldLink RX2 33 "FencedWordsModel" "old" "[J", Cond.fieldLink RX2 7 "FencedWordsModel" "seen" "[J", Cond.fieldLink RX2 48 "FencedWordsModel" "acts" "I", Cond.methodLink RX2 89 yX2_word, Cond.static yX2_word, Cond.initialized RX2, Cond.code yX2_word cX2_word 1 (some .boolean), Cond.methodLink RX2 92 yX2_taken, Cond.instanceMethod yX2_taken, Cond.selects RX2 yX2_taken yX2_taken, Cond.code yX2_taken cX2_taken 3 (some .int), Cond.methodLink RX2 96 yX2_list, Cond.instanceMethod yX2_list, Cond.selects RX2 yX2_list yX2_list, Cond.code yX2_list cX2_list 5 none, Cond.fieldLink RX2 39 "FencedWordsModel" "act" "[I", Cond.fieldLink RX2 42 "FencedWordsModel" "on" "[I", Cond.fieldLink RX2 45 "FencedWordsModel" "with" "[J"]
def wsX2_snapshot_r2 : List Cond := [Cond.methodLink RX2 100 yX2_go, Cond.instanceMethod yX2_go, Cond.selects RX2 yX2_go yX2_go, Cond.code yX2_go cX2_go 2 (some .int), Cond.fieldLink RX2 68 "FencedWordsModel" "armed" "I", Cond.methodLink RX2 65 yX2_one, Cond.instanceMethod yX2_one, Cond.selects RX2 yX2_one yX2_one, Cond.code yX2_one cX2_one 3 none, Cond.fieldLink RX2 55 "FencedWordsModel" "meter" "I", Cond.fieldLink RX2 16 "FencedWordsModel" "flushed" "[Z", Cond.methodLink RX2 58 yX2_fence, Cond.instanceMethod yX2_fence, Cond.selects RX2 yX2_fence yX2_fence, Cond.code yX2_fence cX2_fence 2 none, Cond.fieldLink RX2 13 "FencedWordsModel" "kept" "[J", Cond.methodLink RX2 61 yX2_stand, Cond.instanceMethod yX2_stand, Cond.selects RX2 yX2_stand yX2_stand, Cond.code yX2_stand cX2_stand 3 none, Cond.methodLink RX2 71 yX2_fail, Cond.instanceMethod yX2_fail, Cond.selects RX2 yX2_fail yX2_fail, Cond.code yX2_fail cX2_fail 3 none]
def wsX2_snapshot_r3 : List Cond := [Cond.fieldLink RX2 82 "FencedWordsModel" "off" "Z", Cond.methodLink RX2 78 yX2_bit, Cond.instanceMethod yX2_bit, Cond.selects RX2 yX2_bit yX2_bit, Cond.code yX2_bit cX2_bit 2 (some .boolean), Cond.fieldLink RX2 74 "FencedWordsModel" "mask" "J"]
def wsX2_snapshot : List Cond := .code yX2_snapshot cX2_snapshot 5 (some .int) :: ((wsX2_snapshot_r1 ++ (wsX2_snapshot_r2 ++ wsX2_snapshot_r3)) ++ wsX20)
def wsX2_covered : List Cond := .code yX2_covered cX2_covered 4 (some .boolean) :: ([.fieldLink RX2 52 "FencedWordsModel" "records" "I", .fieldLink RX2 20 "FencedWordsModel" "first" "[I", .fieldLink RX2 24 "FencedWordsModel" "many" "[I"] ++ wsX20)
def wsX2_store_r1 : List Cond := [Cond.fieldLink RX2 86 "FencedWordsModel" "open" "Z", Cond.fieldLink RX2 36 "FencedWordsModel" "touched" "[Z", Cond.fieldLink RX2 48 "FencedWordsModel" "acts" "I", Cond.methodLink RX2 89 yX2_word, Cond.static yX2_word, Cond.initialized RX2, Cond.code yX2_word cX2_word 1 (some .boolean), Cond.methodLink RX2 103 yX2_covered, Cond.instanceMethod yX2_covered, Cond.selects RX2 yX2_covered yX2_covered, Cond.code yX2_covered cX2_covered 4 (some .boolean), Cond.fieldLink RX2 52 "FencedWordsModel" "records" "I", Cond.fieldLink RX2 20 "FencedWordsModel" "first" "[I", Cond.fieldLink RX2 24 "FencedWordsModel" "many" "[I", Cond.methodLink RX2 96 yX2_list, Cond.instanceMethod yX2_list, Cond.selects RX2 yX2_list yX2_list, Cond.code yX2_list cX2_list 5 none, Cond.fieldLink RX2 39 "FencedWordsModel" "act" "[I", Cond.fieldLink RX2 42 "FencedWordsModel" "on" "[I", Cond.fieldLink RX2 45 "FencedWordsModel" "with" "[J", Cond.methodLink RX2 100 yX2_go, Cond.instanceMethod yX2_go, Cond.selects RX2 yX2_go yX2_go]
def wsX2_store_r2 : List Cond := [Cond.code yX2_go cX2_go 2 (some .int), Cond.fieldLink RX2 68 "FencedWordsModel" "armed" "I", Cond.methodLink RX2 65 yX2_one, Cond.instanceMethod yX2_one, Cond.selects RX2 yX2_one yX2_one, Cond.code yX2_one cX2_one 3 none, Cond.fieldLink RX2 55 "FencedWordsModel" "meter" "I", Cond.fieldLink RX2 7 "FencedWordsModel" "seen" "[J", Cond.fieldLink RX2 16 "FencedWordsModel" "flushed" "[Z", Cond.fieldLink RX2 30 "FencedWordsModel" "stands" "[I", Cond.methodLink RX2 58 yX2_fence, Cond.instanceMethod yX2_fence, Cond.selects RX2 yX2_fence yX2_fence, Cond.code yX2_fence cX2_fence 2 none, Cond.fieldLink RX2 13 "FencedWordsModel" "kept" "[J", Cond.methodLink RX2 61 yX2_stand, Cond.instanceMethod yX2_stand, Cond.selects RX2 yX2_stand yX2_stand, Cond.code yX2_stand cX2_stand 3 none, Cond.methodLink RX2 71 yX2_fail, Cond.instanceMethod yX2_fail, Cond.selects RX2 yX2_fail yX2_fail, Cond.code yX2_fail cX2_fail 3 none, Cond.fieldLink RX2 82 "FencedWordsModel" "off" "Z"]
def wsX2_store_r3 : List Cond := [Cond.methodLink RX2 78 yX2_bit, Cond.instanceMethod yX2_bit, Cond.selects RX2 yX2_bit yX2_bit, Cond.code yX2_bit cX2_bit 2 (some .boolean), Cond.fieldLink RX2 74 "FencedWordsModel" "mask" "J"]
def wsX2_store : List Cond := .code yX2_store cX2_store 4 (some .int) :: ((wsX2_store_r1 ++ (wsX2_store_r2 ++ wsX2_store_r3)) ++ wsX20)
def wsX2_listClearing : List Cond := .code yX2_listClearing cX2_listClearing 1 none :: ([.fieldLink RX2 52 "FencedWordsModel" "records" "I", .methodLink RX2 96 yX2_list, .instanceMethod yX2_list, .selects RX2 yX2_list yX2_list, .initialized RX2, .code yX2_list cX2_list 5 none, .fieldLink RX2 39 "FencedWordsModel" "act" "[I", .fieldLink RX2 48 "FencedWordsModel" "acts" "I", .fieldLink RX2 42 "FencedWordsModel" "on" "[I", .fieldLink RX2 45 "FencedWordsModel" "with" "[J"] ++ wsX20)
def wsX2_commit_r1 : List Cond := [Cond.fieldLink RX2 86 "FencedWordsModel" "open" "Z", Cond.fieldLink RX2 48 "FencedWordsModel" "acts" "I", Cond.fieldLink RX2 36 "FencedWordsModel" "touched" "[Z", Cond.methodLink RX2 96 yX2_list, Cond.instanceMethod yX2_list, Cond.selects RX2 yX2_list yX2_list, Cond.initialized RX2, Cond.code yX2_list cX2_list 5 none, Cond.fieldLink RX2 39 "FencedWordsModel" "act" "[I", Cond.fieldLink RX2 42 "FencedWordsModel" "on" "[I", Cond.fieldLink RX2 45 "FencedWordsModel" "with" "[J", Cond.methodLink RX2 106 yX2_listClearing, Cond.instanceMethod yX2_listClearing, Cond.selects RX2 yX2_listClearing yX2_listClearing, Cond.code yX2_listClearing cX2_listClearing 1 none, Cond.fieldLink RX2 52 "FencedWordsModel" "records" "I", Cond.methodLink RX2 100 yX2_go, Cond.instanceMethod yX2_go, Cond.selects RX2 yX2_go yX2_go, Cond.code yX2_go cX2_go 2 (some .int), Cond.fieldLink RX2 68 "FencedWordsModel" "armed" "I", Cond.methodLink RX2 65 yX2_one, Cond.instanceMethod yX2_one, Cond.selects RX2 yX2_one yX2_one]
def wsX2_commit_r2 : List Cond := [Cond.code yX2_one cX2_one 3 none, Cond.fieldLink RX2 55 "FencedWordsModel" "meter" "I", Cond.fieldLink RX2 7 "FencedWordsModel" "seen" "[J", Cond.fieldLink RX2 16 "FencedWordsModel" "flushed" "[Z", Cond.fieldLink RX2 30 "FencedWordsModel" "stands" "[I", Cond.methodLink RX2 58 yX2_fence, Cond.instanceMethod yX2_fence, Cond.selects RX2 yX2_fence yX2_fence, Cond.code yX2_fence cX2_fence 2 none, Cond.fieldLink RX2 13 "FencedWordsModel" "kept" "[J", Cond.methodLink RX2 61 yX2_stand, Cond.instanceMethod yX2_stand, Cond.selects RX2 yX2_stand yX2_stand, Cond.code yX2_stand cX2_stand 3 none, Cond.methodLink RX2 71 yX2_fail, Cond.instanceMethod yX2_fail, Cond.selects RX2 yX2_fail yX2_fail, Cond.code yX2_fail cX2_fail 3 none, Cond.fieldLink RX2 82 "FencedWordsModel" "off" "Z", Cond.methodLink RX2 78 yX2_bit, Cond.instanceMethod yX2_bit, Cond.selects RX2 yX2_bit yX2_bit, Cond.code yX2_bit cX2_bit 2 (some .boolean), Cond.fieldLink RX2 74 "FencedWordsModel" "mask" "J"]
def wsX2_commit : List Cond := .code yX2_commit cX2_commit 2 (some .int) :: ((wsX2_commit_r1 ++ wsX2_commit_r2) ++ wsX20)
def wsX2_listUndoing : List Cond := .code yX2_listUndoing cX2_listUndoing 4 none :: ([.fieldLink RX2 48 "FencedWordsModel" "acts" "I", .fieldLink RX2 52 "FencedWordsModel" "records" "I", .fieldLink RX2 24 "FencedWordsModel" "many" "[I", .fieldLink RX2 20 "FencedWordsModel" "first" "[I", .fieldLink RX2 33 "FencedWordsModel" "old" "[J", .fieldLink RX2 27 "FencedWordsModel" "from" "[I", .methodLink RX2 96 yX2_list, .instanceMethod yX2_list, .selects RX2 yX2_list yX2_list, .initialized RX2, .code yX2_list cX2_list 5 none, .fieldLink RX2 39 "FencedWordsModel" "act" "[I", .fieldLink RX2 42 "FencedWordsModel" "on" "[I", .fieldLink RX2 45 "FencedWordsModel" "with" "[J", .methodLink RX2 103 yX2_covered, .instanceMethod yX2_covered, .selects RX2 yX2_covered yX2_covered, .code yX2_covered cX2_covered 4 (some .boolean), .methodLink RX2 106 yX2_listClearing, .instanceMethod yX2_listClearing, .selects RX2 yX2_listClearing yX2_listClearing, .code yX2_listClearing cX2_listClearing 1 none] ++ wsX20)
def wsX2_abort_r1 : List Cond := [Cond.fieldLink RX2 86 "FencedWordsModel" "open" "Z", Cond.methodLink RX2 109 yX2_listUndoing, Cond.instanceMethod yX2_listUndoing, Cond.selects RX2 yX2_listUndoing yX2_listUndoing, Cond.initialized RX2, Cond.code yX2_listUndoing cX2_listUndoing 4 none, Cond.fieldLink RX2 48 "FencedWordsModel" "acts" "I", Cond.fieldLink RX2 52 "FencedWordsModel" "records" "I", Cond.fieldLink RX2 24 "FencedWordsModel" "many" "[I", Cond.fieldLink RX2 20 "FencedWordsModel" "first" "[I", Cond.fieldLink RX2 33 "FencedWordsModel" "old" "[J", Cond.fieldLink RX2 27 "FencedWordsModel" "from" "[I", Cond.methodLink RX2 96 yX2_list, Cond.instanceMethod yX2_list, Cond.selects RX2 yX2_list yX2_list, Cond.code yX2_list cX2_list 5 none, Cond.fieldLink RX2 39 "FencedWordsModel" "act" "[I", Cond.fieldLink RX2 42 "FencedWordsModel" "on" "[I", Cond.fieldLink RX2 45 "FencedWordsModel" "with" "[J", Cond.methodLink RX2 103 yX2_covered, Cond.instanceMethod yX2_covered, Cond.selects RX2 yX2_covered yX2_covered, Cond.code yX2_covered cX2_covered 4 (some .boolean), Cond.methodLink RX2 106 yX2_listClearing]
def wsX2_abort_r2 : List Cond := [Cond.instanceMethod yX2_listClearing, Cond.selects RX2 yX2_listClearing yX2_listClearing, Cond.code yX2_listClearing cX2_listClearing 1 none, Cond.methodLink RX2 100 yX2_go, Cond.instanceMethod yX2_go, Cond.selects RX2 yX2_go yX2_go, Cond.code yX2_go cX2_go 2 (some .int), Cond.fieldLink RX2 68 "FencedWordsModel" "armed" "I", Cond.methodLink RX2 65 yX2_one, Cond.instanceMethod yX2_one, Cond.selects RX2 yX2_one yX2_one, Cond.code yX2_one cX2_one 3 none, Cond.fieldLink RX2 55 "FencedWordsModel" "meter" "I", Cond.fieldLink RX2 7 "FencedWordsModel" "seen" "[J", Cond.fieldLink RX2 16 "FencedWordsModel" "flushed" "[Z", Cond.fieldLink RX2 30 "FencedWordsModel" "stands" "[I", Cond.methodLink RX2 58 yX2_fence, Cond.instanceMethod yX2_fence, Cond.selects RX2 yX2_fence yX2_fence, Cond.code yX2_fence cX2_fence 2 none, Cond.fieldLink RX2 13 "FencedWordsModel" "kept" "[J", Cond.methodLink RX2 61 yX2_stand, Cond.instanceMethod yX2_stand, Cond.selects RX2 yX2_stand yX2_stand]
def wsX2_abort_r3 : List Cond := [Cond.code yX2_stand cX2_stand 3 none, Cond.methodLink RX2 71 yX2_fail, Cond.instanceMethod yX2_fail, Cond.selects RX2 yX2_fail yX2_fail, Cond.code yX2_fail cX2_fail 3 none, Cond.fieldLink RX2 82 "FencedWordsModel" "off" "Z", Cond.methodLink RX2 78 yX2_bit, Cond.instanceMethod yX2_bit, Cond.selects RX2 yX2_bit yX2_bit, Cond.code yX2_bit cX2_bit 2 (some .boolean), Cond.fieldLink RX2 74 "FencedWordsModel" "mask" "J"]
def wsX2_abort : List Cond := .code yX2_abort cX2_abort 1 (some .int) :: ((wsX2_abort_r1 ++ (wsX2_abort_r2 ++ wsX2_abort_r3)) ++ wsX20)
def wsX2_recover_r1 : List Cond := [Cond.fieldLink RX2 82 "FencedWordsModel" "off" "Z", Cond.fieldLink RX2 7 "FencedWordsModel" "seen" "[J", Cond.fieldLink RX2 13 "FencedWordsModel" "kept" "[J", Cond.methodLink RX2 109 yX2_listUndoing, Cond.instanceMethod yX2_listUndoing, Cond.selects RX2 yX2_listUndoing yX2_listUndoing, Cond.initialized RX2, Cond.code yX2_listUndoing cX2_listUndoing 4 none, Cond.fieldLink RX2 48 "FencedWordsModel" "acts" "I", Cond.fieldLink RX2 52 "FencedWordsModel" "records" "I", Cond.fieldLink RX2 24 "FencedWordsModel" "many" "[I", Cond.fieldLink RX2 20 "FencedWordsModel" "first" "[I", Cond.fieldLink RX2 33 "FencedWordsModel" "old" "[J", Cond.fieldLink RX2 27 "FencedWordsModel" "from" "[I", Cond.methodLink RX2 96 yX2_list, Cond.instanceMethod yX2_list, Cond.selects RX2 yX2_list yX2_list, Cond.code yX2_list cX2_list 5 none, Cond.fieldLink RX2 39 "FencedWordsModel" "act" "[I", Cond.fieldLink RX2 42 "FencedWordsModel" "on" "[I", Cond.fieldLink RX2 45 "FencedWordsModel" "with" "[J", Cond.methodLink RX2 103 yX2_covered, Cond.instanceMethod yX2_covered, Cond.selects RX2 yX2_covered yX2_covered]
def wsX2_recover_r2 : List Cond := [Cond.code yX2_covered cX2_covered 4 (some .boolean), Cond.methodLink RX2 106 yX2_listClearing, Cond.instanceMethod yX2_listClearing, Cond.selects RX2 yX2_listClearing yX2_listClearing, Cond.code yX2_listClearing cX2_listClearing 1 none, Cond.methodLink RX2 100 yX2_go, Cond.instanceMethod yX2_go, Cond.selects RX2 yX2_go yX2_go, Cond.code yX2_go cX2_go 2 (some .int), Cond.fieldLink RX2 68 "FencedWordsModel" "armed" "I", Cond.methodLink RX2 65 yX2_one, Cond.instanceMethod yX2_one, Cond.selects RX2 yX2_one yX2_one, Cond.code yX2_one cX2_one 3 none, Cond.fieldLink RX2 55 "FencedWordsModel" "meter" "I", Cond.fieldLink RX2 16 "FencedWordsModel" "flushed" "[Z", Cond.fieldLink RX2 30 "FencedWordsModel" "stands" "[I", Cond.methodLink RX2 58 yX2_fence, Cond.instanceMethod yX2_fence, Cond.selects RX2 yX2_fence yX2_fence, Cond.code yX2_fence cX2_fence 2 none, Cond.methodLink RX2 61 yX2_stand, Cond.instanceMethod yX2_stand, Cond.selects RX2 yX2_stand yX2_stand]
def wsX2_recover_r3 : List Cond := [Cond.code yX2_stand cX2_stand 3 none, Cond.methodLink RX2 71 yX2_fail, Cond.instanceMethod yX2_fail, Cond.selects RX2 yX2_fail yX2_fail, Cond.code yX2_fail cX2_fail 3 none, Cond.fieldLink RX2 86 "FencedWordsModel" "open" "Z", Cond.methodLink RX2 78 yX2_bit, Cond.instanceMethod yX2_bit, Cond.selects RX2 yX2_bit yX2_bit, Cond.code yX2_bit cX2_bit 2 (some .boolean), Cond.fieldLink RX2 74 "FencedWordsModel" "mask" "J"]
def wsX2_recover : List Cond := .code yX2_recover cX2_recover 2 (some .int) :: ((wsX2_recover_r1 ++ (wsX2_recover_r2 ++ wsX2_recover_r3)) ++ wsX20)
def wsX2_on : List Cond := .code yX2_on cX2_on 1 (some .boolean) :: ([.fieldLink RX2 82 "FencedWordsModel" "off" "Z"] ++ wsX20)
def wsX2_open : List Cond := .code yX2_open cX2_open 1 (some .boolean) :: ([.fieldLink RX2 86 "FencedWordsModel" "open" "Z"] ++ wsX20)
def wsX2_seen : List Cond := .code yX2_seen cX2_seen 2 (some .long) :: ([.fieldLink RX2 82 "FencedWordsModel" "off" "Z", .fieldLink RX2 7 "FencedWordsModel" "seen" "[J", .methodLink RX2 89 yX2_word, .static yX2_word, .initialized RX2, .code yX2_word cX2_word 1 (some .boolean)] ++ wsX20)
def wsX2_kept : List Cond := .code yX2_kept cX2_kept 2 (some .long) :: ([.fieldLink RX2 13 "FencedWordsModel" "kept" "[J", .methodLink RX2 89 yX2_word, .static yX2_word, .initialized RX2, .code yX2_word cX2_word 1 (some .boolean)] ++ wsX20)
def wsX2_records : List Cond := .code yX2_records cX2_records 1 (some .int) :: ([.fieldLink RX2 52 "FencedWordsModel" "records" "I"] ++ wsX20)
def wsX2_meter : List Cond := .code yX2_meter cX2_meter 1 (some .int) :: ([.fieldLink RX2 55 "FencedWordsModel" "meter" "I"] ++ wsX20)
def wsL_law_r1 : List Cond := [Cond.classLink RL 7 RX1, Cond.instantiable RX1 10, Cond.initialized RX1, Cond.classLink RL 10 RX2, Cond.instantiable RX2 19, Cond.initialized RX2, Cond.constantLong RL 13 (4294967295), Cond.methodLink RL 9 yX1_init, Cond.instanceMethod yX1_init, Cond.code yX1_init cX1_init 1 none, Cond.methodLink RX1 1 objectInit, Cond.instanceMethod objectInit, Cond.code objectInit ⟨#[0xb1]⟩ 1 none, Cond.arrayClass .long, Cond.fieldLink RX1 9 "FencedWords" "seenValues" "[J", Cond.fieldLink RX1 13 "FencedWords" "keptValues" "[J", Cond.classLink RX1 16 RX0, Cond.instantiable RX0 8, Cond.initialized RX0, Cond.fieldLink RX1 19 "FencedWords" "log" "LFencedWords$Log;", Cond.fieldLink RX1 23 "FencedWords" "powerOn" "Z", Cond.methodLink RX1 18 yX0_init, Cond.instanceMethod yX0_init, Cond.code yX0_init cX0_init 1 none]
def wsL_law_r2 : List Cond := [Cond.methodLink RX0 3 objectInit, Cond.arrayClass .int, Cond.fieldLink RX0 9 "FencedWords$Log" "firsts" "[I", Cond.fieldLink RX0 15 "FencedWords$Log" "counts" "[I", Cond.fieldLink RX0 18 "FencedWords$Log" "startCells" "[I", Cond.fieldLink RX0 21 "FencedWords$Log" "cells" "[J", Cond.methodLink RL 12 yX2_init, Cond.instanceMethod yX2_init, Cond.code yX2_init cX2_init 1 none, Cond.methodLink RX2 1 objectInit, Cond.fieldLink RX2 7 "FencedWordsModel" "seen" "[J", Cond.fieldLink RX2 13 "FencedWordsModel" "kept" "[J", Cond.arrayClass .boolean, Cond.fieldLink RX2 16 "FencedWordsModel" "flushed" "[Z", Cond.fieldLink RX2 20 "FencedWordsModel" "first" "[I", Cond.fieldLink RX2 24 "FencedWordsModel" "many" "[I", Cond.fieldLink RX2 27 "FencedWordsModel" "from" "[I", Cond.fieldLink RX2 30 "FencedWordsModel" "stands" "[I", Cond.fieldLink RX2 33 "FencedWordsModel" "old" "[J", Cond.fieldLink RX2 36 "FencedWordsModel" "touched" "[Z", Cond.fieldLink RX2 39 "FencedWordsModel" "act" "[I", Cond.fieldLink RX2 42 "FencedWordsModel" "on" "[I", Cond.fieldLink RX2 45 "FencedWordsModel" "with" "[J", Cond.methodLink RL 15 yX1_arm]
def wsL_law_r3 : List Cond := [Cond.instanceMethod yX1_arm, Cond.selects RX1 yX1_arm yX1_arm, Cond.code yX1_arm cX1_arm 4 (some .boolean), Cond.fieldLink RX1 27 "FencedWords" "actsUntilLoss" "I", Cond.fieldLink RX1 31 "FencedWords" "maskOfLoss" "J", Cond.methodLink RL 19 yX2_arm, Cond.instanceMethod yX2_arm, Cond.selects RX2 yX2_arm yX2_arm, Cond.code yX2_arm cX2_arm 4 (some .boolean), Cond.fieldLink RX2 68 "FencedWordsModel" "armed" "I", Cond.fieldLink RX2 74 "FencedWordsModel" "mask" "J", Cond.methodLink RL 20 yX1_begin, Cond.instanceMethod yX1_begin, Cond.selects RX1 yX1_begin yX1_begin, Cond.code yX1_begin cX1_begin 1 (some .int), Cond.fieldLink RX1 35 "FencedWords" "transactionOpen" "Z", Cond.fieldLink RX1 38 "FencedWords" "storedLines" "I", Cond.methodLink RL 24 yX2_begin, Cond.instanceMethod yX2_begin, Cond.selects RX2 yX2_begin yX2_begin, Cond.code yX2_begin cX2_begin 2 (some .int), Cond.fieldLink RX2 82 "FencedWordsModel" "off" "Z", Cond.fieldLink RX2 86 "FencedWordsModel" "open" "Z", Cond.methodLink RL 25 yX1_snapshot]
def wsL_law_r4 : List Cond := [Cond.instanceMethod yX1_snapshot, Cond.selects RX1 yX1_snapshot yX1_snapshot, Cond.code yX1_snapshot cX1_snapshot 3 (some .int), Cond.methodLink RX1 41 yX1_areWords, Cond.static yX1_areWords, Cond.code yX1_areWords cX1_areWords 2 (some .boolean), Cond.methodLink RX1 45 yX0_hasRoomFor, Cond.instanceMethod yX0_hasRoomFor, Cond.selects RX0 yX0_hasRoomFor yX0_hasRoomFor, Cond.code yX0_hasRoomFor cX0_hasRoomFor 2 (some .boolean), Cond.fieldLink RX0 25 "FencedWords$Log" "cellsTaken" "I", Cond.methodLink RX1 49 yX1_append, Cond.instanceMethod yX1_append, Cond.selects RX1 yX1_append yX1_append, Cond.code yX1_append cX1_append 3 (some .boolean), Cond.methodLink RX1 91 yX1_doPlainActs, Cond.instanceMethod yX1_doPlainActs, Cond.selects RX1 yX1_doPlainActs yX1_doPlainActs, Cond.code yX1_doPlainActs cX1_doPlainActs 3 (some .boolean), Cond.methodLink RX1 135 yX1_endAct, Cond.instanceMethod yX1_endAct, Cond.selects RX1 yX1_endAct yX1_endAct, Cond.code yX1_endAct cX1_endAct 1 (some .boolean), Cond.fieldLink RX1 88 "FencedWords" "actsDone" "I"]
def wsL_law_r5 : List Cond := [Cond.methodLink RX1 141 yX1_losePower, Cond.instanceMethod yX1_losePower, Cond.selects RX1 yX1_losePower yX1_losePower, Cond.code yX1_losePower cX1_losePower 3 none, Cond.fieldLink RX1 138 "FencedWords" "flushedLines" "I", Cond.methodLink RX1 128 yX1_hasBit, Cond.static yX1_hasBit, Cond.code yX1_hasBit cX1_hasBit 3 (some .boolean), Cond.methodLink RX1 144 yX0_settle, Cond.instanceMethod yX0_settle, Cond.selects RX0 yX0_settle yX0_settle, Cond.code yX0_settle cX0_settle 3 none, Cond.fieldLink RX0 42 "FencedWords$Log" "newestNotKept" "Z", Cond.fieldLink RX0 29 "FencedWords$Log" "size" "I", Cond.fieldLink RX0 46 "FencedWords$Log" "crossedOut" "Z", Cond.methodLink RX1 94 yX0_write, Cond.instanceMethod yX0_write, Cond.selects RX0 yX0_write yX0_write, Cond.code yX0_write cX0_write 4 none, Cond.methodLink RX0 36 arraycopyName, Cond.native arraycopyName, Cond.static arraycopyName, Cond.initialized "java/lang/System", Cond.methodLink RX1 98 yX0_keepNewest]
def wsL_law_r6 : List Cond := [Cond.instanceMethod yX0_keepNewest, Cond.selects RX0 yX0_keepNewest yX0_keepNewest, Cond.code yX0_keepNewest cX0_keepNewest 1 none, Cond.methodLink RX1 101 yX1_fence, Cond.instanceMethod yX1_fence, Cond.selects RX1 yX1_fence yX1_fence, Cond.code yX1_fence cX1_fence 2 (some .boolean), Cond.methodLink RX1 58 yX1_lineOf, Cond.static yX1_lineOf, Cond.code yX1_lineOf cX1_lineOf 1 (some .int), Cond.methodLink RL 29 yX2_snapshot, Cond.instanceMethod yX2_snapshot, Cond.selects RX2 yX2_snapshot yX2_snapshot, Cond.code yX2_snapshot cX2_snapshot 5 (some .int), Cond.fieldLink RX2 52 "FencedWordsModel" "records" "I", Cond.fieldLink RX2 48 "FencedWordsModel" "acts" "I", Cond.methodLink RX2 89 yX2_word, Cond.static yX2_word, Cond.code yX2_word cX2_word 1 (some .boolean), Cond.methodLink RX2 92 yX2_taken, Cond.instanceMethod yX2_taken, Cond.selects RX2 yX2_taken yX2_taken, Cond.code yX2_taken cX2_taken 3 (some .int), Cond.methodLink RX2 96 yX2_list]
def wsL_law_r7 : List Cond := [Cond.instanceMethod yX2_list, Cond.selects RX2 yX2_list yX2_list, Cond.code yX2_list cX2_list 5 none, Cond.methodLink RX2 100 yX2_go, Cond.instanceMethod yX2_go, Cond.selects RX2 yX2_go yX2_go, Cond.code yX2_go cX2_go 2 (some .int), Cond.methodLink RX2 65 yX2_one, Cond.instanceMethod yX2_one, Cond.selects RX2 yX2_one yX2_one, Cond.code yX2_one cX2_one 3 none, Cond.fieldLink RX2 55 "FencedWordsModel" "meter" "I", Cond.methodLink RX2 58 yX2_fence, Cond.instanceMethod yX2_fence, Cond.selects RX2 yX2_fence yX2_fence, Cond.code yX2_fence cX2_fence 2 none, Cond.methodLink RX2 61 yX2_stand, Cond.instanceMethod yX2_stand, Cond.selects RX2 yX2_stand yX2_stand, Cond.code yX2_stand cX2_stand 3 none, Cond.methodLink RX2 71 yX2_fail, Cond.instanceMethod yX2_fail, Cond.selects RX2 yX2_fail yX2_fail, Cond.code yX2_fail cX2_fail 3 none]
def wsL_law_r8 : List Cond := [Cond.methodLink RX2 78 yX2_bit, Cond.instanceMethod yX2_bit, Cond.selects RX2 yX2_bit yX2_bit, Cond.code yX2_bit cX2_bit 2 (some .boolean), Cond.methodLink RL 30 yX1_store, Cond.instanceMethod yX1_store, Cond.selects RX1 yX1_store yX1_store, Cond.code yX1_store cX1_store 4 (some .int), Cond.methodLink RX1 52 yX1_isWord, Cond.static yX1_isWord, Cond.code yX1_isWord cX1_isWord 1 (some .boolean), Cond.methodLink RX1 55 yX0_covers, Cond.instanceMethod yX0_covers, Cond.selects RX0 yX0_covers yX0_covers, Cond.code yX0_covers cX0_covers 3 (some .boolean), Cond.methodLink RX1 62 yX1_storeValue, Cond.instanceMethod yX1_storeValue, Cond.selects RX1 yX1_storeValue yX1_storeValue, Cond.code yX1_storeValue cX1_storeValue 4 (some .boolean), Cond.methodLink RL 34 yX2_store, Cond.instanceMethod yX2_store, Cond.selects RX2 yX2_store yX2_store, Cond.code yX2_store cX2_store 4 (some .int), Cond.methodLink RX2 103 yX2_covered]
def wsL_law_r9 : List Cond := [Cond.instanceMethod yX2_covered, Cond.selects RX2 yX2_covered yX2_covered, Cond.code yX2_covered cX2_covered 4 (some .boolean), Cond.methodLink RL 35 yX1_commit, Cond.instanceMethod yX1_commit, Cond.selects RX1 yX1_commit yX1_commit, Cond.code yX1_commit cX1_commit 1 (some .int), Cond.methodLink RX1 66 yX1_keepLines, Cond.instanceMethod yX1_keepLines, Cond.selects RX1 yX1_keepLines yX1_keepLines, Cond.code yX1_keepLines cX1_keepLines 3 (some .boolean), Cond.methodLink RX1 132 yX1_flush, Cond.instanceMethod yX1_flush, Cond.selects RX1 yX1_flush yX1_flush, Cond.code yX1_flush cX1_flush 2 (some .boolean), Cond.methodLink RX1 69 yX1_clearLog, Cond.instanceMethod yX1_clearLog, Cond.selects RX1 yX1_clearLog yX1_clearLog, Cond.code yX1_clearLog cX1_clearLog 1 (some .boolean), Cond.methodLink RX1 104 yX0_crossOut, Cond.instanceMethod yX0_crossOut, Cond.selects RX0 yX0_crossOut yX0_crossOut, Cond.code yX0_crossOut cX0_crossOut 1 none, Cond.methodLink RX1 107 yX0_dropAll]
def wsL_law_r10 : List Cond := [Cond.instanceMethod yX0_dropAll, Cond.selects RX0 yX0_dropAll yX0_dropAll, Cond.code yX0_dropAll cX0_dropAll 1 none, Cond.methodLink RL 38 yX2_commit, Cond.instanceMethod yX2_commit, Cond.selects RX2 yX2_commit yX2_commit, Cond.code yX2_commit cX2_commit 2 (some .int), Cond.methodLink RX2 106 yX2_listClearing, Cond.instanceMethod yX2_listClearing, Cond.selects RX2 yX2_listClearing yX2_listClearing, Cond.code yX2_listClearing cX2_listClearing 1 none, Cond.methodLink RL 39 yX1_abort, Cond.instanceMethod yX1_abort, Cond.selects RX1 yX1_abort yX1_abort, Cond.code yX1_abort cX1_abort 1 (some .int), Cond.methodLink RX1 73 yX1_undo, Cond.instanceMethod yX1_undo, Cond.selects RX1 yX1_undo yX1_undo, Cond.code yX1_undo cX1_undo 1 (some .boolean), Cond.methodLink RX1 110 yX1_storeOldValues, Cond.instanceMethod yX1_storeOldValues, Cond.selects RX1 yX1_storeOldValues yX1_storeOldValues, Cond.code yX1_storeOldValues cX1_storeOldValues 3 (some .boolean), Cond.methodLink RX1 124 yX0_oldValue]
def wsL_law_r11 : List Cond := [Cond.instanceMethod yX0_oldValue, Cond.selects RX0 yX0_oldValue yX0_oldValue, Cond.code yX0_oldValue cX0_oldValue 3 (some .long), Cond.methodLink RX1 113 yX0_coveredLines, Cond.instanceMethod yX0_coveredLines, Cond.selects RX0 yX0_coveredLines yX0_coveredLines, Cond.code yX0_coveredLines cX0_coveredLines 3 (some .int), Cond.methodLink RL 42 yX2_abort, Cond.instanceMethod yX2_abort, Cond.selects RX2 yX2_abort yX2_abort, Cond.code yX2_abort cX2_abort 1 (some .int), Cond.methodLink RX2 109 yX2_listUndoing, Cond.instanceMethod yX2_listUndoing, Cond.selects RX2 yX2_listUndoing yX2_listUndoing, Cond.code yX2_listUndoing cX2_listUndoing 4 none, Cond.methodLink RL 43 yX1_recover, Cond.instanceMethod yX1_recover, Cond.selects RX1 yX1_recover yX1_recover, Cond.code yX1_recover cX1_recover 1 (some .int), Cond.methodLink RX1 76 arraycopyName, Cond.methodLink RL 46 yX2_recover, Cond.instanceMethod yX2_recover, Cond.selects RX2 yX2_recover yX2_recover, Cond.code yX2_recover cX2_recover 2 (some .int)]
def wsL_law_r12 : List Cond := [Cond.methodLink RL 47 yX1_on, Cond.instanceMethod yX1_on, Cond.selects RX1 yX1_on yX1_on, Cond.code yX1_on cX1_on 1 (some .boolean), Cond.methodLink RL 51 yX2_on, Cond.instanceMethod yX2_on, Cond.selects RX2 yX2_on yX2_on, Cond.code yX2_on cX2_on 1 (some .boolean), Cond.methodLink RL 52 yX1_open, Cond.instanceMethod yX1_open, Cond.selects RX1 yX1_open yX1_open, Cond.code yX1_open cX1_open 1 (some .boolean), Cond.methodLink RL 55 yX2_open, Cond.instanceMethod yX2_open, Cond.selects RX2 yX2_open yX2_open, Cond.code yX2_open cX2_open 1 (some .boolean), Cond.methodLink RL 56 yX1_seen, Cond.instanceMethod yX1_seen, Cond.selects RX1 yX1_seen yX1_seen, Cond.code yX1_seen cX1_seen 2 (some .long), Cond.methodLink RL 60 yX2_seen, Cond.instanceMethod yX2_seen, Cond.selects RX2 yX2_seen yX2_seen, Cond.code yX2_seen cX2_seen 2 (some .long)]
def wsL_law_r13 : List Cond := [Cond.methodLink RL 61 yX1_kept, Cond.instanceMethod yX1_kept, Cond.selects RX1 yX1_kept yX1_kept, Cond.code yX1_kept cX1_kept 2 (some .long), Cond.methodLink RL 64 yX2_kept, Cond.instanceMethod yX2_kept, Cond.selects RX2 yX2_kept yX2_kept, Cond.code yX2_kept cX2_kept 2 (some .long), Cond.methodLink RL 65 yX1_records, Cond.instanceMethod yX1_records, Cond.selects RX1 yX1_records yX1_records, Cond.code yX1_records cX1_records 1 (some .int), Cond.methodLink RL 68 yX2_records, Cond.instanceMethod yX2_records, Cond.selects RX2 yX2_records yX2_records, Cond.code yX2_records cX2_records 1 (some .int), Cond.methodLink RL 69 yX1_taken, Cond.instanceMethod yX1_taken, Cond.selects RX1 yX1_taken yX1_taken, Cond.code yX1_taken cX1_taken 1 (some .int), Cond.methodLink RL 72 yX2_taken, Cond.methodLink RL 73 yX1_meter, Cond.instanceMethod yX1_meter, Cond.selects RX1 yX1_meter yX1_meter]
def wsL_law_r14 : List Cond := [Cond.code yX1_meter cX1_meter 1 (some .int), Cond.methodLink RL 76 yX2_meter, Cond.instanceMethod yX2_meter, Cond.selects RX2 yX2_meter yX2_meter, Cond.code yX2_meter cX2_meter 1 (some .int)]
def wsL_law : List Cond := (wsL_law_r1 ++ (wsL_law_r2 ++ (wsL_law_r3 ++ (wsL_law_r4 ++ (wsL_law_r5 ++ (wsL_law_r6 ++ (wsL_law_r7 ++ (wsL_law_r8 ++ (wsL_law_r9 ++ (wsL_law_r10 ++ (wsL_law_r11 ++ (wsL_law_r12 ++ (wsL_law_r13 ++ wsL_law_r14))))))))))))) ++ wsX10 ++ wsX20 ++ wsX00 ++ ([] : List Cond)
set_option maxRecDepth 20000 in
theorem wsL_law_in : ∀ w ∈ wsL_law, w ∈ lw_tbl := fun w h => (goodIn_p wsL_law [30, 33, 38, 259, 105, 323, 109, 327, 113, 116, 120, 124, 128, 132, 136, 139, 143, 147, 154, 158, 161, 331, 334, 338, 342, 346, 350, 354, 358, 362, 366, 165, 168, 172, 176, 370, 374, 180, 184, 188, 192, 196, 200, 378, 382, 204, 208, 212, 216, 220, 386, 390, 225, 394, 230, 398, 234, 402, 238, 406, 242, 410, 246, 414, 250, 254, 419] (by decide +kernel) (by decide +kernel) w h).1
theorem inlX0 : ∀ w ∈ wsX00, w ∈ wsL_law := fun _ h => List.mem_append_left _ (List.mem_append_right _ h)
theorem inX0 : ∀ w ∈ wsX00, w ∈ lw_tbl := fun w h => wsL_law_in w (inlX0 w h)
theorem inlX1 : ∀ w ∈ wsX10, w ∈ wsL_law := fun _ h => List.mem_append_left _ (List.mem_append_left _ (List.mem_append_left _ (List.mem_append_right _ h)))
theorem inX1 : ∀ w ∈ wsX10, w ∈ lw_tbl := fun w h => wsL_law_in w (inlX1 w h)
theorem inlX2 : ∀ w ∈ wsX20, w ∈ wsL_law := fun _ h => List.mem_append_left _ (List.mem_append_left _ (List.mem_append_right _ h))
theorem inX2 : ∀ w ∈ wsX20, w ∈ lw_tbl := fun w h => wsL_law_in w (inlX2 w h)
theorem inJ10 : ∀ w ∈ wsJ100, w ∈ lw_tbl := by decide +kernel
theorem dX0_init_0 : decode cX0_init 0 = .ok (.aload_n 0, 1) := by decide +kernel
theorem dX0_init_1 : decode cX0_init 1 = .ok (.invokespecial 3, 3) := by decide +kernel
theorem dX0_init_4 : decode cX0_init 4 = .ok (.aload_n 0, 1) := by decide +kernel
theorem dX0_init_5 : decode cX0_init 5 = .ok (.bipush 20, 2) := by decide +kernel
theorem dX0_init_7 : decode cX0_init 7 = .ok (.newarray .int, 2) := by decide +kernel
theorem dX0_init_9 : decode cX0_init 9 = .ok (.putfield 9, 3) := by decide +kernel
theorem dX0_init_12 : decode cX0_init 12 = .ok (.aload_n 0, 1) := by decide +kernel
theorem dX0_init_13 : decode cX0_init 13 = .ok (.bipush 20, 2) := by decide +kernel
theorem dX0_init_15 : decode cX0_init 15 = .ok (.newarray .int, 2) := by decide +kernel
theorem dX0_init_17 : decode cX0_init 17 = .ok (.putfield 15, 3) := by decide +kernel
theorem dX0_init_20 : decode cX0_init 20 = .ok (.aload_n 0, 1) := by decide +kernel
theorem dX0_init_21 : decode cX0_init 21 = .ok (.bipush 20, 2) := by decide +kernel
theorem dX0_init_23 : decode cX0_init 23 = .ok (.newarray .int, 2) := by decide +kernel
theorem dX0_init_25 : decode cX0_init 25 = .ok (.putfield 18, 3) := by decide +kernel
theorem dX0_init_28 : decode cX0_init 28 = .ok (.aload_n 0, 1) := by decide +kernel
theorem dX0_init_29 : decode cX0_init 29 = .ok (.bipush 40, 2) := by decide +kernel
theorem dX0_init_31 : decode cX0_init 31 = .ok (.newarray .long, 2) := by decide +kernel
theorem dX0_init_33 : decode cX0_init 33 = .ok (.putfield 21, 3) := by decide +kernel
theorem dX0_init_36 : decode cX0_init 36 = .ok (.return_, 1) := by decide +kernel
theorem dX0_hasRoomFor_0 : decode cX0_hasRoomFor 0 = .ok (.iload_n 1, 1) := by decide +kernel
theorem dX0_hasRoomFor_1 : decode cX0_hasRoomFor 1 = .ok (.iconst 1, 1) := by decide +kernel
theorem dX0_hasRoomFor_2 : decode cX0_hasRoomFor 2 = .ok (.iadd, 1) := by decide +kernel
theorem dX0_hasRoomFor_3 : decode cX0_hasRoomFor 3 = .ok (.bipush 40, 2) := by decide +kernel
theorem dX0_hasRoomFor_5 : decode cX0_hasRoomFor 5 = .ok (.aload_n 0, 1) := by decide +kernel
theorem dX0_hasRoomFor_6 : decode cX0_hasRoomFor 6 = .ok (.getfield 25, 3) := by decide +kernel
theorem dX0_hasRoomFor_9 : decode cX0_hasRoomFor 9 = .ok (.isub, 1) := by decide +kernel
theorem dX0_hasRoomFor_10 : decode cX0_hasRoomFor 10 = .ok (.if_icmp .gt 7, 3) := by decide +kernel
theorem dX0_hasRoomFor_13 : decode cX0_hasRoomFor 13 = .ok (.iconst 1, 1) := by decide +kernel
theorem dX0_hasRoomFor_14 : decode cX0_hasRoomFor 14 = .ok (.goto 4, 3) := by decide +kernel
theorem dX0_hasRoomFor_17 : decode cX0_hasRoomFor 17 = .ok (.iconst 0, 1) := by decide +kernel
theorem dX0_hasRoomFor_18 : decode cX0_hasRoomFor 18 = .ok (.ireturn, 1) := by decide +kernel
theorem dX0_covers_0 : decode cX0_covers 0 = .ok (.iconst 0, 1) := by decide +kernel
theorem dX0_covers_1 : decode cX0_covers 1 = .ok (.istore_n 2, 1) := by decide +kernel
theorem dX0_covers_2 : decode cX0_covers 2 = .ok (.iload_n 2, 1) := by decide +kernel
theorem dX0_covers_3 : decode cX0_covers 3 = .ok (.aload_n 0, 1) := by decide +kernel
theorem dX0_covers_4 : decode cX0_covers 4 = .ok (.getfield 29, 3) := by decide +kernel
theorem dX0_covers_7 : decode cX0_covers 7 = .ok (.if_icmp .ge 38, 3) := by decide +kernel
theorem dX0_covers_10 : decode cX0_covers 10 = .ok (.iload_n 1, 1) := by decide +kernel
theorem dX0_covers_11 : decode cX0_covers 11 = .ok (.aload_n 0, 1) := by decide +kernel
theorem dX0_covers_12 : decode cX0_covers 12 = .ok (.getfield 9, 3) := by decide +kernel
theorem dX0_covers_15 : decode cX0_covers 15 = .ok (.iload_n 2, 1) := by decide +kernel
theorem dX0_covers_16 : decode cX0_covers 16 = .ok (.iaload, 1) := by decide +kernel
theorem dX0_covers_17 : decode cX0_covers 17 = .ok (.if_icmp .lt 22, 3) := by decide +kernel
theorem dX0_covers_20 : decode cX0_covers 20 = .ok (.iload_n 1, 1) := by decide +kernel
theorem dX0_covers_21 : decode cX0_covers 21 = .ok (.aload_n 0, 1) := by decide +kernel
theorem dX0_covers_22 : decode cX0_covers 22 = .ok (.getfield 9, 3) := by decide +kernel
theorem dX0_covers_25 : decode cX0_covers 25 = .ok (.iload_n 2, 1) := by decide +kernel
theorem dX0_covers_26 : decode cX0_covers 26 = .ok (.iaload, 1) := by decide +kernel
theorem dX0_covers_27 : decode cX0_covers 27 = .ok (.aload_n 0, 1) := by decide +kernel
theorem dX0_covers_28 : decode cX0_covers 28 = .ok (.getfield 15, 3) := by decide +kernel
theorem dX0_covers_31 : decode cX0_covers 31 = .ok (.iload_n 2, 1) := by decide +kernel
theorem dX0_covers_32 : decode cX0_covers 32 = .ok (.iaload, 1) := by decide +kernel
theorem dX0_covers_33 : decode cX0_covers 33 = .ok (.iadd, 1) := by decide +kernel
theorem dX0_covers_34 : decode cX0_covers 34 = .ok (.if_icmp .ge 5, 3) := by decide +kernel
theorem dX0_covers_37 : decode cX0_covers 37 = .ok (.iconst 1, 1) := by decide +kernel
theorem dX0_covers_38 : decode cX0_covers 38 = .ok (.ireturn, 1) := by decide +kernel
theorem dX0_covers_39 : decode cX0_covers 39 = .ok (.iinc 2 1, 3) := by decide +kernel
theorem dX0_covers_42 : decode cX0_covers 42 = .ok (.goto (-40), 3) := by decide +kernel
theorem dX0_covers_45 : decode cX0_covers 45 = .ok (.iconst 0, 1) := by decide +kernel
theorem dX0_covers_46 : decode cX0_covers 46 = .ok (.ireturn, 1) := by decide +kernel
set_option maxRecDepth 20000 in
theorem ggX0_coveredLines_X1_lineOf : GoodIn wsX0_coveredLines wsX1_lineOf := goodIn_r _ [6] (by decide +kernel) (by decide +kernel)
set_option maxRecDepth 20000 in
theorem gX0_coveredLines_X1_lineOf_n32 : GoodIn wsX0_coveredLines (wsX1_lineOf) := ggX0_coveredLines_X1_lineOf
theorem dX0_coveredLines_0 : decode cX0_coveredLines 0 = .ok (.iconst 0, 1) := by decide +kernel
theorem dX0_coveredLines_1 : decode cX0_coveredLines 1 = .ok (.istore_n 1, 1) := by decide +kernel
theorem dX0_coveredLines_2 : decode cX0_coveredLines 2 = .ok (.iconst 0, 1) := by decide +kernel
theorem dX0_coveredLines_3 : decode cX0_coveredLines 3 = .ok (.istore_n 2, 1) := by decide +kernel
theorem dX0_coveredLines_4 : decode cX0_coveredLines 4 = .ok (.iload_n 2, 1) := by decide +kernel
theorem dX0_coveredLines_5 : decode cX0_coveredLines 5 = .ok (.aload_n 0, 1) := by decide +kernel
theorem dX0_coveredLines_6 : decode cX0_coveredLines 6 = .ok (.getfield 29, 3) := by decide +kernel
theorem dX0_coveredLines_9 : decode cX0_coveredLines 9 = .ok (.if_icmp .ge 46, 3) := by decide +kernel
theorem dX0_coveredLines_12 : decode cX0_coveredLines 12 = .ok (.iload_n 1, 1) := by decide +kernel
theorem dX0_coveredLines_13 : decode cX0_coveredLines 13 = .ok (.iconst 1, 1) := by decide +kernel
theorem dX0_coveredLines_14 : decode cX0_coveredLines 14 = .ok (.aload_n 0, 1) := by decide +kernel
theorem dX0_coveredLines_15 : decode cX0_coveredLines 15 = .ok (.getfield 9, 3) := by decide +kernel
theorem dX0_coveredLines_18 : decode cX0_coveredLines 18 = .ok (.iload_n 2, 1) := by decide +kernel
theorem dX0_coveredLines_19 : decode cX0_coveredLines 19 = .ok (.iaload, 1) := by decide +kernel
theorem dX0_coveredLines_20 : decode cX0_coveredLines 20 = .ok (.invokestatic 32, 3) := by decide +kernel
theorem dX0_coveredLines_23 : decode cX0_coveredLines 23 = .ok (.ishl, 1) := by decide +kernel
theorem dX0_coveredLines_24 : decode cX0_coveredLines 24 = .ok (.ior, 1) := by decide +kernel
theorem dX0_coveredLines_25 : decode cX0_coveredLines 25 = .ok (.istore_n 1, 1) := by decide +kernel
theorem dX0_coveredLines_26 : decode cX0_coveredLines 26 = .ok (.iload_n 1, 1) := by decide +kernel
theorem dX0_coveredLines_27 : decode cX0_coveredLines 27 = .ok (.iconst 1, 1) := by decide +kernel
theorem dX0_coveredLines_28 : decode cX0_coveredLines 28 = .ok (.aload_n 0, 1) := by decide +kernel
theorem dX0_coveredLines_29 : decode cX0_coveredLines 29 = .ok (.getfield 9, 3) := by decide +kernel
theorem dX0_coveredLines_32 : decode cX0_coveredLines 32 = .ok (.iload_n 2, 1) := by decide +kernel
theorem dX0_coveredLines_33 : decode cX0_coveredLines 33 = .ok (.iaload, 1) := by decide +kernel
theorem dX0_coveredLines_34 : decode cX0_coveredLines 34 = .ok (.aload_n 0, 1) := by decide +kernel
theorem dX0_coveredLines_35 : decode cX0_coveredLines 35 = .ok (.getfield 15, 3) := by decide +kernel
theorem dX0_coveredLines_38 : decode cX0_coveredLines 38 = .ok (.iload_n 2, 1) := by decide +kernel
theorem dX0_coveredLines_39 : decode cX0_coveredLines 39 = .ok (.iaload, 1) := by decide +kernel
theorem dX0_coveredLines_40 : decode cX0_coveredLines 40 = .ok (.iadd, 1) := by decide +kernel
theorem dX0_coveredLines_41 : decode cX0_coveredLines 41 = .ok (.iconst 1, 1) := by decide +kernel
theorem dX0_coveredLines_42 : decode cX0_coveredLines 42 = .ok (.isub, 1) := by decide +kernel
theorem dX0_coveredLines_43 : decode cX0_coveredLines 43 = .ok (.invokestatic 32, 3) := by decide +kernel
theorem dX0_coveredLines_46 : decode cX0_coveredLines 46 = .ok (.ishl, 1) := by decide +kernel
theorem dX0_coveredLines_47 : decode cX0_coveredLines 47 = .ok (.ior, 1) := by decide +kernel
theorem dX0_coveredLines_48 : decode cX0_coveredLines 48 = .ok (.istore_n 1, 1) := by decide +kernel
theorem dX0_coveredLines_49 : decode cX0_coveredLines 49 = .ok (.iinc 2 1, 3) := by decide +kernel
theorem dX0_coveredLines_52 : decode cX0_coveredLines 52 = .ok (.goto (-48), 3) := by decide +kernel
theorem dX0_coveredLines_55 : decode cX0_coveredLines 55 = .ok (.iload_n 1, 1) := by decide +kernel
theorem dX0_coveredLines_56 : decode cX0_coveredLines 56 = .ok (.ireturn, 1) := by decide +kernel
theorem dX0_oldValue_0 : decode cX0_oldValue 0 = .ok (.aload_n 0, 1) := by decide +kernel
theorem dX0_oldValue_1 : decode cX0_oldValue 1 = .ok (.getfield 21, 3) := by decide +kernel
theorem dX0_oldValue_4 : decode cX0_oldValue 4 = .ok (.aload_n 0, 1) := by decide +kernel
theorem dX0_oldValue_5 : decode cX0_oldValue 5 = .ok (.getfield 18, 3) := by decide +kernel
theorem dX0_oldValue_8 : decode cX0_oldValue 8 = .ok (.iload_n 1, 1) := by decide +kernel
theorem dX0_oldValue_9 : decode cX0_oldValue 9 = .ok (.iaload, 1) := by decide +kernel
theorem dX0_oldValue_10 : decode cX0_oldValue 10 = .ok (.iconst 1, 1) := by decide +kernel
theorem dX0_oldValue_11 : decode cX0_oldValue 11 = .ok (.iadd, 1) := by decide +kernel
theorem dX0_oldValue_12 : decode cX0_oldValue 12 = .ok (.iload_n 2, 1) := by decide +kernel
theorem dX0_oldValue_13 : decode cX0_oldValue 13 = .ok (.iadd, 1) := by decide +kernel
theorem dX0_oldValue_14 : decode cX0_oldValue 14 = .ok (.laload, 1) := by decide +kernel
theorem dX0_oldValue_15 : decode cX0_oldValue 15 = .ok (.lreturn, 1) := by decide +kernel
theorem dX0_write_0 : decode cX0_write 0 = .ok (.aload_n 0, 1) := by decide +kernel
theorem dX0_write_1 : decode cX0_write 1 = .ok (.getfield 9, 3) := by decide +kernel
theorem dX0_write_4 : decode cX0_write 4 = .ok (.aload_n 0, 1) := by decide +kernel
theorem dX0_write_5 : decode cX0_write 5 = .ok (.getfield 29, 3) := by decide +kernel
theorem dX0_write_8 : decode cX0_write 8 = .ok (.iload_n 1, 1) := by decide +kernel
theorem dX0_write_9 : decode cX0_write 9 = .ok (.iastore, 1) := by decide +kernel
theorem dX0_write_10 : decode cX0_write 10 = .ok (.aload_n 0, 1) := by decide +kernel
theorem dX0_write_11 : decode cX0_write 11 = .ok (.getfield 15, 3) := by decide +kernel
theorem dX0_write_14 : decode cX0_write 14 = .ok (.aload_n 0, 1) := by decide +kernel
theorem dX0_write_15 : decode cX0_write 15 = .ok (.getfield 29, 3) := by decide +kernel
theorem dX0_write_18 : decode cX0_write 18 = .ok (.iload_n 2, 1) := by decide +kernel
theorem dX0_write_19 : decode cX0_write 19 = .ok (.iastore, 1) := by decide +kernel
theorem dX0_write_20 : decode cX0_write 20 = .ok (.aload_n 0, 1) := by decide +kernel
theorem dX0_write_21 : decode cX0_write 21 = .ok (.getfield 18, 3) := by decide +kernel
theorem dX0_write_24 : decode cX0_write 24 = .ok (.aload_n 0, 1) := by decide +kernel
theorem dX0_write_25 : decode cX0_write 25 = .ok (.getfield 29, 3) := by decide +kernel
theorem dX0_write_28 : decode cX0_write 28 = .ok (.aload_n 0, 1) := by decide +kernel
theorem dX0_write_29 : decode cX0_write 29 = .ok (.getfield 25, 3) := by decide +kernel
theorem dX0_write_32 : decode cX0_write 32 = .ok (.iastore, 1) := by decide +kernel
theorem dX0_write_33 : decode cX0_write 33 = .ok (.aload_n 3, 1) := by decide +kernel
theorem dX0_write_34 : decode cX0_write 34 = .ok (.iload_n 1, 1) := by decide +kernel
theorem dX0_write_35 : decode cX0_write 35 = .ok (.aload_n 0, 1) := by decide +kernel
theorem dX0_write_36 : decode cX0_write 36 = .ok (.getfield 21, 3) := by decide +kernel
theorem dX0_write_39 : decode cX0_write 39 = .ok (.aload_n 0, 1) := by decide +kernel
theorem dX0_write_40 : decode cX0_write 40 = .ok (.getfield 25, 3) := by decide +kernel
theorem dX0_write_43 : decode cX0_write 43 = .ok (.iconst 1, 1) := by decide +kernel
theorem dX0_write_44 : decode cX0_write 44 = .ok (.iadd, 1) := by decide +kernel
theorem dX0_write_45 : decode cX0_write 45 = .ok (.iload_n 2, 1) := by decide +kernel
theorem dX0_write_46 : decode cX0_write 46 = .ok (.invokestatic 36, 3) := by decide +kernel
theorem dX0_write_49 : decode cX0_write 49 = .ok (.aload_n 0, 1) := by decide +kernel
theorem dX0_write_50 : decode cX0_write 50 = .ok (.dup, 1) := by decide +kernel
theorem dX0_write_51 : decode cX0_write 51 = .ok (.getfield 25, 3) := by decide +kernel
theorem dX0_write_54 : decode cX0_write 54 = .ok (.iload_n 2, 1) := by decide +kernel
theorem dX0_write_55 : decode cX0_write 55 = .ok (.iconst 1, 1) := by decide +kernel
theorem dX0_write_56 : decode cX0_write 56 = .ok (.iadd, 1) := by decide +kernel
theorem dX0_write_57 : decode cX0_write 57 = .ok (.iadd, 1) := by decide +kernel
theorem dX0_write_58 : decode cX0_write 58 = .ok (.putfield 25, 3) := by decide +kernel
theorem dX0_write_61 : decode cX0_write 61 = .ok (.aload_n 0, 1) := by decide +kernel
theorem dX0_write_62 : decode cX0_write 62 = .ok (.dup, 1) := by decide +kernel
theorem dX0_write_63 : decode cX0_write 63 = .ok (.getfield 29, 3) := by decide +kernel
theorem dX0_write_66 : decode cX0_write 66 = .ok (.iconst 1, 1) := by decide +kernel
theorem dX0_write_67 : decode cX0_write 67 = .ok (.iadd, 1) := by decide +kernel
theorem dX0_write_68 : decode cX0_write 68 = .ok (.putfield 29, 3) := by decide +kernel
theorem dX0_write_71 : decode cX0_write 71 = .ok (.aload_n 0, 1) := by decide +kernel
theorem dX0_write_72 : decode cX0_write 72 = .ok (.iconst 1, 1) := by decide +kernel
theorem dX0_write_73 : decode cX0_write 73 = .ok (.putfield 42, 3) := by decide +kernel
theorem dX0_write_76 : decode cX0_write 76 = .ok (.return_, 1) := by decide +kernel
theorem dX0_keepNewest_0 : decode cX0_keepNewest 0 = .ok (.aload_n 0, 1) := by decide +kernel
theorem dX0_keepNewest_1 : decode cX0_keepNewest 1 = .ok (.iconst 0, 1) := by decide +kernel
theorem dX0_keepNewest_2 : decode cX0_keepNewest 2 = .ok (.putfield 42, 3) := by decide +kernel
theorem dX0_keepNewest_5 : decode cX0_keepNewest 5 = .ok (.return_, 1) := by decide +kernel
theorem dX0_crossOut_0 : decode cX0_crossOut 0 = .ok (.aload_n 0, 1) := by decide +kernel
theorem dX0_crossOut_1 : decode cX0_crossOut 1 = .ok (.iconst 1, 1) := by decide +kernel
theorem dX0_crossOut_2 : decode cX0_crossOut 2 = .ok (.putfield 46, 3) := by decide +kernel
theorem dX0_crossOut_5 : decode cX0_crossOut 5 = .ok (.return_, 1) := by decide +kernel
theorem dX0_dropAll_0 : decode cX0_dropAll 0 = .ok (.aload_n 0, 1) := by decide +kernel
theorem dX0_dropAll_1 : decode cX0_dropAll 1 = .ok (.iconst 0, 1) := by decide +kernel
theorem dX0_dropAll_2 : decode cX0_dropAll 2 = .ok (.putfield 29, 3) := by decide +kernel
theorem dX0_dropAll_5 : decode cX0_dropAll 5 = .ok (.aload_n 0, 1) := by decide +kernel
theorem dX0_dropAll_6 : decode cX0_dropAll 6 = .ok (.iconst 0, 1) := by decide +kernel
theorem dX0_dropAll_7 : decode cX0_dropAll 7 = .ok (.putfield 25, 3) := by decide +kernel
theorem dX0_dropAll_10 : decode cX0_dropAll 10 = .ok (.aload_n 0, 1) := by decide +kernel
theorem dX0_dropAll_11 : decode cX0_dropAll 11 = .ok (.iconst 0, 1) := by decide +kernel
theorem dX0_dropAll_12 : decode cX0_dropAll 12 = .ok (.putfield 46, 3) := by decide +kernel
theorem dX0_dropAll_15 : decode cX0_dropAll 15 = .ok (.return_, 1) := by decide +kernel
theorem dX0_settle_0 : decode cX0_settle 0 = .ok (.aload_n 0, 1) := by decide +kernel
theorem dX0_settle_1 : decode cX0_settle 1 = .ok (.getfield 42, 3) := by decide +kernel
theorem dX0_settle_4 : decode cX0_settle 4 = .ok (.ifCond .eq 30, 3) := by decide +kernel
theorem dX0_settle_7 : decode cX0_settle 7 = .ok (.iload_n 1, 1) := by decide +kernel
theorem dX0_settle_8 : decode cX0_settle 8 = .ok (.ifCond .ne 26, 3) := by decide +kernel
theorem dX0_settle_11 : decode cX0_settle 11 = .ok (.aload_n 0, 1) := by decide +kernel
theorem dX0_settle_12 : decode cX0_settle 12 = .ok (.dup, 1) := by decide +kernel
theorem dX0_settle_13 : decode cX0_settle 13 = .ok (.getfield 29, 3) := by decide +kernel
theorem dX0_settle_16 : decode cX0_settle 16 = .ok (.iconst 1, 1) := by decide +kernel
theorem dX0_settle_17 : decode cX0_settle 17 = .ok (.isub, 1) := by decide +kernel
theorem dX0_settle_18 : decode cX0_settle 18 = .ok (.putfield 29, 3) := by decide +kernel
theorem dX0_settle_21 : decode cX0_settle 21 = .ok (.aload_n 0, 1) := by decide +kernel
theorem dX0_settle_22 : decode cX0_settle 22 = .ok (.aload_n 0, 1) := by decide +kernel
theorem dX0_settle_23 : decode cX0_settle 23 = .ok (.getfield 18, 3) := by decide +kernel
theorem dX0_settle_26 : decode cX0_settle 26 = .ok (.aload_n 0, 1) := by decide +kernel
theorem dX0_settle_27 : decode cX0_settle 27 = .ok (.getfield 29, 3) := by decide +kernel
theorem dX0_settle_30 : decode cX0_settle 30 = .ok (.iaload, 1) := by decide +kernel
theorem dX0_settle_31 : decode cX0_settle 31 = .ok (.putfield 25, 3) := by decide +kernel
theorem dX0_settle_34 : decode cX0_settle 34 = .ok (.aload_n 0, 1) := by decide +kernel
theorem dX0_settle_35 : decode cX0_settle 35 = .ok (.getfield 46, 3) := by decide +kernel
theorem dX0_settle_38 : decode cX0_settle 38 = .ok (.ifCond .eq 17, 3) := by decide +kernel
theorem dX0_settle_41 : decode cX0_settle 41 = .ok (.iload_n 2, 1) := by decide +kernel
theorem dX0_settle_42 : decode cX0_settle 42 = .ok (.ifCond .eq 13, 3) := by decide +kernel
theorem dX0_settle_45 : decode cX0_settle 45 = .ok (.aload_n 0, 1) := by decide +kernel
theorem dX0_settle_46 : decode cX0_settle 46 = .ok (.iconst 0, 1) := by decide +kernel
theorem dX0_settle_47 : decode cX0_settle 47 = .ok (.putfield 29, 3) := by decide +kernel
theorem dX0_settle_50 : decode cX0_settle 50 = .ok (.aload_n 0, 1) := by decide +kernel
theorem dX0_settle_51 : decode cX0_settle 51 = .ok (.iconst 0, 1) := by decide +kernel
theorem dX0_settle_52 : decode cX0_settle 52 = .ok (.putfield 25, 3) := by decide +kernel
theorem dX0_settle_55 : decode cX0_settle 55 = .ok (.aload_n 0, 1) := by decide +kernel
theorem dX0_settle_56 : decode cX0_settle 56 = .ok (.iconst 0, 1) := by decide +kernel
theorem dX0_settle_57 : decode cX0_settle 57 = .ok (.putfield 42, 3) := by decide +kernel
theorem dX0_settle_60 : decode cX0_settle 60 = .ok (.aload_n 0, 1) := by decide +kernel
theorem dX0_settle_61 : decode cX0_settle 61 = .ok (.iconst 0, 1) := by decide +kernel
theorem dX0_settle_62 : decode cX0_settle 62 = .ok (.putfield 46, 3) := by decide +kernel
theorem dX0_settle_65 : decode cX0_settle 65 = .ok (.return_, 1) := by decide +kernel
set_option maxRecDepth 20000 in
theorem ggX1_init_X0_init : GoodIn wsX1_init wsX0_init := goodIn_r _ [14, 15, 2, 3, 16, 17, 18, 19, 4, 20, 31, 32, 33, 34, 35, 36, 37, 38] (by decide +kernel) (by decide +kernel)
set_option maxRecDepth 20000 in
theorem gX1_init_X0_init : GoodIn wsX1_init (wsX0_init) := ggX1_init_X0_init
theorem dX1_init_0 : decode cX1_init 0 = .ok (.aload_n 0, 1) := by decide +kernel
theorem dX1_init_1 : decode cX1_init 1 = .ok (.invokespecial 1, 3) := by decide +kernel
theorem dX1_init_4 : decode cX1_init 4 = .ok (.aload_n 0, 1) := by decide +kernel
theorem dX1_init_5 : decode cX1_init 5 = .ok (.bipush 32, 2) := by decide +kernel
theorem dX1_init_7 : decode cX1_init 7 = .ok (.newarray .long, 2) := by decide +kernel
theorem dX1_init_9 : decode cX1_init 9 = .ok (.putfield 9, 3) := by decide +kernel
theorem dX1_init_12 : decode cX1_init 12 = .ok (.aload_n 0, 1) := by decide +kernel
theorem dX1_init_13 : decode cX1_init 13 = .ok (.bipush 32, 2) := by decide +kernel
theorem dX1_init_15 : decode cX1_init 15 = .ok (.newarray .long, 2) := by decide +kernel
theorem dX1_init_17 : decode cX1_init 17 = .ok (.putfield 13, 3) := by decide +kernel
theorem dX1_init_20 : decode cX1_init 20 = .ok (.aload_n 0, 1) := by decide +kernel
theorem dX1_init_21 : decode cX1_init 21 = .ok (.new 16, 3) := by decide +kernel
theorem dX1_init_24 : decode cX1_init 24 = .ok (.dup, 1) := by decide +kernel
theorem dX1_init_25 : decode cX1_init 25 = .ok (.invokespecial 18, 3) := by decide +kernel
theorem dX1_init_28 : decode cX1_init 28 = .ok (.putfield 19, 3) := by decide +kernel
theorem dX1_init_31 : decode cX1_init 31 = .ok (.aload_n 0, 1) := by decide +kernel
theorem dX1_init_32 : decode cX1_init 32 = .ok (.iconst 1, 1) := by decide +kernel
theorem dX1_init_33 : decode cX1_init 33 = .ok (.putfield 23, 3) := by decide +kernel
theorem dX1_init_36 : decode cX1_init 36 = .ok (.return_, 1) := by decide +kernel
theorem dX1_arm_0 : decode cX1_arm 0 = .ok (.iload_n 1, 1) := by decide +kernel
theorem dX1_arm_1 : decode cX1_arm 1 = .ok (.ifCond .lt 10, 3) := by decide +kernel
theorem dX1_arm_4 : decode cX1_arm 4 = .ok (.iload_n 1, 1) := by decide +kernel
theorem dX1_arm_5 : decode cX1_arm 5 = .ok (.sipush 500, 3) := by decide +kernel
theorem dX1_arm_8 : decode cX1_arm 8 = .ok (.if_icmp .le 5, 3) := by decide +kernel
theorem dX1_arm_11 : decode cX1_arm 11 = .ok (.iconst 0, 1) := by decide +kernel
theorem dX1_arm_12 : decode cX1_arm 12 = .ok (.ireturn, 1) := by decide +kernel
theorem dX1_arm_13 : decode cX1_arm 13 = .ok (.aload_n 0, 1) := by decide +kernel
theorem dX1_arm_14 : decode cX1_arm 14 = .ok (.iload_n 1, 1) := by decide +kernel
theorem dX1_arm_15 : decode cX1_arm 15 = .ok (.putfield 27, 3) := by decide +kernel
theorem dX1_arm_18 : decode cX1_arm 18 = .ok (.aload_n 0, 1) := by decide +kernel
theorem dX1_arm_19 : decode cX1_arm 19 = .ok (.lload_n 2, 1) := by decide +kernel
theorem dX1_arm_20 : decode cX1_arm 20 = .ok (.putfield 31, 3) := by decide +kernel
theorem dX1_arm_23 : decode cX1_arm 23 = .ok (.iconst 1, 1) := by decide +kernel
theorem dX1_arm_24 : decode cX1_arm 24 = .ok (.ireturn, 1) := by decide +kernel
theorem dX1_begin_0 : decode cX1_begin 0 = .ok (.aload_n 0, 1) := by decide +kernel
theorem dX1_begin_1 : decode cX1_begin 1 = .ok (.getfield 23, 3) := by decide +kernel
theorem dX1_begin_4 : decode cX1_begin 4 = .ok (.ifCond .eq 10, 3) := by decide +kernel
theorem dX1_begin_7 : decode cX1_begin 7 = .ok (.aload_n 0, 1) := by decide +kernel
theorem dX1_begin_8 : decode cX1_begin 8 = .ok (.getfield 35, 3) := by decide +kernel
theorem dX1_begin_11 : decode cX1_begin 11 = .ok (.ifCond .eq 5, 3) := by decide +kernel
theorem dX1_begin_14 : decode cX1_begin 14 = .ok (.iconst (-1), 1) := by decide +kernel
theorem dX1_begin_15 : decode cX1_begin 15 = .ok (.ireturn, 1) := by decide +kernel
theorem dX1_begin_16 : decode cX1_begin 16 = .ok (.aload_n 0, 1) := by decide +kernel
theorem dX1_begin_17 : decode cX1_begin 17 = .ok (.iconst 1, 1) := by decide +kernel
theorem dX1_begin_18 : decode cX1_begin 18 = .ok (.putfield 35, 3) := by decide +kernel
theorem dX1_begin_21 : decode cX1_begin 21 = .ok (.aload_n 0, 1) := by decide +kernel
theorem dX1_begin_22 : decode cX1_begin 22 = .ok (.iconst 0, 1) := by decide +kernel
theorem dX1_begin_23 : decode cX1_begin 23 = .ok (.putfield 38, 3) := by decide +kernel
theorem dX1_begin_26 : decode cX1_begin 26 = .ok (.iconst 0, 1) := by decide +kernel
theorem dX1_begin_27 : decode cX1_begin 27 = .ok (.ireturn, 1) := by decide +kernel
set_option maxRecDepth 20000 in
theorem ggX1_snapshot_X1_areWords : GoodIn wsX1_snapshot wsX1_areWords := goodIn_r _ [6] (by decide +kernel) (by decide +kernel)
set_option maxRecDepth 20000 in
theorem gX1_snapshot_X1_areWords : GoodIn wsX1_snapshot (va_wsS RX1 41 yX1_areWords wsX1_areWords) := goodIn_app (goodIn_of _ (by decide +kernel)) ggX1_snapshot_X1_areWords
set_option maxRecDepth 20000 in
theorem ggX1_snapshot_X0_hasRoomFor : GoodIn wsX1_snapshot wsX0_hasRoomFor := goodIn_r _ [11, 12, 79, 80, 81, 82, 83, 84, 85, 86] (by decide +kernel) (by decide +kernel)
set_option maxRecDepth 20000 in
theorem gX1_snapshot_X0_hasRoomFor : GoodIn wsX1_snapshot (wsV RX1 45 RX0 yX0_hasRoomFor wsX0_hasRoomFor) := goodIn_app (goodIn_of _ (by decide +kernel)) ggX1_snapshot_X0_hasRoomFor
set_option maxRecDepth 20000 in
theorem ggX1_snapshot_X1_append : GoodIn wsX1_snapshot wsX1_append := goodIn_r _ [16, 2, 17, 18, 19, 20, 5, 21, 22, 23, 24, 25, 26, 27, 28, 29, 30, 31, 32, 33, 34, 1, 35, 36, 37, 38, 39, 40, 41, 10, 42, 43, 44, 45, 12, 46, 47, 48, 49, 50, 51, 52, 53, 54, 55, 56, 57, 58, 59, 60, 61, 62, 63, 64, 65, 66, 67, 68, 69, 70, 71, 72, 73, 74, 75, 76, 77, 78, 79, 80, 81, 82, 83, 84, 85, 86] (by decide +kernel) (by decide +kernel)
set_option maxRecDepth 20000 in
theorem gX1_snapshot_X1_append : GoodIn wsX1_snapshot (wsV RX1 49 RX1 yX1_append wsX1_append) := goodIn_app (goodIn_of _ (by decide +kernel)) ggX1_snapshot_X1_append
theorem dX1_snapshot_0 : decode cX1_snapshot 0 = .ok (.aload_n 0, 1) := by decide +kernel
theorem dX1_snapshot_1 : decode cX1_snapshot 1 = .ok (.getfield 35, 3) := by decide +kernel
theorem dX1_snapshot_4 : decode cX1_snapshot 4 = .ok (.ifCond .eq 22, 3) := by decide +kernel
theorem dX1_snapshot_7 : decode cX1_snapshot 7 = .ok (.iload_n 1, 1) := by decide +kernel
theorem dX1_snapshot_8 : decode cX1_snapshot 8 = .ok (.iload_n 2, 1) := by decide +kernel
theorem dX1_snapshot_9 : decode cX1_snapshot 9 = .ok (.invokestatic 41, 3) := by decide +kernel
theorem dX1_snapshot_12 : decode cX1_snapshot 12 = .ok (.ifCond .eq 14, 3) := by decide +kernel
theorem dX1_snapshot_15 : decode cX1_snapshot 15 = .ok (.aload_n 0, 1) := by decide +kernel
theorem dX1_snapshot_16 : decode cX1_snapshot 16 = .ok (.getfield 19, 3) := by decide +kernel
theorem dX1_snapshot_19 : decode cX1_snapshot 19 = .ok (.iload_n 2, 1) := by decide +kernel
theorem dX1_snapshot_20 : decode cX1_snapshot 20 = .ok (.invokevirtual 45, 3) := by decide +kernel
theorem dX1_snapshot_23 : decode cX1_snapshot 23 = .ok (.ifCond .ne 5, 3) := by decide +kernel
theorem dX1_snapshot_26 : decode cX1_snapshot 26 = .ok (.iconst (-1), 1) := by decide +kernel
theorem dX1_snapshot_27 : decode cX1_snapshot 27 = .ok (.ireturn, 1) := by decide +kernel
theorem dX1_snapshot_28 : decode cX1_snapshot 28 = .ok (.aload_n 0, 1) := by decide +kernel
theorem dX1_snapshot_29 : decode cX1_snapshot 29 = .ok (.iload_n 1, 1) := by decide +kernel
theorem dX1_snapshot_30 : decode cX1_snapshot 30 = .ok (.iload_n 2, 1) := by decide +kernel
theorem dX1_snapshot_31 : decode cX1_snapshot 31 = .ok (.invokevirtual 49, 3) := by decide +kernel
theorem dX1_snapshot_34 : decode cX1_snapshot 34 = .ok (.ifCond .eq 7, 3) := by decide +kernel
theorem dX1_snapshot_37 : decode cX1_snapshot 37 = .ok (.iconst 0, 1) := by decide +kernel
theorem dX1_snapshot_38 : decode cX1_snapshot 38 = .ok (.goto 5, 3) := by decide +kernel
theorem dX1_snapshot_41 : decode cX1_snapshot 41 = .ok (.bipush (-2), 2) := by decide +kernel
theorem dX1_snapshot_43 : decode cX1_snapshot 43 = .ok (.ireturn, 1) := by decide +kernel
set_option maxRecDepth 20000 in
theorem ggX1_store_X1_isWord : GoodIn wsX1_store wsX1_isWord := goodIn_r _ [7] (by decide +kernel) (by decide +kernel)
set_option maxRecDepth 20000 in
theorem gX1_store_X1_isWord : GoodIn wsX1_store (va_wsS RX1 52 yX1_isWord wsX1_isWord) := goodIn_app (goodIn_of _ (by decide +kernel)) ggX1_store_X1_isWord
set_option maxRecDepth 20000 in
theorem ggX1_store_X0_covers : GoodIn wsX1_store wsX0_covers := goodIn_r _ [12, 13, 14, 15, 59, 60, 61, 62, 63, 64, 65, 66] (by decide +kernel) (by decide +kernel)
set_option maxRecDepth 20000 in
theorem gX1_store_X0_covers : GoodIn wsX1_store (wsV RX1 55 RX0 yX0_covers wsX0_covers) := goodIn_app (goodIn_of _ (by decide +kernel)) ggX1_store_X0_covers
set_option maxRecDepth 20000 in
theorem ggX1_store_X1_lineOf : GoodIn wsX1_store wsX1_lineOf := goodIn_r _ [18] (by decide +kernel) (by decide +kernel)
set_option maxRecDepth 20000 in
theorem gX1_store_X1_lineOf : GoodIn wsX1_store (va_wsS RX1 58 yX1_lineOf wsX1_lineOf) := goodIn_app (goodIn_of _ (by decide +kernel)) ggX1_store_X1_lineOf
set_option maxRecDepth 20000 in
theorem ggX1_store_X1_storeValue : GoodIn wsX1_store wsX1_storeValue := goodIn_r _ [22, 23, 24, 25, 26, 6, 27, 28, 29, 30, 31, 32, 33, 34, 35, 2, 36, 1, 37, 38, 39, 40, 41, 42, 43, 11, 44, 45, 13, 46, 47, 48, 49, 50, 51, 52, 53, 54, 55, 56, 57, 58, 59, 60, 61, 62, 63, 64, 65, 66] (by decide +kernel) (by decide +kernel)
set_option maxRecDepth 20000 in
theorem gX1_store_X1_storeValue : GoodIn wsX1_store (wsV RX1 62 RX1 yX1_storeValue wsX1_storeValue) := goodIn_app (goodIn_of _ (by decide +kernel)) ggX1_store_X1_storeValue
theorem dX1_store_0 : decode cX1_store 0 = .ok (.aload_n 0, 1) := by decide +kernel
theorem dX1_store_1 : decode cX1_store 1 = .ok (.getfield 35, 3) := by decide +kernel
theorem dX1_store_4 : decode cX1_store 4 = .ok (.ifCond .eq 21, 3) := by decide +kernel
theorem dX1_store_7 : decode cX1_store 7 = .ok (.iload_n 1, 1) := by decide +kernel
theorem dX1_store_8 : decode cX1_store 8 = .ok (.invokestatic 52, 3) := by decide +kernel
theorem dX1_store_11 : decode cX1_store 11 = .ok (.ifCond .eq 14, 3) := by decide +kernel
theorem dX1_store_14 : decode cX1_store 14 = .ok (.aload_n 0, 1) := by decide +kernel
theorem dX1_store_15 : decode cX1_store 15 = .ok (.getfield 19, 3) := by decide +kernel
theorem dX1_store_18 : decode cX1_store 18 = .ok (.iload_n 1, 1) := by decide +kernel
theorem dX1_store_19 : decode cX1_store 19 = .ok (.invokevirtual 55, 3) := by decide +kernel
theorem dX1_store_22 : decode cX1_store 22 = .ok (.ifCond .ne 5, 3) := by decide +kernel
theorem dX1_store_25 : decode cX1_store 25 = .ok (.iconst (-1), 1) := by decide +kernel
theorem dX1_store_26 : decode cX1_store 26 = .ok (.ireturn, 1) := by decide +kernel
theorem dX1_store_27 : decode cX1_store 27 = .ok (.aload_n 0, 1) := by decide +kernel
theorem dX1_store_28 : decode cX1_store 28 = .ok (.dup, 1) := by decide +kernel
theorem dX1_store_29 : decode cX1_store 29 = .ok (.getfield 38, 3) := by decide +kernel
theorem dX1_store_32 : decode cX1_store 32 = .ok (.iconst 1, 1) := by decide +kernel
theorem dX1_store_33 : decode cX1_store 33 = .ok (.iload_n 1, 1) := by decide +kernel
theorem dX1_store_34 : decode cX1_store 34 = .ok (.invokestatic 58, 3) := by decide +kernel
theorem dX1_store_37 : decode cX1_store 37 = .ok (.ishl, 1) := by decide +kernel
theorem dX1_store_38 : decode cX1_store 38 = .ok (.ior, 1) := by decide +kernel
theorem dX1_store_39 : decode cX1_store 39 = .ok (.putfield 38, 3) := by decide +kernel
theorem dX1_store_42 : decode cX1_store 42 = .ok (.aload_n 0, 1) := by decide +kernel
theorem dX1_store_43 : decode cX1_store 43 = .ok (.iload_n 1, 1) := by decide +kernel
theorem dX1_store_44 : decode cX1_store 44 = .ok (.lload_n 2, 1) := by decide +kernel
theorem dX1_store_45 : decode cX1_store 45 = .ok (.invokevirtual 62, 3) := by decide +kernel
theorem dX1_store_48 : decode cX1_store 48 = .ok (.ifCond .eq 7, 3) := by decide +kernel
theorem dX1_store_51 : decode cX1_store 51 = .ok (.iconst 0, 1) := by decide +kernel
theorem dX1_store_52 : decode cX1_store 52 = .ok (.goto 5, 3) := by decide +kernel
theorem dX1_store_55 : decode cX1_store 55 = .ok (.bipush (-2), 2) := by decide +kernel
theorem dX1_store_57 : decode cX1_store 57 = .ok (.ireturn, 1) := by decide +kernel
set_option maxRecDepth 20000 in
theorem ggX1_commit_X1_keepLines : GoodIn wsX1_commit wsX1_keepLines := goodIn_r _ [7, 8, 9, 6, 10, 11, 12, 13, 14, 15, 16, 17, 18, 19, 20, 21, 22, 23, 24, 25, 26, 27, 28, 29, 30, 1, 31, 32, 33, 34, 35, 36, 37, 38, 39, 40, 41, 42, 43, 44, 45, 46, 47, 64, 65, 66, 67, 68, 69, 70, 71, 72, 73, 74, 75, 76, 77, 78, 79, 80, 81] (by decide +kernel) (by decide +kernel)
set_option maxRecDepth 20000 in
theorem gX1_commit_X1_keepLines : GoodIn wsX1_commit (wsV RX1 66 RX1 yX1_keepLines wsX1_keepLines) := goodIn_app (goodIn_of _ (by decide +kernel)) ggX1_commit_X1_keepLines
set_option maxRecDepth 20000 in
theorem ggX1_commit_X1_clearLog : GoodIn wsX1_commit wsX1_clearLog := goodIn_r _ [51, 29, 52, 53, 54, 34, 55, 40, 56, 57, 58, 6, 59, 16, 17, 18, 19, 20, 21, 22, 23, 24, 25, 26, 27, 28, 30, 1, 15, 8, 9, 10, 31, 32, 33, 35, 36, 37, 38, 39, 60, 61, 62, 63, 41, 42, 43, 44, 45, 46, 47, 64, 65, 66, 67, 68, 69, 70, 71, 72, 73, 74, 75, 76, 77, 78, 79, 80, 81] (by decide +kernel) (by decide +kernel)
set_option maxRecDepth 20000 in
theorem gX1_commit_X1_clearLog : GoodIn wsX1_commit (wsV RX1 69 RX1 yX1_clearLog wsX1_clearLog) := goodIn_app (goodIn_of _ (by decide +kernel)) ggX1_commit_X1_clearLog
theorem dX1_commit_0 : decode cX1_commit 0 = .ok (.aload_n 0, 1) := by decide +kernel
theorem dX1_commit_1 : decode cX1_commit 1 = .ok (.getfield 35, 3) := by decide +kernel
theorem dX1_commit_4 : decode cX1_commit 4 = .ok (.ifCond .ne 5, 3) := by decide +kernel
theorem dX1_commit_7 : decode cX1_commit 7 = .ok (.iconst (-1), 1) := by decide +kernel
theorem dX1_commit_8 : decode cX1_commit 8 = .ok (.ireturn, 1) := by decide +kernel
theorem dX1_commit_9 : decode cX1_commit 9 = .ok (.aload_n 0, 1) := by decide +kernel
theorem dX1_commit_10 : decode cX1_commit 10 = .ok (.aload_n 0, 1) := by decide +kernel
theorem dX1_commit_11 : decode cX1_commit 11 = .ok (.getfield 38, 3) := by decide +kernel
theorem dX1_commit_14 : decode cX1_commit 14 = .ok (.invokevirtual 66, 3) := by decide +kernel
theorem dX1_commit_17 : decode cX1_commit 17 = .ok (.ifCond .eq 10, 3) := by decide +kernel
theorem dX1_commit_20 : decode cX1_commit 20 = .ok (.aload_n 0, 1) := by decide +kernel
theorem dX1_commit_21 : decode cX1_commit 21 = .ok (.invokevirtual 69, 3) := by decide +kernel
theorem dX1_commit_24 : decode cX1_commit 24 = .ok (.ifCond .ne 6, 3) := by decide +kernel
theorem dX1_commit_27 : decode cX1_commit 27 = .ok (.bipush (-2), 2) := by decide +kernel
theorem dX1_commit_29 : decode cX1_commit 29 = .ok (.ireturn, 1) := by decide +kernel
theorem dX1_commit_30 : decode cX1_commit 30 = .ok (.aload_n 0, 1) := by decide +kernel
theorem dX1_commit_31 : decode cX1_commit 31 = .ok (.iconst 0, 1) := by decide +kernel
theorem dX1_commit_32 : decode cX1_commit 32 = .ok (.putfield 35, 3) := by decide +kernel
theorem dX1_commit_35 : decode cX1_commit 35 = .ok (.iconst 0, 1) := by decide +kernel
theorem dX1_commit_36 : decode cX1_commit 36 = .ok (.ireturn, 1) := by decide +kernel
set_option maxRecDepth 20000 in
theorem ggX1_abort_X1_undo : GoodIn wsX1_abort wsX1_undo := goodIn_r _ [6, 7, 8, 9, 10, 5, 11, 12, 13, 14, 15, 16, 17, 18, 19, 20, 21, 22, 23, 24, 25, 26, 27, 28, 29, 30, 31, 32, 33, 34, 35, 36, 1, 37, 38, 39, 40, 41, 42, 43, 44, 45, 46, 47, 48, 49, 50, 51, 52, 53, 54, 55, 56, 57, 58, 59, 60, 61, 62, 63, 64, 65, 66, 67, 68, 69, 70, 71, 72, 73, 74, 75, 76, 77, 78, 79, 80, 81, 82, 83, 84, 85, 86, 87, 88, 89, 90, 91, 92, 93, 94, 95, 96, 97, 98, 99, 100, 101, 102, 103] (by decide +kernel) (by decide +kernel)
set_option maxRecDepth 20000 in
theorem gX1_abort_X1_undo : GoodIn wsX1_abort (wsV RX1 73 RX1 yX1_undo wsX1_undo) := goodIn_app (goodIn_of _ (by decide +kernel)) ggX1_abort_X1_undo
theorem dX1_abort_0 : decode cX1_abort 0 = .ok (.aload_n 0, 1) := by decide +kernel
theorem dX1_abort_1 : decode cX1_abort 1 = .ok (.getfield 35, 3) := by decide +kernel
theorem dX1_abort_4 : decode cX1_abort 4 = .ok (.ifCond .ne 5, 3) := by decide +kernel
theorem dX1_abort_7 : decode cX1_abort 7 = .ok (.iconst (-1), 1) := by decide +kernel
theorem dX1_abort_8 : decode cX1_abort 8 = .ok (.ireturn, 1) := by decide +kernel
theorem dX1_abort_9 : decode cX1_abort 9 = .ok (.aload_n 0, 1) := by decide +kernel
theorem dX1_abort_10 : decode cX1_abort 10 = .ok (.invokevirtual 73, 3) := by decide +kernel
theorem dX1_abort_13 : decode cX1_abort 13 = .ok (.ifCond .ne 6, 3) := by decide +kernel
theorem dX1_abort_16 : decode cX1_abort 16 = .ok (.bipush (-2), 2) := by decide +kernel
theorem dX1_abort_18 : decode cX1_abort 18 = .ok (.ireturn, 1) := by decide +kernel
theorem dX1_abort_19 : decode cX1_abort 19 = .ok (.aload_n 0, 1) := by decide +kernel
theorem dX1_abort_20 : decode cX1_abort 20 = .ok (.iconst 0, 1) := by decide +kernel
theorem dX1_abort_21 : decode cX1_abort 21 = .ok (.putfield 35, 3) := by decide +kernel
theorem dX1_abort_24 : decode cX1_abort 24 = .ok (.iconst 0, 1) := by decide +kernel
theorem dX1_abort_25 : decode cX1_abort 25 = .ok (.ireturn, 1) := by decide +kernel
set_option maxRecDepth 20000 in
theorem ggX1_recover_X1_undo : GoodIn wsX1_recover wsX1_undo := goodIn_r _ [12, 13, 14, 15, 16, 11, 17, 18, 19, 20, 21, 22, 23, 24, 25, 26, 27, 28, 3, 29, 30, 31, 32, 33, 34, 35, 36, 37, 38, 39, 2, 1, 40, 41, 42, 43, 44, 45, 46, 47, 48, 49, 50, 51, 52, 53, 54, 55, 56, 57, 58, 59, 60, 61, 62, 63, 64, 65, 66, 67, 68, 69, 70, 71, 72, 73, 74, 75, 76, 77, 78, 79, 80, 81, 82, 83, 84, 85, 86, 87, 88, 89, 90, 91, 92, 93, 94, 95, 96, 97, 98, 99, 100, 101, 102, 103, 104, 105, 106, 107] (by decide +kernel) (by decide +kernel)
set_option maxRecDepth 20000 in
theorem gX1_recover_X1_undo : GoodIn wsX1_recover (wsV RX1 73 RX1 yX1_undo wsX1_undo) := goodIn_app (goodIn_of _ (by decide +kernel)) ggX1_recover_X1_undo
theorem dX1_recover_0 : decode cX1_recover 0 = .ok (.aload_n 0, 1) := by decide +kernel
theorem dX1_recover_1 : decode cX1_recover 1 = .ok (.getfield 23, 3) := by decide +kernel
theorem dX1_recover_4 : decode cX1_recover 4 = .ok (.ifCond .eq 5, 3) := by decide +kernel
theorem dX1_recover_7 : decode cX1_recover 7 = .ok (.iconst (-1), 1) := by decide +kernel
theorem dX1_recover_8 : decode cX1_recover 8 = .ok (.ireturn, 1) := by decide +kernel
theorem dX1_recover_9 : decode cX1_recover 9 = .ok (.aload_n 0, 1) := by decide +kernel
theorem dX1_recover_10 : decode cX1_recover 10 = .ok (.iconst 1, 1) := by decide +kernel
theorem dX1_recover_11 : decode cX1_recover 11 = .ok (.putfield 23, 3) := by decide +kernel
theorem dX1_recover_14 : decode cX1_recover 14 = .ok (.aload_n 0, 1) := by decide +kernel
theorem dX1_recover_15 : decode cX1_recover 15 = .ok (.getfield 13, 3) := by decide +kernel
theorem dX1_recover_18 : decode cX1_recover 18 = .ok (.iconst 0, 1) := by decide +kernel
theorem dX1_recover_19 : decode cX1_recover 19 = .ok (.aload_n 0, 1) := by decide +kernel
theorem dX1_recover_20 : decode cX1_recover 20 = .ok (.getfield 9, 3) := by decide +kernel
theorem dX1_recover_23 : decode cX1_recover 23 = .ok (.iconst 0, 1) := by decide +kernel
theorem dX1_recover_24 : decode cX1_recover 24 = .ok (.bipush 32, 2) := by decide +kernel
theorem dX1_recover_26 : decode cX1_recover 26 = .ok (.invokestatic 76, 3) := by decide +kernel
theorem dX1_recover_29 : decode cX1_recover 29 = .ok (.aload_n 0, 1) := by decide +kernel
theorem dX1_recover_30 : decode cX1_recover 30 = .ok (.invokevirtual 73, 3) := by decide +kernel
theorem dX1_recover_33 : decode cX1_recover 33 = .ok (.ifCond .eq 7, 3) := by decide +kernel
theorem dX1_recover_36 : decode cX1_recover 36 = .ok (.iconst 0, 1) := by decide +kernel
theorem dX1_recover_37 : decode cX1_recover 37 = .ok (.goto 5, 3) := by decide +kernel
theorem dX1_recover_40 : decode cX1_recover 40 = .ok (.bipush (-2), 2) := by decide +kernel
theorem dX1_recover_42 : decode cX1_recover 42 = .ok (.ireturn, 1) := by decide +kernel
theorem dX1_on_0 : decode cX1_on 0 = .ok (.aload_n 0, 1) := by decide +kernel
theorem dX1_on_1 : decode cX1_on 1 = .ok (.getfield 23, 3) := by decide +kernel
theorem dX1_on_4 : decode cX1_on 4 = .ok (.ireturn, 1) := by decide +kernel
theorem dX1_open_0 : decode cX1_open 0 = .ok (.aload_n 0, 1) := by decide +kernel
theorem dX1_open_1 : decode cX1_open 1 = .ok (.getfield 35, 3) := by decide +kernel
theorem dX1_open_4 : decode cX1_open 4 = .ok (.ireturn, 1) := by decide +kernel
set_option maxRecDepth 20000 in
theorem ggX1_seen_X1_isWord : GoodIn wsX1_seen wsX1_isWord := goodIn_r _ [6] (by decide +kernel) (by decide +kernel)
set_option maxRecDepth 20000 in
theorem gX1_seen_X1_isWord : GoodIn wsX1_seen (va_wsS RX1 52 yX1_isWord wsX1_isWord) := goodIn_app (goodIn_of _ (by decide +kernel)) ggX1_seen_X1_isWord
theorem dX1_seen_0 : decode cX1_seen 0 = .ok (.aload_n 0, 1) := by decide +kernel
theorem dX1_seen_1 : decode cX1_seen 1 = .ok (.getfield 23, 3) := by decide +kernel
theorem dX1_seen_4 : decode cX1_seen 4 = .ok (.ifCond .eq 19, 3) := by decide +kernel
theorem dX1_seen_7 : decode cX1_seen 7 = .ok (.iload_n 1, 1) := by decide +kernel
theorem dX1_seen_8 : decode cX1_seen 8 = .ok (.invokestatic 52, 3) := by decide +kernel
theorem dX1_seen_11 : decode cX1_seen 11 = .ok (.ifCond .eq 12, 3) := by decide +kernel
theorem dX1_seen_14 : decode cX1_seen 14 = .ok (.aload_n 0, 1) := by decide +kernel
theorem dX1_seen_15 : decode cX1_seen 15 = .ok (.getfield 9, 3) := by decide +kernel
theorem dX1_seen_18 : decode cX1_seen 18 = .ok (.iload_n 1, 1) := by decide +kernel
theorem dX1_seen_19 : decode cX1_seen 19 = .ok (.laload, 1) := by decide +kernel
theorem dX1_seen_20 : decode cX1_seen 20 = .ok (.goto 4, 3) := by decide +kernel
theorem dX1_seen_23 : decode cX1_seen 23 = .ok (.lconst 0, 1) := by decide +kernel
theorem dX1_seen_24 : decode cX1_seen 24 = .ok (.lreturn, 1) := by decide +kernel
set_option maxRecDepth 20000 in
theorem ggX1_kept_X1_isWord : GoodIn wsX1_kept wsX1_isWord := goodIn_r _ [5] (by decide +kernel) (by decide +kernel)
set_option maxRecDepth 20000 in
theorem gX1_kept_X1_isWord : GoodIn wsX1_kept (va_wsS RX1 52 yX1_isWord wsX1_isWord) := goodIn_app (goodIn_of _ (by decide +kernel)) ggX1_kept_X1_isWord
theorem dX1_kept_0 : decode cX1_kept 0 = .ok (.iload_n 1, 1) := by decide +kernel
theorem dX1_kept_1 : decode cX1_kept 1 = .ok (.invokestatic 52, 3) := by decide +kernel
theorem dX1_kept_4 : decode cX1_kept 4 = .ok (.ifCond .eq 12, 3) := by decide +kernel
theorem dX1_kept_7 : decode cX1_kept 7 = .ok (.aload_n 0, 1) := by decide +kernel
theorem dX1_kept_8 : decode cX1_kept 8 = .ok (.getfield 13, 3) := by decide +kernel
theorem dX1_kept_11 : decode cX1_kept 11 = .ok (.iload_n 1, 1) := by decide +kernel
theorem dX1_kept_12 : decode cX1_kept 12 = .ok (.laload, 1) := by decide +kernel
theorem dX1_kept_13 : decode cX1_kept 13 = .ok (.goto 4, 3) := by decide +kernel
theorem dX1_kept_16 : decode cX1_kept 16 = .ok (.lconst 0, 1) := by decide +kernel
theorem dX1_kept_17 : decode cX1_kept 17 = .ok (.lreturn, 1) := by decide +kernel
theorem dX1_records_0 : decode cX1_records 0 = .ok (.aload_n 0, 1) := by decide +kernel
theorem dX1_records_1 : decode cX1_records 1 = .ok (.getfield 19, 3) := by decide +kernel
theorem dX1_records_4 : decode cX1_records 4 = .ok (.getfield 82, 3) := by decide +kernel
theorem dX1_records_7 : decode cX1_records 7 = .ok (.ireturn, 1) := by decide +kernel
theorem dX1_taken_0 : decode cX1_taken 0 = .ok (.aload_n 0, 1) := by decide +kernel
theorem dX1_taken_1 : decode cX1_taken 1 = .ok (.getfield 19, 3) := by decide +kernel
theorem dX1_taken_4 : decode cX1_taken 4 = .ok (.getfield 85, 3) := by decide +kernel
theorem dX1_taken_7 : decode cX1_taken 7 = .ok (.ireturn, 1) := by decide +kernel
theorem dX1_meter_0 : decode cX1_meter 0 = .ok (.aload_n 0, 1) := by decide +kernel
theorem dX1_meter_1 : decode cX1_meter 1 = .ok (.getfield 88, 3) := by decide +kernel
theorem dX1_meter_4 : decode cX1_meter 4 = .ok (.ireturn, 1) := by decide +kernel
theorem dX1_isWord_0 : decode cX1_isWord 0 = .ok (.iload_n 0, 1) := by decide +kernel
theorem dX1_isWord_1 : decode cX1_isWord 1 = .ok (.ifCond .lt 13, 3) := by decide +kernel
theorem dX1_isWord_4 : decode cX1_isWord 4 = .ok (.iload_n 0, 1) := by decide +kernel
theorem dX1_isWord_5 : decode cX1_isWord 5 = .ok (.bipush 32, 2) := by decide +kernel
theorem dX1_isWord_7 : decode cX1_isWord 7 = .ok (.if_icmp .ge 7, 3) := by decide +kernel
theorem dX1_isWord_10 : decode cX1_isWord 10 = .ok (.iconst 1, 1) := by decide +kernel
theorem dX1_isWord_11 : decode cX1_isWord 11 = .ok (.goto 4, 3) := by decide +kernel
theorem dX1_isWord_14 : decode cX1_isWord 14 = .ok (.iconst 0, 1) := by decide +kernel
theorem dX1_isWord_15 : decode cX1_isWord 15 = .ok (.ireturn, 1) := by decide +kernel
theorem dX1_areWords_0 : decode cX1_areWords 0 = .ok (.iload_n 1, 1) := by decide +kernel
theorem dX1_areWords_1 : decode cX1_areWords 1 = .ok (.iconst 1, 1) := by decide +kernel
theorem dX1_areWords_2 : decode cX1_areWords 2 = .ok (.if_icmp .lt 25, 3) := by decide +kernel
theorem dX1_areWords_5 : decode cX1_areWords 5 = .ok (.iload_n 1, 1) := by decide +kernel
theorem dX1_areWords_6 : decode cX1_areWords 6 = .ok (.bipush 8, 2) := by decide +kernel
theorem dX1_areWords_8 : decode cX1_areWords 8 = .ok (.if_icmp .gt 19, 3) := by decide +kernel
theorem dX1_areWords_11 : decode cX1_areWords 11 = .ok (.iload_n 0, 1) := by decide +kernel
theorem dX1_areWords_12 : decode cX1_areWords 12 = .ok (.ifCond .lt 15, 3) := by decide +kernel
theorem dX1_areWords_15 : decode cX1_areWords 15 = .ok (.iload_n 0, 1) := by decide +kernel
theorem dX1_areWords_16 : decode cX1_areWords 16 = .ok (.bipush 32, 2) := by decide +kernel
theorem dX1_areWords_18 : decode cX1_areWords 18 = .ok (.iload_n 1, 1) := by decide +kernel
theorem dX1_areWords_19 : decode cX1_areWords 19 = .ok (.isub, 1) := by decide +kernel
theorem dX1_areWords_20 : decode cX1_areWords 20 = .ok (.if_icmp .gt 7, 3) := by decide +kernel
theorem dX1_areWords_23 : decode cX1_areWords 23 = .ok (.iconst 1, 1) := by decide +kernel
theorem dX1_areWords_24 : decode cX1_areWords 24 = .ok (.goto 4, 3) := by decide +kernel
theorem dX1_areWords_27 : decode cX1_areWords 27 = .ok (.iconst 0, 1) := by decide +kernel
theorem dX1_areWords_28 : decode cX1_areWords 28 = .ok (.ireturn, 1) := by decide +kernel
theorem dX1_lineOf_0 : decode cX1_lineOf 0 = .ok (.iload_n 0, 1) := by decide +kernel
theorem dX1_lineOf_1 : decode cX1_lineOf 1 = .ok (.bipush 8, 2) := by decide +kernel
theorem dX1_lineOf_3 : decode cX1_lineOf 3 = .ok (.idiv, 1) := by decide +kernel
theorem dX1_lineOf_4 : decode cX1_lineOf 4 = .ok (.ireturn, 1) := by decide +kernel
theorem dX1_hasBit_0 : decode cX1_hasBit 0 = .ok (.lload_n 0, 1) := by decide +kernel
theorem dX1_hasBit_1 : decode cX1_hasBit 1 = .ok (.iload_n 2, 1) := by decide +kernel
theorem dX1_hasBit_2 : decode cX1_hasBit 2 = .ok (.lushr, 1) := by decide +kernel
theorem dX1_hasBit_3 : decode cX1_hasBit 3 = .ok (.lconst 1, 1) := by decide +kernel
theorem dX1_hasBit_4 : decode cX1_hasBit 4 = .ok (.land, 1) := by decide +kernel
theorem dX1_hasBit_5 : decode cX1_hasBit 5 = .ok (.lconst 0, 1) := by decide +kernel
theorem dX1_hasBit_6 : decode cX1_hasBit 6 = .ok (.lcmp, 1) := by decide +kernel
theorem dX1_hasBit_7 : decode cX1_hasBit 7 = .ok (.ifCond .eq 7, 3) := by decide +kernel
theorem dX1_hasBit_10 : decode cX1_hasBit 10 = .ok (.iconst 1, 1) := by decide +kernel
theorem dX1_hasBit_11 : decode cX1_hasBit 11 = .ok (.goto 4, 3) := by decide +kernel
theorem dX1_hasBit_14 : decode cX1_hasBit 14 = .ok (.iconst 0, 1) := by decide +kernel
theorem dX1_hasBit_15 : decode cX1_hasBit 15 = .ok (.ireturn, 1) := by decide +kernel
set_option maxRecDepth 20000 in
theorem ggX1_append_X1_doPlainActs : GoodIn wsX1_append wsX1_doPlainActs := goodIn_r _ [7, 8, 9, 10, 6, 11, 12, 13, 14, 15, 16, 17, 18, 19, 2, 1, 20, 21, 22, 23, 24, 25, 26, 27, 28, 29, 30, 31, 32, 33, 34, 35, 58, 59, 60, 61, 62, 63, 64, 65, 66, 67, 68, 69, 70, 71, 72, 73, 74, 75] (by decide +kernel) (by decide +kernel)
set_option maxRecDepth 20000 in
theorem gX1_append_X1_doPlainActs : GoodIn wsX1_append (wsV RX1 91 RX1 yX1_doPlainActs wsX1_doPlainActs) := goodIn_app (goodIn_of _ (by decide +kernel)) ggX1_append_X1_doPlainActs
set_option maxRecDepth 20000 in
theorem ggX1_append_X0_write : GoodIn wsX1_append wsX0_write := goodIn_r _ [39, 40, 32, 41, 33, 34, 42, 43, 44, 45, 46, 31, 68, 69, 70, 71, 72, 73, 74, 75] (by decide +kernel) (by decide +kernel)
set_option maxRecDepth 20000 in
theorem gX1_append_X0_write : GoodIn wsX1_append (wsV RX1 94 RX0 yX0_write wsX0_write) := goodIn_app (goodIn_of _ (by decide +kernel)) ggX1_append_X0_write
set_option maxRecDepth 20000 in
theorem ggX1_append_X0_keepNewest : GoodIn wsX1_append wsX0_keepNewest := goodIn_r _ [50, 31, 68, 69, 70, 71, 72, 73, 74, 75] (by decide +kernel) (by decide +kernel)
set_option maxRecDepth 20000 in
theorem gX1_append_X0_keepNewest : GoodIn wsX1_append (wsV RX1 98 RX0 yX0_keepNewest wsX0_keepNewest) := goodIn_app (goodIn_of _ (by decide +kernel)) ggX1_append_X0_keepNewest
set_option maxRecDepth 20000 in
theorem ggX1_append_X1_fence : GoodIn wsX1_append wsX1_fence := goodIn_r _ [54, 22, 19, 2, 55, 56, 6, 57, 23, 24, 25, 8, 9, 10, 11, 12, 13, 14, 15, 16, 17, 18, 1, 20, 21, 26, 27, 28, 29, 30, 31, 32, 33, 34, 35, 58, 59, 60, 61, 62, 63, 64, 65, 66, 67, 68, 69, 70, 71, 72, 73, 74, 75] (by decide +kernel) (by decide +kernel)
set_option maxRecDepth 20000 in
theorem gX1_append_X1_fence : GoodIn wsX1_append (wsV RX1 101 RX1 yX1_fence wsX1_fence) := goodIn_app (goodIn_of _ (by decide +kernel)) ggX1_append_X1_fence
theorem dX1_append_0 : decode cX1_append 0 = .ok (.aload_n 0, 1) := by decide +kernel
theorem dX1_append_1 : decode cX1_append 1 = .ok (.iload_n 2, 1) := by decide +kernel
theorem dX1_append_2 : decode cX1_append 2 = .ok (.iconst 1, 1) := by decide +kernel
theorem dX1_append_3 : decode cX1_append 3 = .ok (.iadd, 1) := by decide +kernel
theorem dX1_append_4 : decode cX1_append 4 = .ok (.invokevirtual 91, 3) := by decide +kernel
theorem dX1_append_7 : decode cX1_append 7 = .ok (.ifCond .ne 5, 3) := by decide +kernel
theorem dX1_append_10 : decode cX1_append 10 = .ok (.iconst 0, 1) := by decide +kernel
theorem dX1_append_11 : decode cX1_append 11 = .ok (.ireturn, 1) := by decide +kernel
theorem dX1_append_12 : decode cX1_append 12 = .ok (.aload_n 0, 1) := by decide +kernel
theorem dX1_append_13 : decode cX1_append 13 = .ok (.getfield 19, 3) := by decide +kernel
theorem dX1_append_16 : decode cX1_append 16 = .ok (.iload_n 1, 1) := by decide +kernel
theorem dX1_append_17 : decode cX1_append 17 = .ok (.iload_n 2, 1) := by decide +kernel
theorem dX1_append_18 : decode cX1_append 18 = .ok (.aload_n 0, 1) := by decide +kernel
theorem dX1_append_19 : decode cX1_append 19 = .ok (.getfield 9, 3) := by decide +kernel
theorem dX1_append_22 : decode cX1_append 22 = .ok (.invokevirtual 94, 3) := by decide +kernel
theorem dX1_append_25 : decode cX1_append 25 = .ok (.aload_n 0, 1) := by decide +kernel
theorem dX1_append_26 : decode cX1_append 26 = .ok (.iconst 2, 1) := by decide +kernel
theorem dX1_append_27 : decode cX1_append 27 = .ok (.invokevirtual 91, 3) := by decide +kernel
theorem dX1_append_30 : decode cX1_append 30 = .ok (.ifCond .ne 5, 3) := by decide +kernel
theorem dX1_append_33 : decode cX1_append 33 = .ok (.iconst 0, 1) := by decide +kernel
theorem dX1_append_34 : decode cX1_append 34 = .ok (.ireturn, 1) := by decide +kernel
theorem dX1_append_35 : decode cX1_append 35 = .ok (.aload_n 0, 1) := by decide +kernel
theorem dX1_append_36 : decode cX1_append 36 = .ok (.getfield 19, 3) := by decide +kernel
theorem dX1_append_39 : decode cX1_append 39 = .ok (.invokevirtual 98, 3) := by decide +kernel
theorem dX1_append_42 : decode cX1_append 42 = .ok (.aload_n 0, 1) := by decide +kernel
theorem dX1_append_43 : decode cX1_append 43 = .ok (.invokevirtual 101, 3) := by decide +kernel
theorem dX1_append_46 : decode cX1_append 46 = .ok (.ireturn, 1) := by decide +kernel
set_option maxRecDepth 20000 in
theorem ggX1_clearLog_X0_crossOut : GoodIn wsX1_clearLog wsX0_crossOut := goodIn_r _ [6, 7, 61, 62, 63, 64, 65, 66, 67, 68] (by decide +kernel) (by decide +kernel)
set_option maxRecDepth 20000 in
theorem gX1_clearLog_X0_crossOut : GoodIn wsX1_clearLog (wsV RX1 104 RX0 yX0_crossOut wsX0_crossOut) := goodIn_app (goodIn_of _ (by decide +kernel)) ggX1_clearLog_X0_crossOut
set_option maxRecDepth 20000 in
theorem ggX1_clearLog_X1_doPlainActs : GoodIn wsX1_clearLog wsX1_doPlainActs := goodIn_r _ [12, 13, 14, 15, 11, 16, 17, 18, 19, 20, 21, 22, 23, 24, 25, 1, 26, 27, 28, 29, 30, 31, 32, 33, 34, 5, 35, 36, 37, 38, 39, 7, 51, 52, 53, 54, 55, 56, 57, 58, 59, 60, 61, 62, 63, 64, 65, 66, 67, 68] (by decide +kernel) (by decide +kernel)
set_option maxRecDepth 20000 in
theorem gX1_clearLog_X1_doPlainActs : GoodIn wsX1_clearLog (wsV RX1 91 RX1 yX1_doPlainActs wsX1_doPlainActs) := goodIn_app (goodIn_of _ (by decide +kernel)) ggX1_clearLog_X1_doPlainActs
set_option maxRecDepth 20000 in
theorem ggX1_clearLog_X0_dropAll : GoodIn wsX1_clearLog wsX0_dropAll := goodIn_r _ [43, 37, 39, 7, 61, 62, 63, 64, 65, 66, 67, 68] (by decide +kernel) (by decide +kernel)
set_option maxRecDepth 20000 in
theorem gX1_clearLog_X0_dropAll : GoodIn wsX1_clearLog (wsV RX1 107 RX0 yX0_dropAll wsX0_dropAll) := goodIn_app (goodIn_of _ (by decide +kernel)) ggX1_clearLog_X0_dropAll
set_option maxRecDepth 20000 in
theorem ggX1_clearLog_X1_fence : GoodIn wsX1_clearLog wsX1_fence := goodIn_r _ [47, 28, 24, 25, 48, 49, 11, 50, 29, 30, 31, 13, 14, 15, 16, 17, 18, 19, 20, 21, 22, 23, 1, 26, 27, 32, 33, 34, 5, 35, 36, 37, 38, 39, 7, 51, 52, 53, 54, 55, 56, 57, 58, 59, 60, 61, 62, 63, 64, 65, 66, 67, 68] (by decide +kernel) (by decide +kernel)
set_option maxRecDepth 20000 in
theorem gX1_clearLog_X1_fence : GoodIn wsX1_clearLog (wsV RX1 101 RX1 yX1_fence wsX1_fence) := goodIn_app (goodIn_of _ (by decide +kernel)) ggX1_clearLog_X1_fence
theorem dX1_clearLog_0 : decode cX1_clearLog 0 = .ok (.aload_n 0, 1) := by decide +kernel
theorem dX1_clearLog_1 : decode cX1_clearLog 1 = .ok (.getfield 19, 3) := by decide +kernel
theorem dX1_clearLog_4 : decode cX1_clearLog 4 = .ok (.getfield 82, 3) := by decide +kernel
theorem dX1_clearLog_7 : decode cX1_clearLog 7 = .ok (.ifCond .ne 5, 3) := by decide +kernel
theorem dX1_clearLog_10 : decode cX1_clearLog 10 = .ok (.iconst 1, 1) := by decide +kernel
theorem dX1_clearLog_11 : decode cX1_clearLog 11 = .ok (.ireturn, 1) := by decide +kernel
theorem dX1_clearLog_12 : decode cX1_clearLog 12 = .ok (.aload_n 0, 1) := by decide +kernel
theorem dX1_clearLog_13 : decode cX1_clearLog 13 = .ok (.getfield 19, 3) := by decide +kernel
theorem dX1_clearLog_16 : decode cX1_clearLog 16 = .ok (.invokevirtual 104, 3) := by decide +kernel
theorem dX1_clearLog_19 : decode cX1_clearLog 19 = .ok (.aload_n 0, 1) := by decide +kernel
theorem dX1_clearLog_20 : decode cX1_clearLog 20 = .ok (.iconst 2, 1) := by decide +kernel
theorem dX1_clearLog_21 : decode cX1_clearLog 21 = .ok (.invokevirtual 91, 3) := by decide +kernel
theorem dX1_clearLog_24 : decode cX1_clearLog 24 = .ok (.ifCond .ne 5, 3) := by decide +kernel
theorem dX1_clearLog_27 : decode cX1_clearLog 27 = .ok (.iconst 0, 1) := by decide +kernel
theorem dX1_clearLog_28 : decode cX1_clearLog 28 = .ok (.ireturn, 1) := by decide +kernel
theorem dX1_clearLog_29 : decode cX1_clearLog 29 = .ok (.aload_n 0, 1) := by decide +kernel
theorem dX1_clearLog_30 : decode cX1_clearLog 30 = .ok (.getfield 19, 3) := by decide +kernel
theorem dX1_clearLog_33 : decode cX1_clearLog 33 = .ok (.invokevirtual 107, 3) := by decide +kernel
theorem dX1_clearLog_36 : decode cX1_clearLog 36 = .ok (.aload_n 0, 1) := by decide +kernel
theorem dX1_clearLog_37 : decode cX1_clearLog 37 = .ok (.invokevirtual 101, 3) := by decide +kernel
theorem dX1_clearLog_40 : decode cX1_clearLog 40 = .ok (.ireturn, 1) := by decide +kernel
set_option maxRecDepth 20000 in
theorem ggX1_undo_X1_storeOldValues : GoodIn wsX1_undo wsX1_storeOldValues := goodIn_r _ [6, 1, 7, 8, 9, 10, 11, 12, 13, 14, 15, 16, 5, 17, 18, 19, 20, 21, 22, 23, 24, 25, 26, 27, 28, 29, 30, 31, 32, 33, 34, 35, 36, 37, 38, 39, 40, 41, 42, 43, 44, 82, 83, 84, 85, 86, 87, 88, 89, 90, 91, 92, 93, 94, 95, 96, 97, 98, 99] (by decide +kernel) (by decide +kernel)
set_option maxRecDepth 20000 in
theorem gX1_undo_X1_storeOldValues : GoodIn wsX1_undo (wsV RX1 110 RX1 yX1_storeOldValues wsX1_storeOldValues) := goodIn_app (goodIn_of _ (by decide +kernel)) ggX1_undo_X1_storeOldValues
set_option maxRecDepth 20000 in
theorem ggX1_undo_X0_coveredLines : GoodIn wsX1_undo wsX0_coveredLines := goodIn_r _ [48, 42, 49, 50, 51, 5, 52, 92, 93, 94, 95, 96, 97, 98, 99] (by decide +kernel) (by decide +kernel)
set_option maxRecDepth 20000 in
theorem gX1_undo_X0_coveredLines : GoodIn wsX1_undo (wsV RX1 113 RX0 yX0_coveredLines wsX0_coveredLines) := goodIn_app (goodIn_of _ (by decide +kernel)) ggX1_undo_X0_coveredLines
set_option maxRecDepth 20000 in
theorem ggX1_undo_X1_keepLines : GoodIn wsX1_undo wsX1_keepLines := goodIn_r _ [56, 34, 35, 5, 36, 57, 58, 59, 60, 33, 19, 20, 21, 22, 23, 24, 25, 26, 27, 28, 29, 30, 18, 1, 31, 32, 37, 38, 39, 10, 40, 41, 42, 13, 43, 44, 61, 62, 63, 64, 65, 51, 52, 82, 83, 84, 85, 86, 87, 88, 89, 90, 91, 92, 93, 94, 95, 96, 97, 98, 99] (by decide +kernel) (by decide +kernel)
set_option maxRecDepth 20000 in
theorem gX1_undo_X1_keepLines : GoodIn wsX1_undo (wsV RX1 66 RX1 yX1_keepLines wsX1_keepLines) := goodIn_app (goodIn_of _ (by decide +kernel)) ggX1_undo_X1_keepLines
set_option maxRecDepth 20000 in
theorem ggX1_undo_X1_clearLog : GoodIn wsX1_undo wsX1_clearLog := goodIn_r _ [69, 1, 70, 71, 72, 10, 73, 44, 74, 75, 76, 5, 77, 19, 20, 21, 22, 23, 24, 25, 26, 27, 28, 29, 30, 18, 31, 32, 33, 34, 35, 36, 37, 38, 39, 40, 41, 42, 13, 43, 78, 79, 80, 81, 61, 62, 63, 64, 65, 51, 52, 82, 83, 84, 85, 86, 87, 88, 89, 90, 91, 92, 93, 94, 95, 96, 97, 98, 99] (by decide +kernel) (by decide +kernel)
set_option maxRecDepth 20000 in
theorem gX1_undo_X1_clearLog : GoodIn wsX1_undo (wsV RX1 69 RX1 yX1_clearLog wsX1_clearLog) := goodIn_app (goodIn_of _ (by decide +kernel)) ggX1_undo_X1_clearLog
theorem dX1_undo_0 : decode cX1_undo 0 = .ok (.aload_n 0, 1) := by decide +kernel
theorem dX1_undo_1 : decode cX1_undo 1 = .ok (.invokevirtual 110, 3) := by decide +kernel
theorem dX1_undo_4 : decode cX1_undo 4 = .ok (.ifCond .eq 28, 3) := by decide +kernel
theorem dX1_undo_7 : decode cX1_undo 7 = .ok (.aload_n 0, 1) := by decide +kernel
theorem dX1_undo_8 : decode cX1_undo 8 = .ok (.aload_n 0, 1) := by decide +kernel
theorem dX1_undo_9 : decode cX1_undo 9 = .ok (.getfield 19, 3) := by decide +kernel
theorem dX1_undo_12 : decode cX1_undo 12 = .ok (.invokevirtual 113, 3) := by decide +kernel
theorem dX1_undo_15 : decode cX1_undo 15 = .ok (.invokevirtual 66, 3) := by decide +kernel
theorem dX1_undo_18 : decode cX1_undo 18 = .ok (.ifCond .eq 14, 3) := by decide +kernel
theorem dX1_undo_21 : decode cX1_undo 21 = .ok (.aload_n 0, 1) := by decide +kernel
theorem dX1_undo_22 : decode cX1_undo 22 = .ok (.invokevirtual 69, 3) := by decide +kernel
theorem dX1_undo_25 : decode cX1_undo 25 = .ok (.ifCond .eq 7, 3) := by decide +kernel
theorem dX1_undo_28 : decode cX1_undo 28 = .ok (.iconst 1, 1) := by decide +kernel
theorem dX1_undo_29 : decode cX1_undo 29 = .ok (.goto 4, 3) := by decide +kernel
theorem dX1_undo_32 : decode cX1_undo 32 = .ok (.iconst 0, 1) := by decide +kernel
theorem dX1_undo_33 : decode cX1_undo 33 = .ok (.ireturn, 1) := by decide +kernel
set_option maxRecDepth 20000 in
theorem ggX1_storeOldValues_X0_oldValue : GoodIn wsX1_storeOldValues wsX0_oldValue := goodIn_r _ [6, 7, 8, 51, 52, 53, 54, 55, 56, 57, 58] (by decide +kernel) (by decide +kernel)
set_option maxRecDepth 20000 in
theorem gX1_storeOldValues_X0_oldValue : GoodIn wsX1_storeOldValues (wsV RX1 124 RX0 yX0_oldValue wsX0_oldValue) := goodIn_app (goodIn_of _ (by decide +kernel)) ggX1_storeOldValues_X0_oldValue
set_option maxRecDepth 20000 in
theorem ggX1_storeOldValues_X1_storeValue : GoodIn wsX1_storeOldValues wsX1_storeValue := goodIn_r _ [13, 14, 15, 16, 17, 12, 18, 19, 20, 21, 22, 23, 24, 25, 26, 1, 27, 28, 29, 30, 31, 32, 33, 34, 35, 5, 36, 37, 38, 8, 39, 40, 41, 42, 43, 44, 45, 46, 47, 48, 49, 50, 51, 52, 53, 54, 55, 56, 57, 58] (by decide +kernel) (by decide +kernel)
set_option maxRecDepth 20000 in
theorem gX1_storeOldValues_X1_storeValue : GoodIn wsX1_storeOldValues (wsV RX1 62 RX1 yX1_storeValue wsX1_storeValue) := goodIn_app (goodIn_of _ (by decide +kernel)) ggX1_storeOldValues_X1_storeValue
theorem dX1_storeOldValues_0 : decode cX1_storeOldValues 0 = .ok (.aload_n 0, 1) := by decide +kernel
theorem dX1_storeOldValues_1 : decode cX1_storeOldValues 1 = .ok (.getfield 19, 3) := by decide +kernel
theorem dX1_storeOldValues_4 : decode cX1_storeOldValues 4 = .ok (.getfield 82, 3) := by decide +kernel
theorem dX1_storeOldValues_7 : decode cX1_storeOldValues 7 = .ok (.iconst 1, 1) := by decide +kernel
theorem dX1_storeOldValues_8 : decode cX1_storeOldValues 8 = .ok (.isub, 1) := by decide +kernel
theorem dX1_storeOldValues_9 : decode cX1_storeOldValues 9 = .ok (.istore_n 1, 1) := by decide +kernel
theorem dX1_storeOldValues_10 : decode cX1_storeOldValues 10 = .ok (.iload_n 1, 1) := by decide +kernel
theorem dX1_storeOldValues_11 : decode cX1_storeOldValues 11 = .ok (.ifCond .lt 59, 3) := by decide +kernel
theorem dX1_storeOldValues_14 : decode cX1_storeOldValues 14 = .ok (.iconst 0, 1) := by decide +kernel
theorem dX1_storeOldValues_15 : decode cX1_storeOldValues 15 = .ok (.istore_n 2, 1) := by decide +kernel
theorem dX1_storeOldValues_16 : decode cX1_storeOldValues 16 = .ok (.iload_n 2, 1) := by decide +kernel
theorem dX1_storeOldValues_17 : decode cX1_storeOldValues 17 = .ok (.aload_n 0, 1) := by decide +kernel
theorem dX1_storeOldValues_18 : decode cX1_storeOldValues 18 = .ok (.getfield 19, 3) := by decide +kernel
theorem dX1_storeOldValues_21 : decode cX1_storeOldValues 21 = .ok (.getfield 117, 3) := by decide +kernel
theorem dX1_storeOldValues_24 : decode cX1_storeOldValues 24 = .ok (.iload_n 1, 1) := by decide +kernel
theorem dX1_storeOldValues_25 : decode cX1_storeOldValues 25 = .ok (.iaload, 1) := by decide +kernel
theorem dX1_storeOldValues_26 : decode cX1_storeOldValues 26 = .ok (.if_icmp .ge 38, 3) := by decide +kernel
theorem dX1_storeOldValues_29 : decode cX1_storeOldValues 29 = .ok (.aload_n 0, 1) := by decide +kernel
theorem dX1_storeOldValues_30 : decode cX1_storeOldValues 30 = .ok (.aload_n 0, 1) := by decide +kernel
theorem dX1_storeOldValues_31 : decode cX1_storeOldValues 31 = .ok (.getfield 19, 3) := by decide +kernel
theorem dX1_storeOldValues_34 : decode cX1_storeOldValues 34 = .ok (.getfield 121, 3) := by decide +kernel
theorem dX1_storeOldValues_37 : decode cX1_storeOldValues 37 = .ok (.iload_n 1, 1) := by decide +kernel
theorem dX1_storeOldValues_38 : decode cX1_storeOldValues 38 = .ok (.iaload, 1) := by decide +kernel
theorem dX1_storeOldValues_39 : decode cX1_storeOldValues 39 = .ok (.iload_n 2, 1) := by decide +kernel
theorem dX1_storeOldValues_40 : decode cX1_storeOldValues 40 = .ok (.iadd, 1) := by decide +kernel
theorem dX1_storeOldValues_41 : decode cX1_storeOldValues 41 = .ok (.aload_n 0, 1) := by decide +kernel
theorem dX1_storeOldValues_42 : decode cX1_storeOldValues 42 = .ok (.getfield 19, 3) := by decide +kernel
theorem dX1_storeOldValues_45 : decode cX1_storeOldValues 45 = .ok (.iload_n 1, 1) := by decide +kernel
theorem dX1_storeOldValues_46 : decode cX1_storeOldValues 46 = .ok (.iload_n 2, 1) := by decide +kernel
theorem dX1_storeOldValues_47 : decode cX1_storeOldValues 47 = .ok (.invokevirtual 124, 3) := by decide +kernel
theorem dX1_storeOldValues_50 : decode cX1_storeOldValues 50 = .ok (.invokevirtual 62, 3) := by decide +kernel
theorem dX1_storeOldValues_53 : decode cX1_storeOldValues 53 = .ok (.ifCond .ne 5, 3) := by decide +kernel
theorem dX1_storeOldValues_56 : decode cX1_storeOldValues 56 = .ok (.iconst 0, 1) := by decide +kernel
theorem dX1_storeOldValues_57 : decode cX1_storeOldValues 57 = .ok (.ireturn, 1) := by decide +kernel
theorem dX1_storeOldValues_58 : decode cX1_storeOldValues 58 = .ok (.iinc 2 1, 3) := by decide +kernel
theorem dX1_storeOldValues_61 : decode cX1_storeOldValues 61 = .ok (.goto (-45), 3) := by decide +kernel
theorem dX1_storeOldValues_64 : decode cX1_storeOldValues 64 = .ok (.iinc 1 (-1), 3) := by decide +kernel
theorem dX1_storeOldValues_67 : decode cX1_storeOldValues 67 = .ok (.goto (-57), 3) := by decide +kernel
theorem dX1_storeOldValues_70 : decode cX1_storeOldValues 70 = .ok (.iconst 1, 1) := by decide +kernel
theorem dX1_storeOldValues_71 : decode cX1_storeOldValues 71 = .ok (.ireturn, 1) := by decide +kernel
set_option maxRecDepth 20000 in
theorem ggX1_keepLines_X1_hasBit : GoodIn wsX1_keepLines wsX1_hasBit := goodIn_r _ [4] (by decide +kernel) (by decide +kernel)
set_option maxRecDepth 20000 in
theorem gX1_keepLines_X1_hasBit : GoodIn wsX1_keepLines (va_wsS RX1 128 yX1_hasBit wsX1_hasBit) := goodIn_app (goodIn_of _ (by decide +kernel)) ggX1_keepLines_X1_hasBit
set_option maxRecDepth 20000 in
theorem ggX1_keepLines_X1_flush : GoodIn wsX1_keepLines wsX1_flush := goodIn_r _ [8, 9, 10, 11, 12, 3, 13, 14, 15, 16, 17, 18, 19, 20, 21, 22, 23, 24, 25, 1, 2, 4, 26, 27, 28, 29, 30, 31, 32, 33, 34, 35, 43, 44, 45, 46, 47, 48, 49, 50, 51, 52, 53, 54, 55, 56, 57, 58, 59, 60] (by decide +kernel) (by decide +kernel)
set_option maxRecDepth 20000 in
theorem gX1_keepLines_X1_flush : GoodIn wsX1_keepLines (wsV RX1 132 RX1 yX1_flush wsX1_flush) := goodIn_app (goodIn_of _ (by decide +kernel)) ggX1_keepLines_X1_flush
set_option maxRecDepth 20000 in
theorem ggX1_keepLines_X1_fence : GoodIn wsX1_keepLines wsX1_fence := goodIn_r _ [39, 9, 21, 22, 40, 41, 3, 42, 1, 2, 4, 10, 11, 12, 13, 14, 15, 16, 17, 18, 19, 20, 23, 24, 25, 26, 27, 28, 29, 30, 31, 32, 33, 34, 35, 43, 44, 45, 46, 47, 48, 49, 50, 51, 52, 53, 54, 55, 56, 57, 58, 59, 60] (by decide +kernel) (by decide +kernel)
set_option maxRecDepth 20000 in
theorem gX1_keepLines_X1_fence : GoodIn wsX1_keepLines (wsV RX1 101 RX1 yX1_fence wsX1_fence) := goodIn_app (goodIn_of _ (by decide +kernel)) ggX1_keepLines_X1_fence
theorem dX1_keepLines_0 : decode cX1_keepLines 0 = .ok (.iload_n 1, 1) := by decide +kernel
theorem dX1_keepLines_1 : decode cX1_keepLines 1 = .ok (.ifCond .ne 5, 3) := by decide +kernel
theorem dX1_keepLines_4 : decode cX1_keepLines 4 = .ok (.iconst 1, 1) := by decide +kernel
theorem dX1_keepLines_5 : decode cX1_keepLines 5 = .ok (.ireturn, 1) := by decide +kernel
theorem dX1_keepLines_6 : decode cX1_keepLines 6 = .ok (.iconst 0, 1) := by decide +kernel
theorem dX1_keepLines_7 : decode cX1_keepLines 7 = .ok (.istore_n 2, 1) := by decide +kernel
theorem dX1_keepLines_8 : decode cX1_keepLines 8 = .ok (.iload_n 2, 1) := by decide +kernel
theorem dX1_keepLines_9 : decode cX1_keepLines 9 = .ok (.iconst 4, 1) := by decide +kernel
theorem dX1_keepLines_10 : decode cX1_keepLines 10 = .ok (.if_icmp .ge 28, 3) := by decide +kernel
theorem dX1_keepLines_13 : decode cX1_keepLines 13 = .ok (.iload_n 1, 1) := by decide +kernel
theorem dX1_keepLines_14 : decode cX1_keepLines 14 = .ok (.i2l, 1) := by decide +kernel
theorem dX1_keepLines_15 : decode cX1_keepLines 15 = .ok (.iload_n 2, 1) := by decide +kernel
theorem dX1_keepLines_16 : decode cX1_keepLines 16 = .ok (.invokestatic 128, 3) := by decide +kernel
theorem dX1_keepLines_19 : decode cX1_keepLines 19 = .ok (.ifCond .eq 13, 3) := by decide +kernel
theorem dX1_keepLines_22 : decode cX1_keepLines 22 = .ok (.aload_n 0, 1) := by decide +kernel
theorem dX1_keepLines_23 : decode cX1_keepLines 23 = .ok (.iload_n 2, 1) := by decide +kernel
theorem dX1_keepLines_24 : decode cX1_keepLines 24 = .ok (.invokevirtual 132, 3) := by decide +kernel
theorem dX1_keepLines_27 : decode cX1_keepLines 27 = .ok (.ifCond .ne 5, 3) := by decide +kernel
theorem dX1_keepLines_30 : decode cX1_keepLines 30 = .ok (.iconst 0, 1) := by decide +kernel
theorem dX1_keepLines_31 : decode cX1_keepLines 31 = .ok (.ireturn, 1) := by decide +kernel
theorem dX1_keepLines_32 : decode cX1_keepLines 32 = .ok (.iinc 2 1, 3) := by decide +kernel
theorem dX1_keepLines_35 : decode cX1_keepLines 35 = .ok (.goto (-27), 3) := by decide +kernel
theorem dX1_keepLines_38 : decode cX1_keepLines 38 = .ok (.aload_n 0, 1) := by decide +kernel
theorem dX1_keepLines_39 : decode cX1_keepLines 39 = .ok (.invokevirtual 101, 3) := by decide +kernel
theorem dX1_keepLines_42 : decode cX1_keepLines 42 = .ok (.ireturn, 1) := by decide +kernel
set_option maxRecDepth 20000 in
theorem ggX1_storeValue_X1_endAct : GoodIn wsX1_storeValue wsX1_endAct := goodIn_r _ [6, 7, 8, 9, 10, 11, 5, 12, 13, 14, 1, 15, 16, 17, 18, 19, 20, 21, 22, 23, 24, 25, 26, 27, 28, 29, 30, 31, 32, 33, 34, 35, 36, 37, 38, 39, 40, 41, 42, 43, 44, 45, 46, 47, 48, 49] (by decide +kernel) (by decide +kernel)
set_option maxRecDepth 20000 in
theorem gX1_storeValue_X1_endAct : GoodIn wsX1_storeValue (wsV RX1 135 RX1 yX1_endAct wsX1_endAct) := goodIn_app (goodIn_of _ (by decide +kernel)) ggX1_storeValue_X1_endAct
theorem dX1_storeValue_0 : decode cX1_storeValue 0 = .ok (.aload_n 0, 1) := by decide +kernel
theorem dX1_storeValue_1 : decode cX1_storeValue 1 = .ok (.getfield 9, 3) := by decide +kernel
theorem dX1_storeValue_4 : decode cX1_storeValue 4 = .ok (.iload_n 1, 1) := by decide +kernel
theorem dX1_storeValue_5 : decode cX1_storeValue 5 = .ok (.lload_n 2, 1) := by decide +kernel
theorem dX1_storeValue_6 : decode cX1_storeValue 6 = .ok (.lastore, 1) := by decide +kernel
theorem dX1_storeValue_7 : decode cX1_storeValue 7 = .ok (.aload_n 0, 1) := by decide +kernel
theorem dX1_storeValue_8 : decode cX1_storeValue 8 = .ok (.invokevirtual 135, 3) := by decide +kernel
theorem dX1_storeValue_11 : decode cX1_storeValue 11 = .ok (.ireturn, 1) := by decide +kernel
set_option maxRecDepth 20000 in
theorem ggX1_flush_X1_endAct : GoodIn wsX1_flush wsX1_endAct := goodIn_r _ [6, 7, 8, 9, 10, 11, 5, 12, 13, 14, 15, 16, 17, 18, 1, 19, 20, 21, 22, 23, 24, 25, 26, 27, 28, 29, 30, 31, 32, 33, 34, 35, 36, 37, 38, 39, 40, 41, 42, 43, 44, 45, 46, 47, 48, 49] (by decide +kernel) (by decide +kernel)
set_option maxRecDepth 20000 in
theorem gX1_flush_X1_endAct : GoodIn wsX1_flush (wsV RX1 135 RX1 yX1_endAct wsX1_endAct) := goodIn_app (goodIn_of _ (by decide +kernel)) ggX1_flush_X1_endAct
theorem dX1_flush_0 : decode cX1_flush 0 = .ok (.aload_n 0, 1) := by decide +kernel
theorem dX1_flush_1 : decode cX1_flush 1 = .ok (.dup, 1) := by decide +kernel
theorem dX1_flush_2 : decode cX1_flush 2 = .ok (.getfield 138, 3) := by decide +kernel
theorem dX1_flush_5 : decode cX1_flush 5 = .ok (.iconst 1, 1) := by decide +kernel
theorem dX1_flush_6 : decode cX1_flush 6 = .ok (.iload_n 1, 1) := by decide +kernel
theorem dX1_flush_7 : decode cX1_flush 7 = .ok (.ishl, 1) := by decide +kernel
theorem dX1_flush_8 : decode cX1_flush 8 = .ok (.ior, 1) := by decide +kernel
theorem dX1_flush_9 : decode cX1_flush 9 = .ok (.putfield 138, 3) := by decide +kernel
theorem dX1_flush_12 : decode cX1_flush 12 = .ok (.aload_n 0, 1) := by decide +kernel
theorem dX1_flush_13 : decode cX1_flush 13 = .ok (.invokevirtual 135, 3) := by decide +kernel
theorem dX1_flush_16 : decode cX1_flush 16 = .ok (.ireturn, 1) := by decide +kernel
set_option maxRecDepth 20000 in
theorem ggX1_fence_X1_lineOf : GoodIn wsX1_fence wsX1_lineOf := goodIn_r _ [7] (by decide +kernel) (by decide +kernel)
set_option maxRecDepth 20000 in
theorem gX1_fence_X1_lineOf : GoodIn wsX1_fence (va_wsS RX1 58 yX1_lineOf wsX1_lineOf) := goodIn_app (goodIn_of _ (by decide +kernel)) ggX1_fence_X1_lineOf
set_option maxRecDepth 20000 in
theorem ggX1_fence_X1_hasBit : GoodIn wsX1_fence wsX1_hasBit := goodIn_r _ [10] (by decide +kernel) (by decide +kernel)
set_option maxRecDepth 20000 in
theorem gX1_fence_X1_hasBit : GoodIn wsX1_fence (va_wsS RX1 128 yX1_hasBit wsX1_hasBit) := goodIn_app (goodIn_of _ (by decide +kernel)) ggX1_fence_X1_hasBit
set_option maxRecDepth 20000 in
theorem ggX1_fence_X1_endAct : GoodIn wsX1_fence wsX1_endAct := goodIn_r _ [14, 15, 16, 17, 18, 19, 6, 20, 21, 2, 3, 22, 23, 24, 1, 8, 9, 10, 25, 26, 27, 28, 29, 30, 31, 32, 33, 34, 35, 36, 37, 38, 39, 40, 41, 42, 43, 44, 45, 46, 47, 48, 49, 50, 51, 52] (by decide +kernel) (by decide +kernel)
set_option maxRecDepth 20000 in
theorem gX1_fence_X1_endAct : GoodIn wsX1_fence (wsV RX1 135 RX1 yX1_endAct wsX1_endAct) := goodIn_app (goodIn_of _ (by decide +kernel)) ggX1_fence_X1_endAct
theorem dX1_fence_0 : decode cX1_fence 0 = .ok (.iconst 0, 1) := by decide +kernel
theorem dX1_fence_1 : decode cX1_fence 1 = .ok (.istore_n 1, 1) := by decide +kernel
theorem dX1_fence_2 : decode cX1_fence 2 = .ok (.iload_n 1, 1) := by decide +kernel
theorem dX1_fence_3 : decode cX1_fence 3 = .ok (.bipush 32, 2) := by decide +kernel
theorem dX1_fence_5 : decode cX1_fence 5 = .ok (.if_icmp .ge 36, 3) := by decide +kernel
theorem dX1_fence_8 : decode cX1_fence 8 = .ok (.aload_n 0, 1) := by decide +kernel
theorem dX1_fence_9 : decode cX1_fence 9 = .ok (.getfield 138, 3) := by decide +kernel
theorem dX1_fence_12 : decode cX1_fence 12 = .ok (.i2l, 1) := by decide +kernel
theorem dX1_fence_13 : decode cX1_fence 13 = .ok (.iload_n 1, 1) := by decide +kernel
theorem dX1_fence_14 : decode cX1_fence 14 = .ok (.invokestatic 58, 3) := by decide +kernel
theorem dX1_fence_17 : decode cX1_fence 17 = .ok (.invokestatic 128, 3) := by decide +kernel
theorem dX1_fence_20 : decode cX1_fence 20 = .ok (.ifCond .eq 15, 3) := by decide +kernel
theorem dX1_fence_23 : decode cX1_fence 23 = .ok (.aload_n 0, 1) := by decide +kernel
theorem dX1_fence_24 : decode cX1_fence 24 = .ok (.getfield 13, 3) := by decide +kernel
theorem dX1_fence_27 : decode cX1_fence 27 = .ok (.iload_n 1, 1) := by decide +kernel
theorem dX1_fence_28 : decode cX1_fence 28 = .ok (.aload_n 0, 1) := by decide +kernel
theorem dX1_fence_29 : decode cX1_fence 29 = .ok (.getfield 9, 3) := by decide +kernel
theorem dX1_fence_32 : decode cX1_fence 32 = .ok (.iload_n 1, 1) := by decide +kernel
theorem dX1_fence_33 : decode cX1_fence 33 = .ok (.laload, 1) := by decide +kernel
theorem dX1_fence_34 : decode cX1_fence 34 = .ok (.lastore, 1) := by decide +kernel
theorem dX1_fence_35 : decode cX1_fence 35 = .ok (.iinc 1 1, 3) := by decide +kernel
theorem dX1_fence_38 : decode cX1_fence 38 = .ok (.goto (-36), 3) := by decide +kernel
theorem dX1_fence_41 : decode cX1_fence 41 = .ok (.aload_n 0, 1) := by decide +kernel
theorem dX1_fence_42 : decode cX1_fence 42 = .ok (.iconst 0, 1) := by decide +kernel
theorem dX1_fence_43 : decode cX1_fence 43 = .ok (.putfield 138, 3) := by decide +kernel
theorem dX1_fence_46 : decode cX1_fence 46 = .ok (.aload_n 0, 1) := by decide +kernel
theorem dX1_fence_47 : decode cX1_fence 47 = .ok (.invokevirtual 135, 3) := by decide +kernel
theorem dX1_fence_50 : decode cX1_fence 50 = .ok (.ireturn, 1) := by decide +kernel
set_option maxRecDepth 20000 in
theorem ggX1_doPlainActs_X1_endAct : GoodIn wsX1_doPlainActs wsX1_endAct := goodIn_r _ [5, 6, 7, 8, 9, 10, 4, 11, 12, 13, 14, 15, 16, 17, 18, 19, 20, 21, 22, 23, 24, 25, 26, 27, 28, 29, 30, 31, 32, 33, 34, 35, 36, 37, 38, 39, 40, 41, 42, 43, 44, 45, 46, 47, 48, 49] (by decide +kernel) (by decide +kernel)
set_option maxRecDepth 20000 in
theorem gX1_doPlainActs_X1_endAct : GoodIn wsX1_doPlainActs (wsV RX1 135 RX1 yX1_endAct wsX1_endAct) := goodIn_app (goodIn_of _ (by decide +kernel)) ggX1_doPlainActs_X1_endAct
theorem dX1_doPlainActs_0 : decode cX1_doPlainActs 0 = .ok (.iconst 0, 1) := by decide +kernel
theorem dX1_doPlainActs_1 : decode cX1_doPlainActs 1 = .ok (.istore_n 2, 1) := by decide +kernel
theorem dX1_doPlainActs_2 : decode cX1_doPlainActs 2 = .ok (.iload_n 2, 1) := by decide +kernel
theorem dX1_doPlainActs_3 : decode cX1_doPlainActs 3 = .ok (.iload_n 1, 1) := by decide +kernel
theorem dX1_doPlainActs_4 : decode cX1_doPlainActs 4 = .ok (.if_icmp .ge 18, 3) := by decide +kernel
theorem dX1_doPlainActs_7 : decode cX1_doPlainActs 7 = .ok (.aload_n 0, 1) := by decide +kernel
theorem dX1_doPlainActs_8 : decode cX1_doPlainActs 8 = .ok (.invokevirtual 135, 3) := by decide +kernel
theorem dX1_doPlainActs_11 : decode cX1_doPlainActs 11 = .ok (.ifCond .ne 5, 3) := by decide +kernel
theorem dX1_doPlainActs_14 : decode cX1_doPlainActs 14 = .ok (.iconst 0, 1) := by decide +kernel
theorem dX1_doPlainActs_15 : decode cX1_doPlainActs 15 = .ok (.ireturn, 1) := by decide +kernel
theorem dX1_doPlainActs_16 : decode cX1_doPlainActs 16 = .ok (.iinc 2 1, 3) := by decide +kernel
theorem dX1_doPlainActs_19 : decode cX1_doPlainActs 19 = .ok (.goto (-17), 3) := by decide +kernel
theorem dX1_doPlainActs_22 : decode cX1_doPlainActs 22 = .ok (.iconst 1, 1) := by decide +kernel
theorem dX1_doPlainActs_23 : decode cX1_doPlainActs 23 = .ok (.ireturn, 1) := by decide +kernel
set_option maxRecDepth 20000 in
theorem ggX1_endAct_X1_losePower : GoodIn wsX1_endAct wsX1_losePower := goodIn_r _ [7, 8, 9, 10, 11, 12, 13, 14, 15, 16, 6, 17, 18, 19, 20, 21, 22, 23, 24, 25, 26, 27, 28, 29, 30, 31, 32, 33, 34, 35, 36, 37, 38, 39, 40, 41, 42, 43, 44, 45] (by decide +kernel) (by decide +kernel)
set_option maxRecDepth 20000 in
theorem gX1_endAct_X1_losePower : GoodIn wsX1_endAct (wsV RX1 141 RX1 yX1_losePower wsX1_losePower) := goodIn_app (goodIn_of _ (by decide +kernel)) ggX1_endAct_X1_losePower
theorem dX1_endAct_0 : decode cX1_endAct 0 = .ok (.aload_n 0, 1) := by decide +kernel
theorem dX1_endAct_1 : decode cX1_endAct 1 = .ok (.dup, 1) := by decide +kernel
theorem dX1_endAct_2 : decode cX1_endAct 2 = .ok (.getfield 88, 3) := by decide +kernel
theorem dX1_endAct_5 : decode cX1_endAct 5 = .ok (.iconst 1, 1) := by decide +kernel
theorem dX1_endAct_6 : decode cX1_endAct 6 = .ok (.iadd, 1) := by decide +kernel
theorem dX1_endAct_7 : decode cX1_endAct 7 = .ok (.putfield 88, 3) := by decide +kernel
theorem dX1_endAct_10 : decode cX1_endAct 10 = .ok (.aload_n 0, 1) := by decide +kernel
theorem dX1_endAct_11 : decode cX1_endAct 11 = .ok (.getfield 27, 3) := by decide +kernel
theorem dX1_endAct_14 : decode cX1_endAct 14 = .ok (.ifCond .ne 5, 3) := by decide +kernel
theorem dX1_endAct_17 : decode cX1_endAct 17 = .ok (.iconst 1, 1) := by decide +kernel
theorem dX1_endAct_18 : decode cX1_endAct 18 = .ok (.ireturn, 1) := by decide +kernel
theorem dX1_endAct_19 : decode cX1_endAct 19 = .ok (.aload_n 0, 1) := by decide +kernel
theorem dX1_endAct_20 : decode cX1_endAct 20 = .ok (.dup, 1) := by decide +kernel
theorem dX1_endAct_21 : decode cX1_endAct 21 = .ok (.getfield 27, 3) := by decide +kernel
theorem dX1_endAct_24 : decode cX1_endAct 24 = .ok (.iconst 1, 1) := by decide +kernel
theorem dX1_endAct_25 : decode cX1_endAct 25 = .ok (.isub, 1) := by decide +kernel
theorem dX1_endAct_26 : decode cX1_endAct 26 = .ok (.putfield 27, 3) := by decide +kernel
theorem dX1_endAct_29 : decode cX1_endAct 29 = .ok (.aload_n 0, 1) := by decide +kernel
theorem dX1_endAct_30 : decode cX1_endAct 30 = .ok (.getfield 27, 3) := by decide +kernel
theorem dX1_endAct_33 : decode cX1_endAct 33 = .ok (.ifCond .le 5, 3) := by decide +kernel
theorem dX1_endAct_36 : decode cX1_endAct 36 = .ok (.iconst 1, 1) := by decide +kernel
theorem dX1_endAct_37 : decode cX1_endAct 37 = .ok (.ireturn, 1) := by decide +kernel
theorem dX1_endAct_38 : decode cX1_endAct 38 = .ok (.aload_n 0, 1) := by decide +kernel
theorem dX1_endAct_39 : decode cX1_endAct 39 = .ok (.invokevirtual 141, 3) := by decide +kernel
theorem dX1_endAct_42 : decode cX1_endAct 42 = .ok (.iconst 0, 1) := by decide +kernel
theorem dX1_endAct_43 : decode cX1_endAct 43 = .ok (.ireturn, 1) := by decide +kernel
set_option maxRecDepth 20000 in
theorem ggX1_losePower_X1_hasBit : GoodIn wsX1_losePower wsX1_hasBit := goodIn_r _ [11] (by decide +kernel) (by decide +kernel)
set_option maxRecDepth 20000 in
theorem gX1_losePower_X1_hasBit : GoodIn wsX1_losePower (va_wsS RX1 128 yX1_hasBit wsX1_hasBit) := goodIn_app (goodIn_of _ (by decide +kernel)) ggX1_losePower_X1_hasBit
set_option maxRecDepth 20000 in
theorem ggX1_losePower_X0_settle : GoodIn wsX1_losePower wsX0_settle := goodIn_r _ [16, 17, 18, 19, 20, 21, 32, 33, 34, 35, 36, 37, 38, 39] (by decide +kernel) (by decide +kernel)
set_option maxRecDepth 20000 in
theorem gX1_losePower_X0_settle : GoodIn wsX1_losePower (wsV RX1 144 RX0 yX0_settle wsX0_settle) := goodIn_app (goodIn_of _ (by decide +kernel)) ggX1_losePower_X0_settle
theorem dX1_losePower_0 : decode cX1_losePower 0 = .ok (.iconst 0, 1) := by decide +kernel
theorem dX1_losePower_1 : decode cX1_losePower 1 = .ok (.istore_n 1, 1) := by decide +kernel
theorem dX1_losePower_2 : decode cX1_losePower 2 = .ok (.iload_n 1, 1) := by decide +kernel
theorem dX1_losePower_3 : decode cX1_losePower 3 = .ok (.bipush 32, 2) := by decide +kernel
theorem dX1_losePower_5 : decode cX1_losePower 5 = .ok (.if_icmp .ge 32, 3) := by decide +kernel
theorem dX1_losePower_8 : decode cX1_losePower 8 = .ok (.aload_n 0, 1) := by decide +kernel
theorem dX1_losePower_9 : decode cX1_losePower 9 = .ok (.getfield 31, 3) := by decide +kernel
theorem dX1_losePower_12 : decode cX1_losePower 12 = .ok (.iload_n 1, 1) := by decide +kernel
theorem dX1_losePower_13 : decode cX1_losePower 13 = .ok (.invokestatic 128, 3) := by decide +kernel
theorem dX1_losePower_16 : decode cX1_losePower 16 = .ok (.ifCond .eq 15, 3) := by decide +kernel
theorem dX1_losePower_19 : decode cX1_losePower 19 = .ok (.aload_n 0, 1) := by decide +kernel
theorem dX1_losePower_20 : decode cX1_losePower 20 = .ok (.getfield 13, 3) := by decide +kernel
theorem dX1_losePower_23 : decode cX1_losePower 23 = .ok (.iload_n 1, 1) := by decide +kernel
theorem dX1_losePower_24 : decode cX1_losePower 24 = .ok (.aload_n 0, 1) := by decide +kernel
theorem dX1_losePower_25 : decode cX1_losePower 25 = .ok (.getfield 9, 3) := by decide +kernel
theorem dX1_losePower_28 : decode cX1_losePower 28 = .ok (.iload_n 1, 1) := by decide +kernel
theorem dX1_losePower_29 : decode cX1_losePower 29 = .ok (.laload, 1) := by decide +kernel
theorem dX1_losePower_30 : decode cX1_losePower 30 = .ok (.lastore, 1) := by decide +kernel
theorem dX1_losePower_31 : decode cX1_losePower 31 = .ok (.iinc 1 1, 3) := by decide +kernel
theorem dX1_losePower_34 : decode cX1_losePower 34 = .ok (.goto (-32), 3) := by decide +kernel
theorem dX1_losePower_37 : decode cX1_losePower 37 = .ok (.aload_n 0, 1) := by decide +kernel
theorem dX1_losePower_38 : decode cX1_losePower 38 = .ok (.getfield 31, 3) := by decide +kernel
theorem dX1_losePower_41 : decode cX1_losePower 41 = .ok (.bipush 32, 2) := by decide +kernel
theorem dX1_losePower_43 : decode cX1_losePower 43 = .ok (.invokestatic 128, 3) := by decide +kernel
theorem dX1_losePower_46 : decode cX1_losePower 46 = .ok (.istore_n 1, 1) := by decide +kernel
theorem dX1_losePower_47 : decode cX1_losePower 47 = .ok (.aload_n 0, 1) := by decide +kernel
theorem dX1_losePower_48 : decode cX1_losePower 48 = .ok (.getfield 31, 3) := by decide +kernel
theorem dX1_losePower_51 : decode cX1_losePower 51 = .ok (.bipush 33, 2) := by decide +kernel
theorem dX1_losePower_53 : decode cX1_losePower 53 = .ok (.invokestatic 128, 3) := by decide +kernel
theorem dX1_losePower_56 : decode cX1_losePower 56 = .ok (.istore_n 2, 1) := by decide +kernel
theorem dX1_losePower_57 : decode cX1_losePower 57 = .ok (.aload_n 0, 1) := by decide +kernel
theorem dX1_losePower_58 : decode cX1_losePower 58 = .ok (.getfield 19, 3) := by decide +kernel
theorem dX1_losePower_61 : decode cX1_losePower 61 = .ok (.iload_n 1, 1) := by decide +kernel
theorem dX1_losePower_62 : decode cX1_losePower 62 = .ok (.iload_n 2, 1) := by decide +kernel
theorem dX1_losePower_63 : decode cX1_losePower 63 = .ok (.invokevirtual 144, 3) := by decide +kernel
theorem dX1_losePower_66 : decode cX1_losePower 66 = .ok (.aload_n 0, 1) := by decide +kernel
theorem dX1_losePower_67 : decode cX1_losePower 67 = .ok (.iconst 0, 1) := by decide +kernel
theorem dX1_losePower_68 : decode cX1_losePower 68 = .ok (.putfield 23, 3) := by decide +kernel
theorem dX1_losePower_71 : decode cX1_losePower 71 = .ok (.aload_n 0, 1) := by decide +kernel
theorem dX1_losePower_72 : decode cX1_losePower 72 = .ok (.iconst 0, 1) := by decide +kernel
theorem dX1_losePower_73 : decode cX1_losePower 73 = .ok (.putfield 35, 3) := by decide +kernel
theorem dX1_losePower_76 : decode cX1_losePower 76 = .ok (.aload_n 0, 1) := by decide +kernel
theorem dX1_losePower_77 : decode cX1_losePower 77 = .ok (.iconst 0, 1) := by decide +kernel
theorem dX1_losePower_78 : decode cX1_losePower 78 = .ok (.putfield 138, 3) := by decide +kernel
theorem dX1_losePower_81 : decode cX1_losePower 81 = .ok (.return_, 1) := by decide +kernel
theorem dX2_init_0 : decode cX2_init 0 = .ok (.aload_n 0, 1) := by decide +kernel
theorem dX2_init_1 : decode cX2_init 1 = .ok (.invokespecial 1, 3) := by decide +kernel
theorem dX2_init_4 : decode cX2_init 4 = .ok (.aload_n 0, 1) := by decide +kernel
theorem dX2_init_5 : decode cX2_init 5 = .ok (.bipush 32, 2) := by decide +kernel
theorem dX2_init_7 : decode cX2_init 7 = .ok (.newarray .long, 2) := by decide +kernel
theorem dX2_init_9 : decode cX2_init 9 = .ok (.putfield 7, 3) := by decide +kernel
theorem dX2_init_12 : decode cX2_init 12 = .ok (.aload_n 0, 1) := by decide +kernel
theorem dX2_init_13 : decode cX2_init 13 = .ok (.bipush 32, 2) := by decide +kernel
theorem dX2_init_15 : decode cX2_init 15 = .ok (.newarray .long, 2) := by decide +kernel
theorem dX2_init_17 : decode cX2_init 17 = .ok (.putfield 13, 3) := by decide +kernel
theorem dX2_init_20 : decode cX2_init 20 = .ok (.aload_n 0, 1) := by decide +kernel
theorem dX2_init_21 : decode cX2_init 21 = .ok (.iconst 4, 1) := by decide +kernel
theorem dX2_init_22 : decode cX2_init 22 = .ok (.newarray .boolean, 2) := by decide +kernel
theorem dX2_init_24 : decode cX2_init 24 = .ok (.putfield 16, 3) := by decide +kernel
theorem dX2_init_27 : decode cX2_init 27 = .ok (.aload_n 0, 1) := by decide +kernel
theorem dX2_init_28 : decode cX2_init 28 = .ok (.bipush 20, 2) := by decide +kernel
theorem dX2_init_30 : decode cX2_init 30 = .ok (.newarray .int, 2) := by decide +kernel
theorem dX2_init_32 : decode cX2_init 32 = .ok (.putfield 20, 3) := by decide +kernel
theorem dX2_init_35 : decode cX2_init 35 = .ok (.aload_n 0, 1) := by decide +kernel
theorem dX2_init_36 : decode cX2_init 36 = .ok (.bipush 20, 2) := by decide +kernel
theorem dX2_init_38 : decode cX2_init 38 = .ok (.newarray .int, 2) := by decide +kernel
theorem dX2_init_40 : decode cX2_init 40 = .ok (.putfield 24, 3) := by decide +kernel
theorem dX2_init_43 : decode cX2_init 43 = .ok (.aload_n 0, 1) := by decide +kernel
theorem dX2_init_44 : decode cX2_init 44 = .ok (.bipush 20, 2) := by decide +kernel
theorem dX2_init_46 : decode cX2_init 46 = .ok (.newarray .int, 2) := by decide +kernel
theorem dX2_init_48 : decode cX2_init 48 = .ok (.putfield 27, 3) := by decide +kernel
theorem dX2_init_51 : decode cX2_init 51 = .ok (.aload_n 0, 1) := by decide +kernel
theorem dX2_init_52 : decode cX2_init 52 = .ok (.bipush 20, 2) := by decide +kernel
theorem dX2_init_54 : decode cX2_init 54 = .ok (.newarray .int, 2) := by decide +kernel
theorem dX2_init_56 : decode cX2_init 56 = .ok (.putfield 30, 3) := by decide +kernel
theorem dX2_init_59 : decode cX2_init 59 = .ok (.aload_n 0, 1) := by decide +kernel
theorem dX2_init_60 : decode cX2_init 60 = .ok (.bipush 40, 2) := by decide +kernel
theorem dX2_init_62 : decode cX2_init 62 = .ok (.newarray .long, 2) := by decide +kernel
theorem dX2_init_64 : decode cX2_init 64 = .ok (.putfield 33, 3) := by decide +kernel
theorem dX2_init_67 : decode cX2_init 67 = .ok (.aload_n 0, 1) := by decide +kernel
theorem dX2_init_68 : decode cX2_init 68 = .ok (.iconst 4, 1) := by decide +kernel
theorem dX2_init_69 : decode cX2_init 69 = .ok (.newarray .boolean, 2) := by decide +kernel
theorem dX2_init_71 : decode cX2_init 71 = .ok (.putfield 36, 3) := by decide +kernel
theorem dX2_init_74 : decode cX2_init 74 = .ok (.aload_n 0, 1) := by decide +kernel
theorem dX2_init_75 : decode cX2_init 75 = .ok (.bipush 64, 2) := by decide +kernel
theorem dX2_init_77 : decode cX2_init 77 = .ok (.newarray .int, 2) := by decide +kernel
theorem dX2_init_79 : decode cX2_init 79 = .ok (.putfield 39, 3) := by decide +kernel
theorem dX2_init_82 : decode cX2_init 82 = .ok (.aload_n 0, 1) := by decide +kernel
theorem dX2_init_83 : decode cX2_init 83 = .ok (.bipush 64, 2) := by decide +kernel
theorem dX2_init_85 : decode cX2_init 85 = .ok (.newarray .int, 2) := by decide +kernel
theorem dX2_init_87 : decode cX2_init 87 = .ok (.putfield 42, 3) := by decide +kernel
theorem dX2_init_90 : decode cX2_init 90 = .ok (.aload_n 0, 1) := by decide +kernel
theorem dX2_init_91 : decode cX2_init 91 = .ok (.bipush 64, 2) := by decide +kernel
theorem dX2_init_93 : decode cX2_init 93 = .ok (.newarray .long, 2) := by decide +kernel
theorem dX2_init_95 : decode cX2_init 95 = .ok (.putfield 45, 3) := by decide +kernel
theorem dX2_init_98 : decode cX2_init 98 = .ok (.return_, 1) := by decide +kernel
theorem dX2_word_0 : decode cX2_word 0 = .ok (.iload_n 0, 1) := by decide +kernel
theorem dX2_word_1 : decode cX2_word 1 = .ok (.ifCond .lt 13, 3) := by decide +kernel
theorem dX2_word_4 : decode cX2_word 4 = .ok (.iload_n 0, 1) := by decide +kernel
theorem dX2_word_5 : decode cX2_word 5 = .ok (.bipush 31, 2) := by decide +kernel
theorem dX2_word_7 : decode cX2_word 7 = .ok (.if_icmp .gt 7, 3) := by decide +kernel
theorem dX2_word_10 : decode cX2_word 10 = .ok (.iconst 1, 1) := by decide +kernel
theorem dX2_word_11 : decode cX2_word 11 = .ok (.goto 4, 3) := by decide +kernel
theorem dX2_word_14 : decode cX2_word 14 = .ok (.iconst 0, 1) := by decide +kernel
theorem dX2_word_15 : decode cX2_word 15 = .ok (.ireturn, 1) := by decide +kernel
theorem dX2_list_0 : decode cX2_list 0 = .ok (.aload_n 0, 1) := by decide +kernel
theorem dX2_list_1 : decode cX2_list 1 = .ok (.getfield 39, 3) := by decide +kernel
theorem dX2_list_4 : decode cX2_list 4 = .ok (.aload_n 0, 1) := by decide +kernel
theorem dX2_list_5 : decode cX2_list 5 = .ok (.getfield 48, 3) := by decide +kernel
theorem dX2_list_8 : decode cX2_list 8 = .ok (.iload_n 1, 1) := by decide +kernel
theorem dX2_list_9 : decode cX2_list 9 = .ok (.iastore, 1) := by decide +kernel
theorem dX2_list_10 : decode cX2_list 10 = .ok (.aload_n 0, 1) := by decide +kernel
theorem dX2_list_11 : decode cX2_list 11 = .ok (.getfield 42, 3) := by decide +kernel
theorem dX2_list_14 : decode cX2_list 14 = .ok (.aload_n 0, 1) := by decide +kernel
theorem dX2_list_15 : decode cX2_list 15 = .ok (.getfield 48, 3) := by decide +kernel
theorem dX2_list_18 : decode cX2_list 18 = .ok (.iload_n 2, 1) := by decide +kernel
theorem dX2_list_19 : decode cX2_list 19 = .ok (.iastore, 1) := by decide +kernel
theorem dX2_list_20 : decode cX2_list 20 = .ok (.aload_n 0, 1) := by decide +kernel
theorem dX2_list_21 : decode cX2_list 21 = .ok (.getfield 45, 3) := by decide +kernel
theorem dX2_list_24 : decode cX2_list 24 = .ok (.aload_n 0, 1) := by decide +kernel
theorem dX2_list_25 : decode cX2_list 25 = .ok (.getfield 48, 3) := by decide +kernel
theorem dX2_list_28 : decode cX2_list 28 = .ok (.lload_n 3, 1) := by decide +kernel
theorem dX2_list_29 : decode cX2_list 29 = .ok (.lastore, 1) := by decide +kernel
theorem dX2_list_30 : decode cX2_list 30 = .ok (.aload_n 0, 1) := by decide +kernel
theorem dX2_list_31 : decode cX2_list 31 = .ok (.dup, 1) := by decide +kernel
theorem dX2_list_32 : decode cX2_list 32 = .ok (.getfield 48, 3) := by decide +kernel
theorem dX2_list_35 : decode cX2_list 35 = .ok (.iconst 1, 1) := by decide +kernel
theorem dX2_list_36 : decode cX2_list 36 = .ok (.iadd, 1) := by decide +kernel
theorem dX2_list_37 : decode cX2_list 37 = .ok (.putfield 48, 3) := by decide +kernel
theorem dX2_list_40 : decode cX2_list 40 = .ok (.return_, 1) := by decide +kernel
theorem dX2_fence_0 : decode cX2_fence 0 = .ok (.iconst 0, 1) := by decide +kernel
theorem dX2_fence_1 : decode cX2_fence 1 = .ok (.istore_n 1, 1) := by decide +kernel
theorem dX2_fence_2 : decode cX2_fence 2 = .ok (.iload_n 1, 1) := by decide +kernel
theorem dX2_fence_3 : decode cX2_fence 3 = .ok (.bipush 32, 2) := by decide +kernel
theorem dX2_fence_5 : decode cX2_fence 5 = .ok (.if_icmp .ge 42, 3) := by decide +kernel
theorem dX2_fence_8 : decode cX2_fence 8 = .ok (.aload_n 0, 1) := by decide +kernel
theorem dX2_fence_9 : decode cX2_fence 9 = .ok (.getfield 13, 3) := by decide +kernel
theorem dX2_fence_12 : decode cX2_fence 12 = .ok (.iload_n 1, 1) := by decide +kernel
theorem dX2_fence_13 : decode cX2_fence 13 = .ok (.aload_n 0, 1) := by decide +kernel
theorem dX2_fence_14 : decode cX2_fence 14 = .ok (.getfield 16, 3) := by decide +kernel
theorem dX2_fence_17 : decode cX2_fence 17 = .ok (.iload_n 1, 1) := by decide +kernel
theorem dX2_fence_18 : decode cX2_fence 18 = .ok (.bipush 8, 2) := by decide +kernel
theorem dX2_fence_20 : decode cX2_fence 20 = .ok (.idiv, 1) := by decide +kernel
theorem dX2_fence_21 : decode cX2_fence 21 = .ok (.baload, 1) := by decide +kernel
theorem dX2_fence_22 : decode cX2_fence 22 = .ok (.ifCond .eq 12, 3) := by decide +kernel
theorem dX2_fence_25 : decode cX2_fence 25 = .ok (.aload_n 0, 1) := by decide +kernel
theorem dX2_fence_26 : decode cX2_fence 26 = .ok (.getfield 7, 3) := by decide +kernel
theorem dX2_fence_29 : decode cX2_fence 29 = .ok (.iload_n 1, 1) := by decide +kernel
theorem dX2_fence_30 : decode cX2_fence 30 = .ok (.laload, 1) := by decide +kernel
theorem dX2_fence_31 : decode cX2_fence 31 = .ok (.goto 9, 3) := by decide +kernel
theorem dX2_fence_34 : decode cX2_fence 34 = .ok (.aload_n 0, 1) := by decide +kernel
theorem dX2_fence_35 : decode cX2_fence 35 = .ok (.getfield 13, 3) := by decide +kernel
theorem dX2_fence_38 : decode cX2_fence 38 = .ok (.iload_n 1, 1) := by decide +kernel
theorem dX2_fence_39 : decode cX2_fence 39 = .ok (.laload, 1) := by decide +kernel
theorem dX2_fence_40 : decode cX2_fence 40 = .ok (.lastore, 1) := by decide +kernel
theorem dX2_fence_41 : decode cX2_fence 41 = .ok (.iinc 1 1, 3) := by decide +kernel
theorem dX2_fence_44 : decode cX2_fence 44 = .ok (.goto (-42), 3) := by decide +kernel
theorem dX2_fence_47 : decode cX2_fence 47 = .ok (.iconst 0, 1) := by decide +kernel
theorem dX2_fence_48 : decode cX2_fence 48 = .ok (.istore_n 1, 1) := by decide +kernel
theorem dX2_fence_49 : decode cX2_fence 49 = .ok (.iload_n 1, 1) := by decide +kernel
theorem dX2_fence_50 : decode cX2_fence 50 = .ok (.iconst 4, 1) := by decide +kernel
theorem dX2_fence_51 : decode cX2_fence 51 = .ok (.if_icmp .ge 16, 3) := by decide +kernel
theorem dX2_fence_54 : decode cX2_fence 54 = .ok (.aload_n 0, 1) := by decide +kernel
theorem dX2_fence_55 : decode cX2_fence 55 = .ok (.getfield 16, 3) := by decide +kernel
theorem dX2_fence_58 : decode cX2_fence 58 = .ok (.iload_n 1, 1) := by decide +kernel
theorem dX2_fence_59 : decode cX2_fence 59 = .ok (.iconst 0, 1) := by decide +kernel
theorem dX2_fence_60 : decode cX2_fence 60 = .ok (.bastore, 1) := by decide +kernel
theorem dX2_fence_61 : decode cX2_fence 61 = .ok (.iinc 1 1, 3) := by decide +kernel
theorem dX2_fence_64 : decode cX2_fence 64 = .ok (.goto (-15), 3) := by decide +kernel
theorem dX2_fence_67 : decode cX2_fence 67 = .ok (.return_, 1) := by decide +kernel
theorem dX2_stand_0 : decode cX2_stand 0 = .ok (.iconst 0, 1) := by decide +kernel
theorem dX2_stand_1 : decode cX2_stand 1 = .ok (.istore_n 2, 1) := by decide +kernel
theorem dX2_stand_2 : decode cX2_stand 2 = .ok (.iload_n 2, 1) := by decide +kernel
theorem dX2_stand_3 : decode cX2_stand 3 = .ok (.aload_n 0, 1) := by decide +kernel
theorem dX2_stand_4 : decode cX2_stand 4 = .ok (.getfield 52, 3) := by decide +kernel
theorem dX2_stand_7 : decode cX2_stand 7 = .ok (.if_icmp .ge 16, 3) := by decide +kernel
theorem dX2_stand_10 : decode cX2_stand 10 = .ok (.aload_n 0, 1) := by decide +kernel
theorem dX2_stand_11 : decode cX2_stand 11 = .ok (.getfield 30, 3) := by decide +kernel
theorem dX2_stand_14 : decode cX2_stand 14 = .ok (.iload_n 2, 1) := by decide +kernel
theorem dX2_stand_15 : decode cX2_stand 15 = .ok (.iload_n 1, 1) := by decide +kernel
theorem dX2_stand_16 : decode cX2_stand 16 = .ok (.iastore, 1) := by decide +kernel
theorem dX2_stand_17 : decode cX2_stand 17 = .ok (.iinc 2 1, 3) := by decide +kernel
theorem dX2_stand_20 : decode cX2_stand 20 = .ok (.goto (-18), 3) := by decide +kernel
theorem dX2_stand_23 : decode cX2_stand 23 = .ok (.return_, 1) := by decide +kernel
set_option maxRecDepth 20000 in
theorem ggX2_one_X2_fence : GoodIn wsX2_one wsX2_fence := goodIn_r _ [13, 14, 6, 3, 19, 20, 21, 22, 23, 24, 25, 26, 27, 28, 29, 30, 31, 32, 33, 34, 35, 36, 37] (by decide +kernel) (by decide +kernel)
set_option maxRecDepth 20000 in
theorem gX2_one_X2_fence : GoodIn wsX2_one (wsV RX2 58 RX2 yX2_fence wsX2_fence) := goodIn_app (goodIn_of _ (by decide +kernel)) ggX2_one_X2_fence
set_option maxRecDepth 20000 in
theorem ggX2_one_X2_stand : GoodIn wsX2_one wsX2_stand := goodIn_r _ [18, 8, 7, 19, 20, 21, 22, 23, 24, 25, 26, 27, 28, 29, 30, 31, 32, 33, 34, 35, 36, 37] (by decide +kernel) (by decide +kernel)
set_option maxRecDepth 20000 in
theorem gX2_one_X2_stand : GoodIn wsX2_one (wsV RX2 61 RX2 yX2_stand wsX2_stand) := goodIn_app (goodIn_of _ (by decide +kernel)) ggX2_one_X2_stand
theorem dX2_one_0 : decode cX2_one 0 = .ok (.aload_n 0, 1) := by decide +kernel
theorem dX2_one_1 : decode cX2_one 1 = .ok (.getfield 39, 3) := by decide +kernel
theorem dX2_one_4 : decode cX2_one 4 = .ok (.iload_n 1, 1) := by decide +kernel
theorem dX2_one_5 : decode cX2_one 5 = .ok (.iaload, 1) := by decide +kernel
theorem dX2_one_6 : decode cX2_one 6 = .ok (.istore_n 2, 1) := by decide +kernel
theorem dX2_one_7 : decode cX2_one 7 = .ok (.aload_n 0, 1) := by decide +kernel
theorem dX2_one_8 : decode cX2_one 8 = .ok (.dup, 1) := by decide +kernel
theorem dX2_one_9 : decode cX2_one 9 = .ok (.getfield 55, 3) := by decide +kernel
theorem dX2_one_12 : decode cX2_one 12 = .ok (.iconst 1, 1) := by decide +kernel
theorem dX2_one_13 : decode cX2_one 13 = .ok (.iadd, 1) := by decide +kernel
theorem dX2_one_14 : decode cX2_one 14 = .ok (.putfield 55, 3) := by decide +kernel
theorem dX2_one_17 : decode cX2_one 17 = .ok (.iload_n 2, 1) := by decide +kernel
theorem dX2_one_18 : decode cX2_one 18 = .ok (.iconst 1, 1) := by decide +kernel
theorem dX2_one_19 : decode cX2_one 19 = .ok (.if_icmp .ne 20, 3) := by decide +kernel
theorem dX2_one_22 : decode cX2_one 22 = .ok (.aload_n 0, 1) := by decide +kernel
theorem dX2_one_23 : decode cX2_one 23 = .ok (.getfield 7, 3) := by decide +kernel
theorem dX2_one_26 : decode cX2_one 26 = .ok (.aload_n 0, 1) := by decide +kernel
theorem dX2_one_27 : decode cX2_one 27 = .ok (.getfield 42, 3) := by decide +kernel
theorem dX2_one_30 : decode cX2_one 30 = .ok (.iload_n 1, 1) := by decide +kernel
theorem dX2_one_31 : decode cX2_one 31 = .ok (.iaload, 1) := by decide +kernel
theorem dX2_one_32 : decode cX2_one 32 = .ok (.aload_n 0, 1) := by decide +kernel
theorem dX2_one_33 : decode cX2_one 33 = .ok (.getfield 45, 3) := by decide +kernel
theorem dX2_one_36 : decode cX2_one 36 = .ok (.iload_n 1, 1) := by decide +kernel
theorem dX2_one_37 : decode cX2_one 37 = .ok (.laload, 1) := by decide +kernel
theorem dX2_one_38 : decode cX2_one 38 = .ok (.lastore, 1) := by decide +kernel
theorem dX2_one_39 : decode cX2_one 39 = .ok (.iload_n 2, 1) := by decide +kernel
theorem dX2_one_40 : decode cX2_one 40 = .ok (.iconst 2, 1) := by decide +kernel
theorem dX2_one_41 : decode cX2_one 41 = .ok (.if_icmp .ne 15, 3) := by decide +kernel
theorem dX2_one_44 : decode cX2_one 44 = .ok (.aload_n 0, 1) := by decide +kernel
theorem dX2_one_45 : decode cX2_one 45 = .ok (.getfield 16, 3) := by decide +kernel
theorem dX2_one_48 : decode cX2_one 48 = .ok (.aload_n 0, 1) := by decide +kernel
theorem dX2_one_49 : decode cX2_one 49 = .ok (.getfield 42, 3) := by decide +kernel
theorem dX2_one_52 : decode cX2_one 52 = .ok (.iload_n 1, 1) := by decide +kernel
theorem dX2_one_53 : decode cX2_one 53 = .ok (.iaload, 1) := by decide +kernel
theorem dX2_one_54 : decode cX2_one 54 = .ok (.iconst 1, 1) := by decide +kernel
theorem dX2_one_55 : decode cX2_one 55 = .ok (.bastore, 1) := by decide +kernel
theorem dX2_one_56 : decode cX2_one 56 = .ok (.iload_n 2, 1) := by decide +kernel
theorem dX2_one_57 : decode cX2_one 57 = .ok (.iconst 3, 1) := by decide +kernel
theorem dX2_one_58 : decode cX2_one 58 = .ok (.if_icmp .eq 14, 3) := by decide +kernel
theorem dX2_one_61 : decode cX2_one 61 = .ok (.iload_n 2, 1) := by decide +kernel
theorem dX2_one_62 : decode cX2_one 62 = .ok (.iconst 5, 1) := by decide +kernel
theorem dX2_one_63 : decode cX2_one 63 = .ok (.if_icmp .eq 9, 3) := by decide +kernel
theorem dX2_one_66 : decode cX2_one 66 = .ok (.iload_n 2, 1) := by decide +kernel
theorem dX2_one_67 : decode cX2_one 67 = .ok (.bipush 7, 2) := by decide +kernel
theorem dX2_one_69 : decode cX2_one 69 = .ok (.if_icmp .ne 7, 3) := by decide +kernel
theorem dX2_one_72 : decode cX2_one 72 = .ok (.aload_n 0, 1) := by decide +kernel
theorem dX2_one_73 : decode cX2_one 73 = .ok (.invokevirtual 58, 3) := by decide +kernel
theorem dX2_one_76 : decode cX2_one 76 = .ok (.iload_n 2, 1) := by decide +kernel
theorem dX2_one_77 : decode cX2_one 77 = .ok (.iconst 4, 1) := by decide +kernel
theorem dX2_one_78 : decode cX2_one 78 = .ok (.if_icmp .ne 15, 3) := by decide +kernel
theorem dX2_one_81 : decode cX2_one 81 = .ok (.aload_n 0, 1) := by decide +kernel
theorem dX2_one_82 : decode cX2_one 82 = .ok (.getfield 30, 3) := by decide +kernel
theorem dX2_one_85 : decode cX2_one 85 = .ok (.aload_n 0, 1) := by decide +kernel
theorem dX2_one_86 : decode cX2_one 86 = .ok (.getfield 52, 3) := by decide +kernel
theorem dX2_one_89 : decode cX2_one 89 = .ok (.iconst 1, 1) := by decide +kernel
theorem dX2_one_90 : decode cX2_one 90 = .ok (.isub, 1) := by decide +kernel
theorem dX2_one_91 : decode cX2_one 91 = .ok (.iconst 1, 1) := by decide +kernel
theorem dX2_one_92 : decode cX2_one 92 = .ok (.iastore, 1) := by decide +kernel
theorem dX2_one_93 : decode cX2_one 93 = .ok (.iload_n 2, 1) := by decide +kernel
theorem dX2_one_94 : decode cX2_one 94 = .ok (.iconst 5, 1) := by decide +kernel
theorem dX2_one_95 : decode cX2_one 95 = .ok (.if_icmp .ne 15, 3) := by decide +kernel
theorem dX2_one_98 : decode cX2_one 98 = .ok (.aload_n 0, 1) := by decide +kernel
theorem dX2_one_99 : decode cX2_one 99 = .ok (.getfield 30, 3) := by decide +kernel
theorem dX2_one_102 : decode cX2_one 102 = .ok (.aload_n 0, 1) := by decide +kernel
theorem dX2_one_103 : decode cX2_one 103 = .ok (.getfield 52, 3) := by decide +kernel
theorem dX2_one_106 : decode cX2_one 106 = .ok (.iconst 1, 1) := by decide +kernel
theorem dX2_one_107 : decode cX2_one 107 = .ok (.isub, 1) := by decide +kernel
theorem dX2_one_108 : decode cX2_one 108 = .ok (.iconst 2, 1) := by decide +kernel
theorem dX2_one_109 : decode cX2_one 109 = .ok (.iastore, 1) := by decide +kernel
theorem dX2_one_110 : decode cX2_one 110 = .ok (.iload_n 2, 1) := by decide +kernel
theorem dX2_one_111 : decode cX2_one 111 = .ok (.bipush 6, 2) := by decide +kernel
theorem dX2_one_113 : decode cX2_one 113 = .ok (.if_icmp .ne 8, 3) := by decide +kernel
theorem dX2_one_116 : decode cX2_one 116 = .ok (.aload_n 0, 1) := by decide +kernel
theorem dX2_one_117 : decode cX2_one 117 = .ok (.iconst 3, 1) := by decide +kernel
theorem dX2_one_118 : decode cX2_one 118 = .ok (.invokevirtual 61, 3) := by decide +kernel
theorem dX2_one_121 : decode cX2_one 121 = .ok (.iload_n 2, 1) := by decide +kernel
theorem dX2_one_122 : decode cX2_one 122 = .ok (.bipush 7, 2) := by decide +kernel
theorem dX2_one_124 : decode cX2_one 124 = .ok (.if_icmp .ne 8, 3) := by decide +kernel
theorem dX2_one_127 : decode cX2_one 127 = .ok (.aload_n 0, 1) := by decide +kernel
theorem dX2_one_128 : decode cX2_one 128 = .ok (.iconst 0, 1) := by decide +kernel
theorem dX2_one_129 : decode cX2_one 129 = .ok (.putfield 52, 3) := by decide +kernel
theorem dX2_one_132 : decode cX2_one 132 = .ok (.return_, 1) := by decide +kernel
set_option maxRecDepth 20000 in
theorem ggX2_go_X2_one : GoodIn wsX2_go wsX2_one := goodIn_r _ [7, 8, 9, 10, 11, 12, 13, 14, 15, 16, 17, 18, 6, 19, 20, 21, 22, 23, 24, 36, 37, 38, 39, 40, 41, 42, 43, 44, 45, 46, 47, 48, 49, 50, 51, 52, 53, 54] (by decide +kernel) (by decide +kernel)
set_option maxRecDepth 20000 in
theorem gX2_go_X2_one : GoodIn wsX2_go (wsV RX2 65 RX2 yX2_one wsX2_one) := goodIn_app (goodIn_of _ (by decide +kernel)) ggX2_go_X2_one
set_option maxRecDepth 20000 in
theorem ggX2_go_X2_fail : GoodIn wsX2_go wsX2_fail := goodIn_r _ [28, 20, 10, 15, 14, 29, 30, 13, 31, 32, 33, 6, 34, 35, 21, 22, 23, 24, 36, 37, 38, 39, 40, 41, 42, 43, 44, 45, 46, 47, 48, 49, 50, 51, 52, 53, 54] (by decide +kernel) (by decide +kernel)
set_option maxRecDepth 20000 in
theorem gX2_go_X2_fail : GoodIn wsX2_go (wsV RX2 71 RX2 yX2_fail wsX2_fail) := goodIn_app (goodIn_of _ (by decide +kernel)) ggX2_go_X2_fail
theorem dX2_go_0 : decode cX2_go 0 = .ok (.iconst 0, 1) := by decide +kernel
theorem dX2_go_1 : decode cX2_go 1 = .ok (.istore_n 1, 1) := by decide +kernel
theorem dX2_go_2 : decode cX2_go 2 = .ok (.iload_n 1, 1) := by decide +kernel
theorem dX2_go_3 : decode cX2_go 3 = .ok (.aload_n 0, 1) := by decide +kernel
theorem dX2_go_4 : decode cX2_go 4 = .ok (.getfield 48, 3) := by decide +kernel
theorem dX2_go_7 : decode cX2_go 7 = .ok (.if_icmp .ge 45, 3) := by decide +kernel
theorem dX2_go_10 : decode cX2_go 10 = .ok (.aload_n 0, 1) := by decide +kernel
theorem dX2_go_11 : decode cX2_go 11 = .ok (.iload_n 1, 1) := by decide +kernel
theorem dX2_go_12 : decode cX2_go 12 = .ok (.invokevirtual 65, 3) := by decide +kernel
theorem dX2_go_15 : decode cX2_go 15 = .ok (.aload_n 0, 1) := by decide +kernel
theorem dX2_go_16 : decode cX2_go 16 = .ok (.getfield 68, 3) := by decide +kernel
theorem dX2_go_19 : decode cX2_go 19 = .ok (.ifCond .le 27, 3) := by decide +kernel
theorem dX2_go_22 : decode cX2_go 22 = .ok (.aload_n 0, 1) := by decide +kernel
theorem dX2_go_23 : decode cX2_go 23 = .ok (.dup, 1) := by decide +kernel
theorem dX2_go_24 : decode cX2_go 24 = .ok (.getfield 68, 3) := by decide +kernel
theorem dX2_go_27 : decode cX2_go 27 = .ok (.iconst 1, 1) := by decide +kernel
theorem dX2_go_28 : decode cX2_go 28 = .ok (.isub, 1) := by decide +kernel
theorem dX2_go_29 : decode cX2_go 29 = .ok (.putfield 68, 3) := by decide +kernel
theorem dX2_go_32 : decode cX2_go 32 = .ok (.aload_n 0, 1) := by decide +kernel
theorem dX2_go_33 : decode cX2_go 33 = .ok (.getfield 68, 3) := by decide +kernel
theorem dX2_go_36 : decode cX2_go 36 = .ok (.ifCond .ne 10, 3) := by decide +kernel
theorem dX2_go_39 : decode cX2_go 39 = .ok (.aload_n 0, 1) := by decide +kernel
theorem dX2_go_40 : decode cX2_go 40 = .ok (.invokevirtual 71, 3) := by decide +kernel
theorem dX2_go_43 : decode cX2_go 43 = .ok (.bipush (-2), 2) := by decide +kernel
theorem dX2_go_45 : decode cX2_go 45 = .ok (.ireturn, 1) := by decide +kernel
theorem dX2_go_46 : decode cX2_go 46 = .ok (.iinc 1 1, 3) := by decide +kernel
theorem dX2_go_49 : decode cX2_go 49 = .ok (.goto (-47), 3) := by decide +kernel
theorem dX2_go_52 : decode cX2_go 52 = .ok (.iconst 0, 1) := by decide +kernel
theorem dX2_go_53 : decode cX2_go 53 = .ok (.ireturn, 1) := by decide +kernel
theorem dX2_bit_0 : decode cX2_bit 0 = .ok (.aload_n 0, 1) := by decide +kernel
theorem dX2_bit_1 : decode cX2_bit 1 = .ok (.getfield 74, 3) := by decide +kernel
theorem dX2_bit_4 : decode cX2_bit 4 = .ok (.iload_n 1, 1) := by decide +kernel
theorem dX2_bit_5 : decode cX2_bit 5 = .ok (.lshr, 1) := by decide +kernel
theorem dX2_bit_6 : decode cX2_bit 6 = .ok (.lconst 1, 1) := by decide +kernel
theorem dX2_bit_7 : decode cX2_bit 7 = .ok (.land, 1) := by decide +kernel
theorem dX2_bit_8 : decode cX2_bit 8 = .ok (.lconst 1, 1) := by decide +kernel
theorem dX2_bit_9 : decode cX2_bit 9 = .ok (.lcmp, 1) := by decide +kernel
theorem dX2_bit_10 : decode cX2_bit 10 = .ok (.ifCond .ne 7, 3) := by decide +kernel
theorem dX2_bit_13 : decode cX2_bit 13 = .ok (.iconst 1, 1) := by decide +kernel
theorem dX2_bit_14 : decode cX2_bit 14 = .ok (.goto 4, 3) := by decide +kernel
theorem dX2_bit_17 : decode cX2_bit 17 = .ok (.iconst 0, 1) := by decide +kernel
theorem dX2_bit_18 : decode cX2_bit 18 = .ok (.ireturn, 1) := by decide +kernel
set_option maxRecDepth 20000 in
theorem ggX2_fail_X2_bit : GoodIn wsX2_fail wsX2_bit := goodIn_r _ [12, 13, 18, 19, 20, 21, 22, 23, 24, 25, 26, 27, 28, 29, 30, 31, 32, 33, 34, 35, 36] (by decide +kernel) (by decide +kernel)
set_option maxRecDepth 20000 in
theorem gX2_fail_X2_bit : GoodIn wsX2_fail (wsV RX2 78 RX2 yX2_bit wsX2_bit) := goodIn_app (goodIn_of _ (by decide +kernel)) ggX2_fail_X2_bit
set_option maxRecDepth 20000 in
theorem ggX2_fail_X2_stand : GoodIn wsX2_fail wsX2_stand := goodIn_r _ [17, 3, 4, 18, 19, 20, 21, 22, 23, 24, 25, 26, 27, 28, 29, 30, 31, 32, 33, 34, 35, 36] (by decide +kernel) (by decide +kernel)
set_option maxRecDepth 20000 in
theorem gX2_fail_X2_stand : GoodIn wsX2_fail (wsV RX2 61 RX2 yX2_stand wsX2_stand) := goodIn_app (goodIn_of _ (by decide +kernel)) ggX2_fail_X2_stand
theorem dX2_fail_0 : decode cX2_fail 0 = .ok (.iconst 0, 1) := by decide +kernel
theorem dX2_fail_1 : decode cX2_fail 1 = .ok (.istore_n 1, 1) := by decide +kernel
theorem dX2_fail_2 : decode cX2_fail 2 = .ok (.iload_n 1, 1) := by decide +kernel
theorem dX2_fail_3 : decode cX2_fail 3 = .ok (.bipush 32, 2) := by decide +kernel
theorem dX2_fail_5 : decode cX2_fail 5 = .ok (.if_icmp .ge 54, 3) := by decide +kernel
theorem dX2_fail_8 : decode cX2_fail 8 = .ok (.aload_n 0, 1) := by decide +kernel
theorem dX2_fail_9 : decode cX2_fail 9 = .ok (.getfield 13, 3) := by decide +kernel
theorem dX2_fail_12 : decode cX2_fail 12 = .ok (.iload_n 1, 1) := by decide +kernel
theorem dX2_fail_13 : decode cX2_fail 13 = .ok (.aload_n 0, 1) := by decide +kernel
theorem dX2_fail_14 : decode cX2_fail 14 = .ok (.getfield 7, 3) := by decide +kernel
theorem dX2_fail_17 : decode cX2_fail 17 = .ok (.iload_n 1, 1) := by decide +kernel
theorem dX2_fail_18 : decode cX2_fail 18 = .ok (.laload, 1) := by decide +kernel
theorem dX2_fail_19 : decode cX2_fail 19 = .ok (.aload_n 0, 1) := by decide +kernel
theorem dX2_fail_20 : decode cX2_fail 20 = .ok (.getfield 13, 3) := by decide +kernel
theorem dX2_fail_23 : decode cX2_fail 23 = .ok (.iload_n 1, 1) := by decide +kernel
theorem dX2_fail_24 : decode cX2_fail 24 = .ok (.laload, 1) := by decide +kernel
theorem dX2_fail_25 : decode cX2_fail 25 = .ok (.lcmp, 1) := by decide +kernel
theorem dX2_fail_26 : decode cX2_fail 26 = .ok (.ifCond .eq 20, 3) := by decide +kernel
theorem dX2_fail_29 : decode cX2_fail 29 = .ok (.aload_n 0, 1) := by decide +kernel
theorem dX2_fail_30 : decode cX2_fail 30 = .ok (.iload_n 1, 1) := by decide +kernel
theorem dX2_fail_31 : decode cX2_fail 31 = .ok (.invokevirtual 78, 3) := by decide +kernel
theorem dX2_fail_34 : decode cX2_fail 34 = .ok (.ifCond .eq 12, 3) := by decide +kernel
theorem dX2_fail_37 : decode cX2_fail 37 = .ok (.aload_n 0, 1) := by decide +kernel
theorem dX2_fail_38 : decode cX2_fail 38 = .ok (.getfield 7, 3) := by decide +kernel
theorem dX2_fail_41 : decode cX2_fail 41 = .ok (.iload_n 1, 1) := by decide +kernel
theorem dX2_fail_42 : decode cX2_fail 42 = .ok (.laload, 1) := by decide +kernel
theorem dX2_fail_43 : decode cX2_fail 43 = .ok (.goto 9, 3) := by decide +kernel
theorem dX2_fail_46 : decode cX2_fail 46 = .ok (.aload_n 0, 1) := by decide +kernel
theorem dX2_fail_47 : decode cX2_fail 47 = .ok (.getfield 13, 3) := by decide +kernel
theorem dX2_fail_50 : decode cX2_fail 50 = .ok (.iload_n 1, 1) := by decide +kernel
theorem dX2_fail_51 : decode cX2_fail 51 = .ok (.laload, 1) := by decide +kernel
theorem dX2_fail_52 : decode cX2_fail 52 = .ok (.lastore, 1) := by decide +kernel
theorem dX2_fail_53 : decode cX2_fail 53 = .ok (.iinc 1 1, 3) := by decide +kernel
theorem dX2_fail_56 : decode cX2_fail 56 = .ok (.goto (-54), 3) := by decide +kernel
theorem dX2_fail_59 : decode cX2_fail 59 = .ok (.aload_n 0, 1) := by decide +kernel
theorem dX2_fail_60 : decode cX2_fail 60 = .ok (.getfield 52, 3) := by decide +kernel
theorem dX2_fail_63 : decode cX2_fail 63 = .ok (.iconst 1, 1) := by decide +kernel
theorem dX2_fail_64 : decode cX2_fail 64 = .ok (.isub, 1) := by decide +kernel
theorem dX2_fail_65 : decode cX2_fail 65 = .ok (.istore_n 1, 1) := by decide +kernel
theorem dX2_fail_66 : decode cX2_fail 66 = .ok (.aload_n 0, 1) := by decide +kernel
theorem dX2_fail_67 : decode cX2_fail 67 = .ok (.getfield 52, 3) := by decide +kernel
theorem dX2_fail_70 : decode cX2_fail 70 = .ok (.ifCond .le 41, 3) := by decide +kernel
theorem dX2_fail_73 : decode cX2_fail 73 = .ok (.aload_n 0, 1) := by decide +kernel
theorem dX2_fail_74 : decode cX2_fail 74 = .ok (.getfield 30, 3) := by decide +kernel
theorem dX2_fail_77 : decode cX2_fail 77 = .ok (.iload_n 1, 1) := by decide +kernel
theorem dX2_fail_78 : decode cX2_fail 78 = .ok (.iaload, 1) := by decide +kernel
theorem dX2_fail_79 : decode cX2_fail 79 = .ok (.ifCond .eq 22, 3) := by decide +kernel
theorem dX2_fail_82 : decode cX2_fail 82 = .ok (.aload_n 0, 1) := by decide +kernel
theorem dX2_fail_83 : decode cX2_fail 83 = .ok (.getfield 30, 3) := by decide +kernel
theorem dX2_fail_86 : decode cX2_fail 86 = .ok (.iload_n 1, 1) := by decide +kernel
theorem dX2_fail_87 : decode cX2_fail 87 = .ok (.iaload, 1) := by decide +kernel
theorem dX2_fail_88 : decode cX2_fail 88 = .ok (.iconst 1, 1) := by decide +kernel
theorem dX2_fail_89 : decode cX2_fail 89 = .ok (.if_icmp .ne 22, 3) := by decide +kernel
theorem dX2_fail_92 : decode cX2_fail 92 = .ok (.aload_n 0, 1) := by decide +kernel
theorem dX2_fail_93 : decode cX2_fail 93 = .ok (.bipush 32, 2) := by decide +kernel
theorem dX2_fail_95 : decode cX2_fail 95 = .ok (.invokevirtual 78, 3) := by decide +kernel
theorem dX2_fail_98 : decode cX2_fail 98 = .ok (.ifCond .ne 13, 3) := by decide +kernel
theorem dX2_fail_101 : decode cX2_fail 101 = .ok (.aload_n 0, 1) := by decide +kernel
theorem dX2_fail_102 : decode cX2_fail 102 = .ok (.dup, 1) := by decide +kernel
theorem dX2_fail_103 : decode cX2_fail 103 = .ok (.getfield 52, 3) := by decide +kernel
theorem dX2_fail_106 : decode cX2_fail 106 = .ok (.iconst 1, 1) := by decide +kernel
theorem dX2_fail_107 : decode cX2_fail 107 = .ok (.isub, 1) := by decide +kernel
theorem dX2_fail_108 : decode cX2_fail 108 = .ok (.putfield 52, 3) := by decide +kernel
theorem dX2_fail_111 : decode cX2_fail 111 = .ok (.aload_n 0, 1) := by decide +kernel
theorem dX2_fail_112 : decode cX2_fail 112 = .ok (.getfield 52, 3) := by decide +kernel
theorem dX2_fail_115 : decode cX2_fail 115 = .ok (.ifCond .le 27, 3) := by decide +kernel
theorem dX2_fail_118 : decode cX2_fail 118 = .ok (.aload_n 0, 1) := by decide +kernel
theorem dX2_fail_119 : decode cX2_fail 119 = .ok (.getfield 30, 3) := by decide +kernel
theorem dX2_fail_122 : decode cX2_fail 122 = .ok (.iconst 0, 1) := by decide +kernel
theorem dX2_fail_123 : decode cX2_fail 123 = .ok (.iaload, 1) := by decide +kernel
theorem dX2_fail_124 : decode cX2_fail 124 = .ok (.iconst 3, 1) := by decide +kernel
theorem dX2_fail_125 : decode cX2_fail 125 = .ok (.if_icmp .ne 17, 3) := by decide +kernel
theorem dX2_fail_128 : decode cX2_fail 128 = .ok (.aload_n 0, 1) := by decide +kernel
theorem dX2_fail_129 : decode cX2_fail 129 = .ok (.bipush 33, 2) := by decide +kernel
theorem dX2_fail_131 : decode cX2_fail 131 = .ok (.invokevirtual 78, 3) := by decide +kernel
theorem dX2_fail_134 : decode cX2_fail 134 = .ok (.ifCond .eq 8, 3) := by decide +kernel
theorem dX2_fail_137 : decode cX2_fail 137 = .ok (.aload_n 0, 1) := by decide +kernel
theorem dX2_fail_138 : decode cX2_fail 138 = .ok (.iconst 0, 1) := by decide +kernel
theorem dX2_fail_139 : decode cX2_fail 139 = .ok (.putfield 52, 3) := by decide +kernel
theorem dX2_fail_142 : decode cX2_fail 142 = .ok (.aload_n 0, 1) := by decide +kernel
theorem dX2_fail_143 : decode cX2_fail 143 = .ok (.iconst 2, 1) := by decide +kernel
theorem dX2_fail_144 : decode cX2_fail 144 = .ok (.invokevirtual 61, 3) := by decide +kernel
theorem dX2_fail_147 : decode cX2_fail 147 = .ok (.aload_n 0, 1) := by decide +kernel
theorem dX2_fail_148 : decode cX2_fail 148 = .ok (.iconst 1, 1) := by decide +kernel
theorem dX2_fail_149 : decode cX2_fail 149 = .ok (.putfield 82, 3) := by decide +kernel
theorem dX2_fail_152 : decode cX2_fail 152 = .ok (.aload_n 0, 1) := by decide +kernel
theorem dX2_fail_153 : decode cX2_fail 153 = .ok (.iconst 0, 1) := by decide +kernel
theorem dX2_fail_154 : decode cX2_fail 154 = .ok (.putfield 86, 3) := by decide +kernel
theorem dX2_fail_157 : decode cX2_fail 157 = .ok (.iconst 0, 1) := by decide +kernel
theorem dX2_fail_158 : decode cX2_fail 158 = .ok (.istore_n 2, 1) := by decide +kernel
theorem dX2_fail_159 : decode cX2_fail 159 = .ok (.iload_n 2, 1) := by decide +kernel
theorem dX2_fail_160 : decode cX2_fail 160 = .ok (.iconst 4, 1) := by decide +kernel
theorem dX2_fail_161 : decode cX2_fail 161 = .ok (.if_icmp .ge 16, 3) := by decide +kernel
theorem dX2_fail_164 : decode cX2_fail 164 = .ok (.aload_n 0, 1) := by decide +kernel
theorem dX2_fail_165 : decode cX2_fail 165 = .ok (.getfield 16, 3) := by decide +kernel
theorem dX2_fail_168 : decode cX2_fail 168 = .ok (.iload_n 2, 1) := by decide +kernel
theorem dX2_fail_169 : decode cX2_fail 169 = .ok (.iconst 0, 1) := by decide +kernel
theorem dX2_fail_170 : decode cX2_fail 170 = .ok (.bastore, 1) := by decide +kernel
theorem dX2_fail_171 : decode cX2_fail 171 = .ok (.iinc 2 1, 3) := by decide +kernel
theorem dX2_fail_174 : decode cX2_fail 174 = .ok (.goto (-15), 3) := by decide +kernel
theorem dX2_fail_177 : decode cX2_fail 177 = .ok (.return_, 1) := by decide +kernel
theorem dX2_arm_0 : decode cX2_arm 0 = .ok (.iload_n 1, 1) := by decide +kernel
theorem dX2_arm_1 : decode cX2_arm 1 = .ok (.ifCond .lt 10, 3) := by decide +kernel
theorem dX2_arm_4 : decode cX2_arm 4 = .ok (.iload_n 1, 1) := by decide +kernel
theorem dX2_arm_5 : decode cX2_arm 5 = .ok (.sipush 500, 3) := by decide +kernel
theorem dX2_arm_8 : decode cX2_arm 8 = .ok (.if_icmp .le 5, 3) := by decide +kernel
theorem dX2_arm_11 : decode cX2_arm 11 = .ok (.iconst 0, 1) := by decide +kernel
theorem dX2_arm_12 : decode cX2_arm 12 = .ok (.ireturn, 1) := by decide +kernel
theorem dX2_arm_13 : decode cX2_arm 13 = .ok (.aload_n 0, 1) := by decide +kernel
theorem dX2_arm_14 : decode cX2_arm 14 = .ok (.iload_n 1, 1) := by decide +kernel
theorem dX2_arm_15 : decode cX2_arm 15 = .ok (.putfield 68, 3) := by decide +kernel
theorem dX2_arm_18 : decode cX2_arm 18 = .ok (.aload_n 0, 1) := by decide +kernel
theorem dX2_arm_19 : decode cX2_arm 19 = .ok (.lload_n 2, 1) := by decide +kernel
theorem dX2_arm_20 : decode cX2_arm 20 = .ok (.putfield 74, 3) := by decide +kernel
theorem dX2_arm_23 : decode cX2_arm 23 = .ok (.iconst 1, 1) := by decide +kernel
theorem dX2_arm_24 : decode cX2_arm 24 = .ok (.ireturn, 1) := by decide +kernel
theorem dX2_begin_0 : decode cX2_begin 0 = .ok (.aload_n 0, 1) := by decide +kernel
theorem dX2_begin_1 : decode cX2_begin 1 = .ok (.getfield 82, 3) := by decide +kernel
theorem dX2_begin_4 : decode cX2_begin 4 = .ok (.ifCond .ne 10, 3) := by decide +kernel
theorem dX2_begin_7 : decode cX2_begin 7 = .ok (.aload_n 0, 1) := by decide +kernel
theorem dX2_begin_8 : decode cX2_begin 8 = .ok (.getfield 86, 3) := by decide +kernel
theorem dX2_begin_11 : decode cX2_begin 11 = .ok (.ifCond .eq 5, 3) := by decide +kernel
theorem dX2_begin_14 : decode cX2_begin 14 = .ok (.iconst (-1), 1) := by decide +kernel
theorem dX2_begin_15 : decode cX2_begin 15 = .ok (.ireturn, 1) := by decide +kernel
theorem dX2_begin_16 : decode cX2_begin 16 = .ok (.aload_n 0, 1) := by decide +kernel
theorem dX2_begin_17 : decode cX2_begin 17 = .ok (.iconst 1, 1) := by decide +kernel
theorem dX2_begin_18 : decode cX2_begin 18 = .ok (.putfield 86, 3) := by decide +kernel
theorem dX2_begin_21 : decode cX2_begin 21 = .ok (.iconst 0, 1) := by decide +kernel
theorem dX2_begin_22 : decode cX2_begin 22 = .ok (.istore_n 1, 1) := by decide +kernel
theorem dX2_begin_23 : decode cX2_begin 23 = .ok (.iload_n 1, 1) := by decide +kernel
theorem dX2_begin_24 : decode cX2_begin 24 = .ok (.iconst 4, 1) := by decide +kernel
theorem dX2_begin_25 : decode cX2_begin 25 = .ok (.if_icmp .ge 16, 3) := by decide +kernel
theorem dX2_begin_28 : decode cX2_begin 28 = .ok (.aload_n 0, 1) := by decide +kernel
theorem dX2_begin_29 : decode cX2_begin 29 = .ok (.getfield 36, 3) := by decide +kernel
theorem dX2_begin_32 : decode cX2_begin 32 = .ok (.iload_n 1, 1) := by decide +kernel
theorem dX2_begin_33 : decode cX2_begin 33 = .ok (.iconst 0, 1) := by decide +kernel
theorem dX2_begin_34 : decode cX2_begin 34 = .ok (.bastore, 1) := by decide +kernel
theorem dX2_begin_35 : decode cX2_begin 35 = .ok (.iinc 1 1, 3) := by decide +kernel
theorem dX2_begin_38 : decode cX2_begin 38 = .ok (.goto (-15), 3) := by decide +kernel
theorem dX2_begin_41 : decode cX2_begin 41 = .ok (.iconst 0, 1) := by decide +kernel
theorem dX2_begin_42 : decode cX2_begin 42 = .ok (.ireturn, 1) := by decide +kernel
set_option maxRecDepth 20000 in
theorem ggX2_snapshot_X2_word : GoodIn wsX2_snapshot wsX2_word := goodIn_r _ [13] (by decide +kernel) (by decide +kernel)
set_option maxRecDepth 20000 in
theorem gX2_snapshot_X2_word : GoodIn wsX2_snapshot (va_wsS RX2 89 yX2_word wsX2_word) := goodIn_app (goodIn_of _ (by decide +kernel)) ggX2_snapshot_X2_word
set_option maxRecDepth 20000 in
theorem ggX2_snapshot_X2_taken : GoodIn wsX2_snapshot wsX2_taken := goodIn_r _ [17, 2, 4, 55, 56, 57, 58, 59, 60, 61, 62, 63, 64, 65, 66, 67, 68, 69, 70, 71, 72, 73] (by decide +kernel) (by decide +kernel)
set_option maxRecDepth 20000 in
theorem gX2_snapshot_X2_taken : GoodIn wsX2_snapshot (wsV RX2 92 RX2 yX2_taken wsX2_taken) := goodIn_app (goodIn_of _ (by decide +kernel)) ggX2_snapshot_X2_taken
set_option maxRecDepth 20000 in
theorem ggX2_snapshot_X2_list : GoodIn wsX2_snapshot wsX2_list := goodIn_r _ [21, 22, 9, 23, 24, 55, 56, 57, 58, 59, 60, 61, 62, 63, 64, 65, 66, 67, 68, 69, 70, 71, 72, 73] (by decide +kernel) (by decide +kernel)
set_option maxRecDepth 20000 in
theorem gX2_snapshot_X2_list : GoodIn wsX2_snapshot (wsV RX2 96 RX2 yX2_list wsX2_list) := goodIn_app (goodIn_of _ (by decide +kernel)) ggX2_snapshot_X2_list
set_option maxRecDepth 20000 in
theorem ggX2_snapshot_X2_go : GoodIn wsX2_snapshot wsX2_go := goodIn_r _ [28, 9, 29, 30, 31, 32, 12, 33, 22, 34, 8, 23, 24, 35, 6, 2, 36, 37, 38, 39, 40, 41, 42, 43, 44, 45, 46, 47, 48, 49, 1, 50, 51, 52, 53, 54, 55, 56, 57, 58, 59, 60, 61, 62, 63, 64, 65, 66, 67, 68, 69, 70, 71, 72, 73] (by decide +kernel) (by decide +kernel)
set_option maxRecDepth 20000 in
theorem gX2_snapshot_X2_go : GoodIn wsX2_snapshot (wsV RX2 100 RX2 yX2_go wsX2_go) := goodIn_app (goodIn_of _ (by decide +kernel)) ggX2_snapshot_X2_go
theorem dX2_snapshot_0 : decode cX2_snapshot 0 = .ok (.aload_n 0, 1) := by decide +kernel
theorem dX2_snapshot_1 : decode cX2_snapshot 1 = .ok (.getfield 86, 3) := by decide +kernel
theorem dX2_snapshot_4 : decode cX2_snapshot 4 = .ok (.ifCond .eq 45, 3) := by decide +kernel
theorem dX2_snapshot_7 : decode cX2_snapshot 7 = .ok (.iload_n 2, 1) := by decide +kernel
theorem dX2_snapshot_8 : decode cX2_snapshot 8 = .ok (.iconst 1, 1) := by decide +kernel
theorem dX2_snapshot_9 : decode cX2_snapshot 9 = .ok (.if_icmp .lt 40, 3) := by decide +kernel
theorem dX2_snapshot_12 : decode cX2_snapshot 12 = .ok (.iload_n 2, 1) := by decide +kernel
theorem dX2_snapshot_13 : decode cX2_snapshot 13 = .ok (.bipush 8, 2) := by decide +kernel
theorem dX2_snapshot_15 : decode cX2_snapshot 15 = .ok (.if_icmp .gt 34, 3) := by decide +kernel
theorem dX2_snapshot_18 : decode cX2_snapshot 18 = .ok (.iload_n 1, 1) := by decide +kernel
theorem dX2_snapshot_19 : decode cX2_snapshot 19 = .ok (.invokestatic 89, 3) := by decide +kernel
theorem dX2_snapshot_22 : decode cX2_snapshot 22 = .ok (.ifCond .eq 27, 3) := by decide +kernel
theorem dX2_snapshot_25 : decode cX2_snapshot 25 = .ok (.iload_n 1, 1) := by decide +kernel
theorem dX2_snapshot_26 : decode cX2_snapshot 26 = .ok (.iload_n 2, 1) := by decide +kernel
theorem dX2_snapshot_27 : decode cX2_snapshot 27 = .ok (.iadd, 1) := by decide +kernel
theorem dX2_snapshot_28 : decode cX2_snapshot 28 = .ok (.iconst 1, 1) := by decide +kernel
theorem dX2_snapshot_29 : decode cX2_snapshot 29 = .ok (.isub, 1) := by decide +kernel
theorem dX2_snapshot_30 : decode cX2_snapshot 30 = .ok (.invokestatic 89, 3) := by decide +kernel
theorem dX2_snapshot_33 : decode cX2_snapshot 33 = .ok (.ifCond .eq 16, 3) := by decide +kernel
theorem dX2_snapshot_36 : decode cX2_snapshot 36 = .ok (.aload_n 0, 1) := by decide +kernel
theorem dX2_snapshot_37 : decode cX2_snapshot 37 = .ok (.invokevirtual 92, 3) := by decide +kernel
theorem dX2_snapshot_40 : decode cX2_snapshot 40 = .ok (.iload_n 2, 1) := by decide +kernel
theorem dX2_snapshot_41 : decode cX2_snapshot 41 = .ok (.iadd, 1) := by decide +kernel
theorem dX2_snapshot_42 : decode cX2_snapshot 42 = .ok (.iconst 1, 1) := by decide +kernel
theorem dX2_snapshot_43 : decode cX2_snapshot 43 = .ok (.iadd, 1) := by decide +kernel
theorem dX2_snapshot_44 : decode cX2_snapshot 44 = .ok (.bipush 40, 2) := by decide +kernel
theorem dX2_snapshot_46 : decode cX2_snapshot 46 = .ok (.if_icmp .le 5, 3) := by decide +kernel
theorem dX2_snapshot_49 : decode cX2_snapshot 49 = .ok (.iconst (-1), 1) := by decide +kernel
theorem dX2_snapshot_50 : decode cX2_snapshot 50 = .ok (.ireturn, 1) := by decide +kernel
theorem dX2_snapshot_51 : decode cX2_snapshot 51 = .ok (.aload_n 0, 1) := by decide +kernel
theorem dX2_snapshot_52 : decode cX2_snapshot 52 = .ok (.invokevirtual 92, 3) := by decide +kernel
theorem dX2_snapshot_55 : decode cX2_snapshot 55 = .ok (.aload_n 0, 1) := by decide +kernel
theorem dX2_snapshot_56 : decode cX2_snapshot 56 = .ok (.getfield 52, 3) := by decide +kernel
theorem dX2_snapshot_59 : decode cX2_snapshot 59 = .ok (.isub, 1) := by decide +kernel
theorem dX2_snapshot_60 : decode cX2_snapshot 60 = .ok (.istore_n 3, 1) := by decide +kernel
theorem dX2_snapshot_61 : decode cX2_snapshot 61 = .ok (.aload_n 0, 1) := by decide +kernel
theorem dX2_snapshot_62 : decode cX2_snapshot 62 = .ok (.getfield 20, 3) := by decide +kernel
theorem dX2_snapshot_65 : decode cX2_snapshot 65 = .ok (.aload_n 0, 1) := by decide +kernel
theorem dX2_snapshot_66 : decode cX2_snapshot 66 = .ok (.getfield 52, 3) := by decide +kernel
theorem dX2_snapshot_69 : decode cX2_snapshot 69 = .ok (.iload_n 1, 1) := by decide +kernel
theorem dX2_snapshot_70 : decode cX2_snapshot 70 = .ok (.iastore, 1) := by decide +kernel
theorem dX2_snapshot_71 : decode cX2_snapshot 71 = .ok (.aload_n 0, 1) := by decide +kernel
theorem dX2_snapshot_72 : decode cX2_snapshot 72 = .ok (.getfield 24, 3) := by decide +kernel
theorem dX2_snapshot_75 : decode cX2_snapshot 75 = .ok (.aload_n 0, 1) := by decide +kernel
theorem dX2_snapshot_76 : decode cX2_snapshot 76 = .ok (.getfield 52, 3) := by decide +kernel
theorem dX2_snapshot_79 : decode cX2_snapshot 79 = .ok (.iload_n 2, 1) := by decide +kernel
theorem dX2_snapshot_80 : decode cX2_snapshot 80 = .ok (.iastore, 1) := by decide +kernel
theorem dX2_snapshot_81 : decode cX2_snapshot 81 = .ok (.aload_n 0, 1) := by decide +kernel
theorem dX2_snapshot_82 : decode cX2_snapshot 82 = .ok (.getfield 27, 3) := by decide +kernel
theorem dX2_snapshot_85 : decode cX2_snapshot 85 = .ok (.aload_n 0, 1) := by decide +kernel
theorem dX2_snapshot_86 : decode cX2_snapshot 86 = .ok (.getfield 52, 3) := by decide +kernel
theorem dX2_snapshot_89 : decode cX2_snapshot 89 = .ok (.iload_n 3, 1) := by decide +kernel
theorem dX2_snapshot_90 : decode cX2_snapshot 90 = .ok (.iastore, 1) := by decide +kernel
theorem dX2_snapshot_91 : decode cX2_snapshot 91 = .ok (.aload_n 0, 1) := by decide +kernel
theorem dX2_snapshot_92 : decode cX2_snapshot 92 = .ok (.getfield 30, 3) := by decide +kernel
theorem dX2_snapshot_95 : decode cX2_snapshot 95 = .ok (.aload_n 0, 1) := by decide +kernel
theorem dX2_snapshot_96 : decode cX2_snapshot 96 = .ok (.getfield 52, 3) := by decide +kernel
theorem dX2_snapshot_99 : decode cX2_snapshot 99 = .ok (.iconst 0, 1) := by decide +kernel
theorem dX2_snapshot_100 : decode cX2_snapshot 100 = .ok (.iastore, 1) := by decide +kernel
theorem dX2_snapshot_101 : decode cX2_snapshot 101 = .ok (.iconst 0, 1) := by decide +kernel
theorem dX2_snapshot_102 : decode cX2_snapshot 102 = .ok (.istore 4, 2) := by decide +kernel
theorem dX2_snapshot_104 : decode cX2_snapshot 104 = .ok (.iload 4, 2) := by decide +kernel
theorem dX2_snapshot_106 : decode cX2_snapshot 106 = .ok (.iload_n 2, 1) := by decide +kernel
theorem dX2_snapshot_107 : decode cX2_snapshot 107 = .ok (.if_icmp .ge 27, 3) := by decide +kernel
theorem dX2_snapshot_110 : decode cX2_snapshot 110 = .ok (.aload_n 0, 1) := by decide +kernel
theorem dX2_snapshot_111 : decode cX2_snapshot 111 = .ok (.getfield 33, 3) := by decide +kernel
theorem dX2_snapshot_114 : decode cX2_snapshot 114 = .ok (.iload_n 3, 1) := by decide +kernel
theorem dX2_snapshot_115 : decode cX2_snapshot 115 = .ok (.iload 4, 2) := by decide +kernel
theorem dX2_snapshot_117 : decode cX2_snapshot 117 = .ok (.iadd, 1) := by decide +kernel
theorem dX2_snapshot_118 : decode cX2_snapshot 118 = .ok (.aload_n 0, 1) := by decide +kernel
theorem dX2_snapshot_119 : decode cX2_snapshot 119 = .ok (.getfield 7, 3) := by decide +kernel
theorem dX2_snapshot_122 : decode cX2_snapshot 122 = .ok (.iload_n 1, 1) := by decide +kernel
theorem dX2_snapshot_123 : decode cX2_snapshot 123 = .ok (.iload 4, 2) := by decide +kernel
theorem dX2_snapshot_125 : decode cX2_snapshot 125 = .ok (.iadd, 1) := by decide +kernel
theorem dX2_snapshot_126 : decode cX2_snapshot 126 = .ok (.laload, 1) := by decide +kernel
theorem dX2_snapshot_127 : decode cX2_snapshot 127 = .ok (.lastore, 1) := by decide +kernel
theorem dX2_snapshot_128 : decode cX2_snapshot 128 = .ok (.iinc 4 1, 3) := by decide +kernel
theorem dX2_snapshot_131 : decode cX2_snapshot 131 = .ok (.goto (-27), 3) := by decide +kernel
theorem dX2_snapshot_134 : decode cX2_snapshot 134 = .ok (.aload_n 0, 1) := by decide +kernel
theorem dX2_snapshot_135 : decode cX2_snapshot 135 = .ok (.dup, 1) := by decide +kernel
theorem dX2_snapshot_136 : decode cX2_snapshot 136 = .ok (.getfield 52, 3) := by decide +kernel
theorem dX2_snapshot_139 : decode cX2_snapshot 139 = .ok (.iconst 1, 1) := by decide +kernel
theorem dX2_snapshot_140 : decode cX2_snapshot 140 = .ok (.iadd, 1) := by decide +kernel
theorem dX2_snapshot_141 : decode cX2_snapshot 141 = .ok (.putfield 52, 3) := by decide +kernel
theorem dX2_snapshot_144 : decode cX2_snapshot 144 = .ok (.aload_n 0, 1) := by decide +kernel
theorem dX2_snapshot_145 : decode cX2_snapshot 145 = .ok (.iconst 0, 1) := by decide +kernel
theorem dX2_snapshot_146 : decode cX2_snapshot 146 = .ok (.putfield 48, 3) := by decide +kernel
theorem dX2_snapshot_149 : decode cX2_snapshot 149 = .ok (.iconst 1, 1) := by decide +kernel
theorem dX2_snapshot_150 : decode cX2_snapshot 150 = .ok (.istore 4, 2) := by decide +kernel
theorem dX2_snapshot_152 : decode cX2_snapshot 152 = .ok (.iload 4, 2) := by decide +kernel
theorem dX2_snapshot_154 : decode cX2_snapshot 154 = .ok (.iload_n 2, 1) := by decide +kernel
theorem dX2_snapshot_155 : decode cX2_snapshot 155 = .ok (.iconst 4, 1) := by decide +kernel
theorem dX2_snapshot_156 : decode cX2_snapshot 156 = .ok (.iadd, 1) := by decide +kernel
theorem dX2_snapshot_157 : decode cX2_snapshot 157 = .ok (.if_icmp .gt 40, 3) := by decide +kernel
theorem dX2_snapshot_160 : decode cX2_snapshot 160 = .ok (.aload_n 0, 1) := by decide +kernel
theorem dX2_snapshot_161 : decode cX2_snapshot 161 = .ok (.iload 4, 2) := by decide +kernel
theorem dX2_snapshot_163 : decode cX2_snapshot 163 = .ok (.iload_n 2, 1) := by decide +kernel
theorem dX2_snapshot_164 : decode cX2_snapshot 164 = .ok (.iconst 2, 1) := by decide +kernel
theorem dX2_snapshot_165 : decode cX2_snapshot 165 = .ok (.iadd, 1) := by decide +kernel
theorem dX2_snapshot_166 : decode cX2_snapshot 166 = .ok (.if_icmp .ne 7, 3) := by decide +kernel
theorem dX2_snapshot_169 : decode cX2_snapshot 169 = .ok (.iconst 4, 1) := by decide +kernel
theorem dX2_snapshot_170 : decode cX2_snapshot 170 = .ok (.goto 16, 3) := by decide +kernel
theorem dX2_snapshot_173 : decode cX2_snapshot 173 = .ok (.iload 4, 2) := by decide +kernel
theorem dX2_snapshot_175 : decode cX2_snapshot 175 = .ok (.iload_n 2, 1) := by decide +kernel
theorem dX2_snapshot_176 : decode cX2_snapshot 176 = .ok (.iconst 4, 1) := by decide +kernel
theorem dX2_snapshot_177 : decode cX2_snapshot 177 = .ok (.iadd, 1) := by decide +kernel
theorem dX2_snapshot_178 : decode cX2_snapshot 178 = .ok (.if_icmp .ne 7, 3) := by decide +kernel
theorem dX2_snapshot_181 : decode cX2_snapshot 181 = .ok (.iconst 5, 1) := by decide +kernel
theorem dX2_snapshot_182 : decode cX2_snapshot 182 = .ok (.goto 4, 3) := by decide +kernel
theorem dX2_snapshot_185 : decode cX2_snapshot 185 = .ok (.iconst 0, 1) := by decide +kernel
theorem dX2_snapshot_186 : decode cX2_snapshot 186 = .ok (.iconst 0, 1) := by decide +kernel
theorem dX2_snapshot_187 : decode cX2_snapshot 187 = .ok (.lconst 0, 1) := by decide +kernel
theorem dX2_snapshot_188 : decode cX2_snapshot 188 = .ok (.invokevirtual 96, 3) := by decide +kernel
theorem dX2_snapshot_191 : decode cX2_snapshot 191 = .ok (.iinc 4 1, 3) := by decide +kernel
theorem dX2_snapshot_194 : decode cX2_snapshot 194 = .ok (.goto (-42), 3) := by decide +kernel
theorem dX2_snapshot_197 : decode cX2_snapshot 197 = .ok (.aload_n 0, 1) := by decide +kernel
theorem dX2_snapshot_198 : decode cX2_snapshot 198 = .ok (.invokevirtual 100, 3) := by decide +kernel
theorem dX2_snapshot_201 : decode cX2_snapshot 201 = .ok (.ireturn, 1) := by decide +kernel
theorem dX2_covered_0 : decode cX2_covered 0 = .ok (.iconst 0, 1) := by decide +kernel
theorem dX2_covered_1 : decode cX2_covered 1 = .ok (.istore_n 2, 1) := by decide +kernel
theorem dX2_covered_2 : decode cX2_covered 2 = .ok (.iconst 0, 1) := by decide +kernel
theorem dX2_covered_3 : decode cX2_covered 3 = .ok (.istore_n 3, 1) := by decide +kernel
theorem dX2_covered_4 : decode cX2_covered 4 = .ok (.iload_n 3, 1) := by decide +kernel
theorem dX2_covered_5 : decode cX2_covered 5 = .ok (.aload_n 0, 1) := by decide +kernel
theorem dX2_covered_6 : decode cX2_covered 6 = .ok (.getfield 52, 3) := by decide +kernel
theorem dX2_covered_9 : decode cX2_covered 9 = .ok (.if_icmp .ge 46, 3) := by decide +kernel
theorem dX2_covered_12 : decode cX2_covered 12 = .ok (.iload_n 2, 1) := by decide +kernel
theorem dX2_covered_13 : decode cX2_covered 13 = .ok (.ifCond .ne 30, 3) := by decide +kernel
theorem dX2_covered_16 : decode cX2_covered 16 = .ok (.iload_n 1, 1) := by decide +kernel
theorem dX2_covered_17 : decode cX2_covered 17 = .ok (.aload_n 0, 1) := by decide +kernel
theorem dX2_covered_18 : decode cX2_covered 18 = .ok (.getfield 20, 3) := by decide +kernel
theorem dX2_covered_21 : decode cX2_covered 21 = .ok (.iload_n 3, 1) := by decide +kernel
theorem dX2_covered_22 : decode cX2_covered 22 = .ok (.iaload, 1) := by decide +kernel
theorem dX2_covered_23 : decode cX2_covered 23 = .ok (.if_icmp .lt 24, 3) := by decide +kernel
theorem dX2_covered_26 : decode cX2_covered 26 = .ok (.iload_n 1, 1) := by decide +kernel
theorem dX2_covered_27 : decode cX2_covered 27 = .ok (.aload_n 0, 1) := by decide +kernel
theorem dX2_covered_28 : decode cX2_covered 28 = .ok (.getfield 20, 3) := by decide +kernel
theorem dX2_covered_31 : decode cX2_covered 31 = .ok (.iload_n 3, 1) := by decide +kernel
theorem dX2_covered_32 : decode cX2_covered 32 = .ok (.iaload, 1) := by decide +kernel
theorem dX2_covered_33 : decode cX2_covered 33 = .ok (.aload_n 0, 1) := by decide +kernel
theorem dX2_covered_34 : decode cX2_covered 34 = .ok (.getfield 24, 3) := by decide +kernel
theorem dX2_covered_37 : decode cX2_covered 37 = .ok (.iload_n 3, 1) := by decide +kernel
theorem dX2_covered_38 : decode cX2_covered 38 = .ok (.iaload, 1) := by decide +kernel
theorem dX2_covered_39 : decode cX2_covered 39 = .ok (.iadd, 1) := by decide +kernel
theorem dX2_covered_40 : decode cX2_covered 40 = .ok (.if_icmp .ge 7, 3) := by decide +kernel
theorem dX2_covered_43 : decode cX2_covered 43 = .ok (.iconst 1, 1) := by decide +kernel
theorem dX2_covered_44 : decode cX2_covered 44 = .ok (.goto 4, 3) := by decide +kernel
theorem dX2_covered_47 : decode cX2_covered 47 = .ok (.iconst 0, 1) := by decide +kernel
theorem dX2_covered_48 : decode cX2_covered 48 = .ok (.istore_n 2, 1) := by decide +kernel
theorem dX2_covered_49 : decode cX2_covered 49 = .ok (.iinc 3 1, 3) := by decide +kernel
theorem dX2_covered_52 : decode cX2_covered 52 = .ok (.goto (-48), 3) := by decide +kernel
theorem dX2_covered_55 : decode cX2_covered 55 = .ok (.iload_n 2, 1) := by decide +kernel
theorem dX2_covered_56 : decode cX2_covered 56 = .ok (.ireturn, 1) := by decide +kernel
set_option maxRecDepth 20000 in
theorem ggX2_store_X2_word : GoodIn wsX2_store wsX2_word := goodIn_r _ [7] (by decide +kernel) (by decide +kernel)
set_option maxRecDepth 20000 in
theorem gX2_store_X2_word : GoodIn wsX2_store (va_wsS RX2 89 yX2_word wsX2_word) := goodIn_app (goodIn_of _ (by decide +kernel)) ggX2_store_X2_word
set_option maxRecDepth 20000 in
theorem ggX2_store_X2_covered : GoodIn wsX2_store wsX2_covered := goodIn_r _ [11, 12, 13, 14, 54, 55, 56, 57, 58, 59, 60, 61, 62, 63, 64, 65, 66, 67, 68, 69, 70, 71, 72] (by decide +kernel) (by decide +kernel)
set_option maxRecDepth 20000 in
theorem gX2_store_X2_covered : GoodIn wsX2_store (wsV RX2 103 RX2 yX2_covered wsX2_covered) := goodIn_app (goodIn_of _ (by decide +kernel)) ggX2_store_X2_covered
set_option maxRecDepth 20000 in
theorem ggX2_store_X2_list : GoodIn wsX2_store wsX2_list := goodIn_r _ [18, 19, 3, 20, 21, 54, 55, 56, 57, 58, 59, 60, 61, 62, 63, 64, 65, 66, 67, 68, 69, 70, 71, 72] (by decide +kernel) (by decide +kernel)
set_option maxRecDepth 20000 in
theorem gX2_store_X2_list : GoodIn wsX2_store (wsV RX2 96 RX2 yX2_list wsX2_list) := goodIn_app (goodIn_of _ (by decide +kernel)) ggX2_store_X2_list
set_option maxRecDepth 20000 in
theorem ggX2_store_X2_go : GoodIn wsX2_store wsX2_go := goodIn_r _ [25, 3, 26, 27, 28, 29, 6, 30, 19, 31, 32, 20, 21, 33, 34, 12, 35, 36, 37, 38, 39, 40, 41, 42, 43, 44, 45, 46, 47, 48, 1, 49, 50, 51, 52, 53, 54, 55, 56, 57, 58, 59, 60, 61, 62, 63, 64, 65, 66, 67, 68, 69, 70, 71, 72] (by decide +kernel) (by decide +kernel)
set_option maxRecDepth 20000 in
theorem gX2_store_X2_go : GoodIn wsX2_store (wsV RX2 100 RX2 yX2_go wsX2_go) := goodIn_app (goodIn_of _ (by decide +kernel)) ggX2_store_X2_go
theorem dX2_store_0 : decode cX2_store 0 = .ok (.aload_n 0, 1) := by decide +kernel
theorem dX2_store_1 : decode cX2_store 1 = .ok (.getfield 86, 3) := by decide +kernel
theorem dX2_store_4 : decode cX2_store 4 = .ok (.ifCond .eq 18, 3) := by decide +kernel
theorem dX2_store_7 : decode cX2_store 7 = .ok (.iload_n 1, 1) := by decide +kernel
theorem dX2_store_8 : decode cX2_store 8 = .ok (.invokestatic 89, 3) := by decide +kernel
theorem dX2_store_11 : decode cX2_store 11 = .ok (.ifCond .eq 11, 3) := by decide +kernel
theorem dX2_store_14 : decode cX2_store 14 = .ok (.aload_n 0, 1) := by decide +kernel
theorem dX2_store_15 : decode cX2_store 15 = .ok (.iload_n 1, 1) := by decide +kernel
theorem dX2_store_16 : decode cX2_store 16 = .ok (.invokevirtual 103, 3) := by decide +kernel
theorem dX2_store_19 : decode cX2_store 19 = .ok (.ifCond .ne 5, 3) := by decide +kernel
theorem dX2_store_22 : decode cX2_store 22 = .ok (.iconst (-1), 1) := by decide +kernel
theorem dX2_store_23 : decode cX2_store 23 = .ok (.ireturn, 1) := by decide +kernel
theorem dX2_store_24 : decode cX2_store 24 = .ok (.aload_n 0, 1) := by decide +kernel
theorem dX2_store_25 : decode cX2_store 25 = .ok (.getfield 36, 3) := by decide +kernel
theorem dX2_store_28 : decode cX2_store 28 = .ok (.iload_n 1, 1) := by decide +kernel
theorem dX2_store_29 : decode cX2_store 29 = .ok (.bipush 8, 2) := by decide +kernel
theorem dX2_store_31 : decode cX2_store 31 = .ok (.idiv, 1) := by decide +kernel
theorem dX2_store_32 : decode cX2_store 32 = .ok (.iconst 1, 1) := by decide +kernel
theorem dX2_store_33 : decode cX2_store 33 = .ok (.bastore, 1) := by decide +kernel
theorem dX2_store_34 : decode cX2_store 34 = .ok (.aload_n 0, 1) := by decide +kernel
theorem dX2_store_35 : decode cX2_store 35 = .ok (.iconst 0, 1) := by decide +kernel
theorem dX2_store_36 : decode cX2_store 36 = .ok (.putfield 48, 3) := by decide +kernel
theorem dX2_store_39 : decode cX2_store 39 = .ok (.aload_n 0, 1) := by decide +kernel
theorem dX2_store_40 : decode cX2_store 40 = .ok (.iconst 1, 1) := by decide +kernel
theorem dX2_store_41 : decode cX2_store 41 = .ok (.iload_n 1, 1) := by decide +kernel
theorem dX2_store_42 : decode cX2_store 42 = .ok (.lload_n 2, 1) := by decide +kernel
theorem dX2_store_43 : decode cX2_store 43 = .ok (.invokevirtual 96, 3) := by decide +kernel
theorem dX2_store_46 : decode cX2_store 46 = .ok (.aload_n 0, 1) := by decide +kernel
theorem dX2_store_47 : decode cX2_store 47 = .ok (.invokevirtual 100, 3) := by decide +kernel
theorem dX2_store_50 : decode cX2_store 50 = .ok (.ireturn, 1) := by decide +kernel
set_option maxRecDepth 20000 in
theorem ggX2_listClearing_X2_list : GoodIn wsX2_listClearing wsX2_list := goodIn_r _ [6, 7, 8, 9, 10, 11, 12, 13, 14, 15, 16, 17, 18, 19, 20, 21, 22, 23, 24, 25, 26, 27, 28, 29] (by decide +kernel) (by decide +kernel)
set_option maxRecDepth 20000 in
theorem gX2_listClearing_X2_list : GoodIn wsX2_listClearing (wsV RX2 96 RX2 yX2_list wsX2_list) := goodIn_app (goodIn_of _ (by decide +kernel)) ggX2_listClearing_X2_list
theorem dX2_listClearing_0 : decode cX2_listClearing 0 = .ok (.aload_n 0, 1) := by decide +kernel
theorem dX2_listClearing_1 : decode cX2_listClearing 1 = .ok (.getfield 52, 3) := by decide +kernel
theorem dX2_listClearing_4 : decode cX2_listClearing 4 = .ok (.ifCond .ne 4, 3) := by decide +kernel
theorem dX2_listClearing_7 : decode cX2_listClearing 7 = .ok (.return_, 1) := by decide +kernel
theorem dX2_listClearing_8 : decode cX2_listClearing 8 = .ok (.aload_n 0, 1) := by decide +kernel
theorem dX2_listClearing_9 : decode cX2_listClearing 9 = .ok (.bipush 6, 2) := by decide +kernel
theorem dX2_listClearing_11 : decode cX2_listClearing 11 = .ok (.iconst 0, 1) := by decide +kernel
theorem dX2_listClearing_12 : decode cX2_listClearing 12 = .ok (.lconst 0, 1) := by decide +kernel
theorem dX2_listClearing_13 : decode cX2_listClearing 13 = .ok (.invokevirtual 96, 3) := by decide +kernel
theorem dX2_listClearing_16 : decode cX2_listClearing 16 = .ok (.aload_n 0, 1) := by decide +kernel
theorem dX2_listClearing_17 : decode cX2_listClearing 17 = .ok (.iconst 0, 1) := by decide +kernel
theorem dX2_listClearing_18 : decode cX2_listClearing 18 = .ok (.iconst 0, 1) := by decide +kernel
theorem dX2_listClearing_19 : decode cX2_listClearing 19 = .ok (.lconst 0, 1) := by decide +kernel
theorem dX2_listClearing_20 : decode cX2_listClearing 20 = .ok (.invokevirtual 96, 3) := by decide +kernel
theorem dX2_listClearing_23 : decode cX2_listClearing 23 = .ok (.aload_n 0, 1) := by decide +kernel
theorem dX2_listClearing_24 : decode cX2_listClearing 24 = .ok (.bipush 7, 2) := by decide +kernel
theorem dX2_listClearing_26 : decode cX2_listClearing 26 = .ok (.iconst 0, 1) := by decide +kernel
theorem dX2_listClearing_27 : decode cX2_listClearing 27 = .ok (.lconst 0, 1) := by decide +kernel
theorem dX2_listClearing_28 : decode cX2_listClearing 28 = .ok (.invokevirtual 96, 3) := by decide +kernel
theorem dX2_listClearing_31 : decode cX2_listClearing 31 = .ok (.return_, 1) := by decide +kernel
set_option maxRecDepth 20000 in
theorem ggX2_commit_X2_list : GoodIn wsX2_commit wsX2_list := goodIn_r _ [8, 9, 2, 10, 11, 49, 50, 51, 52, 53, 54, 55, 56, 57, 58, 59, 60, 61, 62, 63, 64, 65, 66, 67] (by decide +kernel) (by decide +kernel)
set_option maxRecDepth 20000 in
theorem gX2_commit_X2_list : GoodIn wsX2_commit (wsV RX2 96 RX2 yX2_list wsX2_list) := goodIn_app (goodIn_of _ (by decide +kernel)) ggX2_commit_X2_list
set_option maxRecDepth 20000 in
theorem ggX2_commit_X2_listClearing : GoodIn wsX2_commit wsX2_listClearing := goodIn_r _ [15, 16, 4, 5, 6, 7, 8, 9, 2, 10, 11, 49, 50, 51, 52, 53, 54, 55, 56, 57, 58, 59, 60, 61, 62, 63, 64, 65, 66, 67] (by decide +kernel) (by decide +kernel)
set_option maxRecDepth 20000 in
theorem gX2_commit_X2_listClearing : GoodIn wsX2_commit (wsV RX2 106 RX2 yX2_listClearing wsX2_listClearing) := goodIn_app (goodIn_of _ (by decide +kernel)) ggX2_commit_X2_listClearing
set_option maxRecDepth 20000 in
theorem ggX2_commit_X2_go : GoodIn wsX2_commit wsX2_go := goodIn_r _ [20, 2, 21, 22, 23, 24, 7, 25, 9, 26, 27, 10, 11, 28, 29, 16, 30, 31, 32, 33, 34, 35, 36, 37, 38, 39, 40, 41, 42, 43, 1, 44, 45, 46, 47, 48, 49, 50, 51, 52, 53, 54, 55, 56, 57, 58, 59, 60, 61, 62, 63, 64, 65, 66, 67] (by decide +kernel) (by decide +kernel)
set_option maxRecDepth 20000 in
theorem gX2_commit_X2_go : GoodIn wsX2_commit (wsV RX2 100 RX2 yX2_go wsX2_go) := goodIn_app (goodIn_of _ (by decide +kernel)) ggX2_commit_X2_go
theorem dX2_commit_0 : decode cX2_commit 0 = .ok (.aload_n 0, 1) := by decide +kernel
theorem dX2_commit_1 : decode cX2_commit 1 = .ok (.getfield 86, 3) := by decide +kernel
theorem dX2_commit_4 : decode cX2_commit 4 = .ok (.ifCond .ne 5, 3) := by decide +kernel
theorem dX2_commit_7 : decode cX2_commit 7 = .ok (.iconst (-1), 1) := by decide +kernel
theorem dX2_commit_8 : decode cX2_commit 8 = .ok (.ireturn, 1) := by decide +kernel
theorem dX2_commit_9 : decode cX2_commit 9 = .ok (.aload_n 0, 1) := by decide +kernel
theorem dX2_commit_10 : decode cX2_commit 10 = .ok (.iconst 0, 1) := by decide +kernel
theorem dX2_commit_11 : decode cX2_commit 11 = .ok (.putfield 48, 3) := by decide +kernel
theorem dX2_commit_14 : decode cX2_commit 14 = .ok (.iconst 0, 1) := by decide +kernel
theorem dX2_commit_15 : decode cX2_commit 15 = .ok (.istore_n 1, 1) := by decide +kernel
theorem dX2_commit_16 : decode cX2_commit 16 = .ok (.iload_n 1, 1) := by decide +kernel
theorem dX2_commit_17 : decode cX2_commit 17 = .ok (.iconst 4, 1) := by decide +kernel
theorem dX2_commit_18 : decode cX2_commit 18 = .ok (.if_icmp .ge 25, 3) := by decide +kernel
theorem dX2_commit_21 : decode cX2_commit 21 = .ok (.aload_n 0, 1) := by decide +kernel
theorem dX2_commit_22 : decode cX2_commit 22 = .ok (.getfield 36, 3) := by decide +kernel
theorem dX2_commit_25 : decode cX2_commit 25 = .ok (.iload_n 1, 1) := by decide +kernel
theorem dX2_commit_26 : decode cX2_commit 26 = .ok (.baload, 1) := by decide +kernel
theorem dX2_commit_27 : decode cX2_commit 27 = .ok (.ifCond .eq 10, 3) := by decide +kernel
theorem dX2_commit_30 : decode cX2_commit 30 = .ok (.aload_n 0, 1) := by decide +kernel
theorem dX2_commit_31 : decode cX2_commit 31 = .ok (.iconst 2, 1) := by decide +kernel
theorem dX2_commit_32 : decode cX2_commit 32 = .ok (.iload_n 1, 1) := by decide +kernel
theorem dX2_commit_33 : decode cX2_commit 33 = .ok (.lconst 0, 1) := by decide +kernel
theorem dX2_commit_34 : decode cX2_commit 34 = .ok (.invokevirtual 96, 3) := by decide +kernel
theorem dX2_commit_37 : decode cX2_commit 37 = .ok (.iinc 1 1, 3) := by decide +kernel
theorem dX2_commit_40 : decode cX2_commit 40 = .ok (.goto (-24), 3) := by decide +kernel
theorem dX2_commit_43 : decode cX2_commit 43 = .ok (.aload_n 0, 1) := by decide +kernel
theorem dX2_commit_44 : decode cX2_commit 44 = .ok (.getfield 48, 3) := by decide +kernel
theorem dX2_commit_47 : decode cX2_commit 47 = .ok (.ifCond .le 10, 3) := by decide +kernel
theorem dX2_commit_50 : decode cX2_commit 50 = .ok (.aload_n 0, 1) := by decide +kernel
theorem dX2_commit_51 : decode cX2_commit 51 = .ok (.iconst 3, 1) := by decide +kernel
theorem dX2_commit_52 : decode cX2_commit 52 = .ok (.iconst 0, 1) := by decide +kernel
theorem dX2_commit_53 : decode cX2_commit 53 = .ok (.lconst 0, 1) := by decide +kernel
theorem dX2_commit_54 : decode cX2_commit 54 = .ok (.invokevirtual 96, 3) := by decide +kernel
theorem dX2_commit_57 : decode cX2_commit 57 = .ok (.aload_n 0, 1) := by decide +kernel
theorem dX2_commit_58 : decode cX2_commit 58 = .ok (.invokevirtual 106, 3) := by decide +kernel
theorem dX2_commit_61 : decode cX2_commit 61 = .ok (.aload_n 0, 1) := by decide +kernel
theorem dX2_commit_62 : decode cX2_commit 62 = .ok (.iconst 0, 1) := by decide +kernel
theorem dX2_commit_63 : decode cX2_commit 63 = .ok (.putfield 86, 3) := by decide +kernel
theorem dX2_commit_66 : decode cX2_commit 66 = .ok (.aload_n 0, 1) := by decide +kernel
theorem dX2_commit_67 : decode cX2_commit 67 = .ok (.invokevirtual 100, 3) := by decide +kernel
theorem dX2_commit_70 : decode cX2_commit 70 = .ok (.ireturn, 1) := by decide +kernel
set_option maxRecDepth 20000 in
theorem ggX2_listUndoing_X2_list : GoodIn wsX2_listUndoing wsX2_list := goodIn_r _ [11, 12, 1, 13, 14, 23, 24, 25, 26, 27, 28, 29, 30, 31, 32, 33, 34, 35, 36, 37, 38, 39, 40, 41] (by decide +kernel) (by decide +kernel)
set_option maxRecDepth 20000 in
theorem gX2_listUndoing_X2_list : GoodIn wsX2_listUndoing (wsV RX2 96 RX2 yX2_list wsX2_list) := goodIn_app (goodIn_of _ (by decide +kernel)) ggX2_listUndoing_X2_list
set_option maxRecDepth 20000 in
theorem ggX2_listUndoing_X2_covered : GoodIn wsX2_listUndoing wsX2_covered := goodIn_r _ [18, 2, 4, 3, 23, 24, 25, 26, 27, 28, 29, 30, 31, 32, 33, 34, 35, 36, 37, 38, 39, 40, 41] (by decide +kernel) (by decide +kernel)
set_option maxRecDepth 20000 in
theorem gX2_listUndoing_X2_covered : GoodIn wsX2_listUndoing (wsV RX2 103 RX2 yX2_covered wsX2_covered) := goodIn_app (goodIn_of _ (by decide +kernel)) ggX2_listUndoing_X2_covered
set_option maxRecDepth 20000 in
theorem ggX2_listUndoing_X2_listClearing : GoodIn wsX2_listUndoing wsX2_listClearing := goodIn_r _ [22, 2, 7, 8, 9, 10, 11, 12, 1, 13, 14, 23, 24, 25, 26, 27, 28, 29, 30, 31, 32, 33, 34, 35, 36, 37, 38, 39, 40, 41] (by decide +kernel) (by decide +kernel)
set_option maxRecDepth 20000 in
theorem gX2_listUndoing_X2_listClearing : GoodIn wsX2_listUndoing (wsV RX2 106 RX2 yX2_listClearing wsX2_listClearing) := goodIn_app (goodIn_of _ (by decide +kernel)) ggX2_listUndoing_X2_listClearing
theorem dX2_listUndoing_0 : decode cX2_listUndoing 0 = .ok (.aload_n 0, 1) := by decide +kernel
theorem dX2_listUndoing_1 : decode cX2_listUndoing 1 = .ok (.iconst 0, 1) := by decide +kernel
theorem dX2_listUndoing_2 : decode cX2_listUndoing 2 = .ok (.putfield 48, 3) := by decide +kernel
theorem dX2_listUndoing_5 : decode cX2_listUndoing 5 = .ok (.aload_n 0, 1) := by decide +kernel
theorem dX2_listUndoing_6 : decode cX2_listUndoing 6 = .ok (.getfield 52, 3) := by decide +kernel
theorem dX2_listUndoing_9 : decode cX2_listUndoing 9 = .ok (.ifCond .ne 4, 3) := by decide +kernel
theorem dX2_listUndoing_12 : decode cX2_listUndoing 12 = .ok (.return_, 1) := by decide +kernel
theorem dX2_listUndoing_13 : decode cX2_listUndoing 13 = .ok (.aload_n 0, 1) := by decide +kernel
theorem dX2_listUndoing_14 : decode cX2_listUndoing 14 = .ok (.getfield 52, 3) := by decide +kernel
theorem dX2_listUndoing_17 : decode cX2_listUndoing 17 = .ok (.iconst 1, 1) := by decide +kernel
theorem dX2_listUndoing_18 : decode cX2_listUndoing 18 = .ok (.isub, 1) := by decide +kernel
theorem dX2_listUndoing_19 : decode cX2_listUndoing 19 = .ok (.istore_n 1, 1) := by decide +kernel
theorem dX2_listUndoing_20 : decode cX2_listUndoing 20 = .ok (.iload_n 1, 1) := by decide +kernel
theorem dX2_listUndoing_21 : decode cX2_listUndoing 21 = .ok (.ifCond .lt 53, 3) := by decide +kernel
theorem dX2_listUndoing_24 : decode cX2_listUndoing 24 = .ok (.iconst 0, 1) := by decide +kernel
theorem dX2_listUndoing_25 : decode cX2_listUndoing 25 = .ok (.istore_n 2, 1) := by decide +kernel
theorem dX2_listUndoing_26 : decode cX2_listUndoing 26 = .ok (.iload_n 2, 1) := by decide +kernel
theorem dX2_listUndoing_27 : decode cX2_listUndoing 27 = .ok (.aload_n 0, 1) := by decide +kernel
theorem dX2_listUndoing_28 : decode cX2_listUndoing 28 = .ok (.getfield 24, 3) := by decide +kernel
theorem dX2_listUndoing_31 : decode cX2_listUndoing 31 = .ok (.iload_n 1, 1) := by decide +kernel
theorem dX2_listUndoing_32 : decode cX2_listUndoing 32 = .ok (.iaload, 1) := by decide +kernel
theorem dX2_listUndoing_33 : decode cX2_listUndoing 33 = .ok (.if_icmp .ge 35, 3) := by decide +kernel
theorem dX2_listUndoing_36 : decode cX2_listUndoing 36 = .ok (.aload_n 0, 1) := by decide +kernel
theorem dX2_listUndoing_37 : decode cX2_listUndoing 37 = .ok (.iconst 1, 1) := by decide +kernel
theorem dX2_listUndoing_38 : decode cX2_listUndoing 38 = .ok (.aload_n 0, 1) := by decide +kernel
theorem dX2_listUndoing_39 : decode cX2_listUndoing 39 = .ok (.getfield 20, 3) := by decide +kernel
theorem dX2_listUndoing_42 : decode cX2_listUndoing 42 = .ok (.iload_n 1, 1) := by decide +kernel
theorem dX2_listUndoing_43 : decode cX2_listUndoing 43 = .ok (.iaload, 1) := by decide +kernel
theorem dX2_listUndoing_44 : decode cX2_listUndoing 44 = .ok (.iload_n 2, 1) := by decide +kernel
theorem dX2_listUndoing_45 : decode cX2_listUndoing 45 = .ok (.iadd, 1) := by decide +kernel
theorem dX2_listUndoing_46 : decode cX2_listUndoing 46 = .ok (.aload_n 0, 1) := by decide +kernel
theorem dX2_listUndoing_47 : decode cX2_listUndoing 47 = .ok (.getfield 33, 3) := by decide +kernel
theorem dX2_listUndoing_50 : decode cX2_listUndoing 50 = .ok (.aload_n 0, 1) := by decide +kernel
theorem dX2_listUndoing_51 : decode cX2_listUndoing 51 = .ok (.getfield 27, 3) := by decide +kernel
theorem dX2_listUndoing_54 : decode cX2_listUndoing 54 = .ok (.iload_n 1, 1) := by decide +kernel
theorem dX2_listUndoing_55 : decode cX2_listUndoing 55 = .ok (.iaload, 1) := by decide +kernel
theorem dX2_listUndoing_56 : decode cX2_listUndoing 56 = .ok (.iload_n 2, 1) := by decide +kernel
theorem dX2_listUndoing_57 : decode cX2_listUndoing 57 = .ok (.iadd, 1) := by decide +kernel
theorem dX2_listUndoing_58 : decode cX2_listUndoing 58 = .ok (.laload, 1) := by decide +kernel
theorem dX2_listUndoing_59 : decode cX2_listUndoing 59 = .ok (.invokevirtual 96, 3) := by decide +kernel
theorem dX2_listUndoing_62 : decode cX2_listUndoing 62 = .ok (.iinc 2 1, 3) := by decide +kernel
theorem dX2_listUndoing_65 : decode cX2_listUndoing 65 = .ok (.goto (-39), 3) := by decide +kernel
theorem dX2_listUndoing_68 : decode cX2_listUndoing 68 = .ok (.iinc 1 (-1), 3) := by decide +kernel
theorem dX2_listUndoing_71 : decode cX2_listUndoing 71 = .ok (.goto (-51), 3) := by decide +kernel
theorem dX2_listUndoing_74 : decode cX2_listUndoing 74 = .ok (.iconst 0, 1) := by decide +kernel
theorem dX2_listUndoing_75 : decode cX2_listUndoing 75 = .ok (.istore_n 1, 1) := by decide +kernel
theorem dX2_listUndoing_76 : decode cX2_listUndoing 76 = .ok (.iload_n 1, 1) := by decide +kernel
theorem dX2_listUndoing_77 : decode cX2_listUndoing 77 = .ok (.iconst 4, 1) := by decide +kernel
theorem dX2_listUndoing_78 : decode cX2_listUndoing 78 = .ok (.if_icmp .ge 62, 3) := by decide +kernel
theorem dX2_listUndoing_81 : decode cX2_listUndoing 81 = .ok (.iconst 0, 1) := by decide +kernel
theorem dX2_listUndoing_82 : decode cX2_listUndoing 82 = .ok (.istore_n 2, 1) := by decide +kernel
theorem dX2_listUndoing_83 : decode cX2_listUndoing 83 = .ok (.bipush 8, 2) := by decide +kernel
theorem dX2_listUndoing_85 : decode cX2_listUndoing 85 = .ok (.iload_n 1, 1) := by decide +kernel
theorem dX2_listUndoing_86 : decode cX2_listUndoing 86 = .ok (.imul, 1) := by decide +kernel
theorem dX2_listUndoing_87 : decode cX2_listUndoing 87 = .ok (.istore_n 3, 1) := by decide +kernel
theorem dX2_listUndoing_88 : decode cX2_listUndoing 88 = .ok (.iload_n 3, 1) := by decide +kernel
theorem dX2_listUndoing_89 : decode cX2_listUndoing 89 = .ok (.bipush 8, 2) := by decide +kernel
theorem dX2_listUndoing_91 : decode cX2_listUndoing 91 = .ok (.iload_n 1, 1) := by decide +kernel
theorem dX2_listUndoing_92 : decode cX2_listUndoing 92 = .ok (.imul, 1) := by decide +kernel
theorem dX2_listUndoing_93 : decode cX2_listUndoing 93 = .ok (.bipush 8, 2) := by decide +kernel
theorem dX2_listUndoing_95 : decode cX2_listUndoing 95 = .ok (.iadd, 1) := by decide +kernel
theorem dX2_listUndoing_96 : decode cX2_listUndoing 96 = .ok (.if_icmp .ge 27, 3) := by decide +kernel
theorem dX2_listUndoing_99 : decode cX2_listUndoing 99 = .ok (.iload_n 2, 1) := by decide +kernel
theorem dX2_listUndoing_100 : decode cX2_listUndoing 100 = .ok (.ifCond .ne 11, 3) := by decide +kernel
theorem dX2_listUndoing_103 : decode cX2_listUndoing 103 = .ok (.aload_n 0, 1) := by decide +kernel
theorem dX2_listUndoing_104 : decode cX2_listUndoing 104 = .ok (.iload_n 3, 1) := by decide +kernel
theorem dX2_listUndoing_105 : decode cX2_listUndoing 105 = .ok (.invokevirtual 103, 3) := by decide +kernel
theorem dX2_listUndoing_108 : decode cX2_listUndoing 108 = .ok (.ifCond .eq 7, 3) := by decide +kernel
theorem dX2_listUndoing_111 : decode cX2_listUndoing 111 = .ok (.iconst 1, 1) := by decide +kernel
theorem dX2_listUndoing_112 : decode cX2_listUndoing 112 = .ok (.goto 4, 3) := by decide +kernel
theorem dX2_listUndoing_115 : decode cX2_listUndoing 115 = .ok (.iconst 0, 1) := by decide +kernel
theorem dX2_listUndoing_116 : decode cX2_listUndoing 116 = .ok (.istore_n 2, 1) := by decide +kernel
theorem dX2_listUndoing_117 : decode cX2_listUndoing 117 = .ok (.iinc 3 1, 3) := by decide +kernel
theorem dX2_listUndoing_120 : decode cX2_listUndoing 120 = .ok (.goto (-32), 3) := by decide +kernel
theorem dX2_listUndoing_123 : decode cX2_listUndoing 123 = .ok (.iload_n 2, 1) := by decide +kernel
theorem dX2_listUndoing_124 : decode cX2_listUndoing 124 = .ok (.ifCond .eq 10, 3) := by decide +kernel
theorem dX2_listUndoing_127 : decode cX2_listUndoing 127 = .ok (.aload_n 0, 1) := by decide +kernel
theorem dX2_listUndoing_128 : decode cX2_listUndoing 128 = .ok (.iconst 2, 1) := by decide +kernel
theorem dX2_listUndoing_129 : decode cX2_listUndoing 129 = .ok (.iload_n 1, 1) := by decide +kernel
theorem dX2_listUndoing_130 : decode cX2_listUndoing 130 = .ok (.lconst 0, 1) := by decide +kernel
theorem dX2_listUndoing_131 : decode cX2_listUndoing 131 = .ok (.invokevirtual 96, 3) := by decide +kernel
theorem dX2_listUndoing_134 : decode cX2_listUndoing 134 = .ok (.iinc 1 1, 3) := by decide +kernel
theorem dX2_listUndoing_137 : decode cX2_listUndoing 137 = .ok (.goto (-61), 3) := by decide +kernel
theorem dX2_listUndoing_140 : decode cX2_listUndoing 140 = .ok (.aload_n 0, 1) := by decide +kernel
theorem dX2_listUndoing_141 : decode cX2_listUndoing 141 = .ok (.iconst 3, 1) := by decide +kernel
theorem dX2_listUndoing_142 : decode cX2_listUndoing 142 = .ok (.iconst 0, 1) := by decide +kernel
theorem dX2_listUndoing_143 : decode cX2_listUndoing 143 = .ok (.lconst 0, 1) := by decide +kernel
theorem dX2_listUndoing_144 : decode cX2_listUndoing 144 = .ok (.invokevirtual 96, 3) := by decide +kernel
theorem dX2_listUndoing_147 : decode cX2_listUndoing 147 = .ok (.aload_n 0, 1) := by decide +kernel
theorem dX2_listUndoing_148 : decode cX2_listUndoing 148 = .ok (.invokevirtual 106, 3) := by decide +kernel
theorem dX2_listUndoing_151 : decode cX2_listUndoing 151 = .ok (.return_, 1) := by decide +kernel
set_option maxRecDepth 20000 in
theorem ggX2_abort_X2_listUndoing : GoodIn wsX2_abort wsX2_listUndoing := goodIn_r _ [6, 7, 8, 9, 10, 11, 12, 13, 14, 15, 5, 16, 17, 18, 19, 20, 21, 22, 23, 24, 25, 26, 27, 60, 61, 62, 63, 64, 65, 66, 67, 68, 69, 70, 71, 72, 73, 74, 75, 76, 77, 78] (by decide +kernel) (by decide +kernel)
set_option maxRecDepth 20000 in
theorem gX2_abort_X2_listUndoing : GoodIn wsX2_abort (wsV RX2 109 RX2 yX2_listUndoing wsX2_listUndoing) := goodIn_app (goodIn_of _ (by decide +kernel)) ggX2_abort_X2_listUndoing
set_option maxRecDepth 20000 in
theorem ggX2_abort_X2_go : GoodIn wsX2_abort wsX2_go := goodIn_r _ [31, 7, 32, 33, 34, 35, 5, 36, 17, 37, 38, 18, 19, 39, 40, 8, 41, 42, 43, 44, 45, 46, 47, 48, 49, 50, 51, 52, 53, 54, 1, 55, 56, 57, 58, 59, 60, 61, 62, 63, 64, 65, 66, 67, 68, 69, 70, 71, 72, 73, 74, 75, 76, 77, 78] (by decide +kernel) (by decide +kernel)
set_option maxRecDepth 20000 in
theorem gX2_abort_X2_go : GoodIn wsX2_abort (wsV RX2 100 RX2 yX2_go wsX2_go) := goodIn_app (goodIn_of _ (by decide +kernel)) ggX2_abort_X2_go
theorem dX2_abort_0 : decode cX2_abort 0 = .ok (.aload_n 0, 1) := by decide +kernel
theorem dX2_abort_1 : decode cX2_abort 1 = .ok (.getfield 86, 3) := by decide +kernel
theorem dX2_abort_4 : decode cX2_abort 4 = .ok (.ifCond .ne 5, 3) := by decide +kernel
theorem dX2_abort_7 : decode cX2_abort 7 = .ok (.iconst (-1), 1) := by decide +kernel
theorem dX2_abort_8 : decode cX2_abort 8 = .ok (.ireturn, 1) := by decide +kernel
theorem dX2_abort_9 : decode cX2_abort 9 = .ok (.aload_n 0, 1) := by decide +kernel
theorem dX2_abort_10 : decode cX2_abort 10 = .ok (.invokevirtual 109, 3) := by decide +kernel
theorem dX2_abort_13 : decode cX2_abort 13 = .ok (.aload_n 0, 1) := by decide +kernel
theorem dX2_abort_14 : decode cX2_abort 14 = .ok (.iconst 0, 1) := by decide +kernel
theorem dX2_abort_15 : decode cX2_abort 15 = .ok (.putfield 86, 3) := by decide +kernel
theorem dX2_abort_18 : decode cX2_abort 18 = .ok (.aload_n 0, 1) := by decide +kernel
theorem dX2_abort_19 : decode cX2_abort 19 = .ok (.invokevirtual 100, 3) := by decide +kernel
theorem dX2_abort_22 : decode cX2_abort 22 = .ok (.ireturn, 1) := by decide +kernel
set_option maxRecDepth 20000 in
theorem ggX2_recover_X2_listUndoing : GoodIn wsX2_recover wsX2_listUndoing := goodIn_r _ [8, 9, 10, 11, 12, 13, 14, 15, 16, 17, 7, 18, 19, 20, 21, 22, 23, 24, 25, 26, 27, 28, 29, 60, 61, 62, 63, 64, 65, 66, 67, 68, 69, 70, 71, 72, 73, 74, 75, 76, 77, 78] (by decide +kernel) (by decide +kernel)
set_option maxRecDepth 20000 in
theorem gX2_recover_X2_listUndoing : GoodIn wsX2_recover (wsV RX2 109 RX2 yX2_listUndoing wsX2_listUndoing) := goodIn_app (goodIn_of _ (by decide +kernel)) ggX2_recover_X2_listUndoing
set_option maxRecDepth 20000 in
theorem ggX2_recover_X2_go : GoodIn wsX2_recover wsX2_go := goodIn_r _ [33, 9, 34, 35, 36, 37, 7, 38, 19, 39, 2, 20, 21, 40, 41, 10, 42, 43, 44, 45, 3, 46, 47, 48, 49, 50, 51, 52, 53, 1, 54, 55, 56, 57, 58, 59, 60, 61, 62, 63, 64, 65, 66, 67, 68, 69, 70, 71, 72, 73, 74, 75, 76, 77, 78] (by decide +kernel) (by decide +kernel)
set_option maxRecDepth 20000 in
theorem gX2_recover_X2_go : GoodIn wsX2_recover (wsV RX2 100 RX2 yX2_go wsX2_go) := goodIn_app (goodIn_of _ (by decide +kernel)) ggX2_recover_X2_go
theorem dX2_recover_0 : decode cX2_recover 0 = .ok (.aload_n 0, 1) := by decide +kernel
theorem dX2_recover_1 : decode cX2_recover 1 = .ok (.getfield 82, 3) := by decide +kernel
theorem dX2_recover_4 : decode cX2_recover 4 = .ok (.ifCond .ne 5, 3) := by decide +kernel
theorem dX2_recover_7 : decode cX2_recover 7 = .ok (.iconst (-1), 1) := by decide +kernel
theorem dX2_recover_8 : decode cX2_recover 8 = .ok (.ireturn, 1) := by decide +kernel
theorem dX2_recover_9 : decode cX2_recover 9 = .ok (.aload_n 0, 1) := by decide +kernel
theorem dX2_recover_10 : decode cX2_recover 10 = .ok (.iconst 0, 1) := by decide +kernel
theorem dX2_recover_11 : decode cX2_recover 11 = .ok (.putfield 82, 3) := by decide +kernel
theorem dX2_recover_14 : decode cX2_recover 14 = .ok (.iconst 0, 1) := by decide +kernel
theorem dX2_recover_15 : decode cX2_recover 15 = .ok (.istore_n 1, 1) := by decide +kernel
theorem dX2_recover_16 : decode cX2_recover 16 = .ok (.iload_n 1, 1) := by decide +kernel
theorem dX2_recover_17 : decode cX2_recover 17 = .ok (.bipush 32, 2) := by decide +kernel
theorem dX2_recover_19 : decode cX2_recover 19 = .ok (.if_icmp .ge 21, 3) := by decide +kernel
theorem dX2_recover_22 : decode cX2_recover 22 = .ok (.aload_n 0, 1) := by decide +kernel
theorem dX2_recover_23 : decode cX2_recover 23 = .ok (.getfield 7, 3) := by decide +kernel
theorem dX2_recover_26 : decode cX2_recover 26 = .ok (.iload_n 1, 1) := by decide +kernel
theorem dX2_recover_27 : decode cX2_recover 27 = .ok (.aload_n 0, 1) := by decide +kernel
theorem dX2_recover_28 : decode cX2_recover 28 = .ok (.getfield 13, 3) := by decide +kernel
theorem dX2_recover_31 : decode cX2_recover 31 = .ok (.iload_n 1, 1) := by decide +kernel
theorem dX2_recover_32 : decode cX2_recover 32 = .ok (.laload, 1) := by decide +kernel
theorem dX2_recover_33 : decode cX2_recover 33 = .ok (.lastore, 1) := by decide +kernel
theorem dX2_recover_34 : decode cX2_recover 34 = .ok (.iinc 1 1, 3) := by decide +kernel
theorem dX2_recover_37 : decode cX2_recover 37 = .ok (.goto (-21), 3) := by decide +kernel
theorem dX2_recover_40 : decode cX2_recover 40 = .ok (.aload_n 0, 1) := by decide +kernel
theorem dX2_recover_41 : decode cX2_recover 41 = .ok (.invokevirtual 109, 3) := by decide +kernel
theorem dX2_recover_44 : decode cX2_recover 44 = .ok (.aload_n 0, 1) := by decide +kernel
theorem dX2_recover_45 : decode cX2_recover 45 = .ok (.invokevirtual 100, 3) := by decide +kernel
theorem dX2_recover_48 : decode cX2_recover 48 = .ok (.ireturn, 1) := by decide +kernel
theorem dX2_on_0 : decode cX2_on 0 = .ok (.aload_n 0, 1) := by decide +kernel
theorem dX2_on_1 : decode cX2_on 1 = .ok (.getfield 82, 3) := by decide +kernel
theorem dX2_on_4 : decode cX2_on 4 = .ok (.ifCond .ne 7, 3) := by decide +kernel
theorem dX2_on_7 : decode cX2_on 7 = .ok (.iconst 1, 1) := by decide +kernel
theorem dX2_on_8 : decode cX2_on 8 = .ok (.goto 4, 3) := by decide +kernel
theorem dX2_on_11 : decode cX2_on 11 = .ok (.iconst 0, 1) := by decide +kernel
theorem dX2_on_12 : decode cX2_on 12 = .ok (.ireturn, 1) := by decide +kernel
theorem dX2_open_0 : decode cX2_open 0 = .ok (.aload_n 0, 1) := by decide +kernel
theorem dX2_open_1 : decode cX2_open 1 = .ok (.getfield 86, 3) := by decide +kernel
theorem dX2_open_4 : decode cX2_open 4 = .ok (.ireturn, 1) := by decide +kernel
set_option maxRecDepth 20000 in
theorem ggX2_seen_X2_word : GoodIn wsX2_seen wsX2_word := goodIn_r _ [6] (by decide +kernel) (by decide +kernel)
set_option maxRecDepth 20000 in
theorem gX2_seen_X2_word : GoodIn wsX2_seen (va_wsS RX2 89 yX2_word wsX2_word) := goodIn_app (goodIn_of _ (by decide +kernel)) ggX2_seen_X2_word
theorem dX2_seen_0 : decode cX2_seen 0 = .ok (.aload_n 0, 1) := by decide +kernel
theorem dX2_seen_1 : decode cX2_seen 1 = .ok (.getfield 82, 3) := by decide +kernel
theorem dX2_seen_4 : decode cX2_seen 4 = .ok (.ifCond .ne 10, 3) := by decide +kernel
theorem dX2_seen_7 : decode cX2_seen 7 = .ok (.iload_n 1, 1) := by decide +kernel
theorem dX2_seen_8 : decode cX2_seen 8 = .ok (.invokestatic 89, 3) := by decide +kernel
theorem dX2_seen_11 : decode cX2_seen 11 = .ok (.ifCond .ne 7, 3) := by decide +kernel
theorem dX2_seen_14 : decode cX2_seen 14 = .ok (.lconst 0, 1) := by decide +kernel
theorem dX2_seen_15 : decode cX2_seen 15 = .ok (.goto 9, 3) := by decide +kernel
theorem dX2_seen_18 : decode cX2_seen 18 = .ok (.aload_n 0, 1) := by decide +kernel
theorem dX2_seen_19 : decode cX2_seen 19 = .ok (.getfield 7, 3) := by decide +kernel
theorem dX2_seen_22 : decode cX2_seen 22 = .ok (.iload_n 1, 1) := by decide +kernel
theorem dX2_seen_23 : decode cX2_seen 23 = .ok (.laload, 1) := by decide +kernel
theorem dX2_seen_24 : decode cX2_seen 24 = .ok (.lreturn, 1) := by decide +kernel
set_option maxRecDepth 20000 in
theorem ggX2_kept_X2_word : GoodIn wsX2_kept wsX2_word := goodIn_r _ [5] (by decide +kernel) (by decide +kernel)
set_option maxRecDepth 20000 in
theorem gX2_kept_X2_word : GoodIn wsX2_kept (va_wsS RX2 89 yX2_word wsX2_word) := goodIn_app (goodIn_of _ (by decide +kernel)) ggX2_kept_X2_word
theorem dX2_kept_0 : decode cX2_kept 0 = .ok (.iload_n 1, 1) := by decide +kernel
theorem dX2_kept_1 : decode cX2_kept 1 = .ok (.invokestatic 89, 3) := by decide +kernel
theorem dX2_kept_4 : decode cX2_kept 4 = .ok (.ifCond .eq 12, 3) := by decide +kernel
theorem dX2_kept_7 : decode cX2_kept 7 = .ok (.aload_n 0, 1) := by decide +kernel
theorem dX2_kept_8 : decode cX2_kept 8 = .ok (.getfield 13, 3) := by decide +kernel
theorem dX2_kept_11 : decode cX2_kept 11 = .ok (.iload_n 1, 1) := by decide +kernel
theorem dX2_kept_12 : decode cX2_kept 12 = .ok (.laload, 1) := by decide +kernel
theorem dX2_kept_13 : decode cX2_kept 13 = .ok (.goto 4, 3) := by decide +kernel
theorem dX2_kept_16 : decode cX2_kept 16 = .ok (.lconst 0, 1) := by decide +kernel
theorem dX2_kept_17 : decode cX2_kept 17 = .ok (.lreturn, 1) := by decide +kernel
theorem dX2_records_0 : decode cX2_records 0 = .ok (.aload_n 0, 1) := by decide +kernel
theorem dX2_records_1 : decode cX2_records 1 = .ok (.getfield 52, 3) := by decide +kernel
theorem dX2_records_4 : decode cX2_records 4 = .ok (.ireturn, 1) := by decide +kernel
theorem dX2_taken_0 : decode cX2_taken 0 = .ok (.iconst 0, 1) := by decide +kernel
theorem dX2_taken_1 : decode cX2_taken 1 = .ok (.istore_n 1, 1) := by decide +kernel
theorem dX2_taken_2 : decode cX2_taken 2 = .ok (.iconst 0, 1) := by decide +kernel
theorem dX2_taken_3 : decode cX2_taken 3 = .ok (.istore_n 2, 1) := by decide +kernel
theorem dX2_taken_4 : decode cX2_taken 4 = .ok (.iload_n 2, 1) := by decide +kernel
theorem dX2_taken_5 : decode cX2_taken 5 = .ok (.aload_n 0, 1) := by decide +kernel
theorem dX2_taken_6 : decode cX2_taken 6 = .ok (.getfield 52, 3) := by decide +kernel
theorem dX2_taken_9 : decode cX2_taken 9 = .ok (.if_icmp .ge 20, 3) := by decide +kernel
theorem dX2_taken_12 : decode cX2_taken 12 = .ok (.iload_n 1, 1) := by decide +kernel
theorem dX2_taken_13 : decode cX2_taken 13 = .ok (.aload_n 0, 1) := by decide +kernel
theorem dX2_taken_14 : decode cX2_taken 14 = .ok (.getfield 24, 3) := by decide +kernel
theorem dX2_taken_17 : decode cX2_taken 17 = .ok (.iload_n 2, 1) := by decide +kernel
theorem dX2_taken_18 : decode cX2_taken 18 = .ok (.iaload, 1) := by decide +kernel
theorem dX2_taken_19 : decode cX2_taken 19 = .ok (.iconst 1, 1) := by decide +kernel
theorem dX2_taken_20 : decode cX2_taken 20 = .ok (.iadd, 1) := by decide +kernel
theorem dX2_taken_21 : decode cX2_taken 21 = .ok (.iadd, 1) := by decide +kernel
theorem dX2_taken_22 : decode cX2_taken 22 = .ok (.istore_n 1, 1) := by decide +kernel
theorem dX2_taken_23 : decode cX2_taken 23 = .ok (.iinc 2 1, 3) := by decide +kernel
theorem dX2_taken_26 : decode cX2_taken 26 = .ok (.goto (-22), 3) := by decide +kernel
theorem dX2_taken_29 : decode cX2_taken 29 = .ok (.iload_n 1, 1) := by decide +kernel
theorem dX2_taken_30 : decode cX2_taken 30 = .ok (.ireturn, 1) := by decide +kernel
theorem dX2_meter_0 : decode cX2_meter 0 = .ok (.aload_n 0, 1) := by decide +kernel
theorem dX2_meter_1 : decode cX2_meter 1 = .ok (.getfield 55, 3) := by decide +kernel
theorem dX2_meter_4 : decode cX2_meter 4 = .ok (.ireturn, 1) := by decide +kernel
set_option maxRecDepth 20000 in
theorem ggL_law_X1_init : GoodIn wsL_law wsX1_init := goodIn_r _ [9, 10, 11, 12, 13, 14, 15, 16, 17, 18, 19, 20, 21, 22, 23, 24, 25, 26, 27, 28, 29, 317, 318, 319, 320, 321, 322, 323, 324, 325, 326, 346, 347, 348, 349, 350, 351, 352, 353] (by decide +kernel) (by decide +kernel)
set_option maxRecDepth 20000 in
theorem gL_law_X1_init : GoodIn wsL_law (wsX1_init) := ggL_law_X1_init
set_option maxRecDepth 20000 in
theorem ggL_law_X2_init : GoodIn wsL_law wsX2_init := goodIn_r _ [32, 33, 11, 12, 13, 34, 35, 36, 37, 25, 38, 39, 40, 41, 42, 43, 44, 45, 46, 327, 328, 329, 330, 331, 332, 333, 334, 335, 336, 337, 338, 339, 340, 341, 342, 343, 344, 345] (by decide +kernel) (by decide +kernel)
set_option maxRecDepth 20000 in
theorem gL_law_X2_init : GoodIn wsL_law (wsX2_init) := ggL_law_X2_init
set_option maxRecDepth 20000 in
theorem ggL_law_X1_arm : GoodIn wsL_law wsX1_arm := goodIn_r _ [50, 51, 52, 317, 318, 319, 320, 321, 322, 323, 324, 325, 326] (by decide +kernel) (by decide +kernel)
set_option maxRecDepth 20000 in
theorem gL_law_X1_arm : GoodIn wsL_law (wsV RL 15 RX1 yX1_arm wsX1_arm) := goodIn_app (goodIn_of _ (by decide +kernel)) ggL_law_X1_arm
set_option maxRecDepth 20000 in
theorem ggL_law_X2_arm : GoodIn wsL_law wsX2_arm := goodIn_r _ [56, 57, 58, 327, 328, 329, 330, 331, 332, 333, 334, 335, 336, 337, 338, 339, 340, 341, 342, 343, 344, 345] (by decide +kernel) (by decide +kernel)
set_option maxRecDepth 20000 in
theorem gL_law_X2_arm : GoodIn wsL_law (wsV RL 19 RX2 yX2_arm wsX2_arm) := goodIn_app (goodIn_of _ (by decide +kernel)) ggL_law_X2_arm
set_option maxRecDepth 20000 in
theorem ggL_law_X1_begin : GoodIn wsL_law wsX1_begin := goodIn_r _ [62, 20, 63, 64, 317, 318, 319, 320, 321, 322, 323, 324, 325, 326] (by decide +kernel) (by decide +kernel)
set_option maxRecDepth 20000 in
theorem gL_law_X1_begin : GoodIn wsL_law (wsV RL 20 RX1 yX1_begin wsX1_begin) := goodIn_app (goodIn_of _ (by decide +kernel)) ggL_law_X1_begin
set_option maxRecDepth 20000 in
theorem ggL_law_X2_begin : GoodIn wsL_law wsX2_begin := goodIn_r _ [68, 69, 70, 43, 327, 328, 329, 330, 331, 332, 333, 334, 335, 336, 337, 338, 339, 340, 341, 342, 343, 344, 345] (by decide +kernel) (by decide +kernel)
set_option maxRecDepth 20000 in
theorem gL_law_X2_begin : GoodIn wsL_law (wsV RL 24 RX2 yX2_begin wsX2_begin) := goodIn_app (goodIn_of _ (by decide +kernel)) ggL_law_X2_begin
set_option maxRecDepth 20000 in
theorem ggL_law_X1_snapshot : GoodIn wsL_law wsX1_snapshot := goodIn_r _ [74, 63, 19, 75, 76, 2, 77, 78, 79, 80, 18, 81, 82, 83, 84, 85, 86, 14, 87, 88, 89, 90, 91, 92, 93, 94, 95, 51, 96, 97, 98, 99, 52, 15, 20, 100, 101, 102, 103, 104, 105, 106, 107, 108, 109, 28, 110, 111, 112, 113, 114, 26, 27, 29, 115, 116, 117, 118, 119, 120, 121, 122, 123, 124, 125, 126, 127, 128, 129, 317, 318, 319, 320, 321, 322, 323, 324, 325, 326, 346, 347, 348, 349, 350, 351, 352, 353] (by decide +kernel) (by decide +kernel)
set_option maxRecDepth 20000 in
theorem gL_law_X1_snapshot : GoodIn wsL_law (wsV RL 25 RX1 yX1_snapshot wsX1_snapshot) := goodIn_app (goodIn_of _ (by decide +kernel)) ggL_law_X1_snapshot
set_option maxRecDepth 20000 in
theorem ggL_law_X2_snapshot : GoodIn wsL_law wsX2_snapshot := goodIn_r _ [133, 70, 134, 38, 39, 40, 41, 42, 34, 135, 136, 137, 5, 138, 139, 140, 141, 142, 143, 144, 145, 146, 44, 45, 46, 147, 148, 149, 150, 57, 151, 152, 153, 154, 155, 37, 156, 157, 158, 159, 35, 160, 161, 162, 163, 164, 165, 166, 167, 69, 168, 169, 170, 171, 58, 327, 328, 329, 330, 331, 332, 333, 334, 335, 336, 337, 338, 339, 340, 341, 342, 343, 344, 345] (by decide +kernel) (by decide +kernel)
set_option maxRecDepth 20000 in
theorem gL_law_X2_snapshot : GoodIn wsL_law (wsV RL 29 RX2 yX2_snapshot wsX2_snapshot) := goodIn_app (goodIn_of _ (by decide +kernel)) ggL_law_X2_snapshot
set_option maxRecDepth 20000 in
theorem ggL_law_X1_store : GoodIn wsL_law wsX1_store := goodIn_r _ [175, 63, 19, 64, 176, 177, 2, 178, 179, 180, 181, 18, 182, 109, 26, 27, 127, 128, 129, 183, 184, 185, 186, 14, 91, 92, 93, 94, 95, 51, 96, 97, 98, 99, 52, 15, 20, 100, 101, 102, 103, 104, 105, 106, 107, 108, 28, 82, 110, 317, 318, 319, 320, 321, 322, 323, 324, 325, 326, 346, 347, 348, 349, 350, 351, 352, 353] (by decide +kernel) (by decide +kernel)
set_option maxRecDepth 20000 in
theorem gL_law_X1_store : GoodIn wsL_law (wsV RL 30 RX1 yX1_store wsX1_store) := goodIn_app (goodIn_of _ (by decide +kernel)) ggL_law_X1_store
set_option maxRecDepth 20000 in
theorem ggL_law_X2_store : GoodIn wsL_law wsX2_store := goodIn_r _ [190, 70, 43, 135, 136, 137, 5, 138, 191, 192, 193, 194, 134, 38, 39, 143, 144, 145, 146, 44, 45, 46, 147, 148, 149, 150, 57, 151, 152, 153, 154, 155, 34, 37, 41, 156, 157, 158, 159, 35, 160, 161, 162, 163, 164, 165, 166, 167, 69, 168, 169, 170, 171, 58, 327, 328, 329, 330, 331, 332, 333, 334, 335, 336, 337, 338, 339, 340, 341, 342, 343, 344, 345] (by decide +kernel) (by decide +kernel)
set_option maxRecDepth 20000 in
theorem gL_law_X2_store : GoodIn wsL_law (wsV RL 34 RX2 yX2_store wsX2_store) := goodIn_app (goodIn_of _ (by decide +kernel)) ggL_law_X2_store
set_option maxRecDepth 20000 in
theorem ggL_law_X1_commit : GoodIn wsL_law wsX1_commit := goodIn_r _ [198, 63, 64, 199, 200, 201, 2, 202, 101, 102, 103, 203, 204, 205, 206, 100, 91, 92, 93, 94, 95, 51, 96, 97, 98, 99, 52, 15, 14, 19, 20, 104, 105, 106, 18, 107, 108, 109, 28, 82, 110, 123, 124, 125, 126, 127, 128, 129, 207, 208, 209, 210, 211, 212, 213, 214, 87, 88, 89, 90, 215, 216, 217, 218, 317, 318, 319, 320, 321, 322, 323, 324, 325, 326, 346, 347, 348, 349, 350, 351, 352, 353] (by decide +kernel) (by decide +kernel)
set_option maxRecDepth 20000 in
theorem gL_law_X1_commit : GoodIn wsL_law (wsV RL 35 RX1 yX1_commit wsX1_commit) := goodIn_app (goodIn_of _ (by decide +kernel)) ggL_law_X1_commit
set_option maxRecDepth 20000 in
theorem ggL_law_X2_commit : GoodIn wsL_law wsX2_commit := goodIn_r _ [222, 70, 135, 43, 143, 144, 145, 5, 146, 44, 45, 46, 223, 224, 225, 226, 134, 147, 148, 149, 150, 57, 151, 152, 153, 154, 155, 34, 37, 41, 156, 157, 158, 159, 35, 160, 161, 162, 163, 164, 165, 166, 167, 69, 168, 169, 170, 171, 58, 327, 328, 329, 330, 331, 332, 333, 334, 335, 336, 337, 338, 339, 340, 341, 342, 343, 344, 345] (by decide +kernel) (by decide +kernel)
set_option maxRecDepth 20000 in
theorem gL_law_X2_commit : GoodIn wsL_law (wsV RL 38 RX2 yX2_commit wsX2_commit) := goodIn_app (goodIn_of _ (by decide +kernel)) ggL_law_X2_commit
set_option maxRecDepth 20000 in
theorem ggL_law_X1_abort : GoodIn wsL_law wsX1_abort := goodIn_r _ [230, 63, 231, 232, 233, 2, 234, 19, 235, 236, 237, 238, 239, 240, 241, 18, 242, 29, 28, 183, 184, 185, 186, 14, 91, 92, 93, 94, 95, 51, 96, 97, 98, 99, 52, 15, 20, 100, 101, 102, 103, 104, 105, 106, 107, 108, 109, 82, 110, 243, 244, 245, 246, 26, 27, 128, 129, 199, 200, 201, 202, 203, 204, 205, 206, 123, 124, 125, 126, 127, 207, 208, 209, 210, 211, 212, 213, 214, 87, 88, 89, 90, 215, 216, 217, 218, 317, 318, 319, 320, 321, 322, 323, 324, 325, 326, 346, 347, 348, 349, 350, 351, 352, 353] (by decide +kernel) (by decide +kernel)
set_option maxRecDepth 20000 in
theorem gL_law_X1_abort : GoodIn wsL_law (wsV RL 39 RX1 yX1_abort wsX1_abort) := goodIn_app (goodIn_of _ (by decide +kernel)) ggL_law_X1_abort
set_option maxRecDepth 20000 in
theorem ggL_law_X2_abort : GoodIn wsL_law wsX2_abort := goodIn_r _ [250, 70, 251, 252, 253, 5, 254, 135, 134, 39, 38, 42, 40, 143, 144, 145, 146, 44, 45, 46, 191, 192, 193, 194, 223, 224, 225, 226, 147, 148, 149, 150, 57, 151, 152, 153, 154, 155, 34, 37, 41, 156, 157, 158, 159, 35, 160, 161, 162, 163, 164, 165, 166, 167, 69, 168, 169, 170, 171, 58, 327, 328, 329, 330, 331, 332, 333, 334, 335, 336, 337, 338, 339, 340, 341, 342, 343, 344, 345] (by decide +kernel) (by decide +kernel)
set_option maxRecDepth 20000 in
theorem gL_law_X2_abort : GoodIn wsL_law (wsV RL 42 RX2 yX2_abort wsX2_abort) := goodIn_app (goodIn_of _ (by decide +kernel)) ggL_law_X2_abort
set_option maxRecDepth 20000 in
theorem ggL_law_X1_recover : GoodIn wsL_law wsX1_recover := goodIn_r _ [258, 20, 15, 14, 259, 116, 117, 118, 231, 232, 233, 2, 234, 19, 235, 236, 237, 238, 239, 240, 241, 18, 242, 29, 28, 183, 184, 185, 186, 91, 92, 93, 94, 95, 51, 96, 97, 98, 99, 52, 63, 100, 101, 102, 103, 104, 105, 106, 107, 108, 109, 82, 110, 243, 244, 245, 246, 26, 27, 128, 129, 199, 200, 201, 202, 203, 204, 205, 206, 123, 124, 125, 126, 127, 207, 208, 209, 210, 211, 212, 213, 214, 87, 88, 89, 90, 215, 216, 217, 218, 317, 318, 319, 320, 321, 322, 323, 324, 325, 326, 346, 347, 348, 349, 350, 351, 352, 353] (by decide +kernel) (by decide +kernel)
set_option maxRecDepth 20000 in
theorem gL_law_X1_recover : GoodIn wsL_law (wsV RL 43 RX1 yX1_recover wsX1_recover) := goodIn_app (goodIn_of _ (by decide +kernel)) ggL_law_X1_recover
set_option maxRecDepth 20000 in
theorem ggL_law_X2_recover : GoodIn wsL_law wsX2_recover := goodIn_r _ [263, 69, 34, 35, 251, 252, 253, 5, 254, 135, 134, 39, 38, 42, 40, 143, 144, 145, 146, 44, 45, 46, 191, 192, 193, 194, 223, 224, 225, 226, 147, 148, 149, 150, 57, 151, 152, 153, 154, 155, 37, 41, 156, 157, 158, 159, 160, 161, 162, 163, 164, 165, 166, 167, 70, 168, 169, 170, 171, 58, 327, 328, 329, 330, 331, 332, 333, 334, 335, 336, 337, 338, 339, 340, 341, 342, 343, 344, 345] (by decide +kernel) (by decide +kernel)
set_option maxRecDepth 20000 in
theorem gL_law_X2_recover : GoodIn wsL_law (wsV RL 46 RX2 yX2_recover wsX2_recover) := goodIn_app (goodIn_of _ (by decide +kernel)) ggL_law_X2_recover
set_option maxRecDepth 20000 in
theorem ggL_law_X1_on : GoodIn wsL_law wsX1_on := goodIn_r _ [267, 20, 317, 318, 319, 320, 321, 322, 323, 324, 325, 326] (by decide +kernel) (by decide +kernel)
set_option maxRecDepth 20000 in
theorem gL_law_X1_on : GoodIn wsL_law (wsV RL 47 RX1 yX1_on wsX1_on) := goodIn_app (goodIn_of _ (by decide +kernel)) ggL_law_X1_on
set_option maxRecDepth 20000 in
theorem ggL_law_X2_on : GoodIn wsL_law wsX2_on := goodIn_r _ [271, 69, 327, 328, 329, 330, 331, 332, 333, 334, 335, 336, 337, 338, 339, 340, 341, 342, 343, 344, 345] (by decide +kernel) (by decide +kernel)
set_option maxRecDepth 20000 in
theorem gL_law_X2_on : GoodIn wsL_law (wsV RL 51 RX2 yX2_on wsX2_on) := goodIn_app (goodIn_of _ (by decide +kernel)) ggL_law_X2_on
set_option maxRecDepth 20000 in
theorem ggL_law_X1_open : GoodIn wsL_law wsX1_open := goodIn_r _ [275, 63, 317, 318, 319, 320, 321, 322, 323, 324, 325, 326] (by decide +kernel) (by decide +kernel)
set_option maxRecDepth 20000 in
theorem gL_law_X1_open : GoodIn wsL_law (wsV RL 52 RX1 yX1_open wsX1_open) := goodIn_app (goodIn_of _ (by decide +kernel)) ggL_law_X1_open
set_option maxRecDepth 20000 in
theorem ggL_law_X2_open : GoodIn wsL_law wsX2_open := goodIn_r _ [279, 70, 327, 328, 329, 330, 331, 332, 333, 334, 335, 336, 337, 338, 339, 340, 341, 342, 343, 344, 345] (by decide +kernel) (by decide +kernel)
set_option maxRecDepth 20000 in
theorem gL_law_X2_open : GoodIn wsL_law (wsV RL 55 RX2 yX2_open wsX2_open) := goodIn_app (goodIn_of _ (by decide +kernel)) ggL_law_X2_open
set_option maxRecDepth 20000 in
theorem ggL_law_X1_seen : GoodIn wsL_law wsX1_seen := goodIn_r _ [283, 20, 14, 176, 177, 2, 178, 317, 318, 319, 320, 321, 322, 323, 324, 325, 326] (by decide +kernel) (by decide +kernel)
set_option maxRecDepth 20000 in
theorem gL_law_X1_seen : GoodIn wsL_law (wsV RL 56 RX1 yX1_seen wsX1_seen) := goodIn_app (goodIn_of _ (by decide +kernel)) ggL_law_X1_seen
set_option maxRecDepth 20000 in
theorem ggL_law_X2_seen : GoodIn wsL_law wsX2_seen := goodIn_r _ [287, 69, 34, 136, 137, 5, 138, 327, 328, 329, 330, 331, 332, 333, 334, 335, 336, 337, 338, 339, 340, 341, 342, 343, 344, 345] (by decide +kernel) (by decide +kernel)
set_option maxRecDepth 20000 in
theorem gL_law_X2_seen : GoodIn wsL_law (wsV RL 60 RX2 yX2_seen wsX2_seen) := goodIn_app (goodIn_of _ (by decide +kernel)) ggL_law_X2_seen
set_option maxRecDepth 20000 in
theorem ggL_law_X1_kept : GoodIn wsL_law wsX1_kept := goodIn_r _ [291, 15, 176, 177, 2, 178, 317, 318, 319, 320, 321, 322, 323, 324, 325, 326] (by decide +kernel) (by decide +kernel)
set_option maxRecDepth 20000 in
theorem gL_law_X1_kept : GoodIn wsL_law (wsV RL 61 RX1 yX1_kept wsX1_kept) := goodIn_app (goodIn_of _ (by decide +kernel)) ggL_law_X1_kept
set_option maxRecDepth 20000 in
theorem ggL_law_X2_kept : GoodIn wsL_law wsX2_kept := goodIn_r _ [295, 35, 136, 137, 5, 138, 327, 328, 329, 330, 331, 332, 333, 334, 335, 336, 337, 338, 339, 340, 341, 342, 343, 344, 345] (by decide +kernel) (by decide +kernel)
set_option maxRecDepth 20000 in
theorem gL_law_X2_kept : GoodIn wsL_law (wsV RL 64 RX2 yX2_kept wsX2_kept) := goodIn_app (goodIn_of _ (by decide +kernel)) ggL_law_X2_kept
set_option maxRecDepth 20000 in
theorem ggL_law_X1_records : GoodIn wsL_law wsX1_records := goodIn_r _ [299, 19, 317, 318, 319, 320, 321, 322, 323, 324, 325, 326, 346, 347, 348, 349, 350, 351, 352, 353] (by decide +kernel) (by decide +kernel)
set_option maxRecDepth 20000 in
theorem gL_law_X1_records : GoodIn wsL_law (wsV RL 65 RX1 yX1_records wsX1_records) := goodIn_app (goodIn_of _ (by decide +kernel)) ggL_law_X1_records
set_option maxRecDepth 20000 in
theorem ggL_law_X2_records : GoodIn wsL_law wsX2_records := goodIn_r _ [303, 134, 327, 328, 329, 330, 331, 332, 333, 334, 335, 336, 337, 338, 339, 340, 341, 342, 343, 344, 345] (by decide +kernel) (by decide +kernel)
set_option maxRecDepth 20000 in
theorem gL_law_X2_records : GoodIn wsL_law (wsV RL 68 RX2 yX2_records wsX2_records) := goodIn_app (goodIn_of _ (by decide +kernel)) ggL_law_X2_records
set_option maxRecDepth 20000 in
theorem ggL_law_X1_taken : GoodIn wsL_law wsX1_taken := goodIn_r _ [307, 19, 317, 318, 319, 320, 321, 322, 323, 324, 325, 326, 346, 347, 348, 349, 350, 351, 352, 353] (by decide +kernel) (by decide +kernel)
set_option maxRecDepth 20000 in
theorem gL_law_X1_taken : GoodIn wsL_law (wsV RL 69 RX1 yX1_taken wsX1_taken) := goodIn_app (goodIn_of _ (by decide +kernel)) ggL_law_X1_taken
set_option maxRecDepth 20000 in
theorem ggL_law_X2_taken : GoodIn wsL_law wsX2_taken := goodIn_r _ [142, 134, 39, 327, 328, 329, 330, 331, 332, 333, 334, 335, 336, 337, 338, 339, 340, 341, 342, 343, 344, 345] (by decide +kernel) (by decide +kernel)
set_option maxRecDepth 20000 in
theorem gL_law_X2_taken : GoodIn wsL_law (wsV RL 72 RX2 yX2_taken wsX2_taken) := goodIn_app (goodIn_of _ (by decide +kernel)) ggL_law_X2_taken
set_option maxRecDepth 20000 in
theorem ggL_law_X1_meter : GoodIn wsL_law wsX1_meter := goodIn_r _ [312, 95, 317, 318, 319, 320, 321, 322, 323, 324, 325, 326] (by decide +kernel) (by decide +kernel)
set_option maxRecDepth 20000 in
theorem gL_law_X1_meter : GoodIn wsL_law (wsV RL 73 RX1 yX1_meter wsX1_meter) := goodIn_app (goodIn_of _ (by decide +kernel)) ggL_law_X1_meter
set_option maxRecDepth 20000 in
theorem ggL_law_X2_meter : GoodIn wsL_law wsX2_meter := goodIn_r _ [316, 155, 327, 328, 329, 330, 331, 332, 333, 334, 335, 336, 337, 338, 339, 340, 341, 342, 343, 344, 345] (by decide +kernel) (by decide +kernel)
set_option maxRecDepth 20000 in
theorem gL_law_X2_meter : GoodIn wsL_law (wsV RL 76 RX2 yX2_meter wsX2_meter) := goodIn_app (goodIn_of _ (by decide +kernel)) ggL_law_X2_meter
theorem dL_law_0 : decode cL_law 0 = .ok (.new 7, 3) := by decide +kernel
theorem dL_law_3 : decode cL_law 3 = .ok (.dup, 1) := by decide +kernel
theorem dL_law_4 : decode cL_law 4 = .ok (.invokespecial 9, 3) := by decide +kernel
theorem dL_law_7 : decode cL_law 7 = .ok (.astore_n 1, 1) := by decide +kernel
theorem dL_law_8 : decode cL_law 8 = .ok (.new 10, 3) := by decide +kernel
theorem dL_law_11 : decode cL_law 11 = .ok (.dup, 1) := by decide +kernel
theorem dL_law_12 : decode cL_law 12 = .ok (.invokespecial 12, 3) := by decide +kernel
theorem dL_law_15 : decode cL_law 15 = .ok (.astore_n 2, 1) := by decide +kernel
theorem dL_law_16 : decode cL_law 16 = .ok (.iconst 0, 1) := by decide +kernel
theorem dL_law_17 : decode cL_law 17 = .ok (.istore_n 3, 1) := by decide +kernel
theorem dL_law_18 : decode cL_law 18 = .ok (.iload_n 3, 1) := by decide +kernel
theorem dL_law_19 : decode cL_law 19 = .ok (.aload_n 0, 1) := by decide +kernel
theorem dL_law_20 : decode cL_law 20 = .ok (.arraylength, 1) := by decide +kernel
theorem dL_law_21 : decode cL_law 21 = .ok (.iconst 4, 1) := by decide +kernel
theorem dL_law_22 : decode cL_law 22 = .ok (.isub, 1) := by decide +kernel
theorem dL_law_23 : decode cL_law 23 = .ok (.if_icmp .gt 411, 3) := by decide +kernel
theorem dL_law_26 : decode cL_law 26 = .ok (.aload_n 0, 1) := by decide +kernel
theorem dL_law_27 : decode cL_law 27 = .ok (.iload_n 3, 1) := by decide +kernel
theorem dL_law_28 : decode cL_law 28 = .ok (.iaload, 1) := by decide +kernel
theorem dL_law_29 : decode cL_law 29 = .ok (.bipush 15, 2) := by decide +kernel
theorem dL_law_31 : decode cL_law 31 = .ok (.iand, 1) := by decide +kernel
theorem dL_law_32 : decode cL_law 32 = .ok (.tableswitch 396 0 13 #[72, 135, 148, 181, 244, 257, 270, 283, 296, 309, 333, 357, 370, 383], 72) := by decide +kernel
theorem dL_law_104 : decode cL_law 104 = .ok (.aload_n 1, 1) := by decide +kernel
theorem dL_law_105 : decode cL_law 105 = .ok (.aload_n 0, 1) := by decide +kernel
theorem dL_law_106 : decode cL_law 106 = .ok (.iload_n 3, 1) := by decide +kernel
theorem dL_law_107 : decode cL_law 107 = .ok (.iconst 1, 1) := by decide +kernel
theorem dL_law_108 : decode cL_law 108 = .ok (.iadd, 1) := by decide +kernel
theorem dL_law_109 : decode cL_law 109 = .ok (.iaload, 1) := by decide +kernel
theorem dL_law_110 : decode cL_law 110 = .ok (.aload_n 0, 1) := by decide +kernel
theorem dL_law_111 : decode cL_law 111 = .ok (.iload_n 3, 1) := by decide +kernel
theorem dL_law_112 : decode cL_law 112 = .ok (.iconst 2, 1) := by decide +kernel
theorem dL_law_113 : decode cL_law 113 = .ok (.iadd, 1) := by decide +kernel
theorem dL_law_114 : decode cL_law 114 = .ok (.iaload, 1) := by decide +kernel
theorem dL_law_115 : decode cL_law 115 = .ok (.i2l, 1) := by decide +kernel
theorem dL_law_116 : decode cL_law 116 = .ok (.bipush 32, 2) := by decide +kernel
theorem dL_law_118 : decode cL_law 118 = .ok (.lshl, 1) := by decide +kernel
theorem dL_law_119 : decode cL_law 119 = .ok (.aload_n 0, 1) := by decide +kernel
theorem dL_law_120 : decode cL_law 120 = .ok (.iload_n 3, 1) := by decide +kernel
theorem dL_law_121 : decode cL_law 121 = .ok (.iconst 3, 1) := by decide +kernel
theorem dL_law_122 : decode cL_law 122 = .ok (.iadd, 1) := by decide +kernel
theorem dL_law_123 : decode cL_law 123 = .ok (.iaload, 1) := by decide +kernel
theorem dL_law_124 : decode cL_law 124 = .ok (.i2l, 1) := by decide +kernel
theorem dL_law_125 : decode cL_law 125 = .ok (.ldc2_w 13, 3) := by decide +kernel
theorem dL_law_128 : decode cL_law 128 = .ok (.land, 1) := by decide +kernel
theorem dL_law_129 : decode cL_law 129 = .ok (.lor, 1) := by decide +kernel
theorem dL_law_130 : decode cL_law 130 = .ok (.invokevirtual 15, 3) := by decide +kernel
theorem dL_law_133 : decode cL_law 133 = .ok (.aload_n 2, 1) := by decide +kernel
theorem dL_law_134 : decode cL_law 134 = .ok (.aload_n 0, 1) := by decide +kernel
theorem dL_law_135 : decode cL_law 135 = .ok (.iload_n 3, 1) := by decide +kernel
theorem dL_law_136 : decode cL_law 136 = .ok (.iconst 1, 1) := by decide +kernel
theorem dL_law_137 : decode cL_law 137 = .ok (.iadd, 1) := by decide +kernel
theorem dL_law_138 : decode cL_law 138 = .ok (.iaload, 1) := by decide +kernel
theorem dL_law_139 : decode cL_law 139 = .ok (.aload_n 0, 1) := by decide +kernel
theorem dL_law_140 : decode cL_law 140 = .ok (.iload_n 3, 1) := by decide +kernel
theorem dL_law_141 : decode cL_law 141 = .ok (.iconst 2, 1) := by decide +kernel
theorem dL_law_142 : decode cL_law 142 = .ok (.iadd, 1) := by decide +kernel
theorem dL_law_143 : decode cL_law 143 = .ok (.iaload, 1) := by decide +kernel
theorem dL_law_144 : decode cL_law 144 = .ok (.i2l, 1) := by decide +kernel
theorem dL_law_145 : decode cL_law 145 = .ok (.bipush 32, 2) := by decide +kernel
theorem dL_law_147 : decode cL_law 147 = .ok (.lshl, 1) := by decide +kernel
theorem dL_law_148 : decode cL_law 148 = .ok (.aload_n 0, 1) := by decide +kernel
theorem dL_law_149 : decode cL_law 149 = .ok (.iload_n 3, 1) := by decide +kernel
theorem dL_law_150 : decode cL_law 150 = .ok (.iconst 3, 1) := by decide +kernel
theorem dL_law_151 : decode cL_law 151 = .ok (.iadd, 1) := by decide +kernel
theorem dL_law_152 : decode cL_law 152 = .ok (.iaload, 1) := by decide +kernel
theorem dL_law_153 : decode cL_law 153 = .ok (.i2l, 1) := by decide +kernel
theorem dL_law_154 : decode cL_law 154 = .ok (.ldc2_w 13, 3) := by decide +kernel
theorem dL_law_157 : decode cL_law 157 = .ok (.land, 1) := by decide +kernel
theorem dL_law_158 : decode cL_law 158 = .ok (.lor, 1) := by decide +kernel
theorem dL_law_159 : decode cL_law 159 = .ok (.invokevirtual 19, 3) := by decide +kernel
theorem dL_law_162 : decode cL_law 162 = .ok (.if_icmp .eq 266, 3) := by decide +kernel
theorem dL_law_165 : decode cL_law 165 = .ok (.iconst 0, 1) := by decide +kernel
theorem dL_law_166 : decode cL_law 166 = .ok (.ireturn, 1) := by decide +kernel
theorem dL_law_167 : decode cL_law 167 = .ok (.aload_n 1, 1) := by decide +kernel
theorem dL_law_168 : decode cL_law 168 = .ok (.invokevirtual 20, 3) := by decide +kernel
theorem dL_law_171 : decode cL_law 171 = .ok (.aload_n 2, 1) := by decide +kernel
theorem dL_law_172 : decode cL_law 172 = .ok (.invokevirtual 24, 3) := by decide +kernel
theorem dL_law_175 : decode cL_law 175 = .ok (.if_icmp .eq 253, 3) := by decide +kernel
theorem dL_law_178 : decode cL_law 178 = .ok (.iconst 0, 1) := by decide +kernel
theorem dL_law_179 : decode cL_law 179 = .ok (.ireturn, 1) := by decide +kernel
theorem dL_law_180 : decode cL_law 180 = .ok (.aload_n 1, 1) := by decide +kernel
theorem dL_law_181 : decode cL_law 181 = .ok (.aload_n 0, 1) := by decide +kernel
theorem dL_law_182 : decode cL_law 182 = .ok (.iload_n 3, 1) := by decide +kernel
theorem dL_law_183 : decode cL_law 183 = .ok (.iconst 1, 1) := by decide +kernel
theorem dL_law_184 : decode cL_law 184 = .ok (.iadd, 1) := by decide +kernel
theorem dL_law_185 : decode cL_law 185 = .ok (.iaload, 1) := by decide +kernel
theorem dL_law_186 : decode cL_law 186 = .ok (.aload_n 0, 1) := by decide +kernel
theorem dL_law_187 : decode cL_law 187 = .ok (.iload_n 3, 1) := by decide +kernel
theorem dL_law_188 : decode cL_law 188 = .ok (.iconst 2, 1) := by decide +kernel
theorem dL_law_189 : decode cL_law 189 = .ok (.iadd, 1) := by decide +kernel
theorem dL_law_190 : decode cL_law 190 = .ok (.iaload, 1) := by decide +kernel
theorem dL_law_191 : decode cL_law 191 = .ok (.invokevirtual 25, 3) := by decide +kernel
theorem dL_law_194 : decode cL_law 194 = .ok (.aload_n 2, 1) := by decide +kernel
theorem dL_law_195 : decode cL_law 195 = .ok (.aload_n 0, 1) := by decide +kernel
theorem dL_law_196 : decode cL_law 196 = .ok (.iload_n 3, 1) := by decide +kernel
theorem dL_law_197 : decode cL_law 197 = .ok (.iconst 1, 1) := by decide +kernel
theorem dL_law_198 : decode cL_law 198 = .ok (.iadd, 1) := by decide +kernel
theorem dL_law_199 : decode cL_law 199 = .ok (.iaload, 1) := by decide +kernel
theorem dL_law_200 : decode cL_law 200 = .ok (.aload_n 0, 1) := by decide +kernel
theorem dL_law_201 : decode cL_law 201 = .ok (.iload_n 3, 1) := by decide +kernel
theorem dL_law_202 : decode cL_law 202 = .ok (.iconst 2, 1) := by decide +kernel
theorem dL_law_203 : decode cL_law 203 = .ok (.iadd, 1) := by decide +kernel
theorem dL_law_204 : decode cL_law 204 = .ok (.iaload, 1) := by decide +kernel
theorem dL_law_205 : decode cL_law 205 = .ok (.invokevirtual 29, 3) := by decide +kernel
theorem dL_law_208 : decode cL_law 208 = .ok (.if_icmp .eq 220, 3) := by decide +kernel
theorem dL_law_211 : decode cL_law 211 = .ok (.iconst 0, 1) := by decide +kernel
theorem dL_law_212 : decode cL_law 212 = .ok (.ireturn, 1) := by decide +kernel
theorem dL_law_213 : decode cL_law 213 = .ok (.aload_n 1, 1) := by decide +kernel
theorem dL_law_214 : decode cL_law 214 = .ok (.aload_n 0, 1) := by decide +kernel
theorem dL_law_215 : decode cL_law 215 = .ok (.iload_n 3, 1) := by decide +kernel
theorem dL_law_216 : decode cL_law 216 = .ok (.iconst 1, 1) := by decide +kernel
theorem dL_law_217 : decode cL_law 217 = .ok (.iadd, 1) := by decide +kernel
theorem dL_law_218 : decode cL_law 218 = .ok (.iaload, 1) := by decide +kernel
theorem dL_law_219 : decode cL_law 219 = .ok (.aload_n 0, 1) := by decide +kernel
theorem dL_law_220 : decode cL_law 220 = .ok (.iload_n 3, 1) := by decide +kernel
theorem dL_law_221 : decode cL_law 221 = .ok (.iconst 2, 1) := by decide +kernel
theorem dL_law_222 : decode cL_law 222 = .ok (.iadd, 1) := by decide +kernel
theorem dL_law_223 : decode cL_law 223 = .ok (.iaload, 1) := by decide +kernel
theorem dL_law_224 : decode cL_law 224 = .ok (.i2l, 1) := by decide +kernel
theorem dL_law_225 : decode cL_law 225 = .ok (.bipush 32, 2) := by decide +kernel
theorem dL_law_227 : decode cL_law 227 = .ok (.lshl, 1) := by decide +kernel
theorem dL_law_228 : decode cL_law 228 = .ok (.aload_n 0, 1) := by decide +kernel
theorem dL_law_229 : decode cL_law 229 = .ok (.iload_n 3, 1) := by decide +kernel
theorem dL_law_230 : decode cL_law 230 = .ok (.iconst 3, 1) := by decide +kernel
theorem dL_law_231 : decode cL_law 231 = .ok (.iadd, 1) := by decide +kernel
theorem dL_law_232 : decode cL_law 232 = .ok (.iaload, 1) := by decide +kernel
theorem dL_law_233 : decode cL_law 233 = .ok (.i2l, 1) := by decide +kernel
theorem dL_law_234 : decode cL_law 234 = .ok (.ldc2_w 13, 3) := by decide +kernel
theorem dL_law_237 : decode cL_law 237 = .ok (.land, 1) := by decide +kernel
theorem dL_law_238 : decode cL_law 238 = .ok (.lor, 1) := by decide +kernel
theorem dL_law_239 : decode cL_law 239 = .ok (.invokevirtual 30, 3) := by decide +kernel
theorem dL_law_242 : decode cL_law 242 = .ok (.aload_n 2, 1) := by decide +kernel
theorem dL_law_243 : decode cL_law 243 = .ok (.aload_n 0, 1) := by decide +kernel
theorem dL_law_244 : decode cL_law 244 = .ok (.iload_n 3, 1) := by decide +kernel
theorem dL_law_245 : decode cL_law 245 = .ok (.iconst 1, 1) := by decide +kernel
theorem dL_law_246 : decode cL_law 246 = .ok (.iadd, 1) := by decide +kernel
theorem dL_law_247 : decode cL_law 247 = .ok (.iaload, 1) := by decide +kernel
theorem dL_law_248 : decode cL_law 248 = .ok (.aload_n 0, 1) := by decide +kernel
theorem dL_law_249 : decode cL_law 249 = .ok (.iload_n 3, 1) := by decide +kernel
theorem dL_law_250 : decode cL_law 250 = .ok (.iconst 2, 1) := by decide +kernel
theorem dL_law_251 : decode cL_law 251 = .ok (.iadd, 1) := by decide +kernel
theorem dL_law_252 : decode cL_law 252 = .ok (.iaload, 1) := by decide +kernel
theorem dL_law_253 : decode cL_law 253 = .ok (.i2l, 1) := by decide +kernel
theorem dL_law_254 : decode cL_law 254 = .ok (.bipush 32, 2) := by decide +kernel
theorem dL_law_256 : decode cL_law 256 = .ok (.lshl, 1) := by decide +kernel
theorem dL_law_257 : decode cL_law 257 = .ok (.aload_n 0, 1) := by decide +kernel
theorem dL_law_258 : decode cL_law 258 = .ok (.iload_n 3, 1) := by decide +kernel
theorem dL_law_259 : decode cL_law 259 = .ok (.iconst 3, 1) := by decide +kernel
theorem dL_law_260 : decode cL_law 260 = .ok (.iadd, 1) := by decide +kernel
theorem dL_law_261 : decode cL_law 261 = .ok (.iaload, 1) := by decide +kernel
theorem dL_law_262 : decode cL_law 262 = .ok (.i2l, 1) := by decide +kernel
theorem dL_law_263 : decode cL_law 263 = .ok (.ldc2_w 13, 3) := by decide +kernel
theorem dL_law_266 : decode cL_law 266 = .ok (.land, 1) := by decide +kernel
theorem dL_law_267 : decode cL_law 267 = .ok (.lor, 1) := by decide +kernel
theorem dL_law_268 : decode cL_law 268 = .ok (.invokevirtual 34, 3) := by decide +kernel
theorem dL_law_271 : decode cL_law 271 = .ok (.if_icmp .eq 157, 3) := by decide +kernel
theorem dL_law_274 : decode cL_law 274 = .ok (.iconst 0, 1) := by decide +kernel
theorem dL_law_275 : decode cL_law 275 = .ok (.ireturn, 1) := by decide +kernel
theorem dL_law_276 : decode cL_law 276 = .ok (.aload_n 1, 1) := by decide +kernel
theorem dL_law_277 : decode cL_law 277 = .ok (.invokevirtual 35, 3) := by decide +kernel
theorem dL_law_280 : decode cL_law 280 = .ok (.aload_n 2, 1) := by decide +kernel
theorem dL_law_281 : decode cL_law 281 = .ok (.invokevirtual 38, 3) := by decide +kernel
theorem dL_law_284 : decode cL_law 284 = .ok (.if_icmp .eq 144, 3) := by decide +kernel
theorem dL_law_287 : decode cL_law 287 = .ok (.iconst 0, 1) := by decide +kernel
theorem dL_law_288 : decode cL_law 288 = .ok (.ireturn, 1) := by decide +kernel
theorem dL_law_289 : decode cL_law 289 = .ok (.aload_n 1, 1) := by decide +kernel
theorem dL_law_290 : decode cL_law 290 = .ok (.invokevirtual 39, 3) := by decide +kernel
theorem dL_law_293 : decode cL_law 293 = .ok (.aload_n 2, 1) := by decide +kernel
theorem dL_law_294 : decode cL_law 294 = .ok (.invokevirtual 42, 3) := by decide +kernel
theorem dL_law_297 : decode cL_law 297 = .ok (.if_icmp .eq 131, 3) := by decide +kernel
theorem dL_law_300 : decode cL_law 300 = .ok (.iconst 0, 1) := by decide +kernel
theorem dL_law_301 : decode cL_law 301 = .ok (.ireturn, 1) := by decide +kernel
theorem dL_law_302 : decode cL_law 302 = .ok (.aload_n 1, 1) := by decide +kernel
theorem dL_law_303 : decode cL_law 303 = .ok (.invokevirtual 43, 3) := by decide +kernel
theorem dL_law_306 : decode cL_law 306 = .ok (.aload_n 2, 1) := by decide +kernel
theorem dL_law_307 : decode cL_law 307 = .ok (.invokevirtual 46, 3) := by decide +kernel
theorem dL_law_310 : decode cL_law 310 = .ok (.if_icmp .eq 118, 3) := by decide +kernel
theorem dL_law_313 : decode cL_law 313 = .ok (.iconst 0, 1) := by decide +kernel
theorem dL_law_314 : decode cL_law 314 = .ok (.ireturn, 1) := by decide +kernel
theorem dL_law_315 : decode cL_law 315 = .ok (.aload_n 1, 1) := by decide +kernel
theorem dL_law_316 : decode cL_law 316 = .ok (.invokevirtual 47, 3) := by decide +kernel
theorem dL_law_319 : decode cL_law 319 = .ok (.aload_n 2, 1) := by decide +kernel
theorem dL_law_320 : decode cL_law 320 = .ok (.invokevirtual 51, 3) := by decide +kernel
theorem dL_law_323 : decode cL_law 323 = .ok (.if_icmp .eq 105, 3) := by decide +kernel
theorem dL_law_326 : decode cL_law 326 = .ok (.iconst 0, 1) := by decide +kernel
theorem dL_law_327 : decode cL_law 327 = .ok (.ireturn, 1) := by decide +kernel
theorem dL_law_328 : decode cL_law 328 = .ok (.aload_n 1, 1) := by decide +kernel
theorem dL_law_329 : decode cL_law 329 = .ok (.invokevirtual 52, 3) := by decide +kernel
theorem dL_law_332 : decode cL_law 332 = .ok (.aload_n 2, 1) := by decide +kernel
theorem dL_law_333 : decode cL_law 333 = .ok (.invokevirtual 55, 3) := by decide +kernel
theorem dL_law_336 : decode cL_law 336 = .ok (.if_icmp .eq 92, 3) := by decide +kernel
theorem dL_law_339 : decode cL_law 339 = .ok (.iconst 0, 1) := by decide +kernel
theorem dL_law_340 : decode cL_law 340 = .ok (.ireturn, 1) := by decide +kernel
theorem dL_law_341 : decode cL_law 341 = .ok (.aload_n 1, 1) := by decide +kernel
theorem dL_law_342 : decode cL_law 342 = .ok (.aload_n 0, 1) := by decide +kernel
theorem dL_law_343 : decode cL_law 343 = .ok (.iload_n 3, 1) := by decide +kernel
theorem dL_law_344 : decode cL_law 344 = .ok (.iconst 1, 1) := by decide +kernel
theorem dL_law_345 : decode cL_law 345 = .ok (.iadd, 1) := by decide +kernel
theorem dL_law_346 : decode cL_law 346 = .ok (.iaload, 1) := by decide +kernel
theorem dL_law_347 : decode cL_law 347 = .ok (.invokevirtual 56, 3) := by decide +kernel
theorem dL_law_350 : decode cL_law 350 = .ok (.aload_n 2, 1) := by decide +kernel
theorem dL_law_351 : decode cL_law 351 = .ok (.aload_n 0, 1) := by decide +kernel
theorem dL_law_352 : decode cL_law 352 = .ok (.iload_n 3, 1) := by decide +kernel
theorem dL_law_353 : decode cL_law 353 = .ok (.iconst 1, 1) := by decide +kernel
theorem dL_law_354 : decode cL_law 354 = .ok (.iadd, 1) := by decide +kernel
theorem dL_law_355 : decode cL_law 355 = .ok (.iaload, 1) := by decide +kernel
theorem dL_law_356 : decode cL_law 356 = .ok (.invokevirtual 60, 3) := by decide +kernel
theorem dL_law_359 : decode cL_law 359 = .ok (.lcmp, 1) := by decide +kernel
theorem dL_law_360 : decode cL_law 360 = .ok (.ifCond .eq 68, 3) := by decide +kernel
theorem dL_law_363 : decode cL_law 363 = .ok (.iconst 0, 1) := by decide +kernel
theorem dL_law_364 : decode cL_law 364 = .ok (.ireturn, 1) := by decide +kernel
theorem dL_law_365 : decode cL_law 365 = .ok (.aload_n 1, 1) := by decide +kernel
theorem dL_law_366 : decode cL_law 366 = .ok (.aload_n 0, 1) := by decide +kernel
theorem dL_law_367 : decode cL_law 367 = .ok (.iload_n 3, 1) := by decide +kernel
theorem dL_law_368 : decode cL_law 368 = .ok (.iconst 1, 1) := by decide +kernel
theorem dL_law_369 : decode cL_law 369 = .ok (.iadd, 1) := by decide +kernel
theorem dL_law_370 : decode cL_law 370 = .ok (.iaload, 1) := by decide +kernel
theorem dL_law_371 : decode cL_law 371 = .ok (.invokevirtual 61, 3) := by decide +kernel
theorem dL_law_374 : decode cL_law 374 = .ok (.aload_n 2, 1) := by decide +kernel
theorem dL_law_375 : decode cL_law 375 = .ok (.aload_n 0, 1) := by decide +kernel
theorem dL_law_376 : decode cL_law 376 = .ok (.iload_n 3, 1) := by decide +kernel
theorem dL_law_377 : decode cL_law 377 = .ok (.iconst 1, 1) := by decide +kernel
theorem dL_law_378 : decode cL_law 378 = .ok (.iadd, 1) := by decide +kernel
theorem dL_law_379 : decode cL_law 379 = .ok (.iaload, 1) := by decide +kernel
theorem dL_law_380 : decode cL_law 380 = .ok (.invokevirtual 64, 3) := by decide +kernel
theorem dL_law_383 : decode cL_law 383 = .ok (.lcmp, 1) := by decide +kernel
theorem dL_law_384 : decode cL_law 384 = .ok (.ifCond .eq 44, 3) := by decide +kernel
theorem dL_law_387 : decode cL_law 387 = .ok (.iconst 0, 1) := by decide +kernel
theorem dL_law_388 : decode cL_law 388 = .ok (.ireturn, 1) := by decide +kernel
theorem dL_law_389 : decode cL_law 389 = .ok (.aload_n 1, 1) := by decide +kernel
theorem dL_law_390 : decode cL_law 390 = .ok (.invokevirtual 65, 3) := by decide +kernel
theorem dL_law_393 : decode cL_law 393 = .ok (.aload_n 2, 1) := by decide +kernel
theorem dL_law_394 : decode cL_law 394 = .ok (.invokevirtual 68, 3) := by decide +kernel
theorem dL_law_397 : decode cL_law 397 = .ok (.if_icmp .eq 31, 3) := by decide +kernel
theorem dL_law_400 : decode cL_law 400 = .ok (.iconst 0, 1) := by decide +kernel
theorem dL_law_401 : decode cL_law 401 = .ok (.ireturn, 1) := by decide +kernel
theorem dL_law_402 : decode cL_law 402 = .ok (.aload_n 1, 1) := by decide +kernel
theorem dL_law_403 : decode cL_law 403 = .ok (.invokevirtual 69, 3) := by decide +kernel
theorem dL_law_406 : decode cL_law 406 = .ok (.aload_n 2, 1) := by decide +kernel
theorem dL_law_407 : decode cL_law 407 = .ok (.invokevirtual 72, 3) := by decide +kernel
theorem dL_law_410 : decode cL_law 410 = .ok (.if_icmp .eq 18, 3) := by decide +kernel
theorem dL_law_413 : decode cL_law 413 = .ok (.iconst 0, 1) := by decide +kernel
theorem dL_law_414 : decode cL_law 414 = .ok (.ireturn, 1) := by decide +kernel
theorem dL_law_415 : decode cL_law 415 = .ok (.aload_n 1, 1) := by decide +kernel
theorem dL_law_416 : decode cL_law 416 = .ok (.invokevirtual 73, 3) := by decide +kernel
theorem dL_law_419 : decode cL_law 419 = .ok (.aload_n 2, 1) := by decide +kernel
theorem dL_law_420 : decode cL_law 420 = .ok (.invokevirtual 76, 3) := by decide +kernel
theorem dL_law_423 : decode cL_law 423 = .ok (.if_icmp .eq 5, 3) := by decide +kernel
theorem dL_law_426 : decode cL_law 426 = .ok (.iconst 0, 1) := by decide +kernel
theorem dL_law_427 : decode cL_law 427 = .ok (.ireturn, 1) := by decide +kernel
theorem dL_law_428 : decode cL_law 428 = .ok (.iinc 3 4, 3) := by decide +kernel
theorem dL_law_431 : decode cL_law 431 = .ok (.goto (-413), 3) := by decide +kernel
theorem dL_law_434 : decode cL_law 434 = .ok (.iconst 1, 1) := by decide +kernel
theorem dL_law_435 : decode cL_law 435 = .ok (.ireturn, 1) := by decide +kernel
abbrev vwCl : List vw_C := [(RX0, TX0, 8), (RX1, TX1, 10), (RX2, TX2, 19)]
end
section
/-! ===== my own words: a boolean as an int, functions changed at a place, contracts over a world ===== -/
def bI (b : Bool) : Int32 := if b then 1 else 0
theorem bI_nar (b : Bool) : narrow .boolean (.int (bI b)) = .int (bI b) := by cases b <;> rfl
theorem bI_fit (b : Bool) : fits .boolean (.int (bI b)) = true := by cases b <;> rfl
theorem bI_eq0 (b : Bool) : bI b = 0 ↔ b = false := by cases b <;> simp [bI]
theorem bI_t : (1 : Int32) = bI true := rfl
theorem bI_f : (0 : Int32) = bI false := rfl
def upN (f : Nat → Nat) (k v : Nat) : Nat → Nat := fun j => if j = k then v else f j
def upB (f : Nat → Bool) (k : Nat) (v : Bool) : Nat → Bool := fun j => if j = k then v else f j
theorem upN_s (f : Nat → Nat) (k v : Nat) : upN f k v k = v := by simp [upN]
theorem upN_n (f : Nat → Nat) {k j : Nat} (v : Nat) (h : j ≠ k) : upN f k v j = f j := by simp [upN, h]
theorem upB_s (f : Nat → Bool) (k : Nat) (v : Bool) : upB f k v k = v := by simp [upB]
theorem upB_n (f : Nat → Bool) {k j : Nat} (v : Bool) (h : j ≠ k) : upB f k v j = f j := by simp [upB, h]
theorem upd_nI (f : Nat → Nat) {k : Nat} (v : Nat) (h : k < 2 ^ 31) : upd (fun j => nI (f j)) (nI k).toNatClampNeg (nI v) = fun j => nI (upN f k v j) := by
  rw [nI_clamp h]
  funext j
  by_cases hj : j = k
  · subst hj; rw [pk_us, upN_s]
  · rw [pk_un hj, upN_n f v hj]
theorem upd_bI (f : Nat → Bool) {k : Nat} (v : Bool) (h : k < 2 ^ 31) : upd (fun j => bI (f j)) (nI k).toNatClampNeg (bI v) = fun j => bI (upB f k v j) := by
  rw [nI_clamp h]
  funext j
  by_cases hj : j = k
  · subst hj; rw [pk_us, upB_s]
  · rw [pk_un hj, upB_n f v hj]
/-- the words on nest mates, which travel with the state -/
def nwA (U : State) : Prop := va_Nw (.fieldLinkNest "FencedWords" 82 "FencedWords$Log" "size" "I" "FencedWords") U ∧ va_Nw (.fieldLinkNest "FencedWords" 85 "FencedWords$Log" "cellsTaken" "I" "FencedWords") U ∧ va_Nw (.fieldLinkNest "FencedWords" 117 "FencedWords$Log" "counts" "[I" "FencedWords") U ∧ va_Nw (.fieldLinkNest "FencedWords" 121 "FencedWords$Log" "firsts" "[I" "FencedWords") U ∧ va_Nw (.methodLinkNest "FencedWords$Log" 32 yX1_lineOf "FencedWords") U
theorem nwA.blind {U : State} {g : JFrame} {mk : MethodId} {a : Array Value} (h : nwA U) : nwA (U.calling g mk a) :=
  ⟨va_Nw.same rfl (u := U) (U := U.calling g mk a) rfl h.1, va_Nw.same rfl (u := U) (U := U.calling g mk a) rfl h.2.1, va_Nw.same rfl (u := U) (U := U.calling g mk a) rfl h.2.2.1, va_Nw.same rfl (u := U) (U := U.calling g mk a) rfl h.2.2.2.1, va_Nw.same rfl (u := U) (U := U.calling g mk a) rfl h.2.2.2.2⟩
theorem nwA.moved {s U : State} (hW : s.WarmedH U.vm) (h : nwA s) : nwA U :=
  ⟨va_Nw.warmF hW h.1, va_Nw.warmF hW h.2.1, va_Nw.warmF hW h.2.2.1, va_Nw.warmF hW h.2.2.2.1, va_Nw.warmM hW h.2.2.2.2⟩
/-- a method's start and end: the world w before it, w' behind it, the answer r -/
def preG (D : va_G) (tys : List (ClassId × FieldType)) (w : va_W) (sz : Nat) (U : State) : Prop := U.heap.size = sz ∧ va_P D vwCl w U.heap ∧ va_K D vwCl tys U ∧ va_D (fun _ => True) w ∧ nwA U
def postG (D : va_G) (tys : List (ClassId × FieldType)) (A : Nat → Prop) (w : va_W) (t : State) : Prop := va_P D vwCl w t.heap ∧ va_K D vwCl tys t ∧ va_D A w
theorem preG.blind {D : va_G} {tys : List (ClassId × FieldType)} {w : va_W} {sz : Nat} {As : List Value} : FrameBlind (va_Pc As (preG D tys w sz)) := fun a U g mk q => by
  obtain ⟨q0, q1, qP, qK, qD, qN⟩ := q
  exact ⟨q0, q1, qP, va_K.moved (u := U) (U := U.calling g mk a) (Vm.Alike.refl U.vm) qK, qD, qN.blind⟩
def MGi (l : Launch) (mn : MethodName) (ws : List Cond) (fr lo : Nat) (As : List Value) (tys : List (ClassId × FieldType)) (w : va_W) (r : Int32) (w' : va_W) : Prop :=
  ∀ (D : va_G) (sz : Nat), Met l mn ws ({ frames := fr, cells := 0, slots := 0, locals := lo }) (va_Pc As (preG D tys w sz)) (va_Qi (fun (r' : Int32) (_ : Unit) => r' = r) (fun _ t => postG D tys (va_A w sz) w' t) (va_A w sz)) 0 0 (va_A w sz)
def MGl (l : Launch) (mn : MethodName) (ws : List Cond) (fr lo : Nat) (As : List Value) (tys : List (ClassId × FieldType)) (w : va_W) (r : Int64) (w' : va_W) : Prop :=
  ∀ (D : va_G) (sz : Nat), Met l mn ws ({ frames := fr, cells := 0, slots := 0, locals := lo }) (va_Pc As (preG D tys w sz)) (va_Ql (fun (r' : Int64) (_ : Unit) => r' = r) (fun _ t => postG D tys (va_A w sz) w' t) (va_A w sz)) 0 0 (va_A w sz)
def MGv (l : Launch) (mn : MethodName) (ws : List Cond) (fr lo : Nat) (As : List Value) (tys : List (ClassId × FieldType)) (w : va_W) (w' : va_W) : Prop :=
  ∀ (D : va_G) (sz : Nat), Met l mn ws ({ frames := fr, cells := 0, slots := 0, locals := lo }) (va_Pc As (preG D tys w sz)) (va_Qv (fun (_ : Unit) => True) (fun _ t => postG D tys (va_A w sz) w' t) (va_A w sz)) 0 0 (va_A w sz)
def GQi (below : List Frame) (D : va_G) (tys : List (ClassId × FieldType)) (A : Nat → Prop) (r : Int32) (w' : va_W) (args : Array Value) (s : State) : State → Prop := MQ below (va_Qi (fun (r' : Int32) (_ : Unit) => r' = r) (fun _ t => postG D tys A w' t) A) args s 0 0 A
def GQl (below : List Frame) (D : va_G) (tys : List (ClassId × FieldType)) (A : Nat → Prop) (r : Int64) (w' : va_W) (args : Array Value) (s : State) : State → Prop := MQ below (va_Ql (fun (r' : Int64) (_ : Unit) => r' = r) (fun _ t => postG D tys A w' t) A) args s 0 0 A
def GQv (below : List Frame) (D : va_G) (tys : List (ClassId × FieldType)) (A : Nat → Prop) (w' : va_W) (args : Array Value) (s : State) : State → Prop := MQ below (va_Qv (fun (_ : Unit) => True) (fun _ t => postG D tys A w' t) A) args s 0 0 A
theorem MGi.of {l : Launch} {mn : MethodName} {ws ws' : List Cond} {fr lo : Nat} {As : List Value} {tys : List (ClassId × FieldType)} {w w' : va_W} {r : Int32} {cc : ByteArray} {maxL : Nat} {ty : FieldType} (hy : plainName mn.cls = true) (hw : ws = Cond.code mn cc maxL (some ty) :: ws') (hln : (lg_sl As).length ≤ maxL)
    (body : ∀ (D : va_G) (p : Program) (e : Env) (s : State) (m : MethodId) (below : List Frame) (meth : Method) (c0 : Code) (A : Nat → Prop) (ls : Array Slot), p.tables.exec = Jvm.exec → c0.code = cc → meth.sig.returnType = some ty → c0.maxLocals = maxL → s.vm.findClass mn.cls = some m.cls → meth.locks = false → (∀ w ∈ ws, w.before As.toArray s = true) → va_K D vwCl tys s → va_P D vwCl w s.heap → va_D A w → (∀ q, s.heap.size ≤ q → A q) → nwA s → lv_has ls maxL (lv_args 0 As) → va_S A s.heap s.heap [] →
      W p l e ({ frames := fr, cells := 0, slots := 0, locals := lo }) s m As.toArray below meth c0 s.heap [] 0 0 (GQi below D tys A r w' As.toArray s) (F0 m 0 ls [])) : MGi l mn ws fr lo As tys w r w' := by
  intro D sz
  refine Met.ofW (cc := cc) (maxL := maxL) (ret := some ty) hy hw ?_
  intro p e s m args below meth c s₁ B hml hv
  obtain ⟨rfl, hsz, hP, hK, hD0, hN⟩ := hv
  have hts := atoms_spec (ws := ws) B.pre
  subst hsz
  have hl := lv_entry As (n := maxL) hln
  rw [lg_entry_eq]
  exact body D p e s m below meth c (va_A w s.heap.size) _ B.exec B.bytes B.returns hml (findClass_of_methodNamed B.named) B.notSynchronized hts hK hP (hD0.self) (fun q h => Or.inr h) hN hl va_S.rf
theorem MGl.of {l : Launch} {mn : MethodName} {ws ws' : List Cond} {fr lo : Nat} {As : List Value} {tys : List (ClassId × FieldType)} {w w' : va_W} {r : Int64} {cc : ByteArray} {maxL : Nat} {ty : FieldType} (hy : plainName mn.cls = true) (hw : ws = Cond.code mn cc maxL (some ty) :: ws') (hln : (lg_sl As).length ≤ maxL)
    (body : ∀ (D : va_G) (p : Program) (e : Env) (s : State) (m : MethodId) (below : List Frame) (meth : Method) (c0 : Code) (A : Nat → Prop) (ls : Array Slot), p.tables.exec = Jvm.exec → c0.code = cc → meth.sig.returnType = some ty → c0.maxLocals = maxL → s.vm.findClass mn.cls = some m.cls → meth.locks = false → (∀ w ∈ ws, w.before As.toArray s = true) → va_K D vwCl tys s → va_P D vwCl w s.heap → va_D A w → (∀ q, s.heap.size ≤ q → A q) → nwA s → lv_has ls maxL (lv_args 0 As) → va_S A s.heap s.heap [] →
      W p l e ({ frames := fr, cells := 0, slots := 0, locals := lo }) s m As.toArray below meth c0 s.heap [] 0 0 (GQl below D tys A r w' As.toArray s) (F0 m 0 ls [])) : MGl l mn ws fr lo As tys w r w' := by
  intro D sz
  refine Met.ofW (cc := cc) (maxL := maxL) (ret := some ty) hy hw ?_
  intro p e s m args below meth c s₁ B hml hv
  obtain ⟨rfl, hsz, hP, hK, hD0, hN⟩ := hv
  have hts := atoms_spec (ws := ws) B.pre
  subst hsz
  have hl := lv_entry As (n := maxL) hln
  rw [lg_entry_eq]
  exact body D p e s m below meth c (va_A w s.heap.size) _ B.exec B.bytes B.returns hml (findClass_of_methodNamed B.named) B.notSynchronized hts hK hP (hD0.self) (fun q h => Or.inr h) hN hl va_S.rf
theorem MGv.of {l : Launch} {mn : MethodName} {ws ws' : List Cond} {fr lo : Nat} {As : List Value} {tys : List (ClassId × FieldType)} {w w' : va_W} {cc : ByteArray} {maxL : Nat} (hy : plainName mn.cls = true) (hw : ws = Cond.code mn cc maxL none :: ws') (hln : (lg_sl As).length ≤ maxL)
    (body : ∀ (D : va_G) (p : Program) (e : Env) (s : State) (m : MethodId) (below : List Frame) (meth : Method) (c0 : Code) (A : Nat → Prop) (ls : Array Slot), p.tables.exec = Jvm.exec → c0.code = cc → meth.sig.returnType = none → c0.maxLocals = maxL → s.vm.findClass mn.cls = some m.cls → meth.locks = false → (∀ w ∈ ws, w.before As.toArray s = true) → va_K D vwCl tys s → va_P D vwCl w s.heap → va_D A w → (∀ q, s.heap.size ≤ q → A q) → nwA s → lv_has ls maxL (lv_args 0 As) → va_S A s.heap s.heap [] →
      W p l e ({ frames := fr, cells := 0, slots := 0, locals := lo }) s m As.toArray below meth c0 s.heap [] 0 0 (GQv below D tys A w' As.toArray s) (F0 m 0 ls [])) : MGv l mn ws fr lo As tys w w' := by
  intro D sz
  refine Met.ofW (cc := cc) (maxL := maxL) (ret := none) hy hw ?_
  intro p e s m args below meth c s₁ B hml hv
  obtain ⟨rfl, hsz, hP, hK, hD0, hN⟩ := hv
  have hts := atoms_spec (ws := ws) B.pre
  subst hsz
  have hl := lv_entry As (n := maxL) hln
  rw [lg_entry_eq]
  exact body D p e s m below meth c (va_A w s.heap.size) _ B.exec B.bytes B.returns hml (findClass_of_methodNamed B.named) B.notSynchronized hts hK hP (hD0.self) (fun q h => Or.inr h) hN hl va_S.rf
section GG
variable {p : Program} {l : Launch} {e : Env} {R : Room} {s : State} {m : MethodId} {args : Array Value} {below : List Frame} {meth : Method} {c0 : Code} {H : Heap} {locs : List Loc} {cells slots : Nat} {Q : State → Prop}
variable {cc : ByteArray} {pc : Nat} {ls : Array Slot} {rest st0 : List Value} {D : va_G} {A : Nat → Prop} {tys : List (ClassId × FieldType)} {w w' : va_W}
theorem retGi {v r : Int32} (hx : p.tables.exec = Jvm.exec) (hb : c0.code = cc) (hr : meth.sig.returnType = some .int) (hlocks : meth.locks = false) (hK : va_K D vwCl tys s) (hP : va_P D vwCl w H) (hD : va_D A w) (hS : va_S A s.heap H locs) (d : decode cc pc = .ok (.ireturn, 1)) (hv : v = r) (hw : w = w') : W p l e R s m args below meth c0 H locs 0 0 (GQi below D tys A r w' args s) (F0 m pc ls [.int v]) := by
  subst hv; subst hw
  exact W.iret hx hb hr (fun t ht hW => ⟨⟨v, (), rfl, rfl, by rw [ht]; exact hP, va_K.moved hW.alike hK, hD⟩, hS.F ht⟩) hS.2.2 d hlocks
theorem retGz {v : Int32} {r : Bool} (hx : p.tables.exec = Jvm.exec) (hb : c0.code = cc) (hr : meth.sig.returnType = some .boolean) (hlocks : meth.locks = false) (hK : va_K D vwCl tys s) (hP : va_P D vwCl w H) (hD : va_D A w) (hS : va_S A s.heap H locs) (d : decode cc pc = .ok (.ireturn, 1)) (hv : v = bI r) (hw : w = w') : W p l e R s m args below meth c0 H locs 0 0 (GQi below D tys A (bI r) w' args s) (F0 m pc ls [.int v]) := by
  subst hv; subst hw
  exact W.zret hx hb hr (bI_nar r) (fun t ht hW => ⟨⟨bI r, (), rfl, rfl, by rw [ht]; exact hP, va_K.moved hW.alike hK, hD⟩, hS.F ht⟩) hS.2.2 d hlocks
theorem retGl {v r : Int64} (hx : p.tables.exec = Jvm.exec) (hb : c0.code = cc) (hr : meth.sig.returnType = some .long) (hlocks : meth.locks = false) (hK : va_K D vwCl tys s) (hP : va_P D vwCl w H) (hD : va_D A w) (hS : va_S A s.heap H locs) (d : decode cc pc = .ok (.lreturn, 1)) (hv : v = r) (hw : w = w') : W p l e R s m args below meth c0 H locs 0 0 (GQl below D tys A r w' args s) (F0 m pc ls [.long v]) := by
  subst hv; subst hw
  exact W.lret hx hb hr (fun t ht hW => ⟨⟨v, (), rfl, rfl, by rw [ht]; exact hP, va_K.moved hW.alike hK, hD⟩, hS.F ht⟩) hS.2.2 d hlocks
theorem retGv (hx : p.tables.exec = Jvm.exec) (hb : c0.code = cc) (hr : meth.sig.returnType = none) (hlocks : meth.locks = false) (hK : va_K D vwCl tys s) (hP : va_P D vwCl w H) (hD : va_D A w) (hS : va_S A s.heap H locs) (d : decode cc pc = .ok (.return_, 1)) (hw : w = w') : W p l e R s m args below meth c0 H locs 0 0 (GQv below D tys A w' args s) (F0 m pc ls []) := by
  subst hw
  exact W.vret hx hb hr (fun t ht hW => ⟨⟨(), rfl, trivial, by rw [ht]; exact hP, va_K.moved hW.alike hK, hD⟩, hS.F ht⟩) hS.2.2 d hlocks
theorem freeG (hD : va_D A w) (hS : va_S A s.heap H locs) (hA : ∀ q, s.heap.size ≤ q → A q) : ∀ q, va_A w H.size q → A q := fun q h => h.elim (fun ⟨k, e, h⟩ => hD.2 k (q, e) h) (fun h => hA q (Nat.le_trans hS.1 h))
variable {mn : MethodName} {bytes : ByteArray} {maxL nL n index fr lo : Nat} {ret : Option FieldType} {ws : List Cond} {Ts : List Cond} {own C host : String} {b : Nat} {As : List Value}
/-- a call of an own method: the same world before it; behind it the world of its contract -/
theorem callVi {r : Int32} (S : CallFix p m c0 cc nL s args Ts own) (hM : MGi l mn ws fr lo (.ref b :: As) tys w r w') (cw : CallW R s args own C index mn bytes maxL ret ws ({ frames := fr, cells := 0, slots := 0, locals := lo }) 0 0 n) (hrc : ∃ cellB : Cell, H[b]? = some cellB ∧ cellB.vm.isStatics = false ∧ s.vm.findClass C = some cellB.cls) (hK : va_K D vwCl tys s) (hP : va_P D vwCl w H) (hD : va_D A w) (hS : va_S A s.heap H locs) (hA : ∀ q, s.heap.size ≤ q → A q) (hN : nwA s) (hn : As.length = n) (hsize : ls.size = nL) (hst : st0 = As.reverse ++ .ref b :: rest) (hW : (rest.map fun v => v.category).sum ≤ 8) (d : decode cc pc = .ok (.invokevirtual index, 3)) (hf : cells ≤ R.cells ∧ slots ≤ R.slots)
    (kk : ∀ (H1 : Heap) (locs1 : List Loc), va_P D vwCl w' H1 → va_D A w' → va_S A s.heap H1 locs1 → W p l e R s m args below meth c0 H1 locs1 cells slots Q (F0 m (pc + 3) ls (.int r :: rest))) : W p l e R s m args below meth c0 H locs cells slots Q (F0 m pc ls st0) := by
  have hFc := freeG hD hS hA
  refine va_calli (va_runV (As := As) (rest := rest) S (hM D H.size) cw ⟨preG.blind, hrc, fun U hU hW => ⟨rfl, by rw [hU], by rw [hU]; exact hP, va_K.moved hW.alike hK, hD.weaken (fun _ _ _ _ => trivial), hN.moved hW⟩⟩ rfl hn hsize hst (lv_room hW) d hf) hS (fun q _ h => hFc q h) hFc (fun r' u t H1 locs1 ht hvm hr hB hz hk hS1 => ?_)
  obtain ⟨hP1, hK1, hD1⟩ := hB
  rw [ht] at hP1
  subst hr
  exact kk H1 locs1 hP1 (hD1.weaken (fun k q _ h => hFc q.1 h)) hS1
theorem callVl {r : Int64} (S : CallFix p m c0 cc nL s args Ts own) (hM : MGl l mn ws fr lo (.ref b :: As) tys w r w') (cw : CallW R s args own C index mn bytes maxL ret ws ({ frames := fr, cells := 0, slots := 0, locals := lo }) 0 0 n) (hrc : ∃ cellB : Cell, H[b]? = some cellB ∧ cellB.vm.isStatics = false ∧ s.vm.findClass C = some cellB.cls) (hK : va_K D vwCl tys s) (hP : va_P D vwCl w H) (hD : va_D A w) (hS : va_S A s.heap H locs) (hA : ∀ q, s.heap.size ≤ q → A q) (hN : nwA s) (hn : As.length = n) (hsize : ls.size = nL) (hst : st0 = As.reverse ++ .ref b :: rest) (hW : (rest.map fun v => v.category).sum ≤ 8) (d : decode cc pc = .ok (.invokevirtual index, 3)) (hf : cells ≤ R.cells ∧ slots ≤ R.slots)
    (kk : ∀ (H1 : Heap) (locs1 : List Loc), va_P D vwCl w' H1 → va_D A w' → va_S A s.heap H1 locs1 → W p l e R s m args below meth c0 H1 locs1 cells slots Q (F0 m (pc + 3) ls (.long r :: rest))) : W p l e R s m args below meth c0 H locs cells slots Q (F0 m pc ls st0) := by
  have hFc := freeG hD hS hA
  refine va_calll (va_runV (As := As) (rest := rest) S (hM D H.size) cw ⟨preG.blind, hrc, fun U hU hW => ⟨rfl, by rw [hU], by rw [hU]; exact hP, va_K.moved hW.alike hK, hD.weaken (fun _ _ _ _ => trivial), hN.moved hW⟩⟩ rfl hn hsize hst (lv_room hW) d hf) hS (fun q _ h => hFc q h) hFc (fun r' u t H1 locs1 ht hvm hr hB hz hk hS1 => ?_)
  obtain ⟨hP1, hK1, hD1⟩ := hB
  rw [ht] at hP1
  subst hr
  exact kk H1 locs1 hP1 (hD1.weaken (fun k q _ h => hFc q.1 h)) hS1
theorem callVv (S : CallFix p m c0 cc nL s args Ts own) (hM : MGv l mn ws fr lo (.ref b :: As) tys w w') (cw : CallW R s args own C index mn bytes maxL ret ws ({ frames := fr, cells := 0, slots := 0, locals := lo }) 0 0 n) (hrc : ∃ cellB : Cell, H[b]? = some cellB ∧ cellB.vm.isStatics = false ∧ s.vm.findClass C = some cellB.cls) (hK : va_K D vwCl tys s) (hP : va_P D vwCl w H) (hD : va_D A w) (hS : va_S A s.heap H locs) (hA : ∀ q, s.heap.size ≤ q → A q) (hN : nwA s) (hn : As.length = n) (hsize : ls.size = nL) (hst : st0 = As.reverse ++ .ref b :: rest) (hW : (rest.map fun v => v.category).sum ≤ 8) (d : decode cc pc = .ok (.invokevirtual index, 3)) (hf : cells ≤ R.cells ∧ slots ≤ R.slots)
    (kk : ∀ (H1 : Heap) (locs1 : List Loc), va_P D vwCl w' H1 → va_D A w' → va_S A s.heap H1 locs1 → W p l e R s m args below meth c0 H1 locs1 cells slots Q (F0 m (pc + 3) ls rest)) : W p l e R s m args below meth c0 H locs cells slots Q (F0 m pc ls st0) := by
  have hFc := freeG hD hS hA
  refine va_callv (va_runV (As := As) (rest := rest) S (hM D H.size) cw ⟨preG.blind, hrc, fun U hU hW => ⟨rfl, by rw [hU], by rw [hU]; exact hP, va_K.moved hW.alike hK, hD.weaken (fun _ _ _ _ => trivial), hN.moved hW⟩⟩ rfl hn hsize hst (lv_room hW) d hf) hS (fun q _ h => hFc q h) hFc (fun u t H1 locs1 ht hvm hr hB hz hk hS1 => ?_)
  obtain ⟨hP1, hK1, hD1⟩ := hB
  rw [ht] at hP1
  exact kk H1 locs1 hP1 (hD1.weaken (fun k q _ h => hFc q.1 h)) hS1
theorem callSi {r : Int32} (S : CallFix p m c0 cc nL s args Ts own) (hM : MGi l mn ws fr lo As tys w r w') (cw : CallB R s args own index mn bytes maxL ret ws ({ frames := fr, cells := 0, slots := 0, locals := lo }) 0 0 n ∧ (Cond.static mn).before args s = true) (hK : va_K D vwCl tys s) (hP : va_P D vwCl w H) (hD : va_D A w) (hS : va_S A s.heap H locs) (hA : ∀ q, s.heap.size ≤ q → A q) (hN : nwA s) (hn : As.length = n) (hsize : ls.size = nL) (hst : st0 = As.reverse ++ rest) (hW : (rest.map fun v => v.category).sum ≤ 8) (d : decode cc pc = .ok (.invokestatic index, 3)) (hf : cells ≤ R.cells ∧ slots ≤ R.slots)
    (kk : ∀ (H1 : Heap) (locs1 : List Loc), va_P D vwCl w' H1 → va_D A w' → va_S A s.heap H1 locs1 → W p l e R s m args below meth c0 H1 locs1 cells slots Q (F0 m (pc + 3) ls (.int r :: rest))) : W p l e R s m args below meth c0 H locs cells slots Q (F0 m pc ls st0) := by
  have hFc := freeG hD hS hA
  refine va_calli (va_runS (As := As) (rest := rest) S (hM D H.size) cw ⟨preG.blind, fun U hU hW => ⟨rfl, by rw [hU], by rw [hU]; exact hP, va_K.moved hW.alike hK, hD.weaken (fun _ _ _ _ => trivial), hN.moved hW⟩⟩ rfl hn hsize hst (lv_room hW) d hf) hS (fun q _ h => hFc q h) hFc (fun r' u t H1 locs1 ht hvm hr hB hz hk hS1 => ?_)
  obtain ⟨hP1, hK1, hD1⟩ := hB
  rw [ht] at hP1
  subst hr
  exact kk H1 locs1 hP1 (hD1.weaken (fun k q _ h => hFc q.1 h)) hS1
theorem callNi {r : Int32} (S : CallFix p m c0 cc nL s args Ts own) (hM : MGi l mn ws fr lo As tys w r w') (cw : va_CN R s args own index mn host bytes maxL ret ws ({ frames := fr, cells := 0, slots := 0, locals := lo }) 0 0 n ∧ (Cond.static mn).before args s = true ∧ True) (hK : va_K D vwCl tys s) (hP : va_P D vwCl w H) (hD : va_D A w) (hS : va_S A s.heap H locs) (hA : ∀ q, s.heap.size ≤ q → A q) (hN : nwA s) (hn : As.length = n) (hsize : ls.size = nL) (hst : st0 = As.reverse ++ rest) (hW : (rest.map fun v => v.category).sum ≤ 8) (d : decode cc pc = .ok (.invokestatic index, 3)) (hf : cells ≤ R.cells ∧ slots ≤ R.slots)
    (kk : ∀ (H1 : Heap) (locs1 : List Loc), va_P D vwCl w' H1 → va_D A w' → va_S A s.heap H1 locs1 → W p l e R s m args below meth c0 H1 locs1 cells slots Q (F0 m (pc + 3) ls (.int r :: rest))) : W p l e R s m args below meth c0 H locs cells slots Q (F0 m pc ls st0) := by
  have hFc := freeG hD hS hA
  refine va_calli (va_runSN (As := As) (rest := rest) S (hM D H.size) cw ⟨preG.blind, fun U hU hW => ⟨rfl, by rw [hU], by rw [hU]; exact hP, va_K.moved hW.alike hK, hD.weaken (fun _ _ _ _ => trivial), hN.moved hW⟩⟩ rfl hn hsize hst (lv_room hW) d hf) hS (fun q _ h => hFc q h) hFc (fun r' u t H1 locs1 ht hvm hr hB hz hk hS1 => ?_)
  obtain ⟨hP1, hK1, hD1⟩ := hB
  rw [ht] at hP1
  subst hr
  exact kk H1 locs1 hP1 (hD1.weaken (fun k q _ h => hFc q.1 h)) hS1
/-! rows over numbers: nI of a Nat -/
theorem q_iadd (hx : p.tables.exec = Jvm.exec) (hb : c0.code = cc) {x y : Nat} (d : decode cc pc = .ok (.iadd, 1)) (kk : W p l e R s m args below meth c0 H locs cells slots Q (F0 m (pc + 1) ls (.int (nI (x + y)) :: rest))) : W p l e R s m args below meth c0 H locs cells slots Q (F0 m pc ls (.int (nI y) :: .int (nI x) :: rest)) := lv_iadd hx hb d (by rw [nI_add]; exact kk)
theorem q_imul (hx : p.tables.exec = Jvm.exec) (hb : c0.code = cc) {x y : Nat} (d : decode cc pc = .ok (.imul, 1)) (kk : W p l e R s m args below meth c0 H locs cells slots Q (F0 m (pc + 1) ls (.int (nI (x * y)) :: rest))) : W p l e R s m args below meth c0 H locs cells slots Q (F0 m pc ls (.int (nI y) :: .int (nI x) :: rest)) := lv_imul hx hb d (by rw [pk_mul]; exact kk)
theorem q_isub (hx : p.tables.exec = Jvm.exec) (hb : c0.code = cc) {x y : Nat} (h : y ≤ x) (d : decode cc pc = .ok (.isub, 1)) (kk : W p l e R s m args below meth c0 H locs cells slots Q (F0 m (pc + 1) ls (.int (nI (x - y)) :: rest))) : W p l e R s m args below meth c0 H locs cells slots Q (F0 m pc ls (.int (nI y) :: .int (nI x) :: rest)) := lv_isub hx hb d (by rw [pk_sub h]; exact kk)
theorem q_idiv (hx : p.tables.exec = Jvm.exec) (hb : c0.code = cc) {x y : Nat} (h1 : x < 2 ^ 31) (h2 : 0 < y) (h3 : y < 2 ^ 31) (d : decode cc pc = .ok (.idiv, 1)) (kk : W p l e R s m args below meth c0 H locs cells slots Q (F0 m (pc + 1) ls (.int (nI (x / y)) :: rest))) : W p l e R s m args below meth c0 H locs cells slots Q (F0 m pc ls (.int (nI y) :: .int (nI x) :: rest)) := lv_idiv hx hb d (nI_ne0 h2 h3) (by rw [pk_div h1 h2 h3]; exact kk)
theorem q_icmp_eq (hx : p.tables.exec = Jvm.exec) (hb : c0.code = cc) {x y : Nat} {off : Int} {tgt : Nat} (h1 : x < 2 ^ 31) (h2 : y < 2 ^ 31) (d : decode cc pc = .ok (.if_icmp .eq off, 3)) (ht : (pc : Int) + off = (tgt : Int)) (kt : x = y → W p l e R s m args below meth c0 H locs cells slots Q (F0 m tgt ls rest)) (kf : ¬ x = y → W p l e R s m args below meth c0 H locs cells slots Q (F0 m (pc + 3) ls rest)) : W p l e R s m args below meth c0 H locs cells slots Q (F0 m pc ls (.int (nI y) :: .int (nI x) :: rest)) := lv_icmp_eq hx hb d ht (fun h => kt ((nI_eq h1 h2).mp h)) (fun h => kf (fun q => h ((nI_eq h1 h2).mpr q)))
theorem q_icmp_ne (hx : p.tables.exec = Jvm.exec) (hb : c0.code = cc) {x y : Nat} {off : Int} {tgt : Nat} (h1 : x < 2 ^ 31) (h2 : y < 2 ^ 31) (d : decode cc pc = .ok (.if_icmp .ne off, 3)) (ht : (pc : Int) + off = (tgt : Int)) (kt : ¬ x = y → W p l e R s m args below meth c0 H locs cells slots Q (F0 m tgt ls rest)) (kf : x = y → W p l e R s m args below meth c0 H locs cells slots Q (F0 m (pc + 3) ls rest)) : W p l e R s m args below meth c0 H locs cells slots Q (F0 m pc ls (.int (nI y) :: .int (nI x) :: rest)) := lv_icmp_ne hx hb d ht (fun h => kt (fun q => h ((nI_eq h1 h2).mpr q))) (fun h => kf ((nI_eq h1 h2).mp h))
theorem q_icmp_ge (hx : p.tables.exec = Jvm.exec) (hb : c0.code = cc) {x y : Nat} {off : Int} {tgt : Nat} (h1 : x < 2 ^ 31) (h2 : y < 2 ^ 31) (d : decode cc pc = .ok (.if_icmp .ge off, 3)) (ht : (pc : Int) + off = (tgt : Int)) (kt : y ≤ x → W p l e R s m args below meth c0 H locs cells slots Q (F0 m tgt ls rest)) (kf : x < y → W p l e R s m args below meth c0 H locs cells slots Q (F0 m (pc + 3) ls rest)) : W p l e R s m args below meth c0 H locs cells slots Q (F0 m pc ls (.int (nI y) :: .int (nI x) :: rest)) := lv_icmp_ge hx hb d ht (fun h => kt ((nI_leI h2 h1).mp h)) (fun h => kf (Nat.not_le.mp (fun q => h ((nI_leI h2 h1).mpr q))))
theorem q_icmp_lt (hx : p.tables.exec = Jvm.exec) (hb : c0.code = cc) {x y : Nat} {off : Int} {tgt : Nat} (h1 : x < 2 ^ 31) (h2 : y < 2 ^ 31) (d : decode cc pc = .ok (.if_icmp .lt off, 3)) (ht : (pc : Int) + off = (tgt : Int)) (kt : x < y → W p l e R s m args below meth c0 H locs cells slots Q (F0 m tgt ls rest)) (kf : y ≤ x → W p l e R s m args below meth c0 H locs cells slots Q (F0 m (pc + 3) ls rest)) : W p l e R s m args below meth c0 H locs cells slots Q (F0 m pc ls (.int (nI y) :: .int (nI x) :: rest)) := lv_icmp_lt hx hb d ht (fun h => kt ((nI_ltI h1 h2).mp h)) (fun h => kf (Nat.not_lt.mp (fun q => h ((nI_ltI h1 h2).mpr q))))
theorem q_icmp_gt (hx : p.tables.exec = Jvm.exec) (hb : c0.code = cc) {x y : Nat} {off : Int} {tgt : Nat} (h1 : x < 2 ^ 31) (h2 : y < 2 ^ 31) (d : decode cc pc = .ok (.if_icmp .gt off, 3)) (ht : (pc : Int) + off = (tgt : Int)) (kt : y < x → W p l e R s m args below meth c0 H locs cells slots Q (F0 m tgt ls rest)) (kf : x ≤ y → W p l e R s m args below meth c0 H locs cells slots Q (F0 m (pc + 3) ls rest)) : W p l e R s m args below meth c0 H locs cells slots Q (F0 m pc ls (.int (nI y) :: .int (nI x) :: rest)) := lv_icmp_gt hx hb d ht (fun h => kt ((nI_ltI h2 h1).mp h)) (fun h => kf (Nat.not_lt.mp (fun q => h ((nI_ltI h2 h1).mpr q))))
theorem q_icmp_le (hx : p.tables.exec = Jvm.exec) (hb : c0.code = cc) {x y : Nat} {off : Int} {tgt : Nat} (h1 : x < 2 ^ 31) (h2 : y < 2 ^ 31) (d : decode cc pc = .ok (.if_icmp .le off, 3)) (ht : (pc : Int) + off = (tgt : Int)) (kt : x ≤ y → W p l e R s m args below meth c0 H locs cells slots Q (F0 m tgt ls rest)) (kf : y < x → W p l e R s m args below meth c0 H locs cells slots Q (F0 m (pc + 3) ls rest)) : W p l e R s m args below meth c0 H locs cells slots Q (F0 m pc ls (.int (nI y) :: .int (nI x) :: rest)) := lv_icmp_le hx hb d ht (fun h => kt ((nI_leI h1 h2).mp h)) (fun h => kf (Nat.not_le.mp (fun q => h ((nI_leI h1 h2).mpr q))))
theorem q_if_eq (hx : p.tables.exec = Jvm.exec) (hb : c0.code = cc) {x : Nat} {off : Int} {tgt : Nat} (h1 : x < 2 ^ 31) (d : decode cc pc = .ok (.ifCond .eq off, 3)) (ht : (pc : Int) + off = (tgt : Int)) (kt : x = 0 → W p l e R s m args below meth c0 H locs cells slots Q (F0 m tgt ls rest)) (kf : ¬ x = 0 → W p l e R s m args below meth c0 H locs cells slots Q (F0 m (pc + 3) ls rest)) : W p l e R s m args below meth c0 H locs cells slots Q (F0 m pc ls (.int (nI x) :: rest)) := lv_if_eq hx hb d ht (fun h => kt ((nI_eq h1 (by decide)).mp (h.trans nI_0.symm))) (fun h => kf (fun q => h (by rw [q]; exact nI_0)))
theorem q_if_ne (hx : p.tables.exec = Jvm.exec) (hb : c0.code = cc) {x : Nat} {off : Int} {tgt : Nat} (h1 : x < 2 ^ 31) (d : decode cc pc = .ok (.ifCond .ne off, 3)) (ht : (pc : Int) + off = (tgt : Int)) (kt : ¬ x = 0 → W p l e R s m args below meth c0 H locs cells slots Q (F0 m tgt ls rest)) (kf : x = 0 → W p l e R s m args below meth c0 H locs cells slots Q (F0 m (pc + 3) ls rest)) : W p l e R s m args below meth c0 H locs cells slots Q (F0 m pc ls (.int (nI x) :: rest)) := lv_if_ne hx hb d ht (fun h => kt (fun q => h (by rw [q]; exact nI_0))) (fun h => kf ((nI_eq h1 (by decide)).mp (h.trans nI_0.symm)))
theorem q_if_le (hx : p.tables.exec = Jvm.exec) (hb : c0.code = cc) {x : Nat} {off : Int} {tgt : Nat} (h1 : x < 2 ^ 31) (d : decode cc pc = .ok (.ifCond .le off, 3)) (ht : (pc : Int) + off = (tgt : Int)) (kt : x = 0 → W p l e R s m args below meth c0 H locs cells slots Q (F0 m tgt ls rest)) (kf : ¬ x = 0 → W p l e R s m args below meth c0 H locs cells slots Q (F0 m (pc + 3) ls rest)) : W p l e R s m args below meth c0 H locs cells slots Q (F0 m pc ls (.int (nI x) :: rest)) := lv_if_le hx hb d ht (fun h => kt (by
  rcases Nat.eq_zero_or_pos x with q | q
  · exact q
  · exact absurd h (nI_nle q h1))) (fun h => kf (fun q => h (by rw [q, nI_0]; exact Int32.le_refl 0)))
theorem q_ifb_eq (hx : p.tables.exec = Jvm.exec) (hb : c0.code = cc) {x : Bool} {off : Int} {tgt : Nat} (d : decode cc pc = .ok (.ifCond .eq off, 3)) (ht : (pc : Int) + off = (tgt : Int)) (kt : x = false → W p l e R s m args below meth c0 H locs cells slots Q (F0 m tgt ls rest)) (kf : x = true → W p l e R s m args below meth c0 H locs cells slots Q (F0 m (pc + 3) ls rest)) : W p l e R s m args below meth c0 H locs cells slots Q (F0 m pc ls (.int (bI x) :: rest)) := lv_if_eq hx hb d ht (fun h => kt ((bI_eq0 x).mp h)) (fun h => kf (by cases x with | true => rfl | false => exact absurd rfl h))
theorem q_ifb_ne (hx : p.tables.exec = Jvm.exec) (hb : c0.code = cc) {x : Bool} {off : Int} {tgt : Nat} (d : decode cc pc = .ok (.ifCond .ne off, 3)) (ht : (pc : Int) + off = (tgt : Int)) (kt : x = true → W p l e R s m args below meth c0 H locs cells slots Q (F0 m tgt ls rest)) (kf : x = false → W p l e R s m args below meth c0 H locs cells slots Q (F0 m (pc + 3) ls rest)) : W p l e R s m args below meth c0 H locs cells slots Q (F0 m pc ls (.int (bI x) :: rest)) := lv_if_ne hx hb d ht (fun h => kt (by cases x with | true => rfl | false => exact absurd rfl h)) (fun h => kf ((bI_eq0 x).mp h))
end GG
end
section
theorem vp_nar_bI (b : Bool) : vp_nar .boolean (bI b) = bI b := by cases b <;> rfl
def tyA (y : Nat → ClassId) : List (ClassId × FieldType) := [(y 0, .int), (y 1, .long), (y 2, .boolean)]
abbrev CS : Type := (Nat → Int64) × (Nat → Int64) × (Bool) × (Bool) × (Int32) × (Int32) × (Nat) × (Int64) × (Int32) × (Nat → Nat) × (Nat → Nat) × (Nat → Nat) × (Nat → Int64) × (Nat) × (Nat) × (Bool) × (Bool)
def c_S (c : CS) : Nat → Int64 := c.1
def c_K (c : CS) : Nat → Int64 := c.2.1
def c_on (c : CS) : Bool := c.2.2.1
def c_op (c : CS) : Bool := c.2.2.2.1
def c_fl (c : CS) : Int32 := c.2.2.2.2.1
def c_sl (c : CS) : Int32 := c.2.2.2.2.2.1
def c_au (c : CS) : Nat := c.2.2.2.2.2.2.1
def c_mk (c : CS) : Int64 := c.2.2.2.2.2.2.2.1
def c_ad (c : CS) : Int32 := c.2.2.2.2.2.2.2.2.1
def c_fi (c : CS) : Nat → Nat := c.2.2.2.2.2.2.2.2.2.1
def c_co (c : CS) : Nat → Nat := c.2.2.2.2.2.2.2.2.2.2.1
def c_sc (c : CS) : Nat → Nat := c.2.2.2.2.2.2.2.2.2.2.2.1
def c_ce (c : CS) : Nat → Int64 := c.2.2.2.2.2.2.2.2.2.2.2.2.1
def c_sz (c : CS) : Nat := c.2.2.2.2.2.2.2.2.2.2.2.2.2.1
def c_tk (c : CS) : Nat := c.2.2.2.2.2.2.2.2.2.2.2.2.2.2.1
def c_nk (c : CS) : Bool := c.2.2.2.2.2.2.2.2.2.2.2.2.2.2.2.1
def c_xo (c : CS) : Bool := c.2.2.2.2.2.2.2.2.2.2.2.2.2.2.2.2
def cs_S (c : CS) (v : Nat → Int64) : CS := (v, c_K c, c_on c, c_op c, c_fl c, c_sl c, c_au c, c_mk c, c_ad c, c_fi c, c_co c, c_sc c, c_ce c, c_sz c, c_tk c, c_nk c, c_xo c)
def cs_K (c : CS) (v : Nat → Int64) : CS := (c_S c, v, c_on c, c_op c, c_fl c, c_sl c, c_au c, c_mk c, c_ad c, c_fi c, c_co c, c_sc c, c_ce c, c_sz c, c_tk c, c_nk c, c_xo c)
def cs_on (c : CS) (v : Bool) : CS := (c_S c, c_K c, v, c_op c, c_fl c, c_sl c, c_au c, c_mk c, c_ad c, c_fi c, c_co c, c_sc c, c_ce c, c_sz c, c_tk c, c_nk c, c_xo c)
def cs_op (c : CS) (v : Bool) : CS := (c_S c, c_K c, c_on c, v, c_fl c, c_sl c, c_au c, c_mk c, c_ad c, c_fi c, c_co c, c_sc c, c_ce c, c_sz c, c_tk c, c_nk c, c_xo c)
def cs_fl (c : CS) (v : Int32) : CS := (c_S c, c_K c, c_on c, c_op c, v, c_sl c, c_au c, c_mk c, c_ad c, c_fi c, c_co c, c_sc c, c_ce c, c_sz c, c_tk c, c_nk c, c_xo c)
def cs_sl (c : CS) (v : Int32) : CS := (c_S c, c_K c, c_on c, c_op c, c_fl c, v, c_au c, c_mk c, c_ad c, c_fi c, c_co c, c_sc c, c_ce c, c_sz c, c_tk c, c_nk c, c_xo c)
def cs_au (c : CS) (v : Nat) : CS := (c_S c, c_K c, c_on c, c_op c, c_fl c, c_sl c, v, c_mk c, c_ad c, c_fi c, c_co c, c_sc c, c_ce c, c_sz c, c_tk c, c_nk c, c_xo c)
def cs_mk (c : CS) (v : Int64) : CS := (c_S c, c_K c, c_on c, c_op c, c_fl c, c_sl c, c_au c, v, c_ad c, c_fi c, c_co c, c_sc c, c_ce c, c_sz c, c_tk c, c_nk c, c_xo c)
def cs_ad (c : CS) (v : Int32) : CS := (c_S c, c_K c, c_on c, c_op c, c_fl c, c_sl c, c_au c, c_mk c, v, c_fi c, c_co c, c_sc c, c_ce c, c_sz c, c_tk c, c_nk c, c_xo c)
def cs_fi (c : CS) (v : Nat → Nat) : CS := (c_S c, c_K c, c_on c, c_op c, c_fl c, c_sl c, c_au c, c_mk c, c_ad c, v, c_co c, c_sc c, c_ce c, c_sz c, c_tk c, c_nk c, c_xo c)
def cs_co (c : CS) (v : Nat → Nat) : CS := (c_S c, c_K c, c_on c, c_op c, c_fl c, c_sl c, c_au c, c_mk c, c_ad c, c_fi c, v, c_sc c, c_ce c, c_sz c, c_tk c, c_nk c, c_xo c)
def cs_sc (c : CS) (v : Nat → Nat) : CS := (c_S c, c_K c, c_on c, c_op c, c_fl c, c_sl c, c_au c, c_mk c, c_ad c, c_fi c, c_co c, v, c_ce c, c_sz c, c_tk c, c_nk c, c_xo c)
def cs_ce (c : CS) (v : Nat → Int64) : CS := (c_S c, c_K c, c_on c, c_op c, c_fl c, c_sl c, c_au c, c_mk c, c_ad c, c_fi c, c_co c, c_sc c, v, c_sz c, c_tk c, c_nk c, c_xo c)
def cs_sz (c : CS) (v : Nat) : CS := (c_S c, c_K c, c_on c, c_op c, c_fl c, c_sl c, c_au c, c_mk c, c_ad c, c_fi c, c_co c, c_sc c, c_ce c, v, c_tk c, c_nk c, c_xo c)
def cs_tk (c : CS) (v : Nat) : CS := (c_S c, c_K c, c_on c, c_op c, c_fl c, c_sl c, c_au c, c_mk c, c_ad c, c_fi c, c_co c, c_sc c, c_ce c, c_sz c, v, c_nk c, c_xo c)
def cs_nk (c : CS) (v : Bool) : CS := (c_S c, c_K c, c_on c, c_op c, c_fl c, c_sl c, c_au c, c_mk c, c_ad c, c_fi c, c_co c, c_sc c, c_ce c, c_sz c, c_tk c, v, c_xo c)
def cs_xo (c : CS) (v : Bool) : CS := (c_S c, c_K c, c_on c, c_op c, c_fl c, c_sl c, c_au c, c_mk c, c_ad c, c_fi c, c_co c, c_sc c, c_ce c, c_sz c, c_tk c, c_nk c, v)
def wC (a : Nat → Nat) (y : Nat → ClassId) (c : CS) (t : va_W) : va_W := (a 0, .inr (1, [.ref (a 1), .ref (a 2), .ref (a 3), .int (bI (c_on c)), .int (bI (c_op c)), .int (c_fl c), .int (c_sl c), .int (nI (c_au c)), .long (c_mk c), .int (c_ad c)])) :: (a 1, .inl (y 1, 32, .inr (.inl (c_S c)))) :: (a 2, .inl (y 1, 32, .inr (.inl (c_K c)))) :: (a 3, .inr (0, [.ref (a 4), .ref (a 5), .ref (a 6), .ref (a 7), .int (nI (c_sz c)), .int (nI (c_tk c)), .int (bI (c_nk c)), .int (bI (c_xo c))])) :: (a 4, .inl (y 0, 20, .inl (fun j => nI (c_fi c j)))) :: (a 5, .inl (y 0, 20, .inl (fun j => nI (c_co c j)))) :: (a 6, .inl (y 0, 20, .inl (fun j => nI (c_sc c j)))) :: (a 7, .inl (y 1, 40, .inr (.inl (c_ce c)))) :: t
section STCS
variable {p : Program} {l : Launch} {e : Env} {R : Room} {s : State} {m : MethodId} {args : Array Value} {below : List Frame} {meth : Method} {c0 : Code} {H : Heap} {locs : List Loc} {cells slots : Nat} {Q : State → Prop}
variable {cc : ByteArray} {pc : Nat} {ls : Array Slot} {rest : List Value} {D : va_G} {A : Nat → Prop} {Ts : List Cond} {own host : String} {index : Nat} {a : Nat → Nat} {y : Nat → ClassId} {t : va_W}
variable {c : CS}
theorem cg_r1 (hx : p.tables.exec = Jvm.exec) (hb : c0.code = cc) (hts : ∀ w ∈ Ts, w.before args s = true) (hin : ∀ w ∈ u_ws RX1 TX1 10, w ∈ Ts) (hown : s.vm.findClass own = some m.cls) (hK : va_K D vwCl (tyA y) s) (hP : va_P D vwCl (wC a y c t) H) (hlink : (Cond.fieldLink own index "FencedWords" "seenValues" "[J").before args s = true) (d : decode cc pc = .ok (.getfield index, 3)) (kk : W p l e R s m args below meth c0 H locs cells slots Q (F0 m (pc + 3) ls (.ref (a 1) :: rest))) : W p l e R s m args below meth c0 H locs cells slots Q (F0 m pc ls (.ref (a 0) :: rest)) := va_get (D := D) (ci := 1) (C := RX1) (T := TX1) (N := 10) hx hb hts hin hown hK hP 0 rfl rfl 0 (by decide) hlink (fun _ h => h) rfl d kk
theorem cg_r2 (hx : p.tables.exec = Jvm.exec) (hb : c0.code = cc) (hts : ∀ w ∈ Ts, w.before args s = true) (hin : ∀ w ∈ u_ws RX1 TX1 10, w ∈ Ts) (hown : s.vm.findClass own = some m.cls) (hK : va_K D vwCl (tyA y) s) (hP : va_P D vwCl (wC a y c t) H) (hlink : (Cond.fieldLink own index "FencedWords" "keptValues" "[J").before args s = true) (d : decode cc pc = .ok (.getfield index, 3)) (kk : W p l e R s m args below meth c0 H locs cells slots Q (F0 m (pc + 3) ls (.ref (a 2) :: rest))) : W p l e R s m args below meth c0 H locs cells slots Q (F0 m pc ls (.ref (a 0) :: rest)) := va_get (D := D) (ci := 1) (C := RX1) (T := TX1) (N := 10) hx hb hts hin hown hK hP 0 rfl rfl 1 (by decide) hlink (fun _ h => h) rfl d kk
theorem cg_r3 (hx : p.tables.exec = Jvm.exec) (hb : c0.code = cc) (hts : ∀ w ∈ Ts, w.before args s = true) (hin : ∀ w ∈ u_ws RX1 TX1 10, w ∈ Ts) (hown : s.vm.findClass own = some m.cls) (hK : va_K D vwCl (tyA y) s) (hP : va_P D vwCl (wC a y c t) H) (hlink : (Cond.fieldLink own index "FencedWords" "log" "LFencedWords$Log;").before args s = true) (d : decode cc pc = .ok (.getfield index, 3)) (kk : W p l e R s m args below meth c0 H locs cells slots Q (F0 m (pc + 3) ls (.ref (a 3) :: rest))) : W p l e R s m args below meth c0 H locs cells slots Q (F0 m pc ls (.ref (a 0) :: rest)) := va_get (D := D) (ci := 1) (C := RX1) (T := TX1) (N := 10) hx hb hts hin hown hK hP 0 rfl rfl 2 (by decide) hlink (fun _ h => h) rfl d kk
theorem cg_on (hx : p.tables.exec = Jvm.exec) (hb : c0.code = cc) (hts : ∀ w ∈ Ts, w.before args s = true) (hin : ∀ w ∈ u_ws RX1 TX1 10, w ∈ Ts) (hown : s.vm.findClass own = some m.cls) (hK : va_K D vwCl (tyA y) s) (hP : va_P D vwCl (wC a y c t) H) (hlink : (Cond.fieldLink own index "FencedWords" "powerOn" "Z").before args s = true) (d : decode cc pc = .ok (.getfield index, 3)) (kk : W p l e R s m args below meth c0 H locs cells slots Q (F0 m (pc + 3) ls (.int (bI (c_on c)) :: rest))) : W p l e R s m args below meth c0 H locs cells slots Q (F0 m pc ls (.ref (a 0) :: rest)) := va_get (D := D) (ci := 1) (C := RX1) (T := TX1) (N := 10) hx hb hts hin hown hK hP 0 rfl rfl 3 (by decide) hlink (fun _ h => h) rfl d kk
theorem cp_on {v : Bool} (hx : p.tables.exec = Jvm.exec) (hb : c0.code = cc) (hts : ∀ w ∈ Ts, w.before args s = true) (hin : ∀ w ∈ u_ws RX1 TX1 10, w ∈ Ts) (hown : s.vm.findClass own = some m.cls) (hK : va_K D vwCl (tyA y) s) (hP : va_P D vwCl (wC a y c t) H) (hD : va_D A (wC a y c t)) (hS : va_S A s.heap H locs) (hlink : (Cond.fieldLink own index "FencedWords" "powerOn" "Z").before args s = true) (d : decode cc pc = .ok (.putfield index, 3)) (kk : ∀ (H1 : Heap) (locs1 : List Loc), va_P D vwCl (wC a y (cs_on c v) t) H1 → va_D A (wC a y (cs_on c v) t) → va_S A s.heap H1 locs1 → W p l e R s m args below meth c0 H1 locs1 cells slots Q (F0 m (pc + 3) ls rest)) : W p l e R s m args below meth c0 H locs cells slots Q (F0 m pc ls (.int (bI (v)) :: .ref (a 0) :: rest)) := va_put (D := D) (ci := 1) (ty := .boolean) (C := RX1) (T := TX1) (N := 10) hx hb hts hin tyX1 tyX1_ok nmX1 hown hK hP hD hS 0 rfl rfl 3 (by decide) hlink (fun _ h => h) rfl (by decide +kernel) (bI_nar v) (bI_fit v) (Nat.le_of_ble_eq_true rfl) d (fun H1 l1 h1 h2 h3 => kk H1 l1 h1 h2 h3)
theorem cg_op (hx : p.tables.exec = Jvm.exec) (hb : c0.code = cc) (hts : ∀ w ∈ Ts, w.before args s = true) (hin : ∀ w ∈ u_ws RX1 TX1 10, w ∈ Ts) (hown : s.vm.findClass own = some m.cls) (hK : va_K D vwCl (tyA y) s) (hP : va_P D vwCl (wC a y c t) H) (hlink : (Cond.fieldLink own index "FencedWords" "transactionOpen" "Z").before args s = true) (d : decode cc pc = .ok (.getfield index, 3)) (kk : W p l e R s m args below meth c0 H locs cells slots Q (F0 m (pc + 3) ls (.int (bI (c_op c)) :: rest))) : W p l e R s m args below meth c0 H locs cells slots Q (F0 m pc ls (.ref (a 0) :: rest)) := va_get (D := D) (ci := 1) (C := RX1) (T := TX1) (N := 10) hx hb hts hin hown hK hP 0 rfl rfl 4 (by decide) hlink (fun _ h => h) rfl d kk
theorem cp_op {v : Bool} (hx : p.tables.exec = Jvm.exec) (hb : c0.code = cc) (hts : ∀ w ∈ Ts, w.before args s = true) (hin : ∀ w ∈ u_ws RX1 TX1 10, w ∈ Ts) (hown : s.vm.findClass own = some m.cls) (hK : va_K D vwCl (tyA y) s) (hP : va_P D vwCl (wC a y c t) H) (hD : va_D A (wC a y c t)) (hS : va_S A s.heap H locs) (hlink : (Cond.fieldLink own index "FencedWords" "transactionOpen" "Z").before args s = true) (d : decode cc pc = .ok (.putfield index, 3)) (kk : ∀ (H1 : Heap) (locs1 : List Loc), va_P D vwCl (wC a y (cs_op c v) t) H1 → va_D A (wC a y (cs_op c v) t) → va_S A s.heap H1 locs1 → W p l e R s m args below meth c0 H1 locs1 cells slots Q (F0 m (pc + 3) ls rest)) : W p l e R s m args below meth c0 H locs cells slots Q (F0 m pc ls (.int (bI (v)) :: .ref (a 0) :: rest)) := va_put (D := D) (ci := 1) (ty := .boolean) (C := RX1) (T := TX1) (N := 10) hx hb hts hin tyX1 tyX1_ok nmX1 hown hK hP hD hS 0 rfl rfl 4 (by decide) hlink (fun _ h => h) rfl (by decide +kernel) (bI_nar v) (bI_fit v) (Nat.le_of_ble_eq_true rfl) d (fun H1 l1 h1 h2 h3 => kk H1 l1 h1 h2 h3)
theorem cg_fl (hx : p.tables.exec = Jvm.exec) (hb : c0.code = cc) (hts : ∀ w ∈ Ts, w.before args s = true) (hin : ∀ w ∈ u_ws RX1 TX1 10, w ∈ Ts) (hown : s.vm.findClass own = some m.cls) (hK : va_K D vwCl (tyA y) s) (hP : va_P D vwCl (wC a y c t) H) (hlink : (Cond.fieldLink own index "FencedWords" "flushedLines" "I").before args s = true) (d : decode cc pc = .ok (.getfield index, 3)) (kk : W p l e R s m args below meth c0 H locs cells slots Q (F0 m (pc + 3) ls (.int (c_fl c) :: rest))) : W p l e R s m args below meth c0 H locs cells slots Q (F0 m pc ls (.ref (a 0) :: rest)) := va_get (D := D) (ci := 1) (C := RX1) (T := TX1) (N := 10) hx hb hts hin hown hK hP 0 rfl rfl 5 (by decide) hlink (fun _ h => h) rfl d kk
theorem cp_fl {v : Int32} (hx : p.tables.exec = Jvm.exec) (hb : c0.code = cc) (hts : ∀ w ∈ Ts, w.before args s = true) (hin : ∀ w ∈ u_ws RX1 TX1 10, w ∈ Ts) (hown : s.vm.findClass own = some m.cls) (hK : va_K D vwCl (tyA y) s) (hP : va_P D vwCl (wC a y c t) H) (hD : va_D A (wC a y c t)) (hS : va_S A s.heap H locs) (hlink : (Cond.fieldLink own index "FencedWords" "flushedLines" "I").before args s = true) (d : decode cc pc = .ok (.putfield index, 3)) (kk : ∀ (H1 : Heap) (locs1 : List Loc), va_P D vwCl (wC a y (cs_fl c v) t) H1 → va_D A (wC a y (cs_fl c v) t) → va_S A s.heap H1 locs1 → W p l e R s m args below meth c0 H1 locs1 cells slots Q (F0 m (pc + 3) ls rest)) : W p l e R s m args below meth c0 H locs cells slots Q (F0 m pc ls (.int (v) :: .ref (a 0) :: rest)) := va_put (D := D) (ci := 1) (ty := .int) (C := RX1) (T := TX1) (N := 10) hx hb hts hin tyX1 tyX1_ok nmX1 hown hK hP hD hS 0 rfl rfl 5 (by decide) hlink (fun _ h => h) rfl (by decide +kernel) rfl rfl (Nat.le_of_ble_eq_true rfl) d (fun H1 l1 h1 h2 h3 => kk H1 l1 h1 h2 h3)
theorem cg_sl (hx : p.tables.exec = Jvm.exec) (hb : c0.code = cc) (hts : ∀ w ∈ Ts, w.before args s = true) (hin : ∀ w ∈ u_ws RX1 TX1 10, w ∈ Ts) (hown : s.vm.findClass own = some m.cls) (hK : va_K D vwCl (tyA y) s) (hP : va_P D vwCl (wC a y c t) H) (hlink : (Cond.fieldLink own index "FencedWords" "storedLines" "I").before args s = true) (d : decode cc pc = .ok (.getfield index, 3)) (kk : W p l e R s m args below meth c0 H locs cells slots Q (F0 m (pc + 3) ls (.int (c_sl c) :: rest))) : W p l e R s m args below meth c0 H locs cells slots Q (F0 m pc ls (.ref (a 0) :: rest)) := va_get (D := D) (ci := 1) (C := RX1) (T := TX1) (N := 10) hx hb hts hin hown hK hP 0 rfl rfl 6 (by decide) hlink (fun _ h => h) rfl d kk
theorem cp_sl {v : Int32} (hx : p.tables.exec = Jvm.exec) (hb : c0.code = cc) (hts : ∀ w ∈ Ts, w.before args s = true) (hin : ∀ w ∈ u_ws RX1 TX1 10, w ∈ Ts) (hown : s.vm.findClass own = some m.cls) (hK : va_K D vwCl (tyA y) s) (hP : va_P D vwCl (wC a y c t) H) (hD : va_D A (wC a y c t)) (hS : va_S A s.heap H locs) (hlink : (Cond.fieldLink own index "FencedWords" "storedLines" "I").before args s = true) (d : decode cc pc = .ok (.putfield index, 3)) (kk : ∀ (H1 : Heap) (locs1 : List Loc), va_P D vwCl (wC a y (cs_sl c v) t) H1 → va_D A (wC a y (cs_sl c v) t) → va_S A s.heap H1 locs1 → W p l e R s m args below meth c0 H1 locs1 cells slots Q (F0 m (pc + 3) ls rest)) : W p l e R s m args below meth c0 H locs cells slots Q (F0 m pc ls (.int (v) :: .ref (a 0) :: rest)) := va_put (D := D) (ci := 1) (ty := .int) (C := RX1) (T := TX1) (N := 10) hx hb hts hin tyX1 tyX1_ok nmX1 hown hK hP hD hS 0 rfl rfl 6 (by decide) hlink (fun _ h => h) rfl (by decide +kernel) rfl rfl (Nat.le_of_ble_eq_true rfl) d (fun H1 l1 h1 h2 h3 => kk H1 l1 h1 h2 h3)
theorem cg_au (hx : p.tables.exec = Jvm.exec) (hb : c0.code = cc) (hts : ∀ w ∈ Ts, w.before args s = true) (hin : ∀ w ∈ u_ws RX1 TX1 10, w ∈ Ts) (hown : s.vm.findClass own = some m.cls) (hK : va_K D vwCl (tyA y) s) (hP : va_P D vwCl (wC a y c t) H) (hlink : (Cond.fieldLink own index "FencedWords" "actsUntilLoss" "I").before args s = true) (d : decode cc pc = .ok (.getfield index, 3)) (kk : W p l e R s m args below meth c0 H locs cells slots Q (F0 m (pc + 3) ls (.int (nI (c_au c)) :: rest))) : W p l e R s m args below meth c0 H locs cells slots Q (F0 m pc ls (.ref (a 0) :: rest)) := va_get (D := D) (ci := 1) (C := RX1) (T := TX1) (N := 10) hx hb hts hin hown hK hP 0 rfl rfl 7 (by decide) hlink (fun _ h => h) rfl d kk
theorem cp_au {v : Nat} (hx : p.tables.exec = Jvm.exec) (hb : c0.code = cc) (hts : ∀ w ∈ Ts, w.before args s = true) (hin : ∀ w ∈ u_ws RX1 TX1 10, w ∈ Ts) (hown : s.vm.findClass own = some m.cls) (hK : va_K D vwCl (tyA y) s) (hP : va_P D vwCl (wC a y c t) H) (hD : va_D A (wC a y c t)) (hS : va_S A s.heap H locs) (hlink : (Cond.fieldLink own index "FencedWords" "actsUntilLoss" "I").before args s = true) (d : decode cc pc = .ok (.putfield index, 3)) (kk : ∀ (H1 : Heap) (locs1 : List Loc), va_P D vwCl (wC a y (cs_au c v) t) H1 → va_D A (wC a y (cs_au c v) t) → va_S A s.heap H1 locs1 → W p l e R s m args below meth c0 H1 locs1 cells slots Q (F0 m (pc + 3) ls rest)) : W p l e R s m args below meth c0 H locs cells slots Q (F0 m pc ls (.int (nI (v)) :: .ref (a 0) :: rest)) := va_put (D := D) (ci := 1) (ty := .int) (C := RX1) (T := TX1) (N := 10) hx hb hts hin tyX1 tyX1_ok nmX1 hown hK hP hD hS 0 rfl rfl 7 (by decide) hlink (fun _ h => h) rfl (by decide +kernel) rfl rfl (Nat.le_of_ble_eq_true rfl) d (fun H1 l1 h1 h2 h3 => kk H1 l1 h1 h2 h3)
theorem cg_mk (hx : p.tables.exec = Jvm.exec) (hb : c0.code = cc) (hts : ∀ w ∈ Ts, w.before args s = true) (hin : ∀ w ∈ u_ws RX1 TX1 10, w ∈ Ts) (hown : s.vm.findClass own = some m.cls) (hK : va_K D vwCl (tyA y) s) (hP : va_P D vwCl (wC a y c t) H) (hlink : (Cond.fieldLink own index "FencedWords" "maskOfLoss" "J").before args s = true) (d : decode cc pc = .ok (.getfield index, 3)) (kk : W p l e R s m args below meth c0 H locs cells slots Q (F0 m (pc + 3) ls (.long (c_mk c) :: rest))) : W p l e R s m args below meth c0 H locs cells slots Q (F0 m pc ls (.ref (a 0) :: rest)) := va_get (D := D) (ci := 1) (C := RX1) (T := TX1) (N := 10) hx hb hts hin hown hK hP 0 rfl rfl 8 (by decide) hlink (fun _ h => h) rfl d kk
theorem cp_mk {v : Int64} (hx : p.tables.exec = Jvm.exec) (hb : c0.code = cc) (hts : ∀ w ∈ Ts, w.before args s = true) (hin : ∀ w ∈ u_ws RX1 TX1 10, w ∈ Ts) (hown : s.vm.findClass own = some m.cls) (hK : va_K D vwCl (tyA y) s) (hP : va_P D vwCl (wC a y c t) H) (hD : va_D A (wC a y c t)) (hS : va_S A s.heap H locs) (hlink : (Cond.fieldLink own index "FencedWords" "maskOfLoss" "J").before args s = true) (d : decode cc pc = .ok (.putfield index, 3)) (kk : ∀ (H1 : Heap) (locs1 : List Loc), va_P D vwCl (wC a y (cs_mk c v) t) H1 → va_D A (wC a y (cs_mk c v) t) → va_S A s.heap H1 locs1 → W p l e R s m args below meth c0 H1 locs1 cells slots Q (F0 m (pc + 3) ls rest)) : W p l e R s m args below meth c0 H locs cells slots Q (F0 m pc ls (.long (v) :: .ref (a 0) :: rest)) := va_put (D := D) (ci := 1) (ty := .long) (C := RX1) (T := TX1) (N := 10) hx hb hts hin tyX1 tyX1_ok nmX1 hown hK hP hD hS 0 rfl rfl 8 (by decide) hlink (fun _ h => h) rfl (by decide +kernel) rfl rfl (Nat.le_of_ble_eq_true rfl) d (fun H1 l1 h1 h2 h3 => kk H1 l1 h1 h2 h3)
theorem cg_ad (hx : p.tables.exec = Jvm.exec) (hb : c0.code = cc) (hts : ∀ w ∈ Ts, w.before args s = true) (hin : ∀ w ∈ u_ws RX1 TX1 10, w ∈ Ts) (hown : s.vm.findClass own = some m.cls) (hK : va_K D vwCl (tyA y) s) (hP : va_P D vwCl (wC a y c t) H) (hlink : (Cond.fieldLink own index "FencedWords" "actsDone" "I").before args s = true) (d : decode cc pc = .ok (.getfield index, 3)) (kk : W p l e R s m args below meth c0 H locs cells slots Q (F0 m (pc + 3) ls (.int (c_ad c) :: rest))) : W p l e R s m args below meth c0 H locs cells slots Q (F0 m pc ls (.ref (a 0) :: rest)) := va_get (D := D) (ci := 1) (C := RX1) (T := TX1) (N := 10) hx hb hts hin hown hK hP 0 rfl rfl 9 (by decide) hlink (fun _ h => h) rfl d kk
theorem cp_ad {v : Int32} (hx : p.tables.exec = Jvm.exec) (hb : c0.code = cc) (hts : ∀ w ∈ Ts, w.before args s = true) (hin : ∀ w ∈ u_ws RX1 TX1 10, w ∈ Ts) (hown : s.vm.findClass own = some m.cls) (hK : va_K D vwCl (tyA y) s) (hP : va_P D vwCl (wC a y c t) H) (hD : va_D A (wC a y c t)) (hS : va_S A s.heap H locs) (hlink : (Cond.fieldLink own index "FencedWords" "actsDone" "I").before args s = true) (d : decode cc pc = .ok (.putfield index, 3)) (kk : ∀ (H1 : Heap) (locs1 : List Loc), va_P D vwCl (wC a y (cs_ad c v) t) H1 → va_D A (wC a y (cs_ad c v) t) → va_S A s.heap H1 locs1 → W p l e R s m args below meth c0 H1 locs1 cells slots Q (F0 m (pc + 3) ls rest)) : W p l e R s m args below meth c0 H locs cells slots Q (F0 m pc ls (.int (v) :: .ref (a 0) :: rest)) := va_put (D := D) (ci := 1) (ty := .int) (C := RX1) (T := TX1) (N := 10) hx hb hts hin tyX1 tyX1_ok nmX1 hown hK hP hD hS 0 rfl rfl 9 (by decide) hlink (fun _ h => h) rfl (by decide +kernel) rfl rfl (Nat.le_of_ble_eq_true rfl) d (fun H1 l1 h1 h2 h3 => kk H1 l1 h1 h2 h3)
theorem cg_r4 (hx : p.tables.exec = Jvm.exec) (hb : c0.code = cc) (hts : ∀ w ∈ Ts, w.before args s = true) (hin : ∀ w ∈ u_ws RX0 TX0 8, w ∈ Ts) (hown : s.vm.findClass own = some m.cls) (hK : va_K D vwCl (tyA y) s) (hP : va_P D vwCl (wC a y c t) H) (hlink : (Cond.fieldLink own index "FencedWords$Log" "firsts" "[I").before args s = true) (d : decode cc pc = .ok (.getfield index, 3)) (kk : W p l e R s m args below meth c0 H locs cells slots Q (F0 m (pc + 3) ls (.ref (a 4) :: rest))) : W p l e R s m args below meth c0 H locs cells slots Q (F0 m pc ls (.ref (a 3) :: rest)) := va_get (D := D) (ci := 0) (C := RX0) (T := TX0) (N := 8) hx hb hts hin hown hK hP 3 rfl rfl 0 (by decide) hlink (fun _ h => h) rfl d kk
theorem cn_r4 (hx : p.tables.exec = Jvm.exec) (hb : c0.code = cc) (hts : ∀ w ∈ Ts, w.before args s = true) (hin : ∀ w ∈ u_ws RX0 TX0 8, w ∈ Ts) (hown : s.vm.findClass own = some m.cls) (hK : va_K D vwCl (tyA y) s) (hP : va_P D vwCl (wC a y c t) H) (hlink : (Cond.fieldLinkNest own index "FencedWords$Log" "firsts" "[I" host).before args s = true) (d : decode cc pc = .ok (.getfield index, 3)) (kk : W p l e R s m args below meth c0 H locs cells slots Q (F0 m (pc + 3) ls (.ref (a 4) :: rest))) : W p l e R s m args below meth c0 H locs cells slots Q (F0 m pc ls (.ref (a 3) :: rest)) := va_getN (D := D) (ci := 0) (C := RX0) (T := TX0) (N := 8) hx hb hts hin hown hK hP 3 rfl rfl 0 (by decide) hlink (fun _ h => h) rfl d kk
theorem cg_r5 (hx : p.tables.exec = Jvm.exec) (hb : c0.code = cc) (hts : ∀ w ∈ Ts, w.before args s = true) (hin : ∀ w ∈ u_ws RX0 TX0 8, w ∈ Ts) (hown : s.vm.findClass own = some m.cls) (hK : va_K D vwCl (tyA y) s) (hP : va_P D vwCl (wC a y c t) H) (hlink : (Cond.fieldLink own index "FencedWords$Log" "counts" "[I").before args s = true) (d : decode cc pc = .ok (.getfield index, 3)) (kk : W p l e R s m args below meth c0 H locs cells slots Q (F0 m (pc + 3) ls (.ref (a 5) :: rest))) : W p l e R s m args below meth c0 H locs cells slots Q (F0 m pc ls (.ref (a 3) :: rest)) := va_get (D := D) (ci := 0) (C := RX0) (T := TX0) (N := 8) hx hb hts hin hown hK hP 3 rfl rfl 1 (by decide) hlink (fun _ h => h) rfl d kk
theorem cn_r5 (hx : p.tables.exec = Jvm.exec) (hb : c0.code = cc) (hts : ∀ w ∈ Ts, w.before args s = true) (hin : ∀ w ∈ u_ws RX0 TX0 8, w ∈ Ts) (hown : s.vm.findClass own = some m.cls) (hK : va_K D vwCl (tyA y) s) (hP : va_P D vwCl (wC a y c t) H) (hlink : (Cond.fieldLinkNest own index "FencedWords$Log" "counts" "[I" host).before args s = true) (d : decode cc pc = .ok (.getfield index, 3)) (kk : W p l e R s m args below meth c0 H locs cells slots Q (F0 m (pc + 3) ls (.ref (a 5) :: rest))) : W p l e R s m args below meth c0 H locs cells slots Q (F0 m pc ls (.ref (a 3) :: rest)) := va_getN (D := D) (ci := 0) (C := RX0) (T := TX0) (N := 8) hx hb hts hin hown hK hP 3 rfl rfl 1 (by decide) hlink (fun _ h => h) rfl d kk
theorem cg_r6 (hx : p.tables.exec = Jvm.exec) (hb : c0.code = cc) (hts : ∀ w ∈ Ts, w.before args s = true) (hin : ∀ w ∈ u_ws RX0 TX0 8, w ∈ Ts) (hown : s.vm.findClass own = some m.cls) (hK : va_K D vwCl (tyA y) s) (hP : va_P D vwCl (wC a y c t) H) (hlink : (Cond.fieldLink own index "FencedWords$Log" "startCells" "[I").before args s = true) (d : decode cc pc = .ok (.getfield index, 3)) (kk : W p l e R s m args below meth c0 H locs cells slots Q (F0 m (pc + 3) ls (.ref (a 6) :: rest))) : W p l e R s m args below meth c0 H locs cells slots Q (F0 m pc ls (.ref (a 3) :: rest)) := va_get (D := D) (ci := 0) (C := RX0) (T := TX0) (N := 8) hx hb hts hin hown hK hP 3 rfl rfl 2 (by decide) hlink (fun _ h => h) rfl d kk
theorem cn_r6 (hx : p.tables.exec = Jvm.exec) (hb : c0.code = cc) (hts : ∀ w ∈ Ts, w.before args s = true) (hin : ∀ w ∈ u_ws RX0 TX0 8, w ∈ Ts) (hown : s.vm.findClass own = some m.cls) (hK : va_K D vwCl (tyA y) s) (hP : va_P D vwCl (wC a y c t) H) (hlink : (Cond.fieldLinkNest own index "FencedWords$Log" "startCells" "[I" host).before args s = true) (d : decode cc pc = .ok (.getfield index, 3)) (kk : W p l e R s m args below meth c0 H locs cells slots Q (F0 m (pc + 3) ls (.ref (a 6) :: rest))) : W p l e R s m args below meth c0 H locs cells slots Q (F0 m pc ls (.ref (a 3) :: rest)) := va_getN (D := D) (ci := 0) (C := RX0) (T := TX0) (N := 8) hx hb hts hin hown hK hP 3 rfl rfl 2 (by decide) hlink (fun _ h => h) rfl d kk
theorem cg_r7 (hx : p.tables.exec = Jvm.exec) (hb : c0.code = cc) (hts : ∀ w ∈ Ts, w.before args s = true) (hin : ∀ w ∈ u_ws RX0 TX0 8, w ∈ Ts) (hown : s.vm.findClass own = some m.cls) (hK : va_K D vwCl (tyA y) s) (hP : va_P D vwCl (wC a y c t) H) (hlink : (Cond.fieldLink own index "FencedWords$Log" "cells" "[J").before args s = true) (d : decode cc pc = .ok (.getfield index, 3)) (kk : W p l e R s m args below meth c0 H locs cells slots Q (F0 m (pc + 3) ls (.ref (a 7) :: rest))) : W p l e R s m args below meth c0 H locs cells slots Q (F0 m pc ls (.ref (a 3) :: rest)) := va_get (D := D) (ci := 0) (C := RX0) (T := TX0) (N := 8) hx hb hts hin hown hK hP 3 rfl rfl 3 (by decide) hlink (fun _ h => h) rfl d kk
theorem cn_r7 (hx : p.tables.exec = Jvm.exec) (hb : c0.code = cc) (hts : ∀ w ∈ Ts, w.before args s = true) (hin : ∀ w ∈ u_ws RX0 TX0 8, w ∈ Ts) (hown : s.vm.findClass own = some m.cls) (hK : va_K D vwCl (tyA y) s) (hP : va_P D vwCl (wC a y c t) H) (hlink : (Cond.fieldLinkNest own index "FencedWords$Log" "cells" "[J" host).before args s = true) (d : decode cc pc = .ok (.getfield index, 3)) (kk : W p l e R s m args below meth c0 H locs cells slots Q (F0 m (pc + 3) ls (.ref (a 7) :: rest))) : W p l e R s m args below meth c0 H locs cells slots Q (F0 m pc ls (.ref (a 3) :: rest)) := va_getN (D := D) (ci := 0) (C := RX0) (T := TX0) (N := 8) hx hb hts hin hown hK hP 3 rfl rfl 3 (by decide) hlink (fun _ h => h) rfl d kk
theorem cg_sz (hx : p.tables.exec = Jvm.exec) (hb : c0.code = cc) (hts : ∀ w ∈ Ts, w.before args s = true) (hin : ∀ w ∈ u_ws RX0 TX0 8, w ∈ Ts) (hown : s.vm.findClass own = some m.cls) (hK : va_K D vwCl (tyA y) s) (hP : va_P D vwCl (wC a y c t) H) (hlink : (Cond.fieldLink own index "FencedWords$Log" "size" "I").before args s = true) (d : decode cc pc = .ok (.getfield index, 3)) (kk : W p l e R s m args below meth c0 H locs cells slots Q (F0 m (pc + 3) ls (.int (nI (c_sz c)) :: rest))) : W p l e R s m args below meth c0 H locs cells slots Q (F0 m pc ls (.ref (a 3) :: rest)) := va_get (D := D) (ci := 0) (C := RX0) (T := TX0) (N := 8) hx hb hts hin hown hK hP 3 rfl rfl 4 (by decide) hlink (fun _ h => h) rfl d kk
theorem cn_sz (hx : p.tables.exec = Jvm.exec) (hb : c0.code = cc) (hts : ∀ w ∈ Ts, w.before args s = true) (hin : ∀ w ∈ u_ws RX0 TX0 8, w ∈ Ts) (hown : s.vm.findClass own = some m.cls) (hK : va_K D vwCl (tyA y) s) (hP : va_P D vwCl (wC a y c t) H) (hlink : (Cond.fieldLinkNest own index "FencedWords$Log" "size" "I" host).before args s = true) (d : decode cc pc = .ok (.getfield index, 3)) (kk : W p l e R s m args below meth c0 H locs cells slots Q (F0 m (pc + 3) ls (.int (nI (c_sz c)) :: rest))) : W p l e R s m args below meth c0 H locs cells slots Q (F0 m pc ls (.ref (a 3) :: rest)) := va_getN (D := D) (ci := 0) (C := RX0) (T := TX0) (N := 8) hx hb hts hin hown hK hP 3 rfl rfl 4 (by decide) hlink (fun _ h => h) rfl d kk
theorem cp_sz {v : Nat} (hx : p.tables.exec = Jvm.exec) (hb : c0.code = cc) (hts : ∀ w ∈ Ts, w.before args s = true) (hin : ∀ w ∈ u_ws RX0 TX0 8, w ∈ Ts) (hown : s.vm.findClass own = some m.cls) (hK : va_K D vwCl (tyA y) s) (hP : va_P D vwCl (wC a y c t) H) (hD : va_D A (wC a y c t)) (hS : va_S A s.heap H locs) (hlink : (Cond.fieldLink own index "FencedWords$Log" "size" "I").before args s = true) (d : decode cc pc = .ok (.putfield index, 3)) (kk : ∀ (H1 : Heap) (locs1 : List Loc), va_P D vwCl (wC a y (cs_sz c v) t) H1 → va_D A (wC a y (cs_sz c v) t) → va_S A s.heap H1 locs1 → W p l e R s m args below meth c0 H1 locs1 cells slots Q (F0 m (pc + 3) ls rest)) : W p l e R s m args below meth c0 H locs cells slots Q (F0 m pc ls (.int (nI (v)) :: .ref (a 3) :: rest)) := va_put (D := D) (ci := 0) (ty := .int) (C := RX0) (T := TX0) (N := 8) hx hb hts hin tyX0 tyX0_ok nmX0 hown hK hP hD hS 3 rfl rfl 4 (by decide) hlink (fun _ h => h) rfl (by decide +kernel) rfl rfl (Nat.le_of_ble_eq_true rfl) d (fun H1 l1 h1 h2 h3 => kk H1 l1 h1 h2 h3)
theorem cg_tk (hx : p.tables.exec = Jvm.exec) (hb : c0.code = cc) (hts : ∀ w ∈ Ts, w.before args s = true) (hin : ∀ w ∈ u_ws RX0 TX0 8, w ∈ Ts) (hown : s.vm.findClass own = some m.cls) (hK : va_K D vwCl (tyA y) s) (hP : va_P D vwCl (wC a y c t) H) (hlink : (Cond.fieldLink own index "FencedWords$Log" "cellsTaken" "I").before args s = true) (d : decode cc pc = .ok (.getfield index, 3)) (kk : W p l e R s m args below meth c0 H locs cells slots Q (F0 m (pc + 3) ls (.int (nI (c_tk c)) :: rest))) : W p l e R s m args below meth c0 H locs cells slots Q (F0 m pc ls (.ref (a 3) :: rest)) := va_get (D := D) (ci := 0) (C := RX0) (T := TX0) (N := 8) hx hb hts hin hown hK hP 3 rfl rfl 5 (by decide) hlink (fun _ h => h) rfl d kk
theorem cn_tk (hx : p.tables.exec = Jvm.exec) (hb : c0.code = cc) (hts : ∀ w ∈ Ts, w.before args s = true) (hin : ∀ w ∈ u_ws RX0 TX0 8, w ∈ Ts) (hown : s.vm.findClass own = some m.cls) (hK : va_K D vwCl (tyA y) s) (hP : va_P D vwCl (wC a y c t) H) (hlink : (Cond.fieldLinkNest own index "FencedWords$Log" "cellsTaken" "I" host).before args s = true) (d : decode cc pc = .ok (.getfield index, 3)) (kk : W p l e R s m args below meth c0 H locs cells slots Q (F0 m (pc + 3) ls (.int (nI (c_tk c)) :: rest))) : W p l e R s m args below meth c0 H locs cells slots Q (F0 m pc ls (.ref (a 3) :: rest)) := va_getN (D := D) (ci := 0) (C := RX0) (T := TX0) (N := 8) hx hb hts hin hown hK hP 3 rfl rfl 5 (by decide) hlink (fun _ h => h) rfl d kk
theorem cp_tk {v : Nat} (hx : p.tables.exec = Jvm.exec) (hb : c0.code = cc) (hts : ∀ w ∈ Ts, w.before args s = true) (hin : ∀ w ∈ u_ws RX0 TX0 8, w ∈ Ts) (hown : s.vm.findClass own = some m.cls) (hK : va_K D vwCl (tyA y) s) (hP : va_P D vwCl (wC a y c t) H) (hD : va_D A (wC a y c t)) (hS : va_S A s.heap H locs) (hlink : (Cond.fieldLink own index "FencedWords$Log" "cellsTaken" "I").before args s = true) (d : decode cc pc = .ok (.putfield index, 3)) (kk : ∀ (H1 : Heap) (locs1 : List Loc), va_P D vwCl (wC a y (cs_tk c v) t) H1 → va_D A (wC a y (cs_tk c v) t) → va_S A s.heap H1 locs1 → W p l e R s m args below meth c0 H1 locs1 cells slots Q (F0 m (pc + 3) ls rest)) : W p l e R s m args below meth c0 H locs cells slots Q (F0 m pc ls (.int (nI (v)) :: .ref (a 3) :: rest)) := va_put (D := D) (ci := 0) (ty := .int) (C := RX0) (T := TX0) (N := 8) hx hb hts hin tyX0 tyX0_ok nmX0 hown hK hP hD hS 3 rfl rfl 5 (by decide) hlink (fun _ h => h) rfl (by decide +kernel) rfl rfl (Nat.le_of_ble_eq_true rfl) d (fun H1 l1 h1 h2 h3 => kk H1 l1 h1 h2 h3)
theorem cg_nk (hx : p.tables.exec = Jvm.exec) (hb : c0.code = cc) (hts : ∀ w ∈ Ts, w.before args s = true) (hin : ∀ w ∈ u_ws RX0 TX0 8, w ∈ Ts) (hown : s.vm.findClass own = some m.cls) (hK : va_K D vwCl (tyA y) s) (hP : va_P D vwCl (wC a y c t) H) (hlink : (Cond.fieldLink own index "FencedWords$Log" "newestNotKept" "Z").before args s = true) (d : decode cc pc = .ok (.getfield index, 3)) (kk : W p l e R s m args below meth c0 H locs cells slots Q (F0 m (pc + 3) ls (.int (bI (c_nk c)) :: rest))) : W p l e R s m args below meth c0 H locs cells slots Q (F0 m pc ls (.ref (a 3) :: rest)) := va_get (D := D) (ci := 0) (C := RX0) (T := TX0) (N := 8) hx hb hts hin hown hK hP 3 rfl rfl 6 (by decide) hlink (fun _ h => h) rfl d kk
theorem cn_nk (hx : p.tables.exec = Jvm.exec) (hb : c0.code = cc) (hts : ∀ w ∈ Ts, w.before args s = true) (hin : ∀ w ∈ u_ws RX0 TX0 8, w ∈ Ts) (hown : s.vm.findClass own = some m.cls) (hK : va_K D vwCl (tyA y) s) (hP : va_P D vwCl (wC a y c t) H) (hlink : (Cond.fieldLinkNest own index "FencedWords$Log" "newestNotKept" "Z" host).before args s = true) (d : decode cc pc = .ok (.getfield index, 3)) (kk : W p l e R s m args below meth c0 H locs cells slots Q (F0 m (pc + 3) ls (.int (bI (c_nk c)) :: rest))) : W p l e R s m args below meth c0 H locs cells slots Q (F0 m pc ls (.ref (a 3) :: rest)) := va_getN (D := D) (ci := 0) (C := RX0) (T := TX0) (N := 8) hx hb hts hin hown hK hP 3 rfl rfl 6 (by decide) hlink (fun _ h => h) rfl d kk
theorem cp_nk {v : Bool} (hx : p.tables.exec = Jvm.exec) (hb : c0.code = cc) (hts : ∀ w ∈ Ts, w.before args s = true) (hin : ∀ w ∈ u_ws RX0 TX0 8, w ∈ Ts) (hown : s.vm.findClass own = some m.cls) (hK : va_K D vwCl (tyA y) s) (hP : va_P D vwCl (wC a y c t) H) (hD : va_D A (wC a y c t)) (hS : va_S A s.heap H locs) (hlink : (Cond.fieldLink own index "FencedWords$Log" "newestNotKept" "Z").before args s = true) (d : decode cc pc = .ok (.putfield index, 3)) (kk : ∀ (H1 : Heap) (locs1 : List Loc), va_P D vwCl (wC a y (cs_nk c v) t) H1 → va_D A (wC a y (cs_nk c v) t) → va_S A s.heap H1 locs1 → W p l e R s m args below meth c0 H1 locs1 cells slots Q (F0 m (pc + 3) ls rest)) : W p l e R s m args below meth c0 H locs cells slots Q (F0 m pc ls (.int (bI (v)) :: .ref (a 3) :: rest)) := va_put (D := D) (ci := 0) (ty := .boolean) (C := RX0) (T := TX0) (N := 8) hx hb hts hin tyX0 tyX0_ok nmX0 hown hK hP hD hS 3 rfl rfl 6 (by decide) hlink (fun _ h => h) rfl (by decide +kernel) (bI_nar v) (bI_fit v) (Nat.le_of_ble_eq_true rfl) d (fun H1 l1 h1 h2 h3 => kk H1 l1 h1 h2 h3)
theorem cg_xo (hx : p.tables.exec = Jvm.exec) (hb : c0.code = cc) (hts : ∀ w ∈ Ts, w.before args s = true) (hin : ∀ w ∈ u_ws RX0 TX0 8, w ∈ Ts) (hown : s.vm.findClass own = some m.cls) (hK : va_K D vwCl (tyA y) s) (hP : va_P D vwCl (wC a y c t) H) (hlink : (Cond.fieldLink own index "FencedWords$Log" "crossedOut" "Z").before args s = true) (d : decode cc pc = .ok (.getfield index, 3)) (kk : W p l e R s m args below meth c0 H locs cells slots Q (F0 m (pc + 3) ls (.int (bI (c_xo c)) :: rest))) : W p l e R s m args below meth c0 H locs cells slots Q (F0 m pc ls (.ref (a 3) :: rest)) := va_get (D := D) (ci := 0) (C := RX0) (T := TX0) (N := 8) hx hb hts hin hown hK hP 3 rfl rfl 7 (by decide) hlink (fun _ h => h) rfl d kk
theorem cn_xo (hx : p.tables.exec = Jvm.exec) (hb : c0.code = cc) (hts : ∀ w ∈ Ts, w.before args s = true) (hin : ∀ w ∈ u_ws RX0 TX0 8, w ∈ Ts) (hown : s.vm.findClass own = some m.cls) (hK : va_K D vwCl (tyA y) s) (hP : va_P D vwCl (wC a y c t) H) (hlink : (Cond.fieldLinkNest own index "FencedWords$Log" "crossedOut" "Z" host).before args s = true) (d : decode cc pc = .ok (.getfield index, 3)) (kk : W p l e R s m args below meth c0 H locs cells slots Q (F0 m (pc + 3) ls (.int (bI (c_xo c)) :: rest))) : W p l e R s m args below meth c0 H locs cells slots Q (F0 m pc ls (.ref (a 3) :: rest)) := va_getN (D := D) (ci := 0) (C := RX0) (T := TX0) (N := 8) hx hb hts hin hown hK hP 3 rfl rfl 7 (by decide) hlink (fun _ h => h) rfl d kk
theorem cp_xo {v : Bool} (hx : p.tables.exec = Jvm.exec) (hb : c0.code = cc) (hts : ∀ w ∈ Ts, w.before args s = true) (hin : ∀ w ∈ u_ws RX0 TX0 8, w ∈ Ts) (hown : s.vm.findClass own = some m.cls) (hK : va_K D vwCl (tyA y) s) (hP : va_P D vwCl (wC a y c t) H) (hD : va_D A (wC a y c t)) (hS : va_S A s.heap H locs) (hlink : (Cond.fieldLink own index "FencedWords$Log" "crossedOut" "Z").before args s = true) (d : decode cc pc = .ok (.putfield index, 3)) (kk : ∀ (H1 : Heap) (locs1 : List Loc), va_P D vwCl (wC a y (cs_xo c v) t) H1 → va_D A (wC a y (cs_xo c v) t) → va_S A s.heap H1 locs1 → W p l e R s m args below meth c0 H1 locs1 cells slots Q (F0 m (pc + 3) ls rest)) : W p l e R s m args below meth c0 H locs cells slots Q (F0 m pc ls (.int (bI (v)) :: .ref (a 3) :: rest)) := va_put (D := D) (ci := 0) (ty := .boolean) (C := RX0) (T := TX0) (N := 8) hx hb hts hin tyX0 tyX0_ok nmX0 hown hK hP hD hS 3 rfl rfl 7 (by decide) hlink (fun _ h => h) rfl (by decide +kernel) (bI_nar v) (bI_fit v) (Nat.le_of_ble_eq_true rfl) d (fun H1 l1 h1 h2 h3 => kk H1 l1 h1 h2 h3)
theorem cl_S {k : Nat} (hx : p.tables.exec = Jvm.exec) (hb : c0.code = cc) (hK : va_K D vwCl (tyA y) s) (hP : va_P D vwCl (wC a y c t) H) (hk : k < 32) (d : decode cc pc = .ok (.laload, 1)) (kk : W p l e R s m args below meth c0 H locs cells slots Q (F0 m (pc + 1) ls (.long (c_S c k) :: rest))) : W p l e R s m args below meth c0 H locs cells slots Q (F0 m pc ls (.int (nI k) :: .ref (a 1) :: rest)) := va_lald hx hb hK hP 1 1 rfl rfl (vp_in_nI hk (by decide)) d (by rw [nI_clamp (by omega)]; exact kk)
theorem ct_S {k : Nat} {v : Int64} (hx : p.tables.exec = Jvm.exec) (hb : c0.code = cc) (hK : va_K D vwCl (tyA y) s) (hP : va_P D vwCl (wC a y c t) H) (hD : va_D A (wC a y c t)) (hS : va_S A s.heap H locs) (hk : k < 32) (d : decode cc pc = .ok (.lastore, 1)) (kk : ∀ (H1 : Heap) (locs1 : List Loc), va_P D vwCl (wC a y (cs_S c (vp_updL (c_S c) k v)) t) H1 → va_D A (wC a y (cs_S c (vp_updL (c_S c) k v)) t) → va_S A s.heap H1 locs1 → W p l e R s m args below meth c0 H1 locs1 cells slots Q (F0 m (pc + 1) ls rest)) : W p l e R s m args below meth c0 H locs cells slots Q (F0 m pc ls (.long v :: .int (nI k) :: .ref (a 1) :: rest)) := va_last hx hb hK hP hD hS 1 1 rfl rfl (vp_in_nI hk (by decide)) d (fun H1 l1 h1 h2 h3 => by rw [nI_clamp (n := k) (by omega)] at h1 h2; exact kk H1 l1 h1 h2 h3)
theorem cl_K {k : Nat} (hx : p.tables.exec = Jvm.exec) (hb : c0.code = cc) (hK : va_K D vwCl (tyA y) s) (hP : va_P D vwCl (wC a y c t) H) (hk : k < 32) (d : decode cc pc = .ok (.laload, 1)) (kk : W p l e R s m args below meth c0 H locs cells slots Q (F0 m (pc + 1) ls (.long (c_K c k) :: rest))) : W p l e R s m args below meth c0 H locs cells slots Q (F0 m pc ls (.int (nI k) :: .ref (a 2) :: rest)) := va_lald hx hb hK hP 2 1 rfl rfl (vp_in_nI hk (by decide)) d (by rw [nI_clamp (by omega)]; exact kk)
theorem ct_K {k : Nat} {v : Int64} (hx : p.tables.exec = Jvm.exec) (hb : c0.code = cc) (hK : va_K D vwCl (tyA y) s) (hP : va_P D vwCl (wC a y c t) H) (hD : va_D A (wC a y c t)) (hS : va_S A s.heap H locs) (hk : k < 32) (d : decode cc pc = .ok (.lastore, 1)) (kk : ∀ (H1 : Heap) (locs1 : List Loc), va_P D vwCl (wC a y (cs_K c (vp_updL (c_K c) k v)) t) H1 → va_D A (wC a y (cs_K c (vp_updL (c_K c) k v)) t) → va_S A s.heap H1 locs1 → W p l e R s m args below meth c0 H1 locs1 cells slots Q (F0 m (pc + 1) ls rest)) : W p l e R s m args below meth c0 H locs cells slots Q (F0 m pc ls (.long v :: .int (nI k) :: .ref (a 2) :: rest)) := va_last hx hb hK hP hD hS 2 1 rfl rfl (vp_in_nI hk (by decide)) d (fun H1 l1 h1 h2 h3 => by rw [nI_clamp (n := k) (by omega)] at h1 h2; exact kk H1 l1 h1 h2 h3)
theorem cl_fi {k : Nat} (hx : p.tables.exec = Jvm.exec) (hb : c0.code = cc) (hK : va_K D vwCl (tyA y) s) (hP : va_P D vwCl (wC a y c t) H) (hk : k < 20) (d : decode cc pc = .ok (.iaload, 1)) (kk : W p l e R s m args below meth c0 H locs cells slots Q (F0 m (pc + 1) ls (.int (nI (c_fi c k)) :: rest))) : W p l e R s m args below meth c0 H locs cells slots Q (F0 m pc ls (.int (nI k) :: .ref (a 4) :: rest)) := va_iald hx hb hK hP 4 0 rfl rfl (vp_in_nI hk (by decide)) d (by rw [nI_clamp (by omega)]; exact kk)
theorem ct_fi {k : Nat} {v : Nat} (hx : p.tables.exec = Jvm.exec) (hb : c0.code = cc) (hK : va_K D vwCl (tyA y) s) (hP : va_P D vwCl (wC a y c t) H) (hD : va_D A (wC a y c t)) (hS : va_S A s.heap H locs) (hk : k < 20) (d : decode cc pc = .ok (.iastore, 1)) (kk : ∀ (H1 : Heap) (locs1 : List Loc), va_P D vwCl (wC a y (cs_fi c (upN (c_fi c) k v)) t) H1 → va_D A (wC a y (cs_fi c (upN (c_fi c) k v)) t) → va_S A s.heap H1 locs1 → W p l e R s m args below meth c0 H1 locs1 cells slots Q (F0 m (pc + 1) ls rest)) : W p l e R s m args below meth c0 H locs cells slots Q (F0 m pc ls (.int (nI v) :: .int (nI k) :: .ref (a 4) :: rest)) := va_iast hx hb hK hP hD hS 4 0 rfl rfl (vp_in_nI hk (by decide)) d (fun H1 l1 h1 h2 h3 => by rw [upd_nI (c_fi c) v (by omega)] at h1 h2; exact kk H1 l1 h1 h2 h3)
theorem cl_co {k : Nat} (hx : p.tables.exec = Jvm.exec) (hb : c0.code = cc) (hK : va_K D vwCl (tyA y) s) (hP : va_P D vwCl (wC a y c t) H) (hk : k < 20) (d : decode cc pc = .ok (.iaload, 1)) (kk : W p l e R s m args below meth c0 H locs cells slots Q (F0 m (pc + 1) ls (.int (nI (c_co c k)) :: rest))) : W p l e R s m args below meth c0 H locs cells slots Q (F0 m pc ls (.int (nI k) :: .ref (a 5) :: rest)) := va_iald hx hb hK hP 5 0 rfl rfl (vp_in_nI hk (by decide)) d (by rw [nI_clamp (by omega)]; exact kk)
theorem ct_co {k : Nat} {v : Nat} (hx : p.tables.exec = Jvm.exec) (hb : c0.code = cc) (hK : va_K D vwCl (tyA y) s) (hP : va_P D vwCl (wC a y c t) H) (hD : va_D A (wC a y c t)) (hS : va_S A s.heap H locs) (hk : k < 20) (d : decode cc pc = .ok (.iastore, 1)) (kk : ∀ (H1 : Heap) (locs1 : List Loc), va_P D vwCl (wC a y (cs_co c (upN (c_co c) k v)) t) H1 → va_D A (wC a y (cs_co c (upN (c_co c) k v)) t) → va_S A s.heap H1 locs1 → W p l e R s m args below meth c0 H1 locs1 cells slots Q (F0 m (pc + 1) ls rest)) : W p l e R s m args below meth c0 H locs cells slots Q (F0 m pc ls (.int (nI v) :: .int (nI k) :: .ref (a 5) :: rest)) := va_iast hx hb hK hP hD hS 5 0 rfl rfl (vp_in_nI hk (by decide)) d (fun H1 l1 h1 h2 h3 => by rw [upd_nI (c_co c) v (by omega)] at h1 h2; exact kk H1 l1 h1 h2 h3)
theorem cl_sc {k : Nat} (hx : p.tables.exec = Jvm.exec) (hb : c0.code = cc) (hK : va_K D vwCl (tyA y) s) (hP : va_P D vwCl (wC a y c t) H) (hk : k < 20) (d : decode cc pc = .ok (.iaload, 1)) (kk : W p l e R s m args below meth c0 H locs cells slots Q (F0 m (pc + 1) ls (.int (nI (c_sc c k)) :: rest))) : W p l e R s m args below meth c0 H locs cells slots Q (F0 m pc ls (.int (nI k) :: .ref (a 6) :: rest)) := va_iald hx hb hK hP 6 0 rfl rfl (vp_in_nI hk (by decide)) d (by rw [nI_clamp (by omega)]; exact kk)
theorem ct_sc {k : Nat} {v : Nat} (hx : p.tables.exec = Jvm.exec) (hb : c0.code = cc) (hK : va_K D vwCl (tyA y) s) (hP : va_P D vwCl (wC a y c t) H) (hD : va_D A (wC a y c t)) (hS : va_S A s.heap H locs) (hk : k < 20) (d : decode cc pc = .ok (.iastore, 1)) (kk : ∀ (H1 : Heap) (locs1 : List Loc), va_P D vwCl (wC a y (cs_sc c (upN (c_sc c) k v)) t) H1 → va_D A (wC a y (cs_sc c (upN (c_sc c) k v)) t) → va_S A s.heap H1 locs1 → W p l e R s m args below meth c0 H1 locs1 cells slots Q (F0 m (pc + 1) ls rest)) : W p l e R s m args below meth c0 H locs cells slots Q (F0 m pc ls (.int (nI v) :: .int (nI k) :: .ref (a 6) :: rest)) := va_iast hx hb hK hP hD hS 6 0 rfl rfl (vp_in_nI hk (by decide)) d (fun H1 l1 h1 h2 h3 => by rw [upd_nI (c_sc c) v (by omega)] at h1 h2; exact kk H1 l1 h1 h2 h3)
theorem cl_ce {k : Nat} (hx : p.tables.exec = Jvm.exec) (hb : c0.code = cc) (hK : va_K D vwCl (tyA y) s) (hP : va_P D vwCl (wC a y c t) H) (hk : k < 40) (d : decode cc pc = .ok (.laload, 1)) (kk : W p l e R s m args below meth c0 H locs cells slots Q (F0 m (pc + 1) ls (.long (c_ce c k) :: rest))) : W p l e R s m args below meth c0 H locs cells slots Q (F0 m pc ls (.int (nI k) :: .ref (a 7) :: rest)) := va_lald hx hb hK hP 7 1 rfl rfl (vp_in_nI hk (by decide)) d (by rw [nI_clamp (by omega)]; exact kk)
theorem ct_ce {k : Nat} {v : Int64} (hx : p.tables.exec = Jvm.exec) (hb : c0.code = cc) (hK : va_K D vwCl (tyA y) s) (hP : va_P D vwCl (wC a y c t) H) (hD : va_D A (wC a y c t)) (hS : va_S A s.heap H locs) (hk : k < 40) (d : decode cc pc = .ok (.lastore, 1)) (kk : ∀ (H1 : Heap) (locs1 : List Loc), va_P D vwCl (wC a y (cs_ce c (vp_updL (c_ce c) k v)) t) H1 → va_D A (wC a y (cs_ce c (vp_updL (c_ce c) k v)) t) → va_S A s.heap H1 locs1 → W p l e R s m args below meth c0 H1 locs1 cells slots Q (F0 m (pc + 1) ls rest)) : W p l e R s m args below meth c0 H locs cells slots Q (F0 m pc ls (.long v :: .int (nI k) :: .ref (a 7) :: rest)) := va_last hx hb hK hP hD hS 7 1 rfl rfl (vp_in_nI hk (by decide)) d (fun H1 l1 h1 h2 h3 => by rw [nI_clamp (n := k) (by omega)] at h1 h2; exact kk H1 l1 h1 h2 h3)
end STCS
abbrev RS : Type := (Nat → Int64) × (Nat → Int64) × (Nat → Bool) × (Nat) × (Nat → Nat) × (Nat → Nat) × (Nat → Nat) × (Nat → Nat) × (Nat → Int64) × (Bool) × (Bool) × (Nat → Bool) × (Nat) × (Int64) × (Int32) × (Nat) × (Nat → Nat) × (Nat → Nat) × (Nat → Int64)
def r_S (c : RS) : Nat → Int64 := c.1
def r_K (c : RS) : Nat → Int64 := c.2.1
def r_fl (c : RS) : Nat → Bool := c.2.2.1
def r_rc (c : RS) : Nat := c.2.2.2.1
def r_fi (c : RS) : Nat → Nat := c.2.2.2.2.1
def r_ma (c : RS) : Nat → Nat := c.2.2.2.2.2.1
def r_fr (c : RS) : Nat → Nat := c.2.2.2.2.2.2.1
def r_st (c : RS) : Nat → Nat := c.2.2.2.2.2.2.2.1
def r_ol (c : RS) : Nat → Int64 := c.2.2.2.2.2.2.2.2.1
def r_of (c : RS) : Bool := c.2.2.2.2.2.2.2.2.2.1
def r_op (c : RS) : Bool := c.2.2.2.2.2.2.2.2.2.2.1
def r_to (c : RS) : Nat → Bool := c.2.2.2.2.2.2.2.2.2.2.2.1
def r_ar (c : RS) : Nat := c.2.2.2.2.2.2.2.2.2.2.2.2.1
def r_mk (c : RS) : Int64 := c.2.2.2.2.2.2.2.2.2.2.2.2.2.1
def r_me (c : RS) : Int32 := c.2.2.2.2.2.2.2.2.2.2.2.2.2.2.1
def r_ac (c : RS) : Nat := c.2.2.2.2.2.2.2.2.2.2.2.2.2.2.2.1
def r_an (c : RS) : Nat → Nat := c.2.2.2.2.2.2.2.2.2.2.2.2.2.2.2.2.1
def r_on (c : RS) : Nat → Nat := c.2.2.2.2.2.2.2.2.2.2.2.2.2.2.2.2.2.1
def r_wi (c : RS) : Nat → Int64 := c.2.2.2.2.2.2.2.2.2.2.2.2.2.2.2.2.2.2
def rs_S (c : RS) (v : Nat → Int64) : RS := (v, r_K c, r_fl c, r_rc c, r_fi c, r_ma c, r_fr c, r_st c, r_ol c, r_of c, r_op c, r_to c, r_ar c, r_mk c, r_me c, r_ac c, r_an c, r_on c, r_wi c)
def rs_K (c : RS) (v : Nat → Int64) : RS := (r_S c, v, r_fl c, r_rc c, r_fi c, r_ma c, r_fr c, r_st c, r_ol c, r_of c, r_op c, r_to c, r_ar c, r_mk c, r_me c, r_ac c, r_an c, r_on c, r_wi c)
def rs_fl (c : RS) (v : Nat → Bool) : RS := (r_S c, r_K c, v, r_rc c, r_fi c, r_ma c, r_fr c, r_st c, r_ol c, r_of c, r_op c, r_to c, r_ar c, r_mk c, r_me c, r_ac c, r_an c, r_on c, r_wi c)
def rs_rc (c : RS) (v : Nat) : RS := (r_S c, r_K c, r_fl c, v, r_fi c, r_ma c, r_fr c, r_st c, r_ol c, r_of c, r_op c, r_to c, r_ar c, r_mk c, r_me c, r_ac c, r_an c, r_on c, r_wi c)
def rs_fi (c : RS) (v : Nat → Nat) : RS := (r_S c, r_K c, r_fl c, r_rc c, v, r_ma c, r_fr c, r_st c, r_ol c, r_of c, r_op c, r_to c, r_ar c, r_mk c, r_me c, r_ac c, r_an c, r_on c, r_wi c)
def rs_ma (c : RS) (v : Nat → Nat) : RS := (r_S c, r_K c, r_fl c, r_rc c, r_fi c, v, r_fr c, r_st c, r_ol c, r_of c, r_op c, r_to c, r_ar c, r_mk c, r_me c, r_ac c, r_an c, r_on c, r_wi c)
def rs_fr (c : RS) (v : Nat → Nat) : RS := (r_S c, r_K c, r_fl c, r_rc c, r_fi c, r_ma c, v, r_st c, r_ol c, r_of c, r_op c, r_to c, r_ar c, r_mk c, r_me c, r_ac c, r_an c, r_on c, r_wi c)
def rs_st (c : RS) (v : Nat → Nat) : RS := (r_S c, r_K c, r_fl c, r_rc c, r_fi c, r_ma c, r_fr c, v, r_ol c, r_of c, r_op c, r_to c, r_ar c, r_mk c, r_me c, r_ac c, r_an c, r_on c, r_wi c)
def rs_ol (c : RS) (v : Nat → Int64) : RS := (r_S c, r_K c, r_fl c, r_rc c, r_fi c, r_ma c, r_fr c, r_st c, v, r_of c, r_op c, r_to c, r_ar c, r_mk c, r_me c, r_ac c, r_an c, r_on c, r_wi c)
def rs_of (c : RS) (v : Bool) : RS := (r_S c, r_K c, r_fl c, r_rc c, r_fi c, r_ma c, r_fr c, r_st c, r_ol c, v, r_op c, r_to c, r_ar c, r_mk c, r_me c, r_ac c, r_an c, r_on c, r_wi c)
def rs_op (c : RS) (v : Bool) : RS := (r_S c, r_K c, r_fl c, r_rc c, r_fi c, r_ma c, r_fr c, r_st c, r_ol c, r_of c, v, r_to c, r_ar c, r_mk c, r_me c, r_ac c, r_an c, r_on c, r_wi c)
def rs_to (c : RS) (v : Nat → Bool) : RS := (r_S c, r_K c, r_fl c, r_rc c, r_fi c, r_ma c, r_fr c, r_st c, r_ol c, r_of c, r_op c, v, r_ar c, r_mk c, r_me c, r_ac c, r_an c, r_on c, r_wi c)
def rs_ar (c : RS) (v : Nat) : RS := (r_S c, r_K c, r_fl c, r_rc c, r_fi c, r_ma c, r_fr c, r_st c, r_ol c, r_of c, r_op c, r_to c, v, r_mk c, r_me c, r_ac c, r_an c, r_on c, r_wi c)
def rs_mk (c : RS) (v : Int64) : RS := (r_S c, r_K c, r_fl c, r_rc c, r_fi c, r_ma c, r_fr c, r_st c, r_ol c, r_of c, r_op c, r_to c, r_ar c, v, r_me c, r_ac c, r_an c, r_on c, r_wi c)
def rs_me (c : RS) (v : Int32) : RS := (r_S c, r_K c, r_fl c, r_rc c, r_fi c, r_ma c, r_fr c, r_st c, r_ol c, r_of c, r_op c, r_to c, r_ar c, r_mk c, v, r_ac c, r_an c, r_on c, r_wi c)
def rs_ac (c : RS) (v : Nat) : RS := (r_S c, r_K c, r_fl c, r_rc c, r_fi c, r_ma c, r_fr c, r_st c, r_ol c, r_of c, r_op c, r_to c, r_ar c, r_mk c, r_me c, v, r_an c, r_on c, r_wi c)
def rs_an (c : RS) (v : Nat → Nat) : RS := (r_S c, r_K c, r_fl c, r_rc c, r_fi c, r_ma c, r_fr c, r_st c, r_ol c, r_of c, r_op c, r_to c, r_ar c, r_mk c, r_me c, r_ac c, v, r_on c, r_wi c)
def rs_on (c : RS) (v : Nat → Nat) : RS := (r_S c, r_K c, r_fl c, r_rc c, r_fi c, r_ma c, r_fr c, r_st c, r_ol c, r_of c, r_op c, r_to c, r_ar c, r_mk c, r_me c, r_ac c, r_an c, v, r_wi c)
def rs_wi (c : RS) (v : Nat → Int64) : RS := (r_S c, r_K c, r_fl c, r_rc c, r_fi c, r_ma c, r_fr c, r_st c, r_ol c, r_of c, r_op c, r_to c, r_ar c, r_mk c, r_me c, r_ac c, r_an c, r_on c, v)
def wR (a : Nat → Nat) (y : Nat → ClassId) (c : RS) (t : va_W) : va_W := (a 0, .inr (2, [.ref (a 1), .ref (a 2), .ref (a 3), .int (nI (r_rc c)), .ref (a 4), .ref (a 5), .ref (a 6), .ref (a 7), .ref (a 8), .int (bI (r_of c)), .int (bI (r_op c)), .ref (a 9), .int (nI (r_ar c)), .long (r_mk c), .int (r_me c), .int (nI (r_ac c)), .ref (a 10), .ref (a 11), .ref (a 12)])) :: (a 1, .inl (y 1, 32, .inr (.inl (r_S c)))) :: (a 2, .inl (y 1, 32, .inr (.inl (r_K c)))) :: (a 3, .inl (y 2, 4, .inl (fun j => bI (r_fl c j)))) :: (a 4, .inl (y 0, 20, .inl (fun j => nI (r_fi c j)))) :: (a 5, .inl (y 0, 20, .inl (fun j => nI (r_ma c j)))) :: (a 6, .inl (y 0, 20, .inl (fun j => nI (r_fr c j)))) :: (a 7, .inl (y 0, 20, .inl (fun j => nI (r_st c j)))) :: (a 8, .inl (y 1, 40, .inr (.inl (r_ol c)))) :: (a 9, .inl (y 2, 4, .inl (fun j => bI (r_to c j)))) :: (a 10, .inl (y 0, 64, .inl (fun j => nI (r_an c j)))) :: (a 11, .inl (y 0, 64, .inl (fun j => nI (r_on c j)))) :: (a 12, .inl (y 1, 64, .inr (.inl (r_wi c)))) :: t
section STRS
variable {p : Program} {l : Launch} {e : Env} {R : Room} {s : State} {m : MethodId} {args : Array Value} {below : List Frame} {meth : Method} {c0 : Code} {H : Heap} {locs : List Loc} {cells slots : Nat} {Q : State → Prop}
variable {cc : ByteArray} {pc : Nat} {ls : Array Slot} {rest : List Value} {D : va_G} {A : Nat → Prop} {Ts : List Cond} {own host : String} {index : Nat} {a : Nat → Nat} {y : Nat → ClassId} {t : va_W}
variable {c : RS}
theorem rg_r1 (hx : p.tables.exec = Jvm.exec) (hb : c0.code = cc) (hts : ∀ w ∈ Ts, w.before args s = true) (hin : ∀ w ∈ u_ws RX2 TX2 19, w ∈ Ts) (hown : s.vm.findClass own = some m.cls) (hK : va_K D vwCl (tyA y) s) (hP : va_P D vwCl (wR a y c t) H) (hlink : (Cond.fieldLink own index "FencedWordsModel" "seen" "[J").before args s = true) (d : decode cc pc = .ok (.getfield index, 3)) (kk : W p l e R s m args below meth c0 H locs cells slots Q (F0 m (pc + 3) ls (.ref (a 1) :: rest))) : W p l e R s m args below meth c0 H locs cells slots Q (F0 m pc ls (.ref (a 0) :: rest)) := va_get (D := D) (ci := 2) (C := RX2) (T := TX2) (N := 19) hx hb hts hin hown hK hP 0 rfl rfl 0 (by decide) hlink (fun _ h => h) rfl d kk
theorem rg_r2 (hx : p.tables.exec = Jvm.exec) (hb : c0.code = cc) (hts : ∀ w ∈ Ts, w.before args s = true) (hin : ∀ w ∈ u_ws RX2 TX2 19, w ∈ Ts) (hown : s.vm.findClass own = some m.cls) (hK : va_K D vwCl (tyA y) s) (hP : va_P D vwCl (wR a y c t) H) (hlink : (Cond.fieldLink own index "FencedWordsModel" "kept" "[J").before args s = true) (d : decode cc pc = .ok (.getfield index, 3)) (kk : W p l e R s m args below meth c0 H locs cells slots Q (F0 m (pc + 3) ls (.ref (a 2) :: rest))) : W p l e R s m args below meth c0 H locs cells slots Q (F0 m pc ls (.ref (a 0) :: rest)) := va_get (D := D) (ci := 2) (C := RX2) (T := TX2) (N := 19) hx hb hts hin hown hK hP 0 rfl rfl 1 (by decide) hlink (fun _ h => h) rfl d kk
theorem rg_r3 (hx : p.tables.exec = Jvm.exec) (hb : c0.code = cc) (hts : ∀ w ∈ Ts, w.before args s = true) (hin : ∀ w ∈ u_ws RX2 TX2 19, w ∈ Ts) (hown : s.vm.findClass own = some m.cls) (hK : va_K D vwCl (tyA y) s) (hP : va_P D vwCl (wR a y c t) H) (hlink : (Cond.fieldLink own index "FencedWordsModel" "flushed" "[Z").before args s = true) (d : decode cc pc = .ok (.getfield index, 3)) (kk : W p l e R s m args below meth c0 H locs cells slots Q (F0 m (pc + 3) ls (.ref (a 3) :: rest))) : W p l e R s m args below meth c0 H locs cells slots Q (F0 m pc ls (.ref (a 0) :: rest)) := va_get (D := D) (ci := 2) (C := RX2) (T := TX2) (N := 19) hx hb hts hin hown hK hP 0 rfl rfl 2 (by decide) hlink (fun _ h => h) rfl d kk
theorem rg_rc (hx : p.tables.exec = Jvm.exec) (hb : c0.code = cc) (hts : ∀ w ∈ Ts, w.before args s = true) (hin : ∀ w ∈ u_ws RX2 TX2 19, w ∈ Ts) (hown : s.vm.findClass own = some m.cls) (hK : va_K D vwCl (tyA y) s) (hP : va_P D vwCl (wR a y c t) H) (hlink : (Cond.fieldLink own index "FencedWordsModel" "records" "I").before args s = true) (d : decode cc pc = .ok (.getfield index, 3)) (kk : W p l e R s m args below meth c0 H locs cells slots Q (F0 m (pc + 3) ls (.int (nI (r_rc c)) :: rest))) : W p l e R s m args below meth c0 H locs cells slots Q (F0 m pc ls (.ref (a 0) :: rest)) := va_get (D := D) (ci := 2) (C := RX2) (T := TX2) (N := 19) hx hb hts hin hown hK hP 0 rfl rfl 3 (by decide) hlink (fun _ h => h) rfl d kk
theorem rp_rc {v : Nat} (hx : p.tables.exec = Jvm.exec) (hb : c0.code = cc) (hts : ∀ w ∈ Ts, w.before args s = true) (hin : ∀ w ∈ u_ws RX2 TX2 19, w ∈ Ts) (hown : s.vm.findClass own = some m.cls) (hK : va_K D vwCl (tyA y) s) (hP : va_P D vwCl (wR a y c t) H) (hD : va_D A (wR a y c t)) (hS : va_S A s.heap H locs) (hlink : (Cond.fieldLink own index "FencedWordsModel" "records" "I").before args s = true) (d : decode cc pc = .ok (.putfield index, 3)) (kk : ∀ (H1 : Heap) (locs1 : List Loc), va_P D vwCl (wR a y (rs_rc c v) t) H1 → va_D A (wR a y (rs_rc c v) t) → va_S A s.heap H1 locs1 → W p l e R s m args below meth c0 H1 locs1 cells slots Q (F0 m (pc + 3) ls rest)) : W p l e R s m args below meth c0 H locs cells slots Q (F0 m pc ls (.int (nI (v)) :: .ref (a 0) :: rest)) := va_put (D := D) (ci := 2) (ty := .int) (C := RX2) (T := TX2) (N := 19) hx hb hts hin tyX2 tyX2_ok nmX2 hown hK hP hD hS 0 rfl rfl 3 (by decide) hlink (fun _ h => h) rfl (by decide +kernel) rfl rfl (Nat.le_of_ble_eq_true rfl) d (fun H1 l1 h1 h2 h3 => kk H1 l1 h1 h2 h3)
theorem rg_r4 (hx : p.tables.exec = Jvm.exec) (hb : c0.code = cc) (hts : ∀ w ∈ Ts, w.before args s = true) (hin : ∀ w ∈ u_ws RX2 TX2 19, w ∈ Ts) (hown : s.vm.findClass own = some m.cls) (hK : va_K D vwCl (tyA y) s) (hP : va_P D vwCl (wR a y c t) H) (hlink : (Cond.fieldLink own index "FencedWordsModel" "first" "[I").before args s = true) (d : decode cc pc = .ok (.getfield index, 3)) (kk : W p l e R s m args below meth c0 H locs cells slots Q (F0 m (pc + 3) ls (.ref (a 4) :: rest))) : W p l e R s m args below meth c0 H locs cells slots Q (F0 m pc ls (.ref (a 0) :: rest)) := va_get (D := D) (ci := 2) (C := RX2) (T := TX2) (N := 19) hx hb hts hin hown hK hP 0 rfl rfl 4 (by decide) hlink (fun _ h => h) rfl d kk
theorem rg_r5 (hx : p.tables.exec = Jvm.exec) (hb : c0.code = cc) (hts : ∀ w ∈ Ts, w.before args s = true) (hin : ∀ w ∈ u_ws RX2 TX2 19, w ∈ Ts) (hown : s.vm.findClass own = some m.cls) (hK : va_K D vwCl (tyA y) s) (hP : va_P D vwCl (wR a y c t) H) (hlink : (Cond.fieldLink own index "FencedWordsModel" "many" "[I").before args s = true) (d : decode cc pc = .ok (.getfield index, 3)) (kk : W p l e R s m args below meth c0 H locs cells slots Q (F0 m (pc + 3) ls (.ref (a 5) :: rest))) : W p l e R s m args below meth c0 H locs cells slots Q (F0 m pc ls (.ref (a 0) :: rest)) := va_get (D := D) (ci := 2) (C := RX2) (T := TX2) (N := 19) hx hb hts hin hown hK hP 0 rfl rfl 5 (by decide) hlink (fun _ h => h) rfl d kk
theorem rg_r6 (hx : p.tables.exec = Jvm.exec) (hb : c0.code = cc) (hts : ∀ w ∈ Ts, w.before args s = true) (hin : ∀ w ∈ u_ws RX2 TX2 19, w ∈ Ts) (hown : s.vm.findClass own = some m.cls) (hK : va_K D vwCl (tyA y) s) (hP : va_P D vwCl (wR a y c t) H) (hlink : (Cond.fieldLink own index "FencedWordsModel" "from" "[I").before args s = true) (d : decode cc pc = .ok (.getfield index, 3)) (kk : W p l e R s m args below meth c0 H locs cells slots Q (F0 m (pc + 3) ls (.ref (a 6) :: rest))) : W p l e R s m args below meth c0 H locs cells slots Q (F0 m pc ls (.ref (a 0) :: rest)) := va_get (D := D) (ci := 2) (C := RX2) (T := TX2) (N := 19) hx hb hts hin hown hK hP 0 rfl rfl 6 (by decide) hlink (fun _ h => h) rfl d kk
theorem rg_r7 (hx : p.tables.exec = Jvm.exec) (hb : c0.code = cc) (hts : ∀ w ∈ Ts, w.before args s = true) (hin : ∀ w ∈ u_ws RX2 TX2 19, w ∈ Ts) (hown : s.vm.findClass own = some m.cls) (hK : va_K D vwCl (tyA y) s) (hP : va_P D vwCl (wR a y c t) H) (hlink : (Cond.fieldLink own index "FencedWordsModel" "stands" "[I").before args s = true) (d : decode cc pc = .ok (.getfield index, 3)) (kk : W p l e R s m args below meth c0 H locs cells slots Q (F0 m (pc + 3) ls (.ref (a 7) :: rest))) : W p l e R s m args below meth c0 H locs cells slots Q (F0 m pc ls (.ref (a 0) :: rest)) := va_get (D := D) (ci := 2) (C := RX2) (T := TX2) (N := 19) hx hb hts hin hown hK hP 0 rfl rfl 7 (by decide) hlink (fun _ h => h) rfl d kk
theorem rg_r8 (hx : p.tables.exec = Jvm.exec) (hb : c0.code = cc) (hts : ∀ w ∈ Ts, w.before args s = true) (hin : ∀ w ∈ u_ws RX2 TX2 19, w ∈ Ts) (hown : s.vm.findClass own = some m.cls) (hK : va_K D vwCl (tyA y) s) (hP : va_P D vwCl (wR a y c t) H) (hlink : (Cond.fieldLink own index "FencedWordsModel" "old" "[J").before args s = true) (d : decode cc pc = .ok (.getfield index, 3)) (kk : W p l e R s m args below meth c0 H locs cells slots Q (F0 m (pc + 3) ls (.ref (a 8) :: rest))) : W p l e R s m args below meth c0 H locs cells slots Q (F0 m pc ls (.ref (a 0) :: rest)) := va_get (D := D) (ci := 2) (C := RX2) (T := TX2) (N := 19) hx hb hts hin hown hK hP 0 rfl rfl 8 (by decide) hlink (fun _ h => h) rfl d kk
theorem rg_of (hx : p.tables.exec = Jvm.exec) (hb : c0.code = cc) (hts : ∀ w ∈ Ts, w.before args s = true) (hin : ∀ w ∈ u_ws RX2 TX2 19, w ∈ Ts) (hown : s.vm.findClass own = some m.cls) (hK : va_K D vwCl (tyA y) s) (hP : va_P D vwCl (wR a y c t) H) (hlink : (Cond.fieldLink own index "FencedWordsModel" "off" "Z").before args s = true) (d : decode cc pc = .ok (.getfield index, 3)) (kk : W p l e R s m args below meth c0 H locs cells slots Q (F0 m (pc + 3) ls (.int (bI (r_of c)) :: rest))) : W p l e R s m args below meth c0 H locs cells slots Q (F0 m pc ls (.ref (a 0) :: rest)) := va_get (D := D) (ci := 2) (C := RX2) (T := TX2) (N := 19) hx hb hts hin hown hK hP 0 rfl rfl 9 (by decide) hlink (fun _ h => h) rfl d kk
theorem rp_of {v : Bool} (hx : p.tables.exec = Jvm.exec) (hb : c0.code = cc) (hts : ∀ w ∈ Ts, w.before args s = true) (hin : ∀ w ∈ u_ws RX2 TX2 19, w ∈ Ts) (hown : s.vm.findClass own = some m.cls) (hK : va_K D vwCl (tyA y) s) (hP : va_P D vwCl (wR a y c t) H) (hD : va_D A (wR a y c t)) (hS : va_S A s.heap H locs) (hlink : (Cond.fieldLink own index "FencedWordsModel" "off" "Z").before args s = true) (d : decode cc pc = .ok (.putfield index, 3)) (kk : ∀ (H1 : Heap) (locs1 : List Loc), va_P D vwCl (wR a y (rs_of c v) t) H1 → va_D A (wR a y (rs_of c v) t) → va_S A s.heap H1 locs1 → W p l e R s m args below meth c0 H1 locs1 cells slots Q (F0 m (pc + 3) ls rest)) : W p l e R s m args below meth c0 H locs cells slots Q (F0 m pc ls (.int (bI (v)) :: .ref (a 0) :: rest)) := va_put (D := D) (ci := 2) (ty := .boolean) (C := RX2) (T := TX2) (N := 19) hx hb hts hin tyX2 tyX2_ok nmX2 hown hK hP hD hS 0 rfl rfl 9 (by decide) hlink (fun _ h => h) rfl (by decide +kernel) (bI_nar v) (bI_fit v) (Nat.le_of_ble_eq_true rfl) d (fun H1 l1 h1 h2 h3 => kk H1 l1 h1 h2 h3)
theorem rg_op (hx : p.tables.exec = Jvm.exec) (hb : c0.code = cc) (hts : ∀ w ∈ Ts, w.before args s = true) (hin : ∀ w ∈ u_ws RX2 TX2 19, w ∈ Ts) (hown : s.vm.findClass own = some m.cls) (hK : va_K D vwCl (tyA y) s) (hP : va_P D vwCl (wR a y c t) H) (hlink : (Cond.fieldLink own index "FencedWordsModel" "open" "Z").before args s = true) (d : decode cc pc = .ok (.getfield index, 3)) (kk : W p l e R s m args below meth c0 H locs cells slots Q (F0 m (pc + 3) ls (.int (bI (r_op c)) :: rest))) : W p l e R s m args below meth c0 H locs cells slots Q (F0 m pc ls (.ref (a 0) :: rest)) := va_get (D := D) (ci := 2) (C := RX2) (T := TX2) (N := 19) hx hb hts hin hown hK hP 0 rfl rfl 10 (by decide) hlink (fun _ h => h) rfl d kk
theorem rp_op {v : Bool} (hx : p.tables.exec = Jvm.exec) (hb : c0.code = cc) (hts : ∀ w ∈ Ts, w.before args s = true) (hin : ∀ w ∈ u_ws RX2 TX2 19, w ∈ Ts) (hown : s.vm.findClass own = some m.cls) (hK : va_K D vwCl (tyA y) s) (hP : va_P D vwCl (wR a y c t) H) (hD : va_D A (wR a y c t)) (hS : va_S A s.heap H locs) (hlink : (Cond.fieldLink own index "FencedWordsModel" "open" "Z").before args s = true) (d : decode cc pc = .ok (.putfield index, 3)) (kk : ∀ (H1 : Heap) (locs1 : List Loc), va_P D vwCl (wR a y (rs_op c v) t) H1 → va_D A (wR a y (rs_op c v) t) → va_S A s.heap H1 locs1 → W p l e R s m args below meth c0 H1 locs1 cells slots Q (F0 m (pc + 3) ls rest)) : W p l e R s m args below meth c0 H locs cells slots Q (F0 m pc ls (.int (bI (v)) :: .ref (a 0) :: rest)) := va_put (D := D) (ci := 2) (ty := .boolean) (C := RX2) (T := TX2) (N := 19) hx hb hts hin tyX2 tyX2_ok nmX2 hown hK hP hD hS 0 rfl rfl 10 (by decide) hlink (fun _ h => h) rfl (by decide +kernel) (bI_nar v) (bI_fit v) (Nat.le_of_ble_eq_true rfl) d (fun H1 l1 h1 h2 h3 => kk H1 l1 h1 h2 h3)
theorem rg_r9 (hx : p.tables.exec = Jvm.exec) (hb : c0.code = cc) (hts : ∀ w ∈ Ts, w.before args s = true) (hin : ∀ w ∈ u_ws RX2 TX2 19, w ∈ Ts) (hown : s.vm.findClass own = some m.cls) (hK : va_K D vwCl (tyA y) s) (hP : va_P D vwCl (wR a y c t) H) (hlink : (Cond.fieldLink own index "FencedWordsModel" "touched" "[Z").before args s = true) (d : decode cc pc = .ok (.getfield index, 3)) (kk : W p l e R s m args below meth c0 H locs cells slots Q (F0 m (pc + 3) ls (.ref (a 9) :: rest))) : W p l e R s m args below meth c0 H locs cells slots Q (F0 m pc ls (.ref (a 0) :: rest)) := va_get (D := D) (ci := 2) (C := RX2) (T := TX2) (N := 19) hx hb hts hin hown hK hP 0 rfl rfl 11 (by decide) hlink (fun _ h => h) rfl d kk
theorem rg_ar (hx : p.tables.exec = Jvm.exec) (hb : c0.code = cc) (hts : ∀ w ∈ Ts, w.before args s = true) (hin : ∀ w ∈ u_ws RX2 TX2 19, w ∈ Ts) (hown : s.vm.findClass own = some m.cls) (hK : va_K D vwCl (tyA y) s) (hP : va_P D vwCl (wR a y c t) H) (hlink : (Cond.fieldLink own index "FencedWordsModel" "armed" "I").before args s = true) (d : decode cc pc = .ok (.getfield index, 3)) (kk : W p l e R s m args below meth c0 H locs cells slots Q (F0 m (pc + 3) ls (.int (nI (r_ar c)) :: rest))) : W p l e R s m args below meth c0 H locs cells slots Q (F0 m pc ls (.ref (a 0) :: rest)) := va_get (D := D) (ci := 2) (C := RX2) (T := TX2) (N := 19) hx hb hts hin hown hK hP 0 rfl rfl 12 (by decide) hlink (fun _ h => h) rfl d kk
theorem rp_ar {v : Nat} (hx : p.tables.exec = Jvm.exec) (hb : c0.code = cc) (hts : ∀ w ∈ Ts, w.before args s = true) (hin : ∀ w ∈ u_ws RX2 TX2 19, w ∈ Ts) (hown : s.vm.findClass own = some m.cls) (hK : va_K D vwCl (tyA y) s) (hP : va_P D vwCl (wR a y c t) H) (hD : va_D A (wR a y c t)) (hS : va_S A s.heap H locs) (hlink : (Cond.fieldLink own index "FencedWordsModel" "armed" "I").before args s = true) (d : decode cc pc = .ok (.putfield index, 3)) (kk : ∀ (H1 : Heap) (locs1 : List Loc), va_P D vwCl (wR a y (rs_ar c v) t) H1 → va_D A (wR a y (rs_ar c v) t) → va_S A s.heap H1 locs1 → W p l e R s m args below meth c0 H1 locs1 cells slots Q (F0 m (pc + 3) ls rest)) : W p l e R s m args below meth c0 H locs cells slots Q (F0 m pc ls (.int (nI (v)) :: .ref (a 0) :: rest)) := va_put (D := D) (ci := 2) (ty := .int) (C := RX2) (T := TX2) (N := 19) hx hb hts hin tyX2 tyX2_ok nmX2 hown hK hP hD hS 0 rfl rfl 12 (by decide) hlink (fun _ h => h) rfl (by decide +kernel) rfl rfl (Nat.le_of_ble_eq_true rfl) d (fun H1 l1 h1 h2 h3 => kk H1 l1 h1 h2 h3)
theorem rg_mk (hx : p.tables.exec = Jvm.exec) (hb : c0.code = cc) (hts : ∀ w ∈ Ts, w.before args s = true) (hin : ∀ w ∈ u_ws RX2 TX2 19, w ∈ Ts) (hown : s.vm.findClass own = some m.cls) (hK : va_K D vwCl (tyA y) s) (hP : va_P D vwCl (wR a y c t) H) (hlink : (Cond.fieldLink own index "FencedWordsModel" "mask" "J").before args s = true) (d : decode cc pc = .ok (.getfield index, 3)) (kk : W p l e R s m args below meth c0 H locs cells slots Q (F0 m (pc + 3) ls (.long (r_mk c) :: rest))) : W p l e R s m args below meth c0 H locs cells slots Q (F0 m pc ls (.ref (a 0) :: rest)) := va_get (D := D) (ci := 2) (C := RX2) (T := TX2) (N := 19) hx hb hts hin hown hK hP 0 rfl rfl 13 (by decide) hlink (fun _ h => h) rfl d kk
theorem rp_mk {v : Int64} (hx : p.tables.exec = Jvm.exec) (hb : c0.code = cc) (hts : ∀ w ∈ Ts, w.before args s = true) (hin : ∀ w ∈ u_ws RX2 TX2 19, w ∈ Ts) (hown : s.vm.findClass own = some m.cls) (hK : va_K D vwCl (tyA y) s) (hP : va_P D vwCl (wR a y c t) H) (hD : va_D A (wR a y c t)) (hS : va_S A s.heap H locs) (hlink : (Cond.fieldLink own index "FencedWordsModel" "mask" "J").before args s = true) (d : decode cc pc = .ok (.putfield index, 3)) (kk : ∀ (H1 : Heap) (locs1 : List Loc), va_P D vwCl (wR a y (rs_mk c v) t) H1 → va_D A (wR a y (rs_mk c v) t) → va_S A s.heap H1 locs1 → W p l e R s m args below meth c0 H1 locs1 cells slots Q (F0 m (pc + 3) ls rest)) : W p l e R s m args below meth c0 H locs cells slots Q (F0 m pc ls (.long (v) :: .ref (a 0) :: rest)) := va_put (D := D) (ci := 2) (ty := .long) (C := RX2) (T := TX2) (N := 19) hx hb hts hin tyX2 tyX2_ok nmX2 hown hK hP hD hS 0 rfl rfl 13 (by decide) hlink (fun _ h => h) rfl (by decide +kernel) rfl rfl (Nat.le_of_ble_eq_true rfl) d (fun H1 l1 h1 h2 h3 => kk H1 l1 h1 h2 h3)
theorem rg_me (hx : p.tables.exec = Jvm.exec) (hb : c0.code = cc) (hts : ∀ w ∈ Ts, w.before args s = true) (hin : ∀ w ∈ u_ws RX2 TX2 19, w ∈ Ts) (hown : s.vm.findClass own = some m.cls) (hK : va_K D vwCl (tyA y) s) (hP : va_P D vwCl (wR a y c t) H) (hlink : (Cond.fieldLink own index "FencedWordsModel" "meter" "I").before args s = true) (d : decode cc pc = .ok (.getfield index, 3)) (kk : W p l e R s m args below meth c0 H locs cells slots Q (F0 m (pc + 3) ls (.int (r_me c) :: rest))) : W p l e R s m args below meth c0 H locs cells slots Q (F0 m pc ls (.ref (a 0) :: rest)) := va_get (D := D) (ci := 2) (C := RX2) (T := TX2) (N := 19) hx hb hts hin hown hK hP 0 rfl rfl 14 (by decide) hlink (fun _ h => h) rfl d kk
theorem rp_me {v : Int32} (hx : p.tables.exec = Jvm.exec) (hb : c0.code = cc) (hts : ∀ w ∈ Ts, w.before args s = true) (hin : ∀ w ∈ u_ws RX2 TX2 19, w ∈ Ts) (hown : s.vm.findClass own = some m.cls) (hK : va_K D vwCl (tyA y) s) (hP : va_P D vwCl (wR a y c t) H) (hD : va_D A (wR a y c t)) (hS : va_S A s.heap H locs) (hlink : (Cond.fieldLink own index "FencedWordsModel" "meter" "I").before args s = true) (d : decode cc pc = .ok (.putfield index, 3)) (kk : ∀ (H1 : Heap) (locs1 : List Loc), va_P D vwCl (wR a y (rs_me c v) t) H1 → va_D A (wR a y (rs_me c v) t) → va_S A s.heap H1 locs1 → W p l e R s m args below meth c0 H1 locs1 cells slots Q (F0 m (pc + 3) ls rest)) : W p l e R s m args below meth c0 H locs cells slots Q (F0 m pc ls (.int (v) :: .ref (a 0) :: rest)) := va_put (D := D) (ci := 2) (ty := .int) (C := RX2) (T := TX2) (N := 19) hx hb hts hin tyX2 tyX2_ok nmX2 hown hK hP hD hS 0 rfl rfl 14 (by decide) hlink (fun _ h => h) rfl (by decide +kernel) rfl rfl (Nat.le_of_ble_eq_true rfl) d (fun H1 l1 h1 h2 h3 => kk H1 l1 h1 h2 h3)
theorem rg_ac (hx : p.tables.exec = Jvm.exec) (hb : c0.code = cc) (hts : ∀ w ∈ Ts, w.before args s = true) (hin : ∀ w ∈ u_ws RX2 TX2 19, w ∈ Ts) (hown : s.vm.findClass own = some m.cls) (hK : va_K D vwCl (tyA y) s) (hP : va_P D vwCl (wR a y c t) H) (hlink : (Cond.fieldLink own index "FencedWordsModel" "acts" "I").before args s = true) (d : decode cc pc = .ok (.getfield index, 3)) (kk : W p l e R s m args below meth c0 H locs cells slots Q (F0 m (pc + 3) ls (.int (nI (r_ac c)) :: rest))) : W p l e R s m args below meth c0 H locs cells slots Q (F0 m pc ls (.ref (a 0) :: rest)) := va_get (D := D) (ci := 2) (C := RX2) (T := TX2) (N := 19) hx hb hts hin hown hK hP 0 rfl rfl 15 (by decide) hlink (fun _ h => h) rfl d kk
theorem rp_ac {v : Nat} (hx : p.tables.exec = Jvm.exec) (hb : c0.code = cc) (hts : ∀ w ∈ Ts, w.before args s = true) (hin : ∀ w ∈ u_ws RX2 TX2 19, w ∈ Ts) (hown : s.vm.findClass own = some m.cls) (hK : va_K D vwCl (tyA y) s) (hP : va_P D vwCl (wR a y c t) H) (hD : va_D A (wR a y c t)) (hS : va_S A s.heap H locs) (hlink : (Cond.fieldLink own index "FencedWordsModel" "acts" "I").before args s = true) (d : decode cc pc = .ok (.putfield index, 3)) (kk : ∀ (H1 : Heap) (locs1 : List Loc), va_P D vwCl (wR a y (rs_ac c v) t) H1 → va_D A (wR a y (rs_ac c v) t) → va_S A s.heap H1 locs1 → W p l e R s m args below meth c0 H1 locs1 cells slots Q (F0 m (pc + 3) ls rest)) : W p l e R s m args below meth c0 H locs cells slots Q (F0 m pc ls (.int (nI (v)) :: .ref (a 0) :: rest)) := va_put (D := D) (ci := 2) (ty := .int) (C := RX2) (T := TX2) (N := 19) hx hb hts hin tyX2 tyX2_ok nmX2 hown hK hP hD hS 0 rfl rfl 15 (by decide) hlink (fun _ h => h) rfl (by decide +kernel) rfl rfl (Nat.le_of_ble_eq_true rfl) d (fun H1 l1 h1 h2 h3 => kk H1 l1 h1 h2 h3)
theorem rg_r10 (hx : p.tables.exec = Jvm.exec) (hb : c0.code = cc) (hts : ∀ w ∈ Ts, w.before args s = true) (hin : ∀ w ∈ u_ws RX2 TX2 19, w ∈ Ts) (hown : s.vm.findClass own = some m.cls) (hK : va_K D vwCl (tyA y) s) (hP : va_P D vwCl (wR a y c t) H) (hlink : (Cond.fieldLink own index "FencedWordsModel" "act" "[I").before args s = true) (d : decode cc pc = .ok (.getfield index, 3)) (kk : W p l e R s m args below meth c0 H locs cells slots Q (F0 m (pc + 3) ls (.ref (a 10) :: rest))) : W p l e R s m args below meth c0 H locs cells slots Q (F0 m pc ls (.ref (a 0) :: rest)) := va_get (D := D) (ci := 2) (C := RX2) (T := TX2) (N := 19) hx hb hts hin hown hK hP 0 rfl rfl 16 (by decide) hlink (fun _ h => h) rfl d kk
theorem rg_r11 (hx : p.tables.exec = Jvm.exec) (hb : c0.code = cc) (hts : ∀ w ∈ Ts, w.before args s = true) (hin : ∀ w ∈ u_ws RX2 TX2 19, w ∈ Ts) (hown : s.vm.findClass own = some m.cls) (hK : va_K D vwCl (tyA y) s) (hP : va_P D vwCl (wR a y c t) H) (hlink : (Cond.fieldLink own index "FencedWordsModel" "on" "[I").before args s = true) (d : decode cc pc = .ok (.getfield index, 3)) (kk : W p l e R s m args below meth c0 H locs cells slots Q (F0 m (pc + 3) ls (.ref (a 11) :: rest))) : W p l e R s m args below meth c0 H locs cells slots Q (F0 m pc ls (.ref (a 0) :: rest)) := va_get (D := D) (ci := 2) (C := RX2) (T := TX2) (N := 19) hx hb hts hin hown hK hP 0 rfl rfl 17 (by decide) hlink (fun _ h => h) rfl d kk
theorem rg_r12 (hx : p.tables.exec = Jvm.exec) (hb : c0.code = cc) (hts : ∀ w ∈ Ts, w.before args s = true) (hin : ∀ w ∈ u_ws RX2 TX2 19, w ∈ Ts) (hown : s.vm.findClass own = some m.cls) (hK : va_K D vwCl (tyA y) s) (hP : va_P D vwCl (wR a y c t) H) (hlink : (Cond.fieldLink own index "FencedWordsModel" "with" "[J").before args s = true) (d : decode cc pc = .ok (.getfield index, 3)) (kk : W p l e R s m args below meth c0 H locs cells slots Q (F0 m (pc + 3) ls (.ref (a 12) :: rest))) : W p l e R s m args below meth c0 H locs cells slots Q (F0 m pc ls (.ref (a 0) :: rest)) := va_get (D := D) (ci := 2) (C := RX2) (T := TX2) (N := 19) hx hb hts hin hown hK hP 0 rfl rfl 18 (by decide) hlink (fun _ h => h) rfl d kk
theorem rl_S {k : Nat} (hx : p.tables.exec = Jvm.exec) (hb : c0.code = cc) (hK : va_K D vwCl (tyA y) s) (hP : va_P D vwCl (wR a y c t) H) (hk : k < 32) (d : decode cc pc = .ok (.laload, 1)) (kk : W p l e R s m args below meth c0 H locs cells slots Q (F0 m (pc + 1) ls (.long (r_S c k) :: rest))) : W p l e R s m args below meth c0 H locs cells slots Q (F0 m pc ls (.int (nI k) :: .ref (a 1) :: rest)) := va_lald hx hb hK hP 1 1 rfl rfl (vp_in_nI hk (by decide)) d (by rw [nI_clamp (by omega)]; exact kk)
theorem rt_S {k : Nat} {v : Int64} (hx : p.tables.exec = Jvm.exec) (hb : c0.code = cc) (hK : va_K D vwCl (tyA y) s) (hP : va_P D vwCl (wR a y c t) H) (hD : va_D A (wR a y c t)) (hS : va_S A s.heap H locs) (hk : k < 32) (d : decode cc pc = .ok (.lastore, 1)) (kk : ∀ (H1 : Heap) (locs1 : List Loc), va_P D vwCl (wR a y (rs_S c (vp_updL (r_S c) k v)) t) H1 → va_D A (wR a y (rs_S c (vp_updL (r_S c) k v)) t) → va_S A s.heap H1 locs1 → W p l e R s m args below meth c0 H1 locs1 cells slots Q (F0 m (pc + 1) ls rest)) : W p l e R s m args below meth c0 H locs cells slots Q (F0 m pc ls (.long v :: .int (nI k) :: .ref (a 1) :: rest)) := va_last hx hb hK hP hD hS 1 1 rfl rfl (vp_in_nI hk (by decide)) d (fun H1 l1 h1 h2 h3 => by rw [nI_clamp (n := k) (by omega)] at h1 h2; exact kk H1 l1 h1 h2 h3)
theorem rl_K {k : Nat} (hx : p.tables.exec = Jvm.exec) (hb : c0.code = cc) (hK : va_K D vwCl (tyA y) s) (hP : va_P D vwCl (wR a y c t) H) (hk : k < 32) (d : decode cc pc = .ok (.laload, 1)) (kk : W p l e R s m args below meth c0 H locs cells slots Q (F0 m (pc + 1) ls (.long (r_K c k) :: rest))) : W p l e R s m args below meth c0 H locs cells slots Q (F0 m pc ls (.int (nI k) :: .ref (a 2) :: rest)) := va_lald hx hb hK hP 2 1 rfl rfl (vp_in_nI hk (by decide)) d (by rw [nI_clamp (by omega)]; exact kk)
theorem rt_K {k : Nat} {v : Int64} (hx : p.tables.exec = Jvm.exec) (hb : c0.code = cc) (hK : va_K D vwCl (tyA y) s) (hP : va_P D vwCl (wR a y c t) H) (hD : va_D A (wR a y c t)) (hS : va_S A s.heap H locs) (hk : k < 32) (d : decode cc pc = .ok (.lastore, 1)) (kk : ∀ (H1 : Heap) (locs1 : List Loc), va_P D vwCl (wR a y (rs_K c (vp_updL (r_K c) k v)) t) H1 → va_D A (wR a y (rs_K c (vp_updL (r_K c) k v)) t) → va_S A s.heap H1 locs1 → W p l e R s m args below meth c0 H1 locs1 cells slots Q (F0 m (pc + 1) ls rest)) : W p l e R s m args below meth c0 H locs cells slots Q (F0 m pc ls (.long v :: .int (nI k) :: .ref (a 2) :: rest)) := va_last hx hb hK hP hD hS 2 1 rfl rfl (vp_in_nI hk (by decide)) d (fun H1 l1 h1 h2 h3 => by rw [nI_clamp (n := k) (by omega)] at h1 h2; exact kk H1 l1 h1 h2 h3)
theorem rl_fl {k : Nat} (hx : p.tables.exec = Jvm.exec) (hb : c0.code = cc) (hK : va_K D vwCl (tyA y) s) (hP : va_P D vwCl (wR a y c t) H) (hk : k < 4) (d : decode cc pc = .ok (.baload, 1)) (kk : W p l e R s m args below meth c0 H locs cells slots Q (F0 m (pc + 1) ls (.int (bI (r_fl c k)) :: rest))) : W p l e R s m args below meth c0 H locs cells slots Q (F0 m pc ls (.int (nI k) :: .ref (a 3) :: rest)) := va_zald hx hb hK hP 3 2 rfl rfl (vp_in_nI hk (by decide)) d (by rw [nI_clamp (by omega)]; exact kk)
theorem rt_fl {k : Nat} {v : Bool} (hx : p.tables.exec = Jvm.exec) (hb : c0.code = cc) (hK : va_K D vwCl (tyA y) s) (hP : va_P D vwCl (wR a y c t) H) (hD : va_D A (wR a y c t)) (hS : va_S A s.heap H locs) (hk : k < 4) (d : decode cc pc = .ok (.bastore, 1)) (kk : ∀ (H1 : Heap) (locs1 : List Loc), va_P D vwCl (wR a y (rs_fl c (upB (r_fl c) k v)) t) H1 → va_D A (wR a y (rs_fl c (upB (r_fl c) k v)) t) → va_S A s.heap H1 locs1 → W p l e R s m args below meth c0 H1 locs1 cells slots Q (F0 m (pc + 1) ls rest)) : W p l e R s m args below meth c0 H locs cells slots Q (F0 m pc ls (.int (bI v) :: .int (nI k) :: .ref (a 3) :: rest)) := va_zast hx hb hK hP hD hS 3 2 rfl rfl (vp_in_nI hk (by decide)) d (fun H1 l1 h1 h2 h3 => by rw [vp_nar_bI, upd_bI (r_fl c) v (by omega)] at h1 h2; exact kk H1 l1 h1 h2 h3)
theorem rl_fi {k : Nat} (hx : p.tables.exec = Jvm.exec) (hb : c0.code = cc) (hK : va_K D vwCl (tyA y) s) (hP : va_P D vwCl (wR a y c t) H) (hk : k < 20) (d : decode cc pc = .ok (.iaload, 1)) (kk : W p l e R s m args below meth c0 H locs cells slots Q (F0 m (pc + 1) ls (.int (nI (r_fi c k)) :: rest))) : W p l e R s m args below meth c0 H locs cells slots Q (F0 m pc ls (.int (nI k) :: .ref (a 4) :: rest)) := va_iald hx hb hK hP 4 0 rfl rfl (vp_in_nI hk (by decide)) d (by rw [nI_clamp (by omega)]; exact kk)
theorem rt_fi {k : Nat} {v : Nat} (hx : p.tables.exec = Jvm.exec) (hb : c0.code = cc) (hK : va_K D vwCl (tyA y) s) (hP : va_P D vwCl (wR a y c t) H) (hD : va_D A (wR a y c t)) (hS : va_S A s.heap H locs) (hk : k < 20) (d : decode cc pc = .ok (.iastore, 1)) (kk : ∀ (H1 : Heap) (locs1 : List Loc), va_P D vwCl (wR a y (rs_fi c (upN (r_fi c) k v)) t) H1 → va_D A (wR a y (rs_fi c (upN (r_fi c) k v)) t) → va_S A s.heap H1 locs1 → W p l e R s m args below meth c0 H1 locs1 cells slots Q (F0 m (pc + 1) ls rest)) : W p l e R s m args below meth c0 H locs cells slots Q (F0 m pc ls (.int (nI v) :: .int (nI k) :: .ref (a 4) :: rest)) := va_iast hx hb hK hP hD hS 4 0 rfl rfl (vp_in_nI hk (by decide)) d (fun H1 l1 h1 h2 h3 => by rw [upd_nI (r_fi c) v (by omega)] at h1 h2; exact kk H1 l1 h1 h2 h3)
theorem rl_ma {k : Nat} (hx : p.tables.exec = Jvm.exec) (hb : c0.code = cc) (hK : va_K D vwCl (tyA y) s) (hP : va_P D vwCl (wR a y c t) H) (hk : k < 20) (d : decode cc pc = .ok (.iaload, 1)) (kk : W p l e R s m args below meth c0 H locs cells slots Q (F0 m (pc + 1) ls (.int (nI (r_ma c k)) :: rest))) : W p l e R s m args below meth c0 H locs cells slots Q (F0 m pc ls (.int (nI k) :: .ref (a 5) :: rest)) := va_iald hx hb hK hP 5 0 rfl rfl (vp_in_nI hk (by decide)) d (by rw [nI_clamp (by omega)]; exact kk)
theorem rt_ma {k : Nat} {v : Nat} (hx : p.tables.exec = Jvm.exec) (hb : c0.code = cc) (hK : va_K D vwCl (tyA y) s) (hP : va_P D vwCl (wR a y c t) H) (hD : va_D A (wR a y c t)) (hS : va_S A s.heap H locs) (hk : k < 20) (d : decode cc pc = .ok (.iastore, 1)) (kk : ∀ (H1 : Heap) (locs1 : List Loc), va_P D vwCl (wR a y (rs_ma c (upN (r_ma c) k v)) t) H1 → va_D A (wR a y (rs_ma c (upN (r_ma c) k v)) t) → va_S A s.heap H1 locs1 → W p l e R s m args below meth c0 H1 locs1 cells slots Q (F0 m (pc + 1) ls rest)) : W p l e R s m args below meth c0 H locs cells slots Q (F0 m pc ls (.int (nI v) :: .int (nI k) :: .ref (a 5) :: rest)) := va_iast hx hb hK hP hD hS 5 0 rfl rfl (vp_in_nI hk (by decide)) d (fun H1 l1 h1 h2 h3 => by rw [upd_nI (r_ma c) v (by omega)] at h1 h2; exact kk H1 l1 h1 h2 h3)
theorem rl_fr {k : Nat} (hx : p.tables.exec = Jvm.exec) (hb : c0.code = cc) (hK : va_K D vwCl (tyA y) s) (hP : va_P D vwCl (wR a y c t) H) (hk : k < 20) (d : decode cc pc = .ok (.iaload, 1)) (kk : W p l e R s m args below meth c0 H locs cells slots Q (F0 m (pc + 1) ls (.int (nI (r_fr c k)) :: rest))) : W p l e R s m args below meth c0 H locs cells slots Q (F0 m pc ls (.int (nI k) :: .ref (a 6) :: rest)) := va_iald hx hb hK hP 6 0 rfl rfl (vp_in_nI hk (by decide)) d (by rw [nI_clamp (by omega)]; exact kk)
theorem rt_fr {k : Nat} {v : Nat} (hx : p.tables.exec = Jvm.exec) (hb : c0.code = cc) (hK : va_K D vwCl (tyA y) s) (hP : va_P D vwCl (wR a y c t) H) (hD : va_D A (wR a y c t)) (hS : va_S A s.heap H locs) (hk : k < 20) (d : decode cc pc = .ok (.iastore, 1)) (kk : ∀ (H1 : Heap) (locs1 : List Loc), va_P D vwCl (wR a y (rs_fr c (upN (r_fr c) k v)) t) H1 → va_D A (wR a y (rs_fr c (upN (r_fr c) k v)) t) → va_S A s.heap H1 locs1 → W p l e R s m args below meth c0 H1 locs1 cells slots Q (F0 m (pc + 1) ls rest)) : W p l e R s m args below meth c0 H locs cells slots Q (F0 m pc ls (.int (nI v) :: .int (nI k) :: .ref (a 6) :: rest)) := va_iast hx hb hK hP hD hS 6 0 rfl rfl (vp_in_nI hk (by decide)) d (fun H1 l1 h1 h2 h3 => by rw [upd_nI (r_fr c) v (by omega)] at h1 h2; exact kk H1 l1 h1 h2 h3)
theorem rl_st {k : Nat} (hx : p.tables.exec = Jvm.exec) (hb : c0.code = cc) (hK : va_K D vwCl (tyA y) s) (hP : va_P D vwCl (wR a y c t) H) (hk : k < 20) (d : decode cc pc = .ok (.iaload, 1)) (kk : W p l e R s m args below meth c0 H locs cells slots Q (F0 m (pc + 1) ls (.int (nI (r_st c k)) :: rest))) : W p l e R s m args below meth c0 H locs cells slots Q (F0 m pc ls (.int (nI k) :: .ref (a 7) :: rest)) := va_iald hx hb hK hP 7 0 rfl rfl (vp_in_nI hk (by decide)) d (by rw [nI_clamp (by omega)]; exact kk)
theorem rt_st {k : Nat} {v : Nat} (hx : p.tables.exec = Jvm.exec) (hb : c0.code = cc) (hK : va_K D vwCl (tyA y) s) (hP : va_P D vwCl (wR a y c t) H) (hD : va_D A (wR a y c t)) (hS : va_S A s.heap H locs) (hk : k < 20) (d : decode cc pc = .ok (.iastore, 1)) (kk : ∀ (H1 : Heap) (locs1 : List Loc), va_P D vwCl (wR a y (rs_st c (upN (r_st c) k v)) t) H1 → va_D A (wR a y (rs_st c (upN (r_st c) k v)) t) → va_S A s.heap H1 locs1 → W p l e R s m args below meth c0 H1 locs1 cells slots Q (F0 m (pc + 1) ls rest)) : W p l e R s m args below meth c0 H locs cells slots Q (F0 m pc ls (.int (nI v) :: .int (nI k) :: .ref (a 7) :: rest)) := va_iast hx hb hK hP hD hS 7 0 rfl rfl (vp_in_nI hk (by decide)) d (fun H1 l1 h1 h2 h3 => by rw [upd_nI (r_st c) v (by omega)] at h1 h2; exact kk H1 l1 h1 h2 h3)
theorem rl_ol {k : Nat} (hx : p.tables.exec = Jvm.exec) (hb : c0.code = cc) (hK : va_K D vwCl (tyA y) s) (hP : va_P D vwCl (wR a y c t) H) (hk : k < 40) (d : decode cc pc = .ok (.laload, 1)) (kk : W p l e R s m args below meth c0 H locs cells slots Q (F0 m (pc + 1) ls (.long (r_ol c k) :: rest))) : W p l e R s m args below meth c0 H locs cells slots Q (F0 m pc ls (.int (nI k) :: .ref (a 8) :: rest)) := va_lald hx hb hK hP 8 1 rfl rfl (vp_in_nI hk (by decide)) d (by rw [nI_clamp (by omega)]; exact kk)
theorem rt_ol {k : Nat} {v : Int64} (hx : p.tables.exec = Jvm.exec) (hb : c0.code = cc) (hK : va_K D vwCl (tyA y) s) (hP : va_P D vwCl (wR a y c t) H) (hD : va_D A (wR a y c t)) (hS : va_S A s.heap H locs) (hk : k < 40) (d : decode cc pc = .ok (.lastore, 1)) (kk : ∀ (H1 : Heap) (locs1 : List Loc), va_P D vwCl (wR a y (rs_ol c (vp_updL (r_ol c) k v)) t) H1 → va_D A (wR a y (rs_ol c (vp_updL (r_ol c) k v)) t) → va_S A s.heap H1 locs1 → W p l e R s m args below meth c0 H1 locs1 cells slots Q (F0 m (pc + 1) ls rest)) : W p l e R s m args below meth c0 H locs cells slots Q (F0 m pc ls (.long v :: .int (nI k) :: .ref (a 8) :: rest)) := va_last hx hb hK hP hD hS 8 1 rfl rfl (vp_in_nI hk (by decide)) d (fun H1 l1 h1 h2 h3 => by rw [nI_clamp (n := k) (by omega)] at h1 h2; exact kk H1 l1 h1 h2 h3)
theorem rl_to {k : Nat} (hx : p.tables.exec = Jvm.exec) (hb : c0.code = cc) (hK : va_K D vwCl (tyA y) s) (hP : va_P D vwCl (wR a y c t) H) (hk : k < 4) (d : decode cc pc = .ok (.baload, 1)) (kk : W p l e R s m args below meth c0 H locs cells slots Q (F0 m (pc + 1) ls (.int (bI (r_to c k)) :: rest))) : W p l e R s m args below meth c0 H locs cells slots Q (F0 m pc ls (.int (nI k) :: .ref (a 9) :: rest)) := va_zald hx hb hK hP 9 2 rfl rfl (vp_in_nI hk (by decide)) d (by rw [nI_clamp (by omega)]; exact kk)
theorem rt_to {k : Nat} {v : Bool} (hx : p.tables.exec = Jvm.exec) (hb : c0.code = cc) (hK : va_K D vwCl (tyA y) s) (hP : va_P D vwCl (wR a y c t) H) (hD : va_D A (wR a y c t)) (hS : va_S A s.heap H locs) (hk : k < 4) (d : decode cc pc = .ok (.bastore, 1)) (kk : ∀ (H1 : Heap) (locs1 : List Loc), va_P D vwCl (wR a y (rs_to c (upB (r_to c) k v)) t) H1 → va_D A (wR a y (rs_to c (upB (r_to c) k v)) t) → va_S A s.heap H1 locs1 → W p l e R s m args below meth c0 H1 locs1 cells slots Q (F0 m (pc + 1) ls rest)) : W p l e R s m args below meth c0 H locs cells slots Q (F0 m pc ls (.int (bI v) :: .int (nI k) :: .ref (a 9) :: rest)) := va_zast hx hb hK hP hD hS 9 2 rfl rfl (vp_in_nI hk (by decide)) d (fun H1 l1 h1 h2 h3 => by rw [vp_nar_bI, upd_bI (r_to c) v (by omega)] at h1 h2; exact kk H1 l1 h1 h2 h3)
theorem rl_an {k : Nat} (hx : p.tables.exec = Jvm.exec) (hb : c0.code = cc) (hK : va_K D vwCl (tyA y) s) (hP : va_P D vwCl (wR a y c t) H) (hk : k < 64) (d : decode cc pc = .ok (.iaload, 1)) (kk : W p l e R s m args below meth c0 H locs cells slots Q (F0 m (pc + 1) ls (.int (nI (r_an c k)) :: rest))) : W p l e R s m args below meth c0 H locs cells slots Q (F0 m pc ls (.int (nI k) :: .ref (a 10) :: rest)) := va_iald hx hb hK hP 10 0 rfl rfl (vp_in_nI hk (by decide)) d (by rw [nI_clamp (by omega)]; exact kk)
theorem rt_an {k : Nat} {v : Nat} (hx : p.tables.exec = Jvm.exec) (hb : c0.code = cc) (hK : va_K D vwCl (tyA y) s) (hP : va_P D vwCl (wR a y c t) H) (hD : va_D A (wR a y c t)) (hS : va_S A s.heap H locs) (hk : k < 64) (d : decode cc pc = .ok (.iastore, 1)) (kk : ∀ (H1 : Heap) (locs1 : List Loc), va_P D vwCl (wR a y (rs_an c (upN (r_an c) k v)) t) H1 → va_D A (wR a y (rs_an c (upN (r_an c) k v)) t) → va_S A s.heap H1 locs1 → W p l e R s m args below meth c0 H1 locs1 cells slots Q (F0 m (pc + 1) ls rest)) : W p l e R s m args below meth c0 H locs cells slots Q (F0 m pc ls (.int (nI v) :: .int (nI k) :: .ref (a 10) :: rest)) := va_iast hx hb hK hP hD hS 10 0 rfl rfl (vp_in_nI hk (by decide)) d (fun H1 l1 h1 h2 h3 => by rw [upd_nI (r_an c) v (by omega)] at h1 h2; exact kk H1 l1 h1 h2 h3)
theorem rl_on {k : Nat} (hx : p.tables.exec = Jvm.exec) (hb : c0.code = cc) (hK : va_K D vwCl (tyA y) s) (hP : va_P D vwCl (wR a y c t) H) (hk : k < 64) (d : decode cc pc = .ok (.iaload, 1)) (kk : W p l e R s m args below meth c0 H locs cells slots Q (F0 m (pc + 1) ls (.int (nI (r_on c k)) :: rest))) : W p l e R s m args below meth c0 H locs cells slots Q (F0 m pc ls (.int (nI k) :: .ref (a 11) :: rest)) := va_iald hx hb hK hP 11 0 rfl rfl (vp_in_nI hk (by decide)) d (by rw [nI_clamp (by omega)]; exact kk)
theorem rt_on {k : Nat} {v : Nat} (hx : p.tables.exec = Jvm.exec) (hb : c0.code = cc) (hK : va_K D vwCl (tyA y) s) (hP : va_P D vwCl (wR a y c t) H) (hD : va_D A (wR a y c t)) (hS : va_S A s.heap H locs) (hk : k < 64) (d : decode cc pc = .ok (.iastore, 1)) (kk : ∀ (H1 : Heap) (locs1 : List Loc), va_P D vwCl (wR a y (rs_on c (upN (r_on c) k v)) t) H1 → va_D A (wR a y (rs_on c (upN (r_on c) k v)) t) → va_S A s.heap H1 locs1 → W p l e R s m args below meth c0 H1 locs1 cells slots Q (F0 m (pc + 1) ls rest)) : W p l e R s m args below meth c0 H locs cells slots Q (F0 m pc ls (.int (nI v) :: .int (nI k) :: .ref (a 11) :: rest)) := va_iast hx hb hK hP hD hS 11 0 rfl rfl (vp_in_nI hk (by decide)) d (fun H1 l1 h1 h2 h3 => by rw [upd_nI (r_on c) v (by omega)] at h1 h2; exact kk H1 l1 h1 h2 h3)
theorem rl_wi {k : Nat} (hx : p.tables.exec = Jvm.exec) (hb : c0.code = cc) (hK : va_K D vwCl (tyA y) s) (hP : va_P D vwCl (wR a y c t) H) (hk : k < 64) (d : decode cc pc = .ok (.laload, 1)) (kk : W p l e R s m args below meth c0 H locs cells slots Q (F0 m (pc + 1) ls (.long (r_wi c k) :: rest))) : W p l e R s m args below meth c0 H locs cells slots Q (F0 m pc ls (.int (nI k) :: .ref (a 12) :: rest)) := va_lald hx hb hK hP 12 1 rfl rfl (vp_in_nI hk (by decide)) d (by rw [nI_clamp (by omega)]; exact kk)
theorem rt_wi {k : Nat} {v : Int64} (hx : p.tables.exec = Jvm.exec) (hb : c0.code = cc) (hK : va_K D vwCl (tyA y) s) (hP : va_P D vwCl (wR a y c t) H) (hD : va_D A (wR a y c t)) (hS : va_S A s.heap H locs) (hk : k < 64) (d : decode cc pc = .ok (.lastore, 1)) (kk : ∀ (H1 : Heap) (locs1 : List Loc), va_P D vwCl (wR a y (rs_wi c (vp_updL (r_wi c) k v)) t) H1 → va_D A (wR a y (rs_wi c (vp_updL (r_wi c) k v)) t) → va_S A s.heap H1 locs1 → W p l e R s m args below meth c0 H1 locs1 cells slots Q (F0 m (pc + 1) ls rest)) : W p l e R s m args below meth c0 H locs cells slots Q (F0 m pc ls (.long v :: .int (nI k) :: .ref (a 12) :: rest)) := va_last hx hb hK hP hD hS 12 1 rfl rfl (vp_in_nI hk (by decide)) d (fun H1 l1 h1 h2 h3 => by rw [nI_clamp (n := k) (by omega)] at h1 h2; exact kk H1 l1 h1 h2 h3)
end STRS
end
section
theorem cx_S_S (c : CS) (v : Nat → Int64) : c_S (cs_S c v) = v := rfl
theorem cx_S_K (c : CS) (v : Nat → Int64) : c_S (cs_K c v) = c_S c := rfl
theorem cx_S_on (c : CS) (v : Bool) : c_S (cs_on c v) = c_S c := rfl
theorem cx_S_op (c : CS) (v : Bool) : c_S (cs_op c v) = c_S c := rfl
theorem cx_S_fl (c : CS) (v : Int32) : c_S (cs_fl c v) = c_S c := rfl
theorem cx_S_sl (c : CS) (v : Int32) : c_S (cs_sl c v) = c_S c := rfl
theorem cx_S_au (c : CS) (v : Nat) : c_S (cs_au c v) = c_S c := rfl
theorem cx_S_mk (c : CS) (v : Int64) : c_S (cs_mk c v) = c_S c := rfl
theorem cx_S_ad (c : CS) (v : Int32) : c_S (cs_ad c v) = c_S c := rfl
theorem cx_S_fi (c : CS) (v : Nat → Nat) : c_S (cs_fi c v) = c_S c := rfl
theorem cx_S_co (c : CS) (v : Nat → Nat) : c_S (cs_co c v) = c_S c := rfl
theorem cx_S_sc (c : CS) (v : Nat → Nat) : c_S (cs_sc c v) = c_S c := rfl
theorem cx_S_ce (c : CS) (v : Nat → Int64) : c_S (cs_ce c v) = c_S c := rfl
theorem cx_S_sz (c : CS) (v : Nat) : c_S (cs_sz c v) = c_S c := rfl
theorem cx_S_tk (c : CS) (v : Nat) : c_S (cs_tk c v) = c_S c := rfl
theorem cx_S_nk (c : CS) (v : Bool) : c_S (cs_nk c v) = c_S c := rfl
theorem cx_S_xo (c : CS) (v : Bool) : c_S (cs_xo c v) = c_S c := rfl
theorem cx_K_S (c : CS) (v : Nat → Int64) : c_K (cs_S c v) = c_K c := rfl
theorem cx_K_K (c : CS) (v : Nat → Int64) : c_K (cs_K c v) = v := rfl
theorem cx_K_on (c : CS) (v : Bool) : c_K (cs_on c v) = c_K c := rfl
theorem cx_K_op (c : CS) (v : Bool) : c_K (cs_op c v) = c_K c := rfl
theorem cx_K_fl (c : CS) (v : Int32) : c_K (cs_fl c v) = c_K c := rfl
theorem cx_K_sl (c : CS) (v : Int32) : c_K (cs_sl c v) = c_K c := rfl
theorem cx_K_au (c : CS) (v : Nat) : c_K (cs_au c v) = c_K c := rfl
theorem cx_K_mk (c : CS) (v : Int64) : c_K (cs_mk c v) = c_K c := rfl
theorem cx_K_ad (c : CS) (v : Int32) : c_K (cs_ad c v) = c_K c := rfl
theorem cx_K_fi (c : CS) (v : Nat → Nat) : c_K (cs_fi c v) = c_K c := rfl
theorem cx_K_co (c : CS) (v : Nat → Nat) : c_K (cs_co c v) = c_K c := rfl
theorem cx_K_sc (c : CS) (v : Nat → Nat) : c_K (cs_sc c v) = c_K c := rfl
theorem cx_K_ce (c : CS) (v : Nat → Int64) : c_K (cs_ce c v) = c_K c := rfl
theorem cx_K_sz (c : CS) (v : Nat) : c_K (cs_sz c v) = c_K c := rfl
theorem cx_K_tk (c : CS) (v : Nat) : c_K (cs_tk c v) = c_K c := rfl
theorem cx_K_nk (c : CS) (v : Bool) : c_K (cs_nk c v) = c_K c := rfl
theorem cx_K_xo (c : CS) (v : Bool) : c_K (cs_xo c v) = c_K c := rfl
theorem cx_on_S (c : CS) (v : Nat → Int64) : c_on (cs_S c v) = c_on c := rfl
theorem cx_on_K (c : CS) (v : Nat → Int64) : c_on (cs_K c v) = c_on c := rfl
theorem cx_on_on (c : CS) (v : Bool) : c_on (cs_on c v) = v := rfl
theorem cx_on_op (c : CS) (v : Bool) : c_on (cs_op c v) = c_on c := rfl
theorem cx_on_fl (c : CS) (v : Int32) : c_on (cs_fl c v) = c_on c := rfl
theorem cx_on_sl (c : CS) (v : Int32) : c_on (cs_sl c v) = c_on c := rfl
theorem cx_on_au (c : CS) (v : Nat) : c_on (cs_au c v) = c_on c := rfl
theorem cx_on_mk (c : CS) (v : Int64) : c_on (cs_mk c v) = c_on c := rfl
theorem cx_on_ad (c : CS) (v : Int32) : c_on (cs_ad c v) = c_on c := rfl
theorem cx_on_fi (c : CS) (v : Nat → Nat) : c_on (cs_fi c v) = c_on c := rfl
theorem cx_on_co (c : CS) (v : Nat → Nat) : c_on (cs_co c v) = c_on c := rfl
theorem cx_on_sc (c : CS) (v : Nat → Nat) : c_on (cs_sc c v) = c_on c := rfl
theorem cx_on_ce (c : CS) (v : Nat → Int64) : c_on (cs_ce c v) = c_on c := rfl
theorem cx_on_sz (c : CS) (v : Nat) : c_on (cs_sz c v) = c_on c := rfl
theorem cx_on_tk (c : CS) (v : Nat) : c_on (cs_tk c v) = c_on c := rfl
theorem cx_on_nk (c : CS) (v : Bool) : c_on (cs_nk c v) = c_on c := rfl
theorem cx_on_xo (c : CS) (v : Bool) : c_on (cs_xo c v) = c_on c := rfl
theorem cx_op_S (c : CS) (v : Nat → Int64) : c_op (cs_S c v) = c_op c := rfl
theorem cx_op_K (c : CS) (v : Nat → Int64) : c_op (cs_K c v) = c_op c := rfl
theorem cx_op_on (c : CS) (v : Bool) : c_op (cs_on c v) = c_op c := rfl
theorem cx_op_op (c : CS) (v : Bool) : c_op (cs_op c v) = v := rfl
theorem cx_op_fl (c : CS) (v : Int32) : c_op (cs_fl c v) = c_op c := rfl
theorem cx_op_sl (c : CS) (v : Int32) : c_op (cs_sl c v) = c_op c := rfl
theorem cx_op_au (c : CS) (v : Nat) : c_op (cs_au c v) = c_op c := rfl
theorem cx_op_mk (c : CS) (v : Int64) : c_op (cs_mk c v) = c_op c := rfl
theorem cx_op_ad (c : CS) (v : Int32) : c_op (cs_ad c v) = c_op c := rfl
theorem cx_op_fi (c : CS) (v : Nat → Nat) : c_op (cs_fi c v) = c_op c := rfl
theorem cx_op_co (c : CS) (v : Nat → Nat) : c_op (cs_co c v) = c_op c := rfl
theorem cx_op_sc (c : CS) (v : Nat → Nat) : c_op (cs_sc c v) = c_op c := rfl
theorem cx_op_ce (c : CS) (v : Nat → Int64) : c_op (cs_ce c v) = c_op c := rfl
theorem cx_op_sz (c : CS) (v : Nat) : c_op (cs_sz c v) = c_op c := rfl
theorem cx_op_tk (c : CS) (v : Nat) : c_op (cs_tk c v) = c_op c := rfl
theorem cx_op_nk (c : CS) (v : Bool) : c_op (cs_nk c v) = c_op c := rfl
theorem cx_op_xo (c : CS) (v : Bool) : c_op (cs_xo c v) = c_op c := rfl
theorem cx_fl_S (c : CS) (v : Nat → Int64) : c_fl (cs_S c v) = c_fl c := rfl
theorem cx_fl_K (c : CS) (v : Nat → Int64) : c_fl (cs_K c v) = c_fl c := rfl
theorem cx_fl_on (c : CS) (v : Bool) : c_fl (cs_on c v) = c_fl c := rfl
theorem cx_fl_op (c : CS) (v : Bool) : c_fl (cs_op c v) = c_fl c := rfl
theorem cx_fl_fl (c : CS) (v : Int32) : c_fl (cs_fl c v) = v := rfl
theorem cx_fl_sl (c : CS) (v : Int32) : c_fl (cs_sl c v) = c_fl c := rfl
theorem cx_fl_au (c : CS) (v : Nat) : c_fl (cs_au c v) = c_fl c := rfl
theorem cx_fl_mk (c : CS) (v : Int64) : c_fl (cs_mk c v) = c_fl c := rfl
theorem cx_fl_ad (c : CS) (v : Int32) : c_fl (cs_ad c v) = c_fl c := rfl
theorem cx_fl_fi (c : CS) (v : Nat → Nat) : c_fl (cs_fi c v) = c_fl c := rfl
theorem cx_fl_co (c : CS) (v : Nat → Nat) : c_fl (cs_co c v) = c_fl c := rfl
theorem cx_fl_sc (c : CS) (v : Nat → Nat) : c_fl (cs_sc c v) = c_fl c := rfl
theorem cx_fl_ce (c : CS) (v : Nat → Int64) : c_fl (cs_ce c v) = c_fl c := rfl
theorem cx_fl_sz (c : CS) (v : Nat) : c_fl (cs_sz c v) = c_fl c := rfl
theorem cx_fl_tk (c : CS) (v : Nat) : c_fl (cs_tk c v) = c_fl c := rfl
theorem cx_fl_nk (c : CS) (v : Bool) : c_fl (cs_nk c v) = c_fl c := rfl
theorem cx_fl_xo (c : CS) (v : Bool) : c_fl (cs_xo c v) = c_fl c := rfl
theorem cx_sl_S (c : CS) (v : Nat → Int64) : c_sl (cs_S c v) = c_sl c := rfl
theorem cx_sl_K (c : CS) (v : Nat → Int64) : c_sl (cs_K c v) = c_sl c := rfl
theorem cx_sl_on (c : CS) (v : Bool) : c_sl (cs_on c v) = c_sl c := rfl
theorem cx_sl_op (c : CS) (v : Bool) : c_sl (cs_op c v) = c_sl c := rfl
theorem cx_sl_fl (c : CS) (v : Int32) : c_sl (cs_fl c v) = c_sl c := rfl
theorem cx_sl_sl (c : CS) (v : Int32) : c_sl (cs_sl c v) = v := rfl
theorem cx_sl_au (c : CS) (v : Nat) : c_sl (cs_au c v) = c_sl c := rfl
theorem cx_sl_mk (c : CS) (v : Int64) : c_sl (cs_mk c v) = c_sl c := rfl
theorem cx_sl_ad (c : CS) (v : Int32) : c_sl (cs_ad c v) = c_sl c := rfl
theorem cx_sl_fi (c : CS) (v : Nat → Nat) : c_sl (cs_fi c v) = c_sl c := rfl
theorem cx_sl_co (c : CS) (v : Nat → Nat) : c_sl (cs_co c v) = c_sl c := rfl
theorem cx_sl_sc (c : CS) (v : Nat → Nat) : c_sl (cs_sc c v) = c_sl c := rfl
theorem cx_sl_ce (c : CS) (v : Nat → Int64) : c_sl (cs_ce c v) = c_sl c := rfl
theorem cx_sl_sz (c : CS) (v : Nat) : c_sl (cs_sz c v) = c_sl c := rfl
theorem cx_sl_tk (c : CS) (v : Nat) : c_sl (cs_tk c v) = c_sl c := rfl
theorem cx_sl_nk (c : CS) (v : Bool) : c_sl (cs_nk c v) = c_sl c := rfl
theorem cx_sl_xo (c : CS) (v : Bool) : c_sl (cs_xo c v) = c_sl c := rfl
theorem cx_au_S (c : CS) (v : Nat → Int64) : c_au (cs_S c v) = c_au c := rfl
theorem cx_au_K (c : CS) (v : Nat → Int64) : c_au (cs_K c v) = c_au c := rfl
theorem cx_au_on (c : CS) (v : Bool) : c_au (cs_on c v) = c_au c := rfl
theorem cx_au_op (c : CS) (v : Bool) : c_au (cs_op c v) = c_au c := rfl
theorem cx_au_fl (c : CS) (v : Int32) : c_au (cs_fl c v) = c_au c := rfl
theorem cx_au_sl (c : CS) (v : Int32) : c_au (cs_sl c v) = c_au c := rfl
theorem cx_au_au (c : CS) (v : Nat) : c_au (cs_au c v) = v := rfl
theorem cx_au_mk (c : CS) (v : Int64) : c_au (cs_mk c v) = c_au c := rfl
theorem cx_au_ad (c : CS) (v : Int32) : c_au (cs_ad c v) = c_au c := rfl
theorem cx_au_fi (c : CS) (v : Nat → Nat) : c_au (cs_fi c v) = c_au c := rfl
theorem cx_au_co (c : CS) (v : Nat → Nat) : c_au (cs_co c v) = c_au c := rfl
theorem cx_au_sc (c : CS) (v : Nat → Nat) : c_au (cs_sc c v) = c_au c := rfl
theorem cx_au_ce (c : CS) (v : Nat → Int64) : c_au (cs_ce c v) = c_au c := rfl
theorem cx_au_sz (c : CS) (v : Nat) : c_au (cs_sz c v) = c_au c := rfl
theorem cx_au_tk (c : CS) (v : Nat) : c_au (cs_tk c v) = c_au c := rfl
theorem cx_au_nk (c : CS) (v : Bool) : c_au (cs_nk c v) = c_au c := rfl
theorem cx_au_xo (c : CS) (v : Bool) : c_au (cs_xo c v) = c_au c := rfl
theorem cx_mk_S (c : CS) (v : Nat → Int64) : c_mk (cs_S c v) = c_mk c := rfl
theorem cx_mk_K (c : CS) (v : Nat → Int64) : c_mk (cs_K c v) = c_mk c := rfl
theorem cx_mk_on (c : CS) (v : Bool) : c_mk (cs_on c v) = c_mk c := rfl
theorem cx_mk_op (c : CS) (v : Bool) : c_mk (cs_op c v) = c_mk c := rfl
theorem cx_mk_fl (c : CS) (v : Int32) : c_mk (cs_fl c v) = c_mk c := rfl
theorem cx_mk_sl (c : CS) (v : Int32) : c_mk (cs_sl c v) = c_mk c := rfl
theorem cx_mk_au (c : CS) (v : Nat) : c_mk (cs_au c v) = c_mk c := rfl
theorem cx_mk_mk (c : CS) (v : Int64) : c_mk (cs_mk c v) = v := rfl
theorem cx_mk_ad (c : CS) (v : Int32) : c_mk (cs_ad c v) = c_mk c := rfl
theorem cx_mk_fi (c : CS) (v : Nat → Nat) : c_mk (cs_fi c v) = c_mk c := rfl
theorem cx_mk_co (c : CS) (v : Nat → Nat) : c_mk (cs_co c v) = c_mk c := rfl
theorem cx_mk_sc (c : CS) (v : Nat → Nat) : c_mk (cs_sc c v) = c_mk c := rfl
theorem cx_mk_ce (c : CS) (v : Nat → Int64) : c_mk (cs_ce c v) = c_mk c := rfl
theorem cx_mk_sz (c : CS) (v : Nat) : c_mk (cs_sz c v) = c_mk c := rfl
theorem cx_mk_tk (c : CS) (v : Nat) : c_mk (cs_tk c v) = c_mk c := rfl
theorem cx_mk_nk (c : CS) (v : Bool) : c_mk (cs_nk c v) = c_mk c := rfl
theorem cx_mk_xo (c : CS) (v : Bool) : c_mk (cs_xo c v) = c_mk c := rfl
theorem cx_ad_S (c : CS) (v : Nat → Int64) : c_ad (cs_S c v) = c_ad c := rfl
theorem cx_ad_K (c : CS) (v : Nat → Int64) : c_ad (cs_K c v) = c_ad c := rfl
theorem cx_ad_on (c : CS) (v : Bool) : c_ad (cs_on c v) = c_ad c := rfl
theorem cx_ad_op (c : CS) (v : Bool) : c_ad (cs_op c v) = c_ad c := rfl
theorem cx_ad_fl (c : CS) (v : Int32) : c_ad (cs_fl c v) = c_ad c := rfl
theorem cx_ad_sl (c : CS) (v : Int32) : c_ad (cs_sl c v) = c_ad c := rfl
theorem cx_ad_au (c : CS) (v : Nat) : c_ad (cs_au c v) = c_ad c := rfl
theorem cx_ad_mk (c : CS) (v : Int64) : c_ad (cs_mk c v) = c_ad c := rfl
theorem cx_ad_ad (c : CS) (v : Int32) : c_ad (cs_ad c v) = v := rfl
theorem cx_ad_fi (c : CS) (v : Nat → Nat) : c_ad (cs_fi c v) = c_ad c := rfl
theorem cx_ad_co (c : CS) (v : Nat → Nat) : c_ad (cs_co c v) = c_ad c := rfl
theorem cx_ad_sc (c : CS) (v : Nat → Nat) : c_ad (cs_sc c v) = c_ad c := rfl
theorem cx_ad_ce (c : CS) (v : Nat → Int64) : c_ad (cs_ce c v) = c_ad c := rfl
theorem cx_ad_sz (c : CS) (v : Nat) : c_ad (cs_sz c v) = c_ad c := rfl
theorem cx_ad_tk (c : CS) (v : Nat) : c_ad (cs_tk c v) = c_ad c := rfl
theorem cx_ad_nk (c : CS) (v : Bool) : c_ad (cs_nk c v) = c_ad c := rfl
theorem cx_ad_xo (c : CS) (v : Bool) : c_ad (cs_xo c v) = c_ad c := rfl
theorem cx_fi_S (c : CS) (v : Nat → Int64) : c_fi (cs_S c v) = c_fi c := rfl
theorem cx_fi_K (c : CS) (v : Nat → Int64) : c_fi (cs_K c v) = c_fi c := rfl
theorem cx_fi_on (c : CS) (v : Bool) : c_fi (cs_on c v) = c_fi c := rfl
theorem cx_fi_op (c : CS) (v : Bool) : c_fi (cs_op c v) = c_fi c := rfl
theorem cx_fi_fl (c : CS) (v : Int32) : c_fi (cs_fl c v) = c_fi c := rfl
theorem cx_fi_sl (c : CS) (v : Int32) : c_fi (cs_sl c v) = c_fi c := rfl
theorem cx_fi_au (c : CS) (v : Nat) : c_fi (cs_au c v) = c_fi c := rfl
theorem cx_fi_mk (c : CS) (v : Int64) : c_fi (cs_mk c v) = c_fi c := rfl
theorem cx_fi_ad (c : CS) (v : Int32) : c_fi (cs_ad c v) = c_fi c := rfl
theorem cx_fi_fi (c : CS) (v : Nat → Nat) : c_fi (cs_fi c v) = v := rfl
theorem cx_fi_co (c : CS) (v : Nat → Nat) : c_fi (cs_co c v) = c_fi c := rfl
theorem cx_fi_sc (c : CS) (v : Nat → Nat) : c_fi (cs_sc c v) = c_fi c := rfl
theorem cx_fi_ce (c : CS) (v : Nat → Int64) : c_fi (cs_ce c v) = c_fi c := rfl
theorem cx_fi_sz (c : CS) (v : Nat) : c_fi (cs_sz c v) = c_fi c := rfl
theorem cx_fi_tk (c : CS) (v : Nat) : c_fi (cs_tk c v) = c_fi c := rfl
theorem cx_fi_nk (c : CS) (v : Bool) : c_fi (cs_nk c v) = c_fi c := rfl
theorem cx_fi_xo (c : CS) (v : Bool) : c_fi (cs_xo c v) = c_fi c := rfl
theorem cx_co_S (c : CS) (v : Nat → Int64) : c_co (cs_S c v) = c_co c := rfl
theorem cx_co_K (c : CS) (v : Nat → Int64) : c_co (cs_K c v) = c_co c := rfl
theorem cx_co_on (c : CS) (v : Bool) : c_co (cs_on c v) = c_co c := rfl
theorem cx_co_op (c : CS) (v : Bool) : c_co (cs_op c v) = c_co c := rfl
theorem cx_co_fl (c : CS) (v : Int32) : c_co (cs_fl c v) = c_co c := rfl
theorem cx_co_sl (c : CS) (v : Int32) : c_co (cs_sl c v) = c_co c := rfl
theorem cx_co_au (c : CS) (v : Nat) : c_co (cs_au c v) = c_co c := rfl
theorem cx_co_mk (c : CS) (v : Int64) : c_co (cs_mk c v) = c_co c := rfl
theorem cx_co_ad (c : CS) (v : Int32) : c_co (cs_ad c v) = c_co c := rfl
theorem cx_co_fi (c : CS) (v : Nat → Nat) : c_co (cs_fi c v) = c_co c := rfl
theorem cx_co_co (c : CS) (v : Nat → Nat) : c_co (cs_co c v) = v := rfl
theorem cx_co_sc (c : CS) (v : Nat → Nat) : c_co (cs_sc c v) = c_co c := rfl
theorem cx_co_ce (c : CS) (v : Nat → Int64) : c_co (cs_ce c v) = c_co c := rfl
theorem cx_co_sz (c : CS) (v : Nat) : c_co (cs_sz c v) = c_co c := rfl
theorem cx_co_tk (c : CS) (v : Nat) : c_co (cs_tk c v) = c_co c := rfl
theorem cx_co_nk (c : CS) (v : Bool) : c_co (cs_nk c v) = c_co c := rfl
theorem cx_co_xo (c : CS) (v : Bool) : c_co (cs_xo c v) = c_co c := rfl
theorem cx_sc_S (c : CS) (v : Nat → Int64) : c_sc (cs_S c v) = c_sc c := rfl
theorem cx_sc_K (c : CS) (v : Nat → Int64) : c_sc (cs_K c v) = c_sc c := rfl
theorem cx_sc_on (c : CS) (v : Bool) : c_sc (cs_on c v) = c_sc c := rfl
theorem cx_sc_op (c : CS) (v : Bool) : c_sc (cs_op c v) = c_sc c := rfl
theorem cx_sc_fl (c : CS) (v : Int32) : c_sc (cs_fl c v) = c_sc c := rfl
theorem cx_sc_sl (c : CS) (v : Int32) : c_sc (cs_sl c v) = c_sc c := rfl
theorem cx_sc_au (c : CS) (v : Nat) : c_sc (cs_au c v) = c_sc c := rfl
theorem cx_sc_mk (c : CS) (v : Int64) : c_sc (cs_mk c v) = c_sc c := rfl
theorem cx_sc_ad (c : CS) (v : Int32) : c_sc (cs_ad c v) = c_sc c := rfl
theorem cx_sc_fi (c : CS) (v : Nat → Nat) : c_sc (cs_fi c v) = c_sc c := rfl
theorem cx_sc_co (c : CS) (v : Nat → Nat) : c_sc (cs_co c v) = c_sc c := rfl
theorem cx_sc_sc (c : CS) (v : Nat → Nat) : c_sc (cs_sc c v) = v := rfl
theorem cx_sc_ce (c : CS) (v : Nat → Int64) : c_sc (cs_ce c v) = c_sc c := rfl
theorem cx_sc_sz (c : CS) (v : Nat) : c_sc (cs_sz c v) = c_sc c := rfl
theorem cx_sc_tk (c : CS) (v : Nat) : c_sc (cs_tk c v) = c_sc c := rfl
theorem cx_sc_nk (c : CS) (v : Bool) : c_sc (cs_nk c v) = c_sc c := rfl
theorem cx_sc_xo (c : CS) (v : Bool) : c_sc (cs_xo c v) = c_sc c := rfl
theorem cx_ce_S (c : CS) (v : Nat → Int64) : c_ce (cs_S c v) = c_ce c := rfl
theorem cx_ce_K (c : CS) (v : Nat → Int64) : c_ce (cs_K c v) = c_ce c := rfl
theorem cx_ce_on (c : CS) (v : Bool) : c_ce (cs_on c v) = c_ce c := rfl
theorem cx_ce_op (c : CS) (v : Bool) : c_ce (cs_op c v) = c_ce c := rfl
theorem cx_ce_fl (c : CS) (v : Int32) : c_ce (cs_fl c v) = c_ce c := rfl
theorem cx_ce_sl (c : CS) (v : Int32) : c_ce (cs_sl c v) = c_ce c := rfl
theorem cx_ce_au (c : CS) (v : Nat) : c_ce (cs_au c v) = c_ce c := rfl
theorem cx_ce_mk (c : CS) (v : Int64) : c_ce (cs_mk c v) = c_ce c := rfl
theorem cx_ce_ad (c : CS) (v : Int32) : c_ce (cs_ad c v) = c_ce c := rfl
theorem cx_ce_fi (c : CS) (v : Nat → Nat) : c_ce (cs_fi c v) = c_ce c := rfl
theorem cx_ce_co (c : CS) (v : Nat → Nat) : c_ce (cs_co c v) = c_ce c := rfl
theorem cx_ce_sc (c : CS) (v : Nat → Nat) : c_ce (cs_sc c v) = c_ce c := rfl
theorem cx_ce_ce (c : CS) (v : Nat → Int64) : c_ce (cs_ce c v) = v := rfl
theorem cx_ce_sz (c : CS) (v : Nat) : c_ce (cs_sz c v) = c_ce c := rfl
theorem cx_ce_tk (c : CS) (v : Nat) : c_ce (cs_tk c v) = c_ce c := rfl
theorem cx_ce_nk (c : CS) (v : Bool) : c_ce (cs_nk c v) = c_ce c := rfl
theorem cx_ce_xo (c : CS) (v : Bool) : c_ce (cs_xo c v) = c_ce c := rfl
theorem cx_sz_S (c : CS) (v : Nat → Int64) : c_sz (cs_S c v) = c_sz c := rfl
theorem cx_sz_K (c : CS) (v : Nat → Int64) : c_sz (cs_K c v) = c_sz c := rfl
theorem cx_sz_on (c : CS) (v : Bool) : c_sz (cs_on c v) = c_sz c := rfl
theorem cx_sz_op (c : CS) (v : Bool) : c_sz (cs_op c v) = c_sz c := rfl
theorem cx_sz_fl (c : CS) (v : Int32) : c_sz (cs_fl c v) = c_sz c := rfl
theorem cx_sz_sl (c : CS) (v : Int32) : c_sz (cs_sl c v) = c_sz c := rfl
theorem cx_sz_au (c : CS) (v : Nat) : c_sz (cs_au c v) = c_sz c := rfl
theorem cx_sz_mk (c : CS) (v : Int64) : c_sz (cs_mk c v) = c_sz c := rfl
theorem cx_sz_ad (c : CS) (v : Int32) : c_sz (cs_ad c v) = c_sz c := rfl
theorem cx_sz_fi (c : CS) (v : Nat → Nat) : c_sz (cs_fi c v) = c_sz c := rfl
theorem cx_sz_co (c : CS) (v : Nat → Nat) : c_sz (cs_co c v) = c_sz c := rfl
theorem cx_sz_sc (c : CS) (v : Nat → Nat) : c_sz (cs_sc c v) = c_sz c := rfl
theorem cx_sz_ce (c : CS) (v : Nat → Int64) : c_sz (cs_ce c v) = c_sz c := rfl
theorem cx_sz_sz (c : CS) (v : Nat) : c_sz (cs_sz c v) = v := rfl
theorem cx_sz_tk (c : CS) (v : Nat) : c_sz (cs_tk c v) = c_sz c := rfl
theorem cx_sz_nk (c : CS) (v : Bool) : c_sz (cs_nk c v) = c_sz c := rfl
theorem cx_sz_xo (c : CS) (v : Bool) : c_sz (cs_xo c v) = c_sz c := rfl
theorem cx_tk_S (c : CS) (v : Nat → Int64) : c_tk (cs_S c v) = c_tk c := rfl
theorem cx_tk_K (c : CS) (v : Nat → Int64) : c_tk (cs_K c v) = c_tk c := rfl
theorem cx_tk_on (c : CS) (v : Bool) : c_tk (cs_on c v) = c_tk c := rfl
theorem cx_tk_op (c : CS) (v : Bool) : c_tk (cs_op c v) = c_tk c := rfl
theorem cx_tk_fl (c : CS) (v : Int32) : c_tk (cs_fl c v) = c_tk c := rfl
theorem cx_tk_sl (c : CS) (v : Int32) : c_tk (cs_sl c v) = c_tk c := rfl
theorem cx_tk_au (c : CS) (v : Nat) : c_tk (cs_au c v) = c_tk c := rfl
theorem cx_tk_mk (c : CS) (v : Int64) : c_tk (cs_mk c v) = c_tk c := rfl
theorem cx_tk_ad (c : CS) (v : Int32) : c_tk (cs_ad c v) = c_tk c := rfl
theorem cx_tk_fi (c : CS) (v : Nat → Nat) : c_tk (cs_fi c v) = c_tk c := rfl
theorem cx_tk_co (c : CS) (v : Nat → Nat) : c_tk (cs_co c v) = c_tk c := rfl
theorem cx_tk_sc (c : CS) (v : Nat → Nat) : c_tk (cs_sc c v) = c_tk c := rfl
theorem cx_tk_ce (c : CS) (v : Nat → Int64) : c_tk (cs_ce c v) = c_tk c := rfl
theorem cx_tk_sz (c : CS) (v : Nat) : c_tk (cs_sz c v) = c_tk c := rfl
theorem cx_tk_tk (c : CS) (v : Nat) : c_tk (cs_tk c v) = v := rfl
theorem cx_tk_nk (c : CS) (v : Bool) : c_tk (cs_nk c v) = c_tk c := rfl
theorem cx_tk_xo (c : CS) (v : Bool) : c_tk (cs_xo c v) = c_tk c := rfl
theorem cx_nk_S (c : CS) (v : Nat → Int64) : c_nk (cs_S c v) = c_nk c := rfl
theorem cx_nk_K (c : CS) (v : Nat → Int64) : c_nk (cs_K c v) = c_nk c := rfl
theorem cx_nk_on (c : CS) (v : Bool) : c_nk (cs_on c v) = c_nk c := rfl
theorem cx_nk_op (c : CS) (v : Bool) : c_nk (cs_op c v) = c_nk c := rfl
theorem cx_nk_fl (c : CS) (v : Int32) : c_nk (cs_fl c v) = c_nk c := rfl
theorem cx_nk_sl (c : CS) (v : Int32) : c_nk (cs_sl c v) = c_nk c := rfl
theorem cx_nk_au (c : CS) (v : Nat) : c_nk (cs_au c v) = c_nk c := rfl
theorem cx_nk_mk (c : CS) (v : Int64) : c_nk (cs_mk c v) = c_nk c := rfl
theorem cx_nk_ad (c : CS) (v : Int32) : c_nk (cs_ad c v) = c_nk c := rfl
theorem cx_nk_fi (c : CS) (v : Nat → Nat) : c_nk (cs_fi c v) = c_nk c := rfl
theorem cx_nk_co (c : CS) (v : Nat → Nat) : c_nk (cs_co c v) = c_nk c := rfl
theorem cx_nk_sc (c : CS) (v : Nat → Nat) : c_nk (cs_sc c v) = c_nk c := rfl
theorem cx_nk_ce (c : CS) (v : Nat → Int64) : c_nk (cs_ce c v) = c_nk c := rfl
theorem cx_nk_sz (c : CS) (v : Nat) : c_nk (cs_sz c v) = c_nk c := rfl
theorem cx_nk_tk (c : CS) (v : Nat) : c_nk (cs_tk c v) = c_nk c := rfl
theorem cx_nk_nk (c : CS) (v : Bool) : c_nk (cs_nk c v) = v := rfl
theorem cx_nk_xo (c : CS) (v : Bool) : c_nk (cs_xo c v) = c_nk c := rfl
theorem cx_xo_S (c : CS) (v : Nat → Int64) : c_xo (cs_S c v) = c_xo c := rfl
theorem cx_xo_K (c : CS) (v : Nat → Int64) : c_xo (cs_K c v) = c_xo c := rfl
theorem cx_xo_on (c : CS) (v : Bool) : c_xo (cs_on c v) = c_xo c := rfl
theorem cx_xo_op (c : CS) (v : Bool) : c_xo (cs_op c v) = c_xo c := rfl
theorem cx_xo_fl (c : CS) (v : Int32) : c_xo (cs_fl c v) = c_xo c := rfl
theorem cx_xo_sl (c : CS) (v : Int32) : c_xo (cs_sl c v) = c_xo c := rfl
theorem cx_xo_au (c : CS) (v : Nat) : c_xo (cs_au c v) = c_xo c := rfl
theorem cx_xo_mk (c : CS) (v : Int64) : c_xo (cs_mk c v) = c_xo c := rfl
theorem cx_xo_ad (c : CS) (v : Int32) : c_xo (cs_ad c v) = c_xo c := rfl
theorem cx_xo_fi (c : CS) (v : Nat → Nat) : c_xo (cs_fi c v) = c_xo c := rfl
theorem cx_xo_co (c : CS) (v : Nat → Nat) : c_xo (cs_co c v) = c_xo c := rfl
theorem cx_xo_sc (c : CS) (v : Nat → Nat) : c_xo (cs_sc c v) = c_xo c := rfl
theorem cx_xo_ce (c : CS) (v : Nat → Int64) : c_xo (cs_ce c v) = c_xo c := rfl
theorem cx_xo_sz (c : CS) (v : Nat) : c_xo (cs_sz c v) = c_xo c := rfl
theorem cx_xo_tk (c : CS) (v : Nat) : c_xo (cs_tk c v) = c_xo c := rfl
theorem cx_xo_nk (c : CS) (v : Bool) : c_xo (cs_nk c v) = c_xo c := rfl
theorem cx_xo_xo (c : CS) (v : Bool) : c_xo (cs_xo c v) = v := rfl
theorem rx_S_S (c : RS) (v : Nat → Int64) : r_S (rs_S c v) = v := rfl
theorem rx_S_K (c : RS) (v : Nat → Int64) : r_S (rs_K c v) = r_S c := rfl
theorem rx_S_fl (c : RS) (v : Nat → Bool) : r_S (rs_fl c v) = r_S c := rfl
theorem rx_S_rc (c : RS) (v : Nat) : r_S (rs_rc c v) = r_S c := rfl
theorem rx_S_fi (c : RS) (v : Nat → Nat) : r_S (rs_fi c v) = r_S c := rfl
theorem rx_S_ma (c : RS) (v : Nat → Nat) : r_S (rs_ma c v) = r_S c := rfl
theorem rx_S_fr (c : RS) (v : Nat → Nat) : r_S (rs_fr c v) = r_S c := rfl
theorem rx_S_st (c : RS) (v : Nat → Nat) : r_S (rs_st c v) = r_S c := rfl
theorem rx_S_ol (c : RS) (v : Nat → Int64) : r_S (rs_ol c v) = r_S c := rfl
theorem rx_S_of (c : RS) (v : Bool) : r_S (rs_of c v) = r_S c := rfl
theorem rx_S_op (c : RS) (v : Bool) : r_S (rs_op c v) = r_S c := rfl
theorem rx_S_to (c : RS) (v : Nat → Bool) : r_S (rs_to c v) = r_S c := rfl
theorem rx_S_ar (c : RS) (v : Nat) : r_S (rs_ar c v) = r_S c := rfl
theorem rx_S_mk (c : RS) (v : Int64) : r_S (rs_mk c v) = r_S c := rfl
theorem rx_S_me (c : RS) (v : Int32) : r_S (rs_me c v) = r_S c := rfl
theorem rx_S_ac (c : RS) (v : Nat) : r_S (rs_ac c v) = r_S c := rfl
theorem rx_S_an (c : RS) (v : Nat → Nat) : r_S (rs_an c v) = r_S c := rfl
theorem rx_S_on (c : RS) (v : Nat → Nat) : r_S (rs_on c v) = r_S c := rfl
theorem rx_S_wi (c : RS) (v : Nat → Int64) : r_S (rs_wi c v) = r_S c := rfl
theorem rx_K_S (c : RS) (v : Nat → Int64) : r_K (rs_S c v) = r_K c := rfl
theorem rx_K_K (c : RS) (v : Nat → Int64) : r_K (rs_K c v) = v := rfl
theorem rx_K_fl (c : RS) (v : Nat → Bool) : r_K (rs_fl c v) = r_K c := rfl
theorem rx_K_rc (c : RS) (v : Nat) : r_K (rs_rc c v) = r_K c := rfl
theorem rx_K_fi (c : RS) (v : Nat → Nat) : r_K (rs_fi c v) = r_K c := rfl
theorem rx_K_ma (c : RS) (v : Nat → Nat) : r_K (rs_ma c v) = r_K c := rfl
theorem rx_K_fr (c : RS) (v : Nat → Nat) : r_K (rs_fr c v) = r_K c := rfl
theorem rx_K_st (c : RS) (v : Nat → Nat) : r_K (rs_st c v) = r_K c := rfl
theorem rx_K_ol (c : RS) (v : Nat → Int64) : r_K (rs_ol c v) = r_K c := rfl
theorem rx_K_of (c : RS) (v : Bool) : r_K (rs_of c v) = r_K c := rfl
theorem rx_K_op (c : RS) (v : Bool) : r_K (rs_op c v) = r_K c := rfl
theorem rx_K_to (c : RS) (v : Nat → Bool) : r_K (rs_to c v) = r_K c := rfl
theorem rx_K_ar (c : RS) (v : Nat) : r_K (rs_ar c v) = r_K c := rfl
theorem rx_K_mk (c : RS) (v : Int64) : r_K (rs_mk c v) = r_K c := rfl
theorem rx_K_me (c : RS) (v : Int32) : r_K (rs_me c v) = r_K c := rfl
theorem rx_K_ac (c : RS) (v : Nat) : r_K (rs_ac c v) = r_K c := rfl
theorem rx_K_an (c : RS) (v : Nat → Nat) : r_K (rs_an c v) = r_K c := rfl
theorem rx_K_on (c : RS) (v : Nat → Nat) : r_K (rs_on c v) = r_K c := rfl
theorem rx_K_wi (c : RS) (v : Nat → Int64) : r_K (rs_wi c v) = r_K c := rfl
theorem rx_fl_S (c : RS) (v : Nat → Int64) : r_fl (rs_S c v) = r_fl c := rfl
theorem rx_fl_K (c : RS) (v : Nat → Int64) : r_fl (rs_K c v) = r_fl c := rfl
theorem rx_fl_fl (c : RS) (v : Nat → Bool) : r_fl (rs_fl c v) = v := rfl
theorem rx_fl_rc (c : RS) (v : Nat) : r_fl (rs_rc c v) = r_fl c := rfl
theorem rx_fl_fi (c : RS) (v : Nat → Nat) : r_fl (rs_fi c v) = r_fl c := rfl
theorem rx_fl_ma (c : RS) (v : Nat → Nat) : r_fl (rs_ma c v) = r_fl c := rfl
theorem rx_fl_fr (c : RS) (v : Nat → Nat) : r_fl (rs_fr c v) = r_fl c := rfl
theorem rx_fl_st (c : RS) (v : Nat → Nat) : r_fl (rs_st c v) = r_fl c := rfl
theorem rx_fl_ol (c : RS) (v : Nat → Int64) : r_fl (rs_ol c v) = r_fl c := rfl
theorem rx_fl_of (c : RS) (v : Bool) : r_fl (rs_of c v) = r_fl c := rfl
theorem rx_fl_op (c : RS) (v : Bool) : r_fl (rs_op c v) = r_fl c := rfl
theorem rx_fl_to (c : RS) (v : Nat → Bool) : r_fl (rs_to c v) = r_fl c := rfl
theorem rx_fl_ar (c : RS) (v : Nat) : r_fl (rs_ar c v) = r_fl c := rfl
theorem rx_fl_mk (c : RS) (v : Int64) : r_fl (rs_mk c v) = r_fl c := rfl
theorem rx_fl_me (c : RS) (v : Int32) : r_fl (rs_me c v) = r_fl c := rfl
theorem rx_fl_ac (c : RS) (v : Nat) : r_fl (rs_ac c v) = r_fl c := rfl
theorem rx_fl_an (c : RS) (v : Nat → Nat) : r_fl (rs_an c v) = r_fl c := rfl
theorem rx_fl_on (c : RS) (v : Nat → Nat) : r_fl (rs_on c v) = r_fl c := rfl
theorem rx_fl_wi (c : RS) (v : Nat → Int64) : r_fl (rs_wi c v) = r_fl c := rfl
theorem rx_rc_S (c : RS) (v : Nat → Int64) : r_rc (rs_S c v) = r_rc c := rfl
theorem rx_rc_K (c : RS) (v : Nat → Int64) : r_rc (rs_K c v) = r_rc c := rfl
theorem rx_rc_fl (c : RS) (v : Nat → Bool) : r_rc (rs_fl c v) = r_rc c := rfl
theorem rx_rc_rc (c : RS) (v : Nat) : r_rc (rs_rc c v) = v := rfl
theorem rx_rc_fi (c : RS) (v : Nat → Nat) : r_rc (rs_fi c v) = r_rc c := rfl
theorem rx_rc_ma (c : RS) (v : Nat → Nat) : r_rc (rs_ma c v) = r_rc c := rfl
theorem rx_rc_fr (c : RS) (v : Nat → Nat) : r_rc (rs_fr c v) = r_rc c := rfl
theorem rx_rc_st (c : RS) (v : Nat → Nat) : r_rc (rs_st c v) = r_rc c := rfl
theorem rx_rc_ol (c : RS) (v : Nat → Int64) : r_rc (rs_ol c v) = r_rc c := rfl
theorem rx_rc_of (c : RS) (v : Bool) : r_rc (rs_of c v) = r_rc c := rfl
theorem rx_rc_op (c : RS) (v : Bool) : r_rc (rs_op c v) = r_rc c := rfl
theorem rx_rc_to (c : RS) (v : Nat → Bool) : r_rc (rs_to c v) = r_rc c := rfl
theorem rx_rc_ar (c : RS) (v : Nat) : r_rc (rs_ar c v) = r_rc c := rfl
theorem rx_rc_mk (c : RS) (v : Int64) : r_rc (rs_mk c v) = r_rc c := rfl
theorem rx_rc_me (c : RS) (v : Int32) : r_rc (rs_me c v) = r_rc c := rfl
theorem rx_rc_ac (c : RS) (v : Nat) : r_rc (rs_ac c v) = r_rc c := rfl
theorem rx_rc_an (c : RS) (v : Nat → Nat) : r_rc (rs_an c v) = r_rc c := rfl
theorem rx_rc_on (c : RS) (v : Nat → Nat) : r_rc (rs_on c v) = r_rc c := rfl
theorem rx_rc_wi (c : RS) (v : Nat → Int64) : r_rc (rs_wi c v) = r_rc c := rfl
theorem rx_fi_S (c : RS) (v : Nat → Int64) : r_fi (rs_S c v) = r_fi c := rfl
theorem rx_fi_K (c : RS) (v : Nat → Int64) : r_fi (rs_K c v) = r_fi c := rfl
theorem rx_fi_fl (c : RS) (v : Nat → Bool) : r_fi (rs_fl c v) = r_fi c := rfl
theorem rx_fi_rc (c : RS) (v : Nat) : r_fi (rs_rc c v) = r_fi c := rfl
theorem rx_fi_fi (c : RS) (v : Nat → Nat) : r_fi (rs_fi c v) = v := rfl
theorem rx_fi_ma (c : RS) (v : Nat → Nat) : r_fi (rs_ma c v) = r_fi c := rfl
theorem rx_fi_fr (c : RS) (v : Nat → Nat) : r_fi (rs_fr c v) = r_fi c := rfl
theorem rx_fi_st (c : RS) (v : Nat → Nat) : r_fi (rs_st c v) = r_fi c := rfl
theorem rx_fi_ol (c : RS) (v : Nat → Int64) : r_fi (rs_ol c v) = r_fi c := rfl
theorem rx_fi_of (c : RS) (v : Bool) : r_fi (rs_of c v) = r_fi c := rfl
theorem rx_fi_op (c : RS) (v : Bool) : r_fi (rs_op c v) = r_fi c := rfl
theorem rx_fi_to (c : RS) (v : Nat → Bool) : r_fi (rs_to c v) = r_fi c := rfl
theorem rx_fi_ar (c : RS) (v : Nat) : r_fi (rs_ar c v) = r_fi c := rfl
theorem rx_fi_mk (c : RS) (v : Int64) : r_fi (rs_mk c v) = r_fi c := rfl
theorem rx_fi_me (c : RS) (v : Int32) : r_fi (rs_me c v) = r_fi c := rfl
theorem rx_fi_ac (c : RS) (v : Nat) : r_fi (rs_ac c v) = r_fi c := rfl
theorem rx_fi_an (c : RS) (v : Nat → Nat) : r_fi (rs_an c v) = r_fi c := rfl
theorem rx_fi_on (c : RS) (v : Nat → Nat) : r_fi (rs_on c v) = r_fi c := rfl
theorem rx_fi_wi (c : RS) (v : Nat → Int64) : r_fi (rs_wi c v) = r_fi c := rfl
theorem rx_ma_S (c : RS) (v : Nat → Int64) : r_ma (rs_S c v) = r_ma c := rfl
theorem rx_ma_K (c : RS) (v : Nat → Int64) : r_ma (rs_K c v) = r_ma c := rfl
theorem rx_ma_fl (c : RS) (v : Nat → Bool) : r_ma (rs_fl c v) = r_ma c := rfl
theorem rx_ma_rc (c : RS) (v : Nat) : r_ma (rs_rc c v) = r_ma c := rfl
theorem rx_ma_fi (c : RS) (v : Nat → Nat) : r_ma (rs_fi c v) = r_ma c := rfl
theorem rx_ma_ma (c : RS) (v : Nat → Nat) : r_ma (rs_ma c v) = v := rfl
theorem rx_ma_fr (c : RS) (v : Nat → Nat) : r_ma (rs_fr c v) = r_ma c := rfl
theorem rx_ma_st (c : RS) (v : Nat → Nat) : r_ma (rs_st c v) = r_ma c := rfl
theorem rx_ma_ol (c : RS) (v : Nat → Int64) : r_ma (rs_ol c v) = r_ma c := rfl
theorem rx_ma_of (c : RS) (v : Bool) : r_ma (rs_of c v) = r_ma c := rfl
theorem rx_ma_op (c : RS) (v : Bool) : r_ma (rs_op c v) = r_ma c := rfl
theorem rx_ma_to (c : RS) (v : Nat → Bool) : r_ma (rs_to c v) = r_ma c := rfl
theorem rx_ma_ar (c : RS) (v : Nat) : r_ma (rs_ar c v) = r_ma c := rfl
theorem rx_ma_mk (c : RS) (v : Int64) : r_ma (rs_mk c v) = r_ma c := rfl
theorem rx_ma_me (c : RS) (v : Int32) : r_ma (rs_me c v) = r_ma c := rfl
theorem rx_ma_ac (c : RS) (v : Nat) : r_ma (rs_ac c v) = r_ma c := rfl
theorem rx_ma_an (c : RS) (v : Nat → Nat) : r_ma (rs_an c v) = r_ma c := rfl
theorem rx_ma_on (c : RS) (v : Nat → Nat) : r_ma (rs_on c v) = r_ma c := rfl
theorem rx_ma_wi (c : RS) (v : Nat → Int64) : r_ma (rs_wi c v) = r_ma c := rfl
theorem rx_fr_S (c : RS) (v : Nat → Int64) : r_fr (rs_S c v) = r_fr c := rfl
theorem rx_fr_K (c : RS) (v : Nat → Int64) : r_fr (rs_K c v) = r_fr c := rfl
theorem rx_fr_fl (c : RS) (v : Nat → Bool) : r_fr (rs_fl c v) = r_fr c := rfl
theorem rx_fr_rc (c : RS) (v : Nat) : r_fr (rs_rc c v) = r_fr c := rfl
theorem rx_fr_fi (c : RS) (v : Nat → Nat) : r_fr (rs_fi c v) = r_fr c := rfl
theorem rx_fr_ma (c : RS) (v : Nat → Nat) : r_fr (rs_ma c v) = r_fr c := rfl
theorem rx_fr_fr (c : RS) (v : Nat → Nat) : r_fr (rs_fr c v) = v := rfl
theorem rx_fr_st (c : RS) (v : Nat → Nat) : r_fr (rs_st c v) = r_fr c := rfl
theorem rx_fr_ol (c : RS) (v : Nat → Int64) : r_fr (rs_ol c v) = r_fr c := rfl
theorem rx_fr_of (c : RS) (v : Bool) : r_fr (rs_of c v) = r_fr c := rfl
theorem rx_fr_op (c : RS) (v : Bool) : r_fr (rs_op c v) = r_fr c := rfl
theorem rx_fr_to (c : RS) (v : Nat → Bool) : r_fr (rs_to c v) = r_fr c := rfl
theorem rx_fr_ar (c : RS) (v : Nat) : r_fr (rs_ar c v) = r_fr c := rfl
theorem rx_fr_mk (c : RS) (v : Int64) : r_fr (rs_mk c v) = r_fr c := rfl
theorem rx_fr_me (c : RS) (v : Int32) : r_fr (rs_me c v) = r_fr c := rfl
theorem rx_fr_ac (c : RS) (v : Nat) : r_fr (rs_ac c v) = r_fr c := rfl
theorem rx_fr_an (c : RS) (v : Nat → Nat) : r_fr (rs_an c v) = r_fr c := rfl
theorem rx_fr_on (c : RS) (v : Nat → Nat) : r_fr (rs_on c v) = r_fr c := rfl
theorem rx_fr_wi (c : RS) (v : Nat → Int64) : r_fr (rs_wi c v) = r_fr c := rfl
theorem rx_st_S (c : RS) (v : Nat → Int64) : r_st (rs_S c v) = r_st c := rfl
theorem rx_st_K (c : RS) (v : Nat → Int64) : r_st (rs_K c v) = r_st c := rfl
theorem rx_st_fl (c : RS) (v : Nat → Bool) : r_st (rs_fl c v) = r_st c := rfl
theorem rx_st_rc (c : RS) (v : Nat) : r_st (rs_rc c v) = r_st c := rfl
theorem rx_st_fi (c : RS) (v : Nat → Nat) : r_st (rs_fi c v) = r_st c := rfl
theorem rx_st_ma (c : RS) (v : Nat → Nat) : r_st (rs_ma c v) = r_st c := rfl
theorem rx_st_fr (c : RS) (v : Nat → Nat) : r_st (rs_fr c v) = r_st c := rfl
theorem rx_st_st (c : RS) (v : Nat → Nat) : r_st (rs_st c v) = v := rfl
theorem rx_st_ol (c : RS) (v : Nat → Int64) : r_st (rs_ol c v) = r_st c := rfl
theorem rx_st_of (c : RS) (v : Bool) : r_st (rs_of c v) = r_st c := rfl
theorem rx_st_op (c : RS) (v : Bool) : r_st (rs_op c v) = r_st c := rfl
theorem rx_st_to (c : RS) (v : Nat → Bool) : r_st (rs_to c v) = r_st c := rfl
theorem rx_st_ar (c : RS) (v : Nat) : r_st (rs_ar c v) = r_st c := rfl
theorem rx_st_mk (c : RS) (v : Int64) : r_st (rs_mk c v) = r_st c := rfl
theorem rx_st_me (c : RS) (v : Int32) : r_st (rs_me c v) = r_st c := rfl
theorem rx_st_ac (c : RS) (v : Nat) : r_st (rs_ac c v) = r_st c := rfl
theorem rx_st_an (c : RS) (v : Nat → Nat) : r_st (rs_an c v) = r_st c := rfl
theorem rx_st_on (c : RS) (v : Nat → Nat) : r_st (rs_on c v) = r_st c := rfl
theorem rx_st_wi (c : RS) (v : Nat → Int64) : r_st (rs_wi c v) = r_st c := rfl
theorem rx_ol_S (c : RS) (v : Nat → Int64) : r_ol (rs_S c v) = r_ol c := rfl
theorem rx_ol_K (c : RS) (v : Nat → Int64) : r_ol (rs_K c v) = r_ol c := rfl
theorem rx_ol_fl (c : RS) (v : Nat → Bool) : r_ol (rs_fl c v) = r_ol c := rfl
theorem rx_ol_rc (c : RS) (v : Nat) : r_ol (rs_rc c v) = r_ol c := rfl
theorem rx_ol_fi (c : RS) (v : Nat → Nat) : r_ol (rs_fi c v) = r_ol c := rfl
theorem rx_ol_ma (c : RS) (v : Nat → Nat) : r_ol (rs_ma c v) = r_ol c := rfl
theorem rx_ol_fr (c : RS) (v : Nat → Nat) : r_ol (rs_fr c v) = r_ol c := rfl
theorem rx_ol_st (c : RS) (v : Nat → Nat) : r_ol (rs_st c v) = r_ol c := rfl
theorem rx_ol_ol (c : RS) (v : Nat → Int64) : r_ol (rs_ol c v) = v := rfl
theorem rx_ol_of (c : RS) (v : Bool) : r_ol (rs_of c v) = r_ol c := rfl
theorem rx_ol_op (c : RS) (v : Bool) : r_ol (rs_op c v) = r_ol c := rfl
theorem rx_ol_to (c : RS) (v : Nat → Bool) : r_ol (rs_to c v) = r_ol c := rfl
theorem rx_ol_ar (c : RS) (v : Nat) : r_ol (rs_ar c v) = r_ol c := rfl
theorem rx_ol_mk (c : RS) (v : Int64) : r_ol (rs_mk c v) = r_ol c := rfl
theorem rx_ol_me (c : RS) (v : Int32) : r_ol (rs_me c v) = r_ol c := rfl
theorem rx_ol_ac (c : RS) (v : Nat) : r_ol (rs_ac c v) = r_ol c := rfl
theorem rx_ol_an (c : RS) (v : Nat → Nat) : r_ol (rs_an c v) = r_ol c := rfl
theorem rx_ol_on (c : RS) (v : Nat → Nat) : r_ol (rs_on c v) = r_ol c := rfl
theorem rx_ol_wi (c : RS) (v : Nat → Int64) : r_ol (rs_wi c v) = r_ol c := rfl
theorem rx_of_S (c : RS) (v : Nat → Int64) : r_of (rs_S c v) = r_of c := rfl
theorem rx_of_K (c : RS) (v : Nat → Int64) : r_of (rs_K c v) = r_of c := rfl
theorem rx_of_fl (c : RS) (v : Nat → Bool) : r_of (rs_fl c v) = r_of c := rfl
theorem rx_of_rc (c : RS) (v : Nat) : r_of (rs_rc c v) = r_of c := rfl
theorem rx_of_fi (c : RS) (v : Nat → Nat) : r_of (rs_fi c v) = r_of c := rfl
theorem rx_of_ma (c : RS) (v : Nat → Nat) : r_of (rs_ma c v) = r_of c := rfl
theorem rx_of_fr (c : RS) (v : Nat → Nat) : r_of (rs_fr c v) = r_of c := rfl
theorem rx_of_st (c : RS) (v : Nat → Nat) : r_of (rs_st c v) = r_of c := rfl
theorem rx_of_ol (c : RS) (v : Nat → Int64) : r_of (rs_ol c v) = r_of c := rfl
theorem rx_of_of (c : RS) (v : Bool) : r_of (rs_of c v) = v := rfl
theorem rx_of_op (c : RS) (v : Bool) : r_of (rs_op c v) = r_of c := rfl
theorem rx_of_to (c : RS) (v : Nat → Bool) : r_of (rs_to c v) = r_of c := rfl
theorem rx_of_ar (c : RS) (v : Nat) : r_of (rs_ar c v) = r_of c := rfl
theorem rx_of_mk (c : RS) (v : Int64) : r_of (rs_mk c v) = r_of c := rfl
theorem rx_of_me (c : RS) (v : Int32) : r_of (rs_me c v) = r_of c := rfl
theorem rx_of_ac (c : RS) (v : Nat) : r_of (rs_ac c v) = r_of c := rfl
theorem rx_of_an (c : RS) (v : Nat → Nat) : r_of (rs_an c v) = r_of c := rfl
theorem rx_of_on (c : RS) (v : Nat → Nat) : r_of (rs_on c v) = r_of c := rfl
theorem rx_of_wi (c : RS) (v : Nat → Int64) : r_of (rs_wi c v) = r_of c := rfl
theorem rx_op_S (c : RS) (v : Nat → Int64) : r_op (rs_S c v) = r_op c := rfl
theorem rx_op_K (c : RS) (v : Nat → Int64) : r_op (rs_K c v) = r_op c := rfl
theorem rx_op_fl (c : RS) (v : Nat → Bool) : r_op (rs_fl c v) = r_op c := rfl
theorem rx_op_rc (c : RS) (v : Nat) : r_op (rs_rc c v) = r_op c := rfl
theorem rx_op_fi (c : RS) (v : Nat → Nat) : r_op (rs_fi c v) = r_op c := rfl
theorem rx_op_ma (c : RS) (v : Nat → Nat) : r_op (rs_ma c v) = r_op c := rfl
theorem rx_op_fr (c : RS) (v : Nat → Nat) : r_op (rs_fr c v) = r_op c := rfl
theorem rx_op_st (c : RS) (v : Nat → Nat) : r_op (rs_st c v) = r_op c := rfl
theorem rx_op_ol (c : RS) (v : Nat → Int64) : r_op (rs_ol c v) = r_op c := rfl
theorem rx_op_of (c : RS) (v : Bool) : r_op (rs_of c v) = r_op c := rfl
theorem rx_op_op (c : RS) (v : Bool) : r_op (rs_op c v) = v := rfl
theorem rx_op_to (c : RS) (v : Nat → Bool) : r_op (rs_to c v) = r_op c := rfl
theorem rx_op_ar (c : RS) (v : Nat) : r_op (rs_ar c v) = r_op c := rfl
theorem rx_op_mk (c : RS) (v : Int64) : r_op (rs_mk c v) = r_op c := rfl
theorem rx_op_me (c : RS) (v : Int32) : r_op (rs_me c v) = r_op c := rfl
theorem rx_op_ac (c : RS) (v : Nat) : r_op (rs_ac c v) = r_op c := rfl
theorem rx_op_an (c : RS) (v : Nat → Nat) : r_op (rs_an c v) = r_op c := rfl
theorem rx_op_on (c : RS) (v : Nat → Nat) : r_op (rs_on c v) = r_op c := rfl
theorem rx_op_wi (c : RS) (v : Nat → Int64) : r_op (rs_wi c v) = r_op c := rfl
theorem rx_to_S (c : RS) (v : Nat → Int64) : r_to (rs_S c v) = r_to c := rfl
theorem rx_to_K (c : RS) (v : Nat → Int64) : r_to (rs_K c v) = r_to c := rfl
theorem rx_to_fl (c : RS) (v : Nat → Bool) : r_to (rs_fl c v) = r_to c := rfl
theorem rx_to_rc (c : RS) (v : Nat) : r_to (rs_rc c v) = r_to c := rfl
theorem rx_to_fi (c : RS) (v : Nat → Nat) : r_to (rs_fi c v) = r_to c := rfl
theorem rx_to_ma (c : RS) (v : Nat → Nat) : r_to (rs_ma c v) = r_to c := rfl
theorem rx_to_fr (c : RS) (v : Nat → Nat) : r_to (rs_fr c v) = r_to c := rfl
theorem rx_to_st (c : RS) (v : Nat → Nat) : r_to (rs_st c v) = r_to c := rfl
theorem rx_to_ol (c : RS) (v : Nat → Int64) : r_to (rs_ol c v) = r_to c := rfl
theorem rx_to_of (c : RS) (v : Bool) : r_to (rs_of c v) = r_to c := rfl
theorem rx_to_op (c : RS) (v : Bool) : r_to (rs_op c v) = r_to c := rfl
theorem rx_to_to (c : RS) (v : Nat → Bool) : r_to (rs_to c v) = v := rfl
theorem rx_to_ar (c : RS) (v : Nat) : r_to (rs_ar c v) = r_to c := rfl
theorem rx_to_mk (c : RS) (v : Int64) : r_to (rs_mk c v) = r_to c := rfl
theorem rx_to_me (c : RS) (v : Int32) : r_to (rs_me c v) = r_to c := rfl
theorem rx_to_ac (c : RS) (v : Nat) : r_to (rs_ac c v) = r_to c := rfl
theorem rx_to_an (c : RS) (v : Nat → Nat) : r_to (rs_an c v) = r_to c := rfl
theorem rx_to_on (c : RS) (v : Nat → Nat) : r_to (rs_on c v) = r_to c := rfl
theorem rx_to_wi (c : RS) (v : Nat → Int64) : r_to (rs_wi c v) = r_to c := rfl
theorem rx_ar_S (c : RS) (v : Nat → Int64) : r_ar (rs_S c v) = r_ar c := rfl
theorem rx_ar_K (c : RS) (v : Nat → Int64) : r_ar (rs_K c v) = r_ar c := rfl
theorem rx_ar_fl (c : RS) (v : Nat → Bool) : r_ar (rs_fl c v) = r_ar c := rfl
theorem rx_ar_rc (c : RS) (v : Nat) : r_ar (rs_rc c v) = r_ar c := rfl
theorem rx_ar_fi (c : RS) (v : Nat → Nat) : r_ar (rs_fi c v) = r_ar c := rfl
theorem rx_ar_ma (c : RS) (v : Nat → Nat) : r_ar (rs_ma c v) = r_ar c := rfl
theorem rx_ar_fr (c : RS) (v : Nat → Nat) : r_ar (rs_fr c v) = r_ar c := rfl
theorem rx_ar_st (c : RS) (v : Nat → Nat) : r_ar (rs_st c v) = r_ar c := rfl
theorem rx_ar_ol (c : RS) (v : Nat → Int64) : r_ar (rs_ol c v) = r_ar c := rfl
theorem rx_ar_of (c : RS) (v : Bool) : r_ar (rs_of c v) = r_ar c := rfl
theorem rx_ar_op (c : RS) (v : Bool) : r_ar (rs_op c v) = r_ar c := rfl
theorem rx_ar_to (c : RS) (v : Nat → Bool) : r_ar (rs_to c v) = r_ar c := rfl
theorem rx_ar_ar (c : RS) (v : Nat) : r_ar (rs_ar c v) = v := rfl
theorem rx_ar_mk (c : RS) (v : Int64) : r_ar (rs_mk c v) = r_ar c := rfl
theorem rx_ar_me (c : RS) (v : Int32) : r_ar (rs_me c v) = r_ar c := rfl
theorem rx_ar_ac (c : RS) (v : Nat) : r_ar (rs_ac c v) = r_ar c := rfl
theorem rx_ar_an (c : RS) (v : Nat → Nat) : r_ar (rs_an c v) = r_ar c := rfl
theorem rx_ar_on (c : RS) (v : Nat → Nat) : r_ar (rs_on c v) = r_ar c := rfl
theorem rx_ar_wi (c : RS) (v : Nat → Int64) : r_ar (rs_wi c v) = r_ar c := rfl
theorem rx_mk_S (c : RS) (v : Nat → Int64) : r_mk (rs_S c v) = r_mk c := rfl
theorem rx_mk_K (c : RS) (v : Nat → Int64) : r_mk (rs_K c v) = r_mk c := rfl
theorem rx_mk_fl (c : RS) (v : Nat → Bool) : r_mk (rs_fl c v) = r_mk c := rfl
theorem rx_mk_rc (c : RS) (v : Nat) : r_mk (rs_rc c v) = r_mk c := rfl
theorem rx_mk_fi (c : RS) (v : Nat → Nat) : r_mk (rs_fi c v) = r_mk c := rfl
theorem rx_mk_ma (c : RS) (v : Nat → Nat) : r_mk (rs_ma c v) = r_mk c := rfl
theorem rx_mk_fr (c : RS) (v : Nat → Nat) : r_mk (rs_fr c v) = r_mk c := rfl
theorem rx_mk_st (c : RS) (v : Nat → Nat) : r_mk (rs_st c v) = r_mk c := rfl
theorem rx_mk_ol (c : RS) (v : Nat → Int64) : r_mk (rs_ol c v) = r_mk c := rfl
theorem rx_mk_of (c : RS) (v : Bool) : r_mk (rs_of c v) = r_mk c := rfl
theorem rx_mk_op (c : RS) (v : Bool) : r_mk (rs_op c v) = r_mk c := rfl
theorem rx_mk_to (c : RS) (v : Nat → Bool) : r_mk (rs_to c v) = r_mk c := rfl
theorem rx_mk_ar (c : RS) (v : Nat) : r_mk (rs_ar c v) = r_mk c := rfl
theorem rx_mk_mk (c : RS) (v : Int64) : r_mk (rs_mk c v) = v := rfl
theorem rx_mk_me (c : RS) (v : Int32) : r_mk (rs_me c v) = r_mk c := rfl
theorem rx_mk_ac (c : RS) (v : Nat) : r_mk (rs_ac c v) = r_mk c := rfl
theorem rx_mk_an (c : RS) (v : Nat → Nat) : r_mk (rs_an c v) = r_mk c := rfl
theorem rx_mk_on (c : RS) (v : Nat → Nat) : r_mk (rs_on c v) = r_mk c := rfl
theorem rx_mk_wi (c : RS) (v : Nat → Int64) : r_mk (rs_wi c v) = r_mk c := rfl
theorem rx_me_S (c : RS) (v : Nat → Int64) : r_me (rs_S c v) = r_me c := rfl
theorem rx_me_K (c : RS) (v : Nat → Int64) : r_me (rs_K c v) = r_me c := rfl
theorem rx_me_fl (c : RS) (v : Nat → Bool) : r_me (rs_fl c v) = r_me c := rfl
theorem rx_me_rc (c : RS) (v : Nat) : r_me (rs_rc c v) = r_me c := rfl
theorem rx_me_fi (c : RS) (v : Nat → Nat) : r_me (rs_fi c v) = r_me c := rfl
theorem rx_me_ma (c : RS) (v : Nat → Nat) : r_me (rs_ma c v) = r_me c := rfl
theorem rx_me_fr (c : RS) (v : Nat → Nat) : r_me (rs_fr c v) = r_me c := rfl
theorem rx_me_st (c : RS) (v : Nat → Nat) : r_me (rs_st c v) = r_me c := rfl
theorem rx_me_ol (c : RS) (v : Nat → Int64) : r_me (rs_ol c v) = r_me c := rfl
theorem rx_me_of (c : RS) (v : Bool) : r_me (rs_of c v) = r_me c := rfl
theorem rx_me_op (c : RS) (v : Bool) : r_me (rs_op c v) = r_me c := rfl
theorem rx_me_to (c : RS) (v : Nat → Bool) : r_me (rs_to c v) = r_me c := rfl
theorem rx_me_ar (c : RS) (v : Nat) : r_me (rs_ar c v) = r_me c := rfl
theorem rx_me_mk (c : RS) (v : Int64) : r_me (rs_mk c v) = r_me c := rfl
theorem rx_me_me (c : RS) (v : Int32) : r_me (rs_me c v) = v := rfl
theorem rx_me_ac (c : RS) (v : Nat) : r_me (rs_ac c v) = r_me c := rfl
theorem rx_me_an (c : RS) (v : Nat → Nat) : r_me (rs_an c v) = r_me c := rfl
theorem rx_me_on (c : RS) (v : Nat → Nat) : r_me (rs_on c v) = r_me c := rfl
theorem rx_me_wi (c : RS) (v : Nat → Int64) : r_me (rs_wi c v) = r_me c := rfl
theorem rx_ac_S (c : RS) (v : Nat → Int64) : r_ac (rs_S c v) = r_ac c := rfl
theorem rx_ac_K (c : RS) (v : Nat → Int64) : r_ac (rs_K c v) = r_ac c := rfl
theorem rx_ac_fl (c : RS) (v : Nat → Bool) : r_ac (rs_fl c v) = r_ac c := rfl
theorem rx_ac_rc (c : RS) (v : Nat) : r_ac (rs_rc c v) = r_ac c := rfl
theorem rx_ac_fi (c : RS) (v : Nat → Nat) : r_ac (rs_fi c v) = r_ac c := rfl
theorem rx_ac_ma (c : RS) (v : Nat → Nat) : r_ac (rs_ma c v) = r_ac c := rfl
theorem rx_ac_fr (c : RS) (v : Nat → Nat) : r_ac (rs_fr c v) = r_ac c := rfl
theorem rx_ac_st (c : RS) (v : Nat → Nat) : r_ac (rs_st c v) = r_ac c := rfl
theorem rx_ac_ol (c : RS) (v : Nat → Int64) : r_ac (rs_ol c v) = r_ac c := rfl
theorem rx_ac_of (c : RS) (v : Bool) : r_ac (rs_of c v) = r_ac c := rfl
theorem rx_ac_op (c : RS) (v : Bool) : r_ac (rs_op c v) = r_ac c := rfl
theorem rx_ac_to (c : RS) (v : Nat → Bool) : r_ac (rs_to c v) = r_ac c := rfl
theorem rx_ac_ar (c : RS) (v : Nat) : r_ac (rs_ar c v) = r_ac c := rfl
theorem rx_ac_mk (c : RS) (v : Int64) : r_ac (rs_mk c v) = r_ac c := rfl
theorem rx_ac_me (c : RS) (v : Int32) : r_ac (rs_me c v) = r_ac c := rfl
theorem rx_ac_ac (c : RS) (v : Nat) : r_ac (rs_ac c v) = v := rfl
theorem rx_ac_an (c : RS) (v : Nat → Nat) : r_ac (rs_an c v) = r_ac c := rfl
theorem rx_ac_on (c : RS) (v : Nat → Nat) : r_ac (rs_on c v) = r_ac c := rfl
theorem rx_ac_wi (c : RS) (v : Nat → Int64) : r_ac (rs_wi c v) = r_ac c := rfl
theorem rx_an_S (c : RS) (v : Nat → Int64) : r_an (rs_S c v) = r_an c := rfl
theorem rx_an_K (c : RS) (v : Nat → Int64) : r_an (rs_K c v) = r_an c := rfl
theorem rx_an_fl (c : RS) (v : Nat → Bool) : r_an (rs_fl c v) = r_an c := rfl
theorem rx_an_rc (c : RS) (v : Nat) : r_an (rs_rc c v) = r_an c := rfl
theorem rx_an_fi (c : RS) (v : Nat → Nat) : r_an (rs_fi c v) = r_an c := rfl
theorem rx_an_ma (c : RS) (v : Nat → Nat) : r_an (rs_ma c v) = r_an c := rfl
theorem rx_an_fr (c : RS) (v : Nat → Nat) : r_an (rs_fr c v) = r_an c := rfl
theorem rx_an_st (c : RS) (v : Nat → Nat) : r_an (rs_st c v) = r_an c := rfl
theorem rx_an_ol (c : RS) (v : Nat → Int64) : r_an (rs_ol c v) = r_an c := rfl
theorem rx_an_of (c : RS) (v : Bool) : r_an (rs_of c v) = r_an c := rfl
theorem rx_an_op (c : RS) (v : Bool) : r_an (rs_op c v) = r_an c := rfl
theorem rx_an_to (c : RS) (v : Nat → Bool) : r_an (rs_to c v) = r_an c := rfl
theorem rx_an_ar (c : RS) (v : Nat) : r_an (rs_ar c v) = r_an c := rfl
theorem rx_an_mk (c : RS) (v : Int64) : r_an (rs_mk c v) = r_an c := rfl
theorem rx_an_me (c : RS) (v : Int32) : r_an (rs_me c v) = r_an c := rfl
theorem rx_an_ac (c : RS) (v : Nat) : r_an (rs_ac c v) = r_an c := rfl
theorem rx_an_an (c : RS) (v : Nat → Nat) : r_an (rs_an c v) = v := rfl
theorem rx_an_on (c : RS) (v : Nat → Nat) : r_an (rs_on c v) = r_an c := rfl
theorem rx_an_wi (c : RS) (v : Nat → Int64) : r_an (rs_wi c v) = r_an c := rfl
theorem rx_on_S (c : RS) (v : Nat → Int64) : r_on (rs_S c v) = r_on c := rfl
theorem rx_on_K (c : RS) (v : Nat → Int64) : r_on (rs_K c v) = r_on c := rfl
theorem rx_on_fl (c : RS) (v : Nat → Bool) : r_on (rs_fl c v) = r_on c := rfl
theorem rx_on_rc (c : RS) (v : Nat) : r_on (rs_rc c v) = r_on c := rfl
theorem rx_on_fi (c : RS) (v : Nat → Nat) : r_on (rs_fi c v) = r_on c := rfl
theorem rx_on_ma (c : RS) (v : Nat → Nat) : r_on (rs_ma c v) = r_on c := rfl
theorem rx_on_fr (c : RS) (v : Nat → Nat) : r_on (rs_fr c v) = r_on c := rfl
theorem rx_on_st (c : RS) (v : Nat → Nat) : r_on (rs_st c v) = r_on c := rfl
theorem rx_on_ol (c : RS) (v : Nat → Int64) : r_on (rs_ol c v) = r_on c := rfl
theorem rx_on_of (c : RS) (v : Bool) : r_on (rs_of c v) = r_on c := rfl
theorem rx_on_op (c : RS) (v : Bool) : r_on (rs_op c v) = r_on c := rfl
theorem rx_on_to (c : RS) (v : Nat → Bool) : r_on (rs_to c v) = r_on c := rfl
theorem rx_on_ar (c : RS) (v : Nat) : r_on (rs_ar c v) = r_on c := rfl
theorem rx_on_mk (c : RS) (v : Int64) : r_on (rs_mk c v) = r_on c := rfl
theorem rx_on_me (c : RS) (v : Int32) : r_on (rs_me c v) = r_on c := rfl
theorem rx_on_ac (c : RS) (v : Nat) : r_on (rs_ac c v) = r_on c := rfl
theorem rx_on_an (c : RS) (v : Nat → Nat) : r_on (rs_an c v) = r_on c := rfl
theorem rx_on_on (c : RS) (v : Nat → Nat) : r_on (rs_on c v) = v := rfl
theorem rx_on_wi (c : RS) (v : Nat → Int64) : r_on (rs_wi c v) = r_on c := rfl
theorem rx_wi_S (c : RS) (v : Nat → Int64) : r_wi (rs_S c v) = r_wi c := rfl
theorem rx_wi_K (c : RS) (v : Nat → Int64) : r_wi (rs_K c v) = r_wi c := rfl
theorem rx_wi_fl (c : RS) (v : Nat → Bool) : r_wi (rs_fl c v) = r_wi c := rfl
theorem rx_wi_rc (c : RS) (v : Nat) : r_wi (rs_rc c v) = r_wi c := rfl
theorem rx_wi_fi (c : RS) (v : Nat → Nat) : r_wi (rs_fi c v) = r_wi c := rfl
theorem rx_wi_ma (c : RS) (v : Nat → Nat) : r_wi (rs_ma c v) = r_wi c := rfl
theorem rx_wi_fr (c : RS) (v : Nat → Nat) : r_wi (rs_fr c v) = r_wi c := rfl
theorem rx_wi_st (c : RS) (v : Nat → Nat) : r_wi (rs_st c v) = r_wi c := rfl
theorem rx_wi_ol (c : RS) (v : Nat → Int64) : r_wi (rs_ol c v) = r_wi c := rfl
theorem rx_wi_of (c : RS) (v : Bool) : r_wi (rs_of c v) = r_wi c := rfl
theorem rx_wi_op (c : RS) (v : Bool) : r_wi (rs_op c v) = r_wi c := rfl
theorem rx_wi_to (c : RS) (v : Nat → Bool) : r_wi (rs_to c v) = r_wi c := rfl
theorem rx_wi_ar (c : RS) (v : Nat) : r_wi (rs_ar c v) = r_wi c := rfl
theorem rx_wi_mk (c : RS) (v : Int64) : r_wi (rs_mk c v) = r_wi c := rfl
theorem rx_wi_me (c : RS) (v : Int32) : r_wi (rs_me c v) = r_wi c := rfl
theorem rx_wi_ac (c : RS) (v : Nat) : r_wi (rs_ac c v) = r_wi c := rfl
theorem rx_wi_an (c : RS) (v : Nat → Nat) : r_wi (rs_an c v) = r_wi c := rfl
theorem rx_wi_on (c : RS) (v : Nat → Nat) : r_wi (rs_on c v) = r_wi c := rfl
theorem rx_wi_wi (c : RS) (v : Nat → Int64) : r_wi (rs_wi c v) = v := rfl
end
section
/-! ===== bits (the first rows turned from kit/laws/BITS.to-paste) and what the class's methods do to its state ===== -/
theorem ts_nf {x : Bool} (h : ¬ x = false) : x = true := by cases x <;> first | rfl | exact absurd rfl h
theorem ts_nt {x : Bool} (h : ¬ x = true) : x = false := by cases x <;> first | rfl | exact absurd rfl h
theorem ts_bit {w : Int64} {s : UInt64} {j : Nat} (hj : j < 64) (hs : s.toNat = j) : ((w.toUInt64 >>> s).toInt64 &&& 1) = 0 ↔ w.toBitVec.getLsbD j = false := by
  have e : (w.toUInt64 >>> s).toInt64.toBitVec = w.toBitVec >>> j := by
    apply BitVec.eq_of_toNat_eq
    show (w.toUInt64 >>> s).toNat = _
    rw [UInt64.toNat_shiftRight, hs, Nat.mod_eq_of_lt hj, BitVec.toNat_ushiftRight]
    rfl
  rw [← Int64.toBitVec_inj, Int64.toBitVec_and, e]
  show w.toBitVec >>> j &&& 1#64 = 0#64 ↔ _
  constructor
  · intro h
    have t := congrArg (fun x => x.getLsbD 0) h
    simpa using t
  · intro h
    apply BitVec.eq_of_getLsbD_eq
    intro i hi
    cases i with
    | zero => simpa using h
    | succ n => simp
theorem wb_cu : ∀ k, k < 64 → ((nI k).toInt64.toUInt64 &&& Int64.toUInt64 63) = UInt64.ofNat k := by decide +kernel
theorem u_tn {n : Nat} (h : n < 2 ^ 64) : (UInt64.ofNat n).toNat = n := Nat.mod_eq_of_lt h
theorem lg_cmp_0 (x y : Int64) : lg_cmp x y = 0 ↔ x = y := by
  unfold lg_cmp
  by_cases h : x > y
  · rw [if_pos h]
    exact ⟨fun q => absurd q (by decide), fun q => by subst q; exact absurd h Int64.lt_irrefl⟩
  · rw [if_neg h]
    by_cases q : x = y
    · rw [if_pos q]; exact ⟨fun _ => q, fun _ => rfl⟩
    · rw [if_neg q]; exact ⟨fun z => absurd z (by decide), fun z => absurd z q⟩
def hbL (x : Int64) (k : Nat) : Bool := x.toBitVec.getLsbD k
theorem hb_cmp (x : Int64) {k : Nat} (hk : k < 64) : lg_cmp ((x.toUInt64 >>> ((nI k).toInt64.toUInt64 &&& Int64.toUInt64 63)).toInt64 &&& 1) 0 = 0 ↔ hbL x k = false := by
  rw [lg_cmp_0, wb_cu k hk]
  exact ts_bit hk (u_tn (by omega))
def isW (a : Int32) : Bool := !decide (a < 0) && !decide (nI 32 ≤ a)
def areW (a n : Int32) : Bool := !decide (n < nI 1) && !decide (nI 8 < n) && !decide (a < 0) && !decide (nI 32 - n < a)
def roomF (c : CS) (n : Nat) : Bool := decide (n + 1 ≤ 40 - c_tk c)
def settleF (c : CS) (w x : Bool) : CS := cs_xo (cs_nk (if c_nk c = true ∧ w = false then (if c_xo c = true ∧ x = true then cs_tk (cs_sz (cs_tk (cs_sz c (c_sz c - 1)) (c_sc c (c_sz c - 1))) 0) 0 else cs_tk (cs_sz c (c_sz c - 1)) (c_sc c (c_sz c - 1))) else (if c_xo c = true ∧ x = true then cs_tk (cs_sz c 0) 0 else c)) false) false
def keepM (c : CS) (n : Nat) : Nat → Int64 := fun j => if j < n ∧ hbL (c_mk c) j = true then c_S c j else c_K c j
def loseF (c : CS) : CS := cs_fl (cs_op (cs_on (settleF (cs_K c (keepM c 32)) (hbL (c_mk c) 32) (hbL (c_mk c) 33)) false) false) (nI 0)
def endActF (c : CS) : Bool × CS := if c_au c = 0 then (true, cs_ad c (c_ad c + nI 1)) else if c_au c - 1 = 0 then (false, loseF (cs_au (cs_ad c (c_ad c + nI 1)) (c_au c - 1))) else (true, cs_au (cs_ad c (c_ad c + nI 1)) (c_au c - 1))
def runF : List (CS → CS) → CS → Bool × CS
  | [], c => (true, c)
  | f :: fs, c => if (endActF (f c)).1 = true then runF fs (endActF (f c)).2 else (false, (endActF (f c)).2)
theorem runF_one (f : CS → CS) (c : CS) : runF [f] c = endActF (f c) := by
  show (if (endActF (f c)).1 = true then (true, (endActF (f c)).2) else (false, (endActF (f c)).2)) = _
  generalize endActF (f c) = u
  obtain ⟨b, v⟩ := u
  cases b <;> rfl
def keepL (c : CS) (n : Nat) : Nat → Int64 := fun j => if j < n ∧ hbL (c_fl c).toInt64 (j / 8) = true then c_S c j else c_K c j
def fenceA (c : CS) : CS := cs_fl (cs_K c (keepL c 32)) (nI 0)
def flushA (k : Nat) (c : CS) : CS := cs_fl c (c_fl c ||| (nI 1 <<< (nI k &&& 31)))
def storeA (k : Nat) (v : Int64) (c : CS) : CS := cs_S c (vp_updL (c_S c) k v)
def writeA (k n : Nat) (c : CS) : CS := cs_nk (cs_sz (cs_tk (cs_ce (cs_sc (cs_co (cs_fi c (upN (c_fi c) (c_sz c) k)) (upN (c_co c) (c_sz c) n)) (upN (c_sc c) (c_sz c) (c_tk c))) (va_cpy (c_S c) (c_ce c) k (c_tk c + 1) n)) (c_tk c + (n + 1))) (c_sz c + 1)) true
def keepN (c : CS) : CS := cs_nk c false
def crossA (c : CS) : CS := cs_xo c true
def dropA (c : CS) : CS := cs_xo (cs_tk (cs_sz c 0) 0) false
def anyTo (p : Nat → Bool) : Nat → Bool
  | 0 => false
  | n + 1 => anyTo p n || p n
theorem anyTo_mono {p : Nat → Bool} {n k : Nat} (hk : k < n) (h : p k = true) : anyTo p n = true := by
  induction n with
  | zero => omega
  | succ n ih =>
    by_cases e : k = n
    · subst e; simp [anyTo, h]
    · simp [anyTo, ih (by omega)]
def covP (c : CS) (k r : Nat) : Bool := decide (c_fi c r ≤ k) && decide (k < c_fi c r + c_co c r)
def coversF (c : CS) (k : Nat) : Bool := anyTo (covP c k) (c_sz c)
def covL (c : CS) : Nat → Int32
  | 0 => nI 0
  | r + 1 => (covL c r ||| (nI 1 <<< (nI (c_fi c r / 8) &&& 31))) ||| (nI 1 <<< (nI ((c_fi c r + c_co c r - 1) / 8) &&& 31))
def plainL (n : Nat) : List (CS → CS) := List.replicate n (fun c => c)
def linesL (x : Int32) : Nat → List (CS → CS)
  | 0 => [fenceA]
  | k + 1 => if hbL x.toInt64 (4 - (k + 1)) = true then flushA (4 - (k + 1)) :: linesL x k else linesL x k
def keepLinesF (x : Int32) (c : CS) : Bool × CS := if x = 0 then (true, c) else runF (linesL x 4) c
def twoF (g f : CS → CS) (c : CS) : Bool × CS := if (runF (plainL 2) (g c)).1 = true then endActF (f (runF (plainL 2) (g c)).2) else (false, (runF (plainL 2) (g c)).2)
def clearF (c : CS) : Bool × CS := if c_sz c = 0 then (true, c) else twoF crossA (fun c => fenceA (dropA c)) c
def soI (c : CS) (r : Nat) : Nat → List (CS → CS)
  | 0 => []
  | k + 1 => storeA (c_fi c r + (c_co c r - (k + 1))) (c_ce c (c_sc c r + 1 + (c_co c r - (k + 1)))) :: soI c r k
def soR (c : CS) : Nat → List (CS → CS)
  | 0 => []
  | k + 1 => soI c k (c_co c k) ++ soR c k
def stOldF (c : CS) : Bool × CS := runF (soR c (c_sz c)) c
def undoF (c : CS) : Bool × CS := if (stOldF c).1 = true then (if (keepLinesF (covL (stOldF c).2 (c_sz (stOldF c).2)) (stOldF c).2).1 = true then clearF (keepLinesF (covL (stOldF c).2 (c_sz (stOldF c).2)) (stOldF c).2).2 else (false, (keepLinesF (covL (stOldF c).2 (c_sz (stOldF c).2)) (stOldF c).2).2)) else (false, (stOldF c).2)
def appendF (k n : Nat) (c : CS) : Bool × CS := if (runF (plainL (n + 1)) c).1 = true then twoF (writeA k n) (fun c => fenceA (keepN c)) (runF (plainL (n + 1)) c).2 else (false, (runF (plainL (n + 1)) c).2)
def bRes (b : Bool) : Int32 := if b = true then nI 0 else (-2)
/-! the class's public methods: answer and next state -/
def armF (n : Int32) (mk : Int64) (c : CS) : Bool × CS := if n < 0 then (false, c) else if nI 500 < n then (false, c) else (true, cs_mk (cs_au c n.toNatClampNeg) mk)
def beginF (c : CS) : Int32 × CS := if c_on c = false then ((-1), c) else if c_op c = true then ((-1), c) else (nI 0, cs_sl (cs_op c true) (nI 0))
def snapF (a n : Int32) (c : CS) : Int32 × CS := if c_op c = false then ((-1), c) else if areW a n = false then ((-1), c) else if roomF c n.toNatClampNeg = false then ((-1), c) else (bRes (appendF a.toNatClampNeg n.toNatClampNeg c).1, (appendF a.toNatClampNeg n.toNatClampNeg c).2)
def slA (k : Nat) (c : CS) : CS := cs_sl c (c_sl c ||| (nI 1 <<< (nI (k / 8) &&& 31)))
def storeF (a : Int32) (v : Int64) (c : CS) : Int32 × CS := if c_op c = false then ((-1), c) else if isW a = false then ((-1), c) else if coversF c a.toNatClampNeg = false then ((-1), c) else (bRes (endActF (storeA a.toNatClampNeg v (slA a.toNatClampNeg c))).1, (endActF (storeA a.toNatClampNeg v (slA a.toNatClampNeg c))).2)
def commitF (c : CS) : Int32 × CS := if c_op c = false then ((-1), c) else if (keepLinesF (c_sl c) c).1 = false then ((-2), (keepLinesF (c_sl c) c).2) else if (clearF (keepLinesF (c_sl c) c).2).1 = false then ((-2), (clearF (keepLinesF (c_sl c) c).2).2) else (nI 0, cs_op (clearF (keepLinesF (c_sl c) c).2).2 false)
def abortF (c : CS) : Int32 × CS := if c_op c = false then ((-1), c) else if (undoF c).1 = false then ((-2), (undoF c).2) else (nI 0, cs_op (undoF c).2 false)
def recA (c : CS) : CS := cs_S (cs_on c true) (va_cpy (c_K c) (c_S c) 0 0 32)
def recoverF (c : CS) : Int32 × CS := if c_on c = true then ((-1), c) else (bRes (undoF (recA c)).1, (undoF (recA c)).2)
def seenF (a : Int32) (c : CS) : Int64 := if c_on c = false then 0 else if isW a = false then 0 else c_S c a.toNatClampNeg
def keptF (a : Int32) (c : CS) : Int64 := if isW a = false then 0 else c_K c a.toNatClampNeg
/-! what the walks need of them -/
def CB (c : CS) : Prop := c_sz c ≤ 20 ∧ (c_nk c = true → 1 ≤ c_sz c) ∧ c_au c ≤ 500
def SF (c : CS) : Prop := CB c ∧ ∀ r, r < c_sz c → 1 ≤ c_co c r ∧ c_co c r ≤ 8 ∧ c_fi c r + c_co c r ≤ 32 ∧ c_sc c r + 1 + c_co c r ≤ 40
theorem keepM_0 (c : CS) : keepM c 0 = c_K c := by funext j; simp [keepM]
theorem keepM_t {c : CS} {i : Nat} (h : hbL (c_mk c) i = true) : vp_updL (keepM c i) i (c_S c i) = keepM c (i + 1) := by
  funext j
  by_cases e : j = i
  · subst e; simp [vp_updL, keepM, h]
  · have q : j < i ↔ j < i + 1 := by omega
    simp [vp_updL, keepM, e, q]
theorem keepM_f {c : CS} {i : Nat} (h : hbL (c_mk c) i = false) : keepM c i = keepM c (i + 1) := by
  funext j
  by_cases e : j = i
  · subst e; simp [keepM, h]
  · have q : j < i ↔ j < i + 1 := by omega
    simp [keepM, q]
theorem keepL_0 (c : CS) : keepL c 0 = c_K c := by funext j; simp [keepL]
theorem keepL_t {c : CS} {i : Nat} (h : hbL (c_fl c).toInt64 (i / 8) = true) : vp_updL (keepL c i) i (c_S c i) = keepL c (i + 1) := by
  funext j
  by_cases e : j = i
  · subst e; simp [vp_updL, keepL, h]
  · have q : j < i ↔ j < i + 1 := by omega
    simp [vp_updL, keepL, e, q]
theorem keepL_f {c : CS} {i : Nat} (h : hbL (c_fl c).toInt64 (i / 8) = false) : keepL c i = keepL c (i + 1) := by
  funext j
  by_cases e : j = i
  · subst e; simp [keepL, h]
  · have q : j < i ↔ j < i + 1 := by omega
    simp [keepL, q]
/-- an act that didn't lose the power changes the two counters alone -/
theorem endAct_ok {c : CS} (h : (endActF c).1 = true) : ∃ v : Nat, (endActF c).2 = cs_au (cs_ad c (c_ad c + nI 1)) v ∧ v ≤ c_au c := by
  unfold endActF at h ⊢
  by_cases h1 : c_au c = 0
  · rw [if_pos h1]
    exact ⟨c_au c, rfl, Nat.le_refl _⟩
  · rw [if_neg h1] at h ⊢
    by_cases h2 : c_au c - 1 = 0
    · rw [if_pos h2] at h; cases h
    · rw [if_neg h2]
      exact ⟨_, rfl, Nat.sub_le _ _⟩
theorem CB_ok {c : CS} (hB : CB c) (h : (endActF c).1 = true) : CB (endActF c).2 := by
  obtain ⟨v, e, hv⟩ := endAct_ok h
  rw [e]
  exact ⟨hB.1, hB.2.1, Nat.le_trans hv hB.2.2⟩
theorem SF_ok {c : CS} (hB : SF c) (h : (endActF c).1 = true) : SF (endActF c).2 := by
  refine ⟨CB_ok hB.1 h, ?_⟩
  obtain ⟨v, e, hv⟩ := endAct_ok h
  rw [e]
  exact hB.2
theorem runF_t {f : CS → CS} {fs : List (CS → CS)} {c : CS} (h : (endActF (f c)).1 = true) : runF (f :: fs) c = runF fs (endActF (f c)).2 := by
  show (if (endActF (f c)).1 = true then _ else _) = _
  rw [if_pos h]
theorem runF_f {f : CS → CS} {fs : List (CS → CS)} {c : CS} (h : (endActF (f c)).1 = false) : runF (f :: fs) c = (false, (endActF (f c)).2) := by
  show (if (endActF (f c)).1 = true then _ else _) = _
  rw [if_neg (by rw [h]; decide)]
theorem runF_app (xs ys : List (CS → CS)) : ∀ c : CS, runF (xs ++ ys) c = if (runF xs c).1 = true then runF ys (runF xs c).2 else (false, (runF xs c).2) := by
  induction xs with
  | nil => intro c; rfl
  | cons f fs ih =>
    intro c
    rw [List.cons_append]
    cases h : (endActF (f c)).1 with
    | true => rw [runF_t h, runF_t h, ih]
    | false => rw [runF_f h, runF_f h]; rfl
theorem plainL_s {k : Nat} (h : 0 < k) : plainL k = (fun c => c) :: plainL (k - 1) := by
  obtain ⟨j, rfl⟩ : ∃ j, k = j + 1 := ⟨k - 1, by omega⟩
  rfl
theorem linesL_t {x : Int32} {i : Nat} (hi : i < 4) (h : hbL x.toInt64 i = true) : linesL x (4 - i) = flushA i :: linesL x (4 - (i + 1)) := by
  obtain ⟨j, hj⟩ : ∃ j, 4 - i = j + 1 := ⟨3 - i, by omega⟩
  have e : 4 - (j + 1) = i := by omega
  have e2 : 4 - (i + 1) = j := by omega
  rw [hj, e2]
  show (if hbL x.toInt64 (4 - (j + 1)) = true then _ else _) = _
  rw [e, if_pos h]
theorem linesL_f {x : Int32} {i : Nat} (hi : i < 4) (h : hbL x.toInt64 i = false) : linesL x (4 - i) = linesL x (4 - (i + 1)) := by
  obtain ⟨j, hj⟩ : ∃ j, 4 - i = j + 1 := ⟨3 - i, by omega⟩
  have e : 4 - (j + 1) = i := by omega
  have e2 : 4 - (i + 1) = j := by omega
  rw [hj, e2]
  show (if hbL x.toInt64 (4 - (j + 1)) = true then _ else _) = _
  rw [e, if_neg (by rw [h]; decide)]
theorem so_congr {c d : CS} (h1 : c_fi d = c_fi c) (h2 : c_co d = c_co c) (h3 : c_sc d = c_sc c) (h4 : c_ce d = c_ce c) : (∀ r k, soI d r k = soI c r k) ∧ ∀ k, soR d k = soR c k := by
  have hi : ∀ r k, soI d r k = soI c r k := by
    intro r k
    induction k with
    | zero => rfl
    | succ k ih => simp only [soI, ih, h1, h2, h3, h4]
  refine ⟨hi, fun k => ?_⟩
  induction k with
  | zero => rfl
  | succ k ih => simp only [soR, ih, hi, h2]
theorem soI_s {c : CS} {r i : Nat} (h : i < c_co c r) : soI c r (c_co c r - i) = storeA (c_fi c r + i) (c_ce c (c_sc c r + 1 + i)) :: soI c r (c_co c r - (i + 1)) := by
  obtain ⟨j, hj⟩ : ∃ j, c_co c r - i = j + 1 := ⟨c_co c r - i - 1, by omega⟩
  have e : c_co c r - (j + 1) = i := by omega
  have e2 : c_co c r - (i + 1) = j := by omega
  rw [hj, e2]
  show storeA (c_fi c r + (c_co c r - (j + 1))) (c_ce c (c_sc c r + 1 + (c_co c r - (j + 1)))) :: soI c r j = _
  rw [e]
theorem so_t {d : CS} {j i : Nat} (h : i < c_co d j) (ok : (endActF (storeA (c_fi d j + i) (c_ce d (c_sc d j + 1 + i)) d)).1 = true) {d1 : CS} (e1 : (endActF (storeA (c_fi d j + i) (c_ce d (c_sc d j + 1 + i)) d)).2 = d1) : runF (soI d j (c_co d j - i) ++ soR d j) d = runF (soI d1 j (c_co d1 j - (i + 1)) ++ soR d1 j) d1 := by
  rw [soI_s h, List.cons_append, runF_t ok, e1]
  obtain ⟨v, e, -⟩ := endAct_ok ok
  rw [e1] at e
  have q := so_congr (c := d) (d := d1) (by rw [e]; rfl) (by rw [e]; rfl) (by rw [e]; rfl) (by rw [e]; rfl)
  have q2 : c_co d1 j = c_co d j := by rw [e]; rfl
  rw [q.1, q.2, q2]
theorem so_f {d : CS} {j i : Nat} (h : i < c_co d j) (ok : (endActF (storeA (c_fi d j + i) (c_ce d (c_sc d j + 1 + i)) d)).1 = false) : runF (soI d j (c_co d j - i) ++ soR d j) d = (false, (endActF (storeA (c_fi d j + i) (c_ce d (c_sc d j + 1 + i)) d)).2) := by
  rw [soI_s h, List.cons_append, runF_f ok]
theorem so_n {d : CS} {j i : Nat} (h : c_co d j ≤ i) : runF (soI d j (c_co d j - i) ++ soR d j) d = runF (soR d j) d := by
  rw [show c_co d j - i = 0 by omega]
  rfl
theorem sub1_s (j : Nat) : nI (j + 1) - nI 1 = nI j := by rw [pk_sub (by omega)]; congr 1
theorem sub1_neg {k : Nat} (hk : k < 2 ^ 30) : nI k - nI 1 < 0 ↔ k = 0 := by
  constructor
  · intro h
    rcases Nat.eq_zero_or_pos k with q | q
    · exact q
    · obtain ⟨j, rfl⟩ : ∃ j, k = j + 1 := ⟨k - 1, by omega⟩
      rw [sub1_s] at h
      exact absurd h (nI_pos (by omega))
  · intro h; subst h; decide
theorem dec_s (j : Nat) : nI j + (-1) = nI j - nI 1 := by
  rw [Int32.sub_eq_add_neg]; rfl
theorem areW_nat {a n : Int32} (h : areW a n = true) : ∃ ka kn : Nat, a = nI ka ∧ n = nI kn ∧ 1 ≤ kn ∧ kn ≤ 8 ∧ ka + kn ≤ 32 := by
  simp only [areW, Bool.and_eq_true, Bool.not_eq_true', decide_eq_false_iff_not] at h
  obtain ⟨⟨⟨h1, h2⟩, h3⟩, h4⟩ := h
  have e1 : ¬ n < 0 := by
    intro q
    apply h1
    rw [Int32.lt_iff_toInt_lt] at q ⊢
    have z : (0 : Int32).toInt = 0 := rfl
    have z1 : (nI 1).toInt = 1 := rfl
    omega
  obtain ⟨kn, hkn, rfl⟩ := nI_of e1
  obtain ⟨ka, hka, rfl⟩ := nI_of h3
  have b1 : ¬ kn < 1 := fun q => h1 ((nI_ltI hkn (by decide)).mpr q)
  have b2 : ¬ 8 < kn := fun q => h2 ((nI_ltI (by decide) hkn).mpr q)
  rw [pk_sub (by omega)] at h4
  have b3 : ¬ 32 - kn < ka := fun q => h4 ((nI_ltI (by omega) hka).mpr q)
  exact ⟨ka, kn, rfl, rfl, by omega, by omega, by omega⟩
theorem isW_nat {a : Int32} (h : isW a = true) : ∃ k : Nat, a = nI k ∧ k < 32 := by
  simp only [isW, Bool.and_eq_true, Bool.not_eq_true', decide_eq_false_iff_not] at h
  obtain ⟨k, hk, rfl⟩ := nI_of h.1
  exact ⟨k, rfl, Nat.not_le.mp (fun q => h.2 ((nI_leI (by decide) hk).mpr q))⟩
theorem arm_nat {n : Int32} (h : ¬ n < 0) (h2 : ¬ nI 500 < n) : ∃ k : Nat, n = nI k ∧ k ≤ 500 := by
  obtain ⟨k, hk, rfl⟩ := nI_of h
  exact ⟨k, rfl, Nat.not_lt.mp (fun q => h2 ((nI_ltI (by decide) hk).mpr q))⟩
theorem css_K (c : CS) (x y : Nat → Int64) : cs_K (cs_K c x) y = cs_K c y := rfl
theorem css_S (c : CS) (x y : Nat → Int64) : cs_S (cs_S c x) y = cs_S c y := rfl
theorem twoF_eq (g f : CS → CS) (c : CS) : twoF g f c = runF [g, fun c => c, f] c := by
  have e : plainL 2 = [fun c => c, fun c => c] := rfl
  unfold twoF
  rw [e]
  cases h : (endActF (g c)).1 with
  | false => rw [runF_f (f := fun c => c) h, runF_f h]; rfl
  | true =>
    rw [runF_t (f := fun c => c) h, runF_t h]
    cases h2 : (endActF (endActF (g c)).2).1 with
    | false => rw [runF_f (f := fun c => c) h2, runF_f (f := fun c => c) h2]; rfl
    | true =>
      rw [runF_t (f := fun c => c) h2, runF_t (f := fun c => c) h2, runF_one]
      rfl
theorem run_inv (I : CS → Prop) (hI : ∀ d, I d → (endActF d).1 = true → I (endActF d).2) : ∀ (fs : List (CS → CS)), (∀ f ∈ fs, ∀ d, I d → I (f d)) → ∀ c, I c → (runF fs c).1 = true → I (runF fs c).2 := by
  intro fs
  induction fs with
  | nil => intro _ c h _; exact h
  | cons f fs ih =>
    intro hf c h ok
    cases h1 : (endActF (f c)).1 with
    | false => rw [runF_f h1] at ok; cases ok
    | true =>
      rw [runF_t h1] at ok ⊢
      exact ih (fun g hg => hf g (List.mem_cons_of_mem _ hg)) _ (hI _ (hf f List.mem_cons_self c h) h1) ok
theorem plain_ok {c : CS} {k : Nat} (h : (runF (plainL k) c).1 = true) : ∃ (u : Int32) (v : Nat), (runF (plainL k) c).2 = cs_au (cs_ad c u) v ∧ v ≤ c_au c := by
  induction k generalizing c with
  | zero => exact ⟨c_ad c, c_au c, rfl, Nat.le_refl _⟩
  | succ k ih =>
    have e : plainL (k + 1) = (fun c => c) :: plainL k := rfl
    rw [e] at h ⊢
    cases h1 : (endActF c).1 with
    | false => rw [runF_f (f := fun c => c) h1] at h; cases h
    | true =>
      rw [runF_t (f := fun c => c) h1] at h ⊢
      obtain ⟨u, v, e1, hv⟩ := ih h
      obtain ⟨v2, e2, hv2⟩ := endAct_ok h1
      rw [e1]
      have q : (endActF c).2 = cs_au (cs_ad c (c_ad c + nI 1)) v2 := e2
      rw [q] at hv ⊢
      exact ⟨u, v, rfl, Nat.le_trans hv hv2⟩
theorem CB_plain {c : CS} {k : Nat} (hB : CB c) (h : (runF (plainL k) c).1 = true) : CB (runF (plainL k) c).2 := by
  obtain ⟨u, v, e, hv⟩ := plain_ok h
  rw [e]
  exact ⟨hB.1, hB.2.1, Nat.le_trans hv hB.2.2⟩
def SN (c : CS) : Prop := SF c ∧ c_nk c = false
theorem SN_ok (d : CS) (hd : SN d) (h : (endActF d).1 = true) : SN (endActF d).2 := by
  refine ⟨SF_ok hd.1 h, ?_⟩
  obtain ⟨v, e, -⟩ := endAct_ok h
  rw [e]
  exact hd.2
theorem soI_mem {c : CS} {r : Nat} : ∀ {k : Nat} {f : CS → CS}, f ∈ soI c r k → ∃ j v, f = storeA j v := by
  intro k
  induction k with
  | zero => intro f h; cases h
  | succ k ih =>
    intro f h
    rcases List.mem_cons.mp h with q | q
    · exact ⟨_, _, q⟩
    · exact ih q
theorem soR_mem {c : CS} : ∀ {k : Nat} {f : CS → CS}, f ∈ soR c k → ∃ j v, f = storeA j v := by
  intro k
  induction k with
  | zero => intro f h; cases h
  | succ k ih =>
    intro f h
    rcases List.mem_append.mp h with q | q
    · exact soI_mem q
    · exact ih q
theorem linesL_mem {x : Int32} : ∀ {k : Nat} {f : CS → CS}, f ∈ linesL x k → f = fenceA ∨ ∃ j, f = flushA j := by
  intro k
  induction k with
  | zero => intro f h; exact Or.inl (List.mem_singleton.mp h)
  | succ k ih =>
    intro f h
    unfold linesL at h
    by_cases q : hbL x.toInt64 (4 - (k + 1)) = true
    · rw [if_pos q] at h
      rcases List.mem_cons.mp h with z | z
      · exact Or.inr ⟨_, z⟩
      · exact ih z
    · rw [if_neg q] at h
      exact ih h
theorem SN_stOld {c : CS} (h : SN c) (ok : (stOldF c).1 = true) : SN (stOldF c).2 := by
  refine run_inv SN SN_ok _ (fun f hf d hd => ?_) c h ok
  obtain ⟨j, v, rfl⟩ := soR_mem hf
  exact hd
theorem SN_keepLines {x : Int32} {c : CS} (h : SN c) (ok : (keepLinesF x c).1 = true) : SN (keepLinesF x c).2 := by
  unfold keepLinesF at ok ⊢
  by_cases q : x = 0
  · rw [if_pos q]; exact h
  · rw [if_neg q] at ok ⊢
    refine run_inv SN SN_ok _ (fun f hf d hd => ?_) c h ok
    rcases linesL_mem hf with rfl | ⟨j, rfl⟩
    · exact hd
    · exact hd
theorem wx_S (k n : Nat) (c : CS) : c_S (writeA k n c) = c_S c := by simp only [writeA, cx_S_nk, cx_S_sz, cx_S_tk, cx_S_ce, cx_S_sc, cx_S_co, cx_S_fi]
theorem wx_K (k n : Nat) (c : CS) : c_K (writeA k n c) = c_K c := by simp only [writeA, cx_K_nk, cx_K_sz, cx_K_tk, cx_K_ce, cx_K_sc, cx_K_co, cx_K_fi]
theorem wx_on (k n : Nat) (c : CS) : c_on (writeA k n c) = c_on c := by simp only [writeA, cx_on_nk, cx_on_sz, cx_on_tk, cx_on_ce, cx_on_sc, cx_on_co, cx_on_fi]
theorem wx_op (k n : Nat) (c : CS) : c_op (writeA k n c) = c_op c := by simp only [writeA, cx_op_nk, cx_op_sz, cx_op_tk, cx_op_ce, cx_op_sc, cx_op_co, cx_op_fi]
theorem wx_fl (k n : Nat) (c : CS) : c_fl (writeA k n c) = c_fl c := by simp only [writeA, cx_fl_nk, cx_fl_sz, cx_fl_tk, cx_fl_ce, cx_fl_sc, cx_fl_co, cx_fl_fi]
theorem wx_sl (k n : Nat) (c : CS) : c_sl (writeA k n c) = c_sl c := by simp only [writeA, cx_sl_nk, cx_sl_sz, cx_sl_tk, cx_sl_ce, cx_sl_sc, cx_sl_co, cx_sl_fi]
theorem wx_au (k n : Nat) (c : CS) : c_au (writeA k n c) = c_au c := by simp only [writeA, cx_au_nk, cx_au_sz, cx_au_tk, cx_au_ce, cx_au_sc, cx_au_co, cx_au_fi]
theorem wx_mk (k n : Nat) (c : CS) : c_mk (writeA k n c) = c_mk c := by simp only [writeA, cx_mk_nk, cx_mk_sz, cx_mk_tk, cx_mk_ce, cx_mk_sc, cx_mk_co, cx_mk_fi]
theorem wx_ad (k n : Nat) (c : CS) : c_ad (writeA k n c) = c_ad c := by simp only [writeA, cx_ad_nk, cx_ad_sz, cx_ad_tk, cx_ad_ce, cx_ad_sc, cx_ad_co, cx_ad_fi]
theorem wx_fi (k n : Nat) (c : CS) : c_fi (writeA k n c) = upN (c_fi c) (c_sz c) k := by simp only [writeA, cx_fi_nk, cx_fi_sz, cx_fi_tk, cx_fi_ce, cx_fi_sc, cx_fi_co, cx_fi_fi]
theorem wx_co (k n : Nat) (c : CS) : c_co (writeA k n c) = upN (c_co c) (c_sz c) n := by simp only [writeA, cx_co_nk, cx_co_sz, cx_co_tk, cx_co_ce, cx_co_sc, cx_co_co]
theorem wx_sc (k n : Nat) (c : CS) : c_sc (writeA k n c) = upN (c_sc c) (c_sz c) (c_tk c) := by simp only [writeA, cx_sc_nk, cx_sc_sz, cx_sc_tk, cx_sc_ce, cx_sc_sc]
theorem wx_ce (k n : Nat) (c : CS) : c_ce (writeA k n c) = va_cpy (c_S c) (c_ce c) k (c_tk c + 1) n := by simp only [writeA, cx_ce_nk, cx_ce_sz, cx_ce_tk, cx_ce_ce]
theorem wx_sz (k n : Nat) (c : CS) : c_sz (writeA k n c) = c_sz c + 1 := by simp only [writeA, cx_sz_nk, cx_sz_sz]
theorem wx_tk (k n : Nat) (c : CS) : c_tk (writeA k n c) = c_tk c + (n + 1) := by simp only [writeA, cx_tk_nk, cx_tk_sz, cx_tk_tk]
theorem wx_nk (k n : Nat) (c : CS) : c_nk (writeA k n c) = true := by simp only [writeA, cx_nk_nk]
theorem wx_xo (k n : Nat) (c : CS) : c_xo (writeA k n c) = c_xo c := by simp only [writeA, cx_xo_nk, cx_xo_sz, cx_xo_tk, cx_xo_ce, cx_xo_sc, cx_xo_co, cx_xo_fi]
theorem CB_write {k n : Nat} {c : CS} (hB : CB c) (h : c_sz c < 20) : CB (writeA k n c) := by
  refine ⟨?_, ?_, ?_⟩
  · rw [wx_sz]; exact h
  · intro _; rw [wx_sz]; exact Nat.le_add_left 1 _
  · rw [wx_au]; exact hB.2.2
section CP
variable {p : Program} {l : Launch} {e : Env} {R : Room} {s : State} {m : MethodId} {args : Array Value} {below : List Frame} {meth : Method} {c0 : Code} {H : Heap} {locs : List Loc} {cells slots : Nat} {Q : State → Prop}
variable {cc : ByteArray} {pc : Nat} {ls : Array Slot} {rest : List Value} {D : va_G} {A : Nat → Prop} {own : String} {index : Nat} {a : Nat → Nat} {y : Nat → ClassId} {t : va_W} {c : CS}
theorem cy_S_ce {sp dp n : Nat} (hx : p.tables.exec = Jvm.exec) (hb : c0.code = cc) (hml : c0.maxLocals = ls.size) (hown : s.vm.findClass own = some m.cls) (hlink : (Cond.methodLink own index arraycopyName).before args s = true) (hnat : (Cond.native arraycopyName).before args s = true) (hstat : (Cond.static arraycopyName).before args s = true) (hini : (Cond.initialized "java/lang/System").before args s = true)
    (hK : va_K D vwCl (tyA y) s) (hP : va_P D vwCl (wC a y c t) H) (hD : va_D A (wC a y c t)) (hS : va_S A s.heap H locs) (h4 : sp + n ≤ 32) (h5 : dp + n ≤ 40) (hframes : 1 ≤ R.frames) (hlocals : (rest.map fun v => v.category).sum + (nativeFrameWords "java/lang/System" "arraycopy" 5 + 11) ≤ R.locals) (d : decode cc pc = .ok (.invokestatic index, 3))
    (kk : ∀ (H1 : Heap) (locs1 : List Loc), va_P D vwCl (wC a y (cs_ce c (va_cpy (c_S c) (c_ce c) sp dp n)) t) H1 → va_D A (wC a y (cs_ce c (va_cpy (c_S c) (c_ce c) sp dp n)) t) → va_S A s.heap H1 locs1 → W p l e R s m args below meth c0 H1 locs1 cells slots Q (F0 m (pc + 3) ls rest)) : W p l e R s m args below meth c0 H locs cells slots Q (F0 m pc ls (.int (nI n) :: .int (nI dp) :: .ref (a 7) :: .int (nI sp) :: .ref (a 1) :: rest)) :=
  va_copyl hx hb hml hown hlink hnat hstat hini hK hP hD hS 1 7 1 1 rfl rfl rfl rfl rfl (nI_pos (by omega)) (nI_pos (by omega)) (nI_pos (by omega)) (by rw [nI_clamp (by omega), nI_clamp (by omega)]; exact h4) (by rw [nI_clamp (by omega), nI_clamp (by omega)]; exact h5) (fun i hi => rfl) hframes hlocals d (fun H1 l1 h1 h2 h3 => by
    rw [nI_clamp (n := sp) (by omega), nI_clamp (n := dp) (by omega), nI_clamp (n := n) (by omega)] at h1 h2
    exact kk H1 l1 h1 h2 h3)
theorem cy_K_S {sp dp n : Nat} (hx : p.tables.exec = Jvm.exec) (hb : c0.code = cc) (hml : c0.maxLocals = ls.size) (hown : s.vm.findClass own = some m.cls) (hlink : (Cond.methodLink own index arraycopyName).before args s = true) (hnat : (Cond.native arraycopyName).before args s = true) (hstat : (Cond.static arraycopyName).before args s = true) (hini : (Cond.initialized "java/lang/System").before args s = true)
    (hK : va_K D vwCl (tyA y) s) (hP : va_P D vwCl (wC a y c t) H) (hD : va_D A (wC a y c t)) (hS : va_S A s.heap H locs) (h4 : sp + n ≤ 32) (h5 : dp + n ≤ 32) (hframes : 1 ≤ R.frames) (hlocals : (rest.map fun v => v.category).sum + (nativeFrameWords "java/lang/System" "arraycopy" 5 + 11) ≤ R.locals) (d : decode cc pc = .ok (.invokestatic index, 3))
    (kk : ∀ (H1 : Heap) (locs1 : List Loc), va_P D vwCl (wC a y (cs_S c (va_cpy (c_K c) (c_S c) sp dp n)) t) H1 → va_D A (wC a y (cs_S c (va_cpy (c_K c) (c_S c) sp dp n)) t) → va_S A s.heap H1 locs1 → W p l e R s m args below meth c0 H1 locs1 cells slots Q (F0 m (pc + 3) ls rest)) : W p l e R s m args below meth c0 H locs cells slots Q (F0 m pc ls (.int (nI n) :: .int (nI dp) :: .ref (a 1) :: .int (nI sp) :: .ref (a 2) :: rest)) :=
  va_copyl hx hb hml hown hlink hnat hstat hini hK hP hD hS 2 1 1 1 rfl rfl rfl rfl rfl (nI_pos (by omega)) (nI_pos (by omega)) (nI_pos (by omega)) (by rw [nI_clamp (by omega), nI_clamp (by omega)]; exact h4) (by rw [nI_clamp (by omega), nI_clamp (by omega)]; exact h5) (fun i hi => rfl) hframes hlocals d (fun H1 l1 h1 h2 h3 => by
    rw [nI_clamp (n := sp) (by omega), nI_clamp (n := dp) (by omega), nI_clamp (n := n) (by omega)] at h1 h2
    exact kk H1 l1 h1 h2 h3)
end CP
end
section
set_option maxHeartbeats 400000 in
set_option maxRecDepth 100000 in
theorem mX1_isWord (l : Launch) (y : Nat → ClassId) (t : va_W) (x : Int32)  : MGi l yX1_isWord wsX1_isWord 0 0 [.int x] (tyA y) t (bI (isW x)) t := by
  refine MGi.of (cc := cX1_isWord) (maxL := 1) (by decide) rfl (Nat.le_of_ble_eq_true rfl) ?_
  intro D p e s m below meth c0 A ls hx hb hr hml hown hlocks hts hK hP hD hA hN hl hS
  have hl : lv_has ls 1 [(0, .int x)] := hl
  refine lv_iload_n hx hb dX1_isWord_0 rfl (lv_at hl 0 rfl) ?_
  refine lv_if_lt (tgt := 14) hx hb dX1_isWord_1 (by decide) (fun (h1 : x < 0) => ?_) (fun (h1 : ¬ x < 0) => ?_)
  · refine lv_iconst (v := nI 0) hx hb dX1_isWord_14 (by decide) ?_
    exact retGz hx hb hr hlocks hK hP hD hS dX1_isWord_15 (by simp [isW, bI, h1] <;> rfl) rfl
  · refine lv_iload_n hx hb dX1_isWord_4 rfl (lv_at hl 0 rfl) ?_
    refine lv_bipush (v := nI 32) hx hb dX1_isWord_5 (by decide) ?_
    refine lv_icmp_ge (tgt := 14) hx hb dX1_isWord_7 (by decide) (fun (h7 : (nI 32) ≤ x) => ?_) (fun (h7 : ¬ (nI 32) ≤ x) => ?_)
    · refine lv_iconst (v := nI 0) hx hb dX1_isWord_14 (by decide) ?_
      exact retGz hx hb hr hlocks hK hP hD hS dX1_isWord_15 (by simp [isW, bI, h1, h7] <;> rfl) rfl
    · refine lv_iconst (v := nI 1) hx hb dX1_isWord_10 (by decide) ?_
      refine lv_goto (tgt := 15) hx hb dX1_isWord_11 (by decide) ?_
      exact retGz hx hb hr hlocks hK hP hD hS dX1_isWord_15 (by simp [isW, bI, h1, h7] <;> rfl) rfl
set_option maxHeartbeats 400000 in
set_option maxRecDepth 100000 in
theorem mX1_areWords (l : Launch) (y : Nat → ClassId) (t : va_W) (x n : Int32)  : MGi l yX1_areWords wsX1_areWords 0 0 [.int x, .int n] (tyA y) t (bI (areW x n)) t := by
  refine MGi.of (cc := cX1_areWords) (maxL := 2) (by decide) rfl (Nat.le_of_ble_eq_true rfl) ?_
  intro D p e s m below meth c0 A ls hx hb hr hml hown hlocks hts hK hP hD hA hN hl hS
  have hl : lv_has ls 2 [(0, .int x), (1, .int n)] := hl
  refine lv_iload_n hx hb dX1_areWords_0 rfl (lv_at hl 1 rfl) ?_
  refine lv_iconst (v := nI 1) hx hb dX1_areWords_1 (by decide) ?_
  refine lv_icmp_lt (tgt := 27) hx hb dX1_areWords_2 (by decide) (fun (h2 : n < (nI 1)) => ?_) (fun (h2 : ¬ n < (nI 1)) => ?_)
  · refine lv_iconst (v := nI 0) hx hb dX1_areWords_27 (by decide) ?_
    exact retGz hx hb hr hlocks hK hP hD hS dX1_areWords_28 (by simp [areW, bI, h2] <;> rfl) rfl
  · refine lv_iload_n hx hb dX1_areWords_5 rfl (lv_at hl 1 rfl) ?_
    refine lv_bipush (v := nI 8) hx hb dX1_areWords_6 (by decide) ?_
    refine lv_icmp_gt (tgt := 27) hx hb dX1_areWords_8 (by decide) (fun (h8 : (nI 8) < n) => ?_) (fun (h8 : ¬ (nI 8) < n) => ?_)
    · refine lv_iconst (v := nI 0) hx hb dX1_areWords_27 (by decide) ?_
      exact retGz hx hb hr hlocks hK hP hD hS dX1_areWords_28 (by simp [areW, bI, h2, h8] <;> rfl) rfl
    · refine lv_iload_n hx hb dX1_areWords_11 rfl (lv_at hl 0 rfl) ?_
      refine lv_if_lt (tgt := 27) hx hb dX1_areWords_12 (by decide) (fun (h12 : x < 0) => ?_) (fun (h12 : ¬ x < 0) => ?_)
      · refine lv_iconst (v := nI 0) hx hb dX1_areWords_27 (by decide) ?_
        exact retGz hx hb hr hlocks hK hP hD hS dX1_areWords_28 (by simp [areW, bI, h2, h8, h12] <;> rfl) rfl
      · refine lv_iload_n hx hb dX1_areWords_15 rfl (lv_at hl 0 rfl) ?_
        refine lv_bipush (v := nI 32) hx hb dX1_areWords_16 (by decide) ?_
        refine lv_iload_n hx hb dX1_areWords_18 rfl (lv_at hl 1 rfl) ?_
        refine lv_isub hx hb dX1_areWords_19 ?_
        refine lv_icmp_gt (tgt := 27) hx hb dX1_areWords_20 (by decide) (fun (h20 : ((nI 32) - n) < x) => ?_) (fun (h20 : ¬ ((nI 32) - n) < x) => ?_)
        · refine lv_iconst (v := nI 0) hx hb dX1_areWords_27 (by decide) ?_
          exact retGz hx hb hr hlocks hK hP hD hS dX1_areWords_28 (by simp [areW, bI, h2, h8, h12, h20] <;> rfl) rfl
        · refine lv_iconst (v := nI 1) hx hb dX1_areWords_23 (by decide) ?_
          refine lv_goto (tgt := 28) hx hb dX1_areWords_24 (by decide) ?_
          exact retGz hx hb hr hlocks hK hP hD hS dX1_areWords_28 (by simp [areW, bI, h2, h8, h12, h20] <;> rfl) rfl
set_option maxHeartbeats 400000 in
set_option maxRecDepth 100000 in
theorem mX1_lineOf (l : Launch) (y : Nat → ClassId) (t : va_W) (k : Nat) (hk : k < 2 ^ 31) : MGi l yX1_lineOf wsX1_lineOf 0 0 [.int (nI k)] (tyA y) t (nI (k / 8)) t := by
  refine MGi.of (cc := cX1_lineOf) (maxL := 1) (by decide) rfl (Nat.le_of_ble_eq_true rfl) ?_
  intro D p e s m below meth c0 A ls hx hb hr hml hown hlocks hts hK hP hD hA hN hl hS
  have hl : lv_has ls 1 [(0, .int (nI k))] := hl
  refine lv_iload_n hx hb dX1_lineOf_0 rfl (lv_at hl 0 rfl) ?_
  refine lv_bipush (v := nI 8) hx hb dX1_lineOf_1 (by decide) ?_
  refine q_idiv hx hb (show k < 2 ^ 31 by omega) (show 0 < 8 by omega) (show 8 < 2 ^ 31 by omega) dX1_lineOf_3 ?_
  exact retGi hx hb hr hlocks hK hP hD hS dX1_lineOf_4 rfl rfl
set_option maxHeartbeats 400000 in
set_option maxRecDepth 100000 in
theorem mX1_hasBit (l : Launch) (y : Nat → ClassId) (t : va_W) (x : Int64) (k : Nat) (hk : k < 64) : MGi l yX1_hasBit wsX1_hasBit 0 0 [.long x, .int (nI k)] (tyA y) t (bI (hbL x k)) t := by
  refine MGi.of (cc := cX1_hasBit) (maxL := 3) (by decide) rfl (Nat.le_of_ble_eq_true rfl) ?_
  intro D p e s m below meth c0 A ls hx hb hr hml hown hlocks hts hK hP hD hA hN hl hS
  have hl : lv_has ls 3 [(0, .long x), (2, .int (nI k))] := hl
  refine lv_lload_n hx hb dX1_hasBit_0 rfl (lv_at hl 0 rfl) ?_
  refine lv_iload_n hx hb dX1_hasBit_1 rfl (lv_at hl 1 rfl) ?_
  refine lv_lushr hx hb dX1_hasBit_2 rfl ?_
  refine lv_lconst (v := 1) hx hb dX1_hasBit_3 (by decide) ?_
  refine lv_land hx hb dX1_hasBit_4 ?_
  refine lv_lconst (v := 0) hx hb dX1_hasBit_5 (by decide) ?_
  refine W.lcmp hx hb dX1_hasBit_6 ?_
  refine lv_if_eq (tgt := 14) hx hb dX1_hasBit_7 (by decide) (fun (h7 : (lg_cmp (((x.toUInt64 >>> ((nI k).toInt64.toUInt64 &&& Int64.toUInt64 63)).toInt64) &&& 1) 0) = 0) => ?_) (fun (h7 : ¬ (lg_cmp (((x.toUInt64 >>> ((nI k).toInt64.toUInt64 &&& Int64.toUInt64 63)).toInt64) &&& 1) 0) = 0) => ?_)
  · refine lv_iconst (v := nI 0) hx hb dX1_hasBit_14 (by decide) ?_
    exact retGz hx hb hr hlocks hK hP hD hS dX1_hasBit_15 (by have q := hb_cmp x hk; simp [h7] at q; simp [q, bI] <;> rfl) rfl
  · refine lv_iconst (v := nI 1) hx hb dX1_hasBit_10 (by decide) ?_
    refine lv_goto (tgt := 15) hx hb dX1_hasBit_11 (by decide) ?_
    exact retGz hx hb hr hlocks hK hP hD hS dX1_hasBit_15 (by have q := hb_cmp x hk; simp [h7] at q; simp [q, bI] <;> rfl) rfl
end
section
theorem in_X0_X0_hasRoomFor : ∀ w ∈ wsX00, w ∈ wsX0_hasRoomFor := fun w h => List.mem_cons_of_mem _ (List.mem_append_right _ (h))
set_option maxHeartbeats 400000 in
set_option maxRecDepth 100000 in
theorem mX0_hasRoomFor (l : Launch) (y : Nat → ClassId) (t : va_W) (a : Nat → Nat) (c : CS) (n : Nat) (hn : n ≤ 8) (ht : c_tk c ≤ 40) : MGi l yX0_hasRoomFor wsX0_hasRoomFor 0 0 [.ref (a 3), .int (nI n)] (tyA y) (wC a y c t) (bI (roomF c n)) (wC a y c t) := by
  refine MGi.of (cc := cX0_hasRoomFor) (maxL := 2) (by decide) rfl (Nat.le_of_ble_eq_true rfl) ?_
  intro D p e s m below meth c0 A ls hx hb hr hml hown hlocks hts hK hP hD hA hN hl hS
  have hl : lv_has ls 2 [(0, .ref (a 3)), (1, .int (nI n))] := hl
  have hinX0 : ∀ w ∈ u_ws RX0 TX0 8, w ∈ wsX0_hasRoomFor := in_X0_X0_hasRoomFor
  refine lv_iload_n hx hb dX0_hasRoomFor_0 rfl (lv_at hl 1 rfl) ?_
  refine lv_iconst (v := nI 1) hx hb dX0_hasRoomFor_1 (by decide) ?_
  refine q_iadd hx hb dX0_hasRoomFor_2 ?_
  refine lv_bipush (v := nI 40) hx hb dX0_hasRoomFor_3 (by decide) ?_
  refine lv_aload_n hx hb dX0_hasRoomFor_5 rfl (lv_at hl 0 rfl) ?_
  refine cg_tk hx hb hts hinX0 hown hK hP (hts (.fieldLink RX0 25 "FencedWords$Log" "cellsTaken" "I") (List.mem_of_getElem? (i := 1) rfl)) dX0_hasRoomFor_6 ?_
  refine q_isub hx hb (show (c_tk c) ≤ 40 by omega) dX0_hasRoomFor_9 ?_
  refine q_icmp_gt (tgt := 17) hx hb (show (n + 1) < 2 ^ 31 by omega) (show (40 - (c_tk c)) < 2 ^ 31 by omega) dX0_hasRoomFor_10 (by decide) (fun (h10 : (40 - (c_tk c)) < (n + 1)) => ?_) (fun (h10 : (n + 1) ≤ (40 - (c_tk c))) => ?_)
  · refine lv_iconst (v := nI 0) hx hb dX0_hasRoomFor_17 (by decide) ?_
    exact retGz hx hb hr hlocks hK hP hD hS dX0_hasRoomFor_18 (by have q : roomF c n = false := (by unfold roomF; simp; omega); rw [q]; rfl) rfl
  · refine lv_iconst (v := nI 1) hx hb dX0_hasRoomFor_13 (by decide) ?_
    refine lv_goto (tgt := 18) hx hb dX0_hasRoomFor_14 (by decide) ?_
    exact retGz hx hb hr hlocks hK hP hD hS dX0_hasRoomFor_18 (by have q : roomF c n = true := (by unfold roomF; simp; omega); rw [q]; rfl) rfl
theorem in_X0_X0_covers : ∀ w ∈ wsX00, w ∈ wsX0_covers := fun w h => List.mem_cons_of_mem _ (List.mem_append_right _ (h))
set_option maxHeartbeats 400000 in
set_option maxRecDepth 100000 in
theorem mX0_covers (l : Launch) (y : Nat → ClassId) (t : va_W) (a : Nat → Nat) (c : CS) (k : Nat) (hk : k < 32) (hz : c_sz c ≤ 20) (hf : ∀ r, r < c_sz c → c_fi c r + c_co c r ≤ 32) : MGi l yX0_covers wsX0_covers 0 0 [.ref (a 3), .int (nI k)] (tyA y) (wC a y c t) (bI (coversF c k)) (wC a y c t) := by
  refine MGi.of (cc := cX0_covers) (maxL := 3) (by decide) rfl (Nat.le_of_ble_eq_true rfl) ?_
  intro D p e s m below meth c0 A ls hx hb hr hml hown hlocks hts hK hP hD hA hN hl hS
  have hl : lv_has ls 3 [(0, .ref (a 3)), (1, .int (nI k))] := hl
  have hinX0 : ∀ w ∈ u_ws RX0 TX0 8, w ∈ wsX0_covers := in_X0_X0_covers
  refine lv_iconst (v := nI 0) hx hb dX0_covers_0 (by decide) ?_
  refine lv_istore_n (lv' := [(2, .int (nI 0)), (0, .ref (a 3)), (1, .int (nI k))]) hx hb dX0_covers_1 rfl hl (by decide) rfl (fun ls hl => ?_)
  have loop : ∀ (n2 : Nat) (i : Nat) (H : Heap) (locs : List Loc) (ls : Array Slot), (i ≤ c_sz c) → (c_sz c + 1 ≤ i + n2) → (anyTo (covP c k) i = false) → va_P D vwCl (wC a y c t) H → va_D A (wC a y c t) → va_S A s.heap H locs → lv_has ls 3 [(0, .ref (a 3)), (1, .int (nI k)), (2, .int (nI i))] → W p l e ({ frames := 0, cells := 0, slots := 0, locals := 0 }) s m [.ref (a 3), .int (nI k)].toArray below meth c0 H locs 0 0 (GQi below D (tyA y) A (bI (coversF c k)) (wC a y c t) [.ref (a 3), .int (nI k)].toArray s) (F0 m 2 ls []) := by
    intro n2
    induction n2 with
    | zero =>
      intro i H locs ls hi hn hc hP hD hS hl
      omega
    | succ n2 ih2 =>
      intro i H locs ls hi hn hc hP hD hS hl
      refine lv_iload_n hx hb dX0_covers_2 rfl (lv_at hl 2 rfl) ?_
      refine lv_aload_n hx hb dX0_covers_3 rfl (lv_at hl 0 rfl) ?_
      refine cg_sz hx hb hts hinX0 hown hK hP (hts (.fieldLink RX0 29 "FencedWords$Log" "size" "I") (List.mem_of_getElem? (i := 1) rfl)) dX0_covers_4 ?_
      refine q_icmp_ge (tgt := 45) hx hb (show i < 2 ^ 31 by omega) (show (c_sz c) < 2 ^ 31 by omega) dX0_covers_7 (by decide) (fun (h7 : (c_sz c) ≤ i) => ?_) (fun (h7 : i < (c_sz c)) => ?_)
      · refine lv_iconst (v := nI 0) hx hb dX0_covers_45 (by decide) ?_
        exact retGz hx hb hr hlocks hK hP hD hS dX0_covers_46 (by have e : i = c_sz c := (by omega); subst e; rw [show coversF c k = false from hc]; rfl) rfl
      · have hfi := hf i h7
        refine lv_iload_n hx hb dX0_covers_10 rfl (lv_at hl 1 rfl) ?_
        refine lv_aload_n hx hb dX0_covers_11 rfl (lv_at hl 0 rfl) ?_
        refine cg_r4 hx hb hts hinX0 hown hK hP (hts (.fieldLink RX0 9 "FencedWords$Log" "firsts" "[I") (List.mem_of_getElem? (i := 2) rfl)) dX0_covers_12 ?_
        refine lv_iload_n hx hb dX0_covers_15 rfl (lv_at hl 2 rfl) ?_
        refine cl_fi hx hb hK hP (show i < 20 by omega) dX0_covers_16 ?_
        refine q_icmp_lt (tgt := 39) hx hb (show k < 2 ^ 31 by omega) (show (c_fi c i) < 2 ^ 31 by omega) dX0_covers_17 (by decide) (fun (h17 : k < (c_fi c i)) => ?_) (fun (h17 : (c_fi c i) ≤ k) => ?_)
        · refine lv_iinc (v := nI (i + 1)) (lv' := [(2, .int (nI (i + 1))), (0, .ref (a 3)), (1, .int (nI k))]) hx hb dX0_covers_39 hl (k := 2) rfl (nI_add i 1) (by decide) rfl (fun ls hl => ?_)
          refine lv_goto (tgt := 2) hx hb dX0_covers_42 (by decide) ?_
          exact ih2 (i + 1) _ _ _ (by omega) (by omega) (by have q : covP c k i = false := (by simp [covP]; omega); simp [anyTo, hc, q]) hP hD hS (lv_sub hl [1, 2, 0] rfl)
        · refine lv_iload_n hx hb dX0_covers_20 rfl (lv_at hl 1 rfl) ?_
          refine lv_aload_n hx hb dX0_covers_21 rfl (lv_at hl 0 rfl) ?_
          refine cg_r4 hx hb hts hinX0 hown hK hP (hts (.fieldLink RX0 9 "FencedWords$Log" "firsts" "[I") (List.mem_of_getElem? (i := 2) rfl)) dX0_covers_22 ?_
          refine lv_iload_n hx hb dX0_covers_25 rfl (lv_at hl 2 rfl) ?_
          refine cl_fi hx hb hK hP (show i < 20 by omega) dX0_covers_26 ?_
          refine lv_aload_n hx hb dX0_covers_27 rfl (lv_at hl 0 rfl) ?_
          refine cg_r5 hx hb hts hinX0 hown hK hP (hts (.fieldLink RX0 15 "FencedWords$Log" "counts" "[I") (List.mem_of_getElem? (i := 3) rfl)) dX0_covers_28 ?_
          refine lv_iload_n hx hb dX0_covers_31 rfl (lv_at hl 2 rfl) ?_
          refine cl_co hx hb hK hP (show i < 20 by omega) dX0_covers_32 ?_
          refine q_iadd hx hb dX0_covers_33 ?_
          refine q_icmp_ge (tgt := 39) hx hb (show k < 2 ^ 31 by omega) (show ((c_fi c i) + (c_co c i)) < 2 ^ 31 by omega) dX0_covers_34 (by decide) (fun (h34 : ((c_fi c i) + (c_co c i)) ≤ k) => ?_) (fun (h34 : k < ((c_fi c i) + (c_co c i))) => ?_)
          · refine lv_iinc (v := nI (i + 1)) (lv' := [(2, .int (nI (i + 1))), (0, .ref (a 3)), (1, .int (nI k))]) hx hb dX0_covers_39 hl (k := 2) rfl (nI_add i 1) (by decide) rfl (fun ls hl => ?_)
            refine lv_goto (tgt := 2) hx hb dX0_covers_42 (by decide) ?_
            exact ih2 (i + 1) _ _ _ (by omega) (by omega) (by have q : covP c k i = false := (by simp [covP]; omega); simp [anyTo, hc, q]) hP hD hS (lv_sub hl [1, 2, 0] rfl)
          · refine lv_iconst (v := nI 1) hx hb dX0_covers_37 (by decide) ?_
            exact retGz hx hb hr hlocks hK hP hD hS dX0_covers_38 (by rw [show coversF c k = true from anyTo_mono h7 (by simp [covP, h17, h34])]; rfl) rfl
  exact loop (c_sz c + 1) 0 _ _ _ (by omega) (by omega) rfl hP hD hS (lv_sub hl [1, 2, 0] rfl)
theorem in_X0_X0_coveredLines : ∀ w ∈ wsX00, w ∈ wsX0_coveredLines := fun w h => List.mem_cons_of_mem _ (List.mem_append_right _ (h))
set_option maxHeartbeats 400000 in
set_option maxRecDepth 100000 in
theorem mX0_coveredLines (l : Launch) (y : Nat → ClassId) (t : va_W) (a : Nat → Nat) (c : CS) (hz : c_sz c ≤ 20) (hf : ∀ r, r < c_sz c → 1 ≤ c_co c r ∧ c_fi c r + c_co c r ≤ 32) : MGi l yX0_coveredLines wsX0_coveredLines 1 20 [.ref (a 3)] (tyA y) (wC a y c t) (covL c (c_sz c)) (wC a y c t) := by
  refine MGi.of (cc := cX0_coveredLines) (maxL := 3) (by decide) rfl (Nat.le_of_ble_eq_true rfl) ?_
  intro D p e s m below meth c0 A ls hx hb hr hml hown hlocks hts hK hP hD hA hN hl hS
  have hl : lv_has ls 3 [(0, .ref (a 3))] := hl
  have hinX0 : ∀ w ∈ u_ws RX0 TX0 8, w ∈ wsX0_coveredLines := in_X0_X0_coveredLines
  refine lv_iconst (v := nI 0) hx hb dX0_coveredLines_0 (by decide) ?_
  refine lv_istore_n (lv' := [(1, .int (nI 0)), (0, .ref (a 3))]) hx hb dX0_coveredLines_1 rfl hl (by decide) rfl (fun ls hl => ?_)
  refine lv_iconst (v := nI 0) hx hb dX0_coveredLines_2 (by decide) ?_
  refine lv_istore_n (lv' := [(2, .int (nI 0)), (1, .int (nI 0)), (0, .ref (a 3))]) hx hb dX0_coveredLines_3 rfl hl (by decide) rfl (fun ls hl => ?_)
  have loop : ∀ (n4 : Nat) (i : Nat) (H : Heap) (locs : List Loc) (ls : Array Slot), (i ≤ c_sz c) → (c_sz c + 1 ≤ i + n4) → va_P D vwCl (wC a y c t) H → va_D A (wC a y c t) → va_S A s.heap H locs → lv_has ls 3 [(0, .ref (a 3)), (1, .int (covL c i)), (2, .int (nI i))] → W p l e ({ frames := 1, cells := 0, slots := 0, locals := 20 }) s m [.ref (a 3)].toArray below meth c0 H locs 0 0 (GQi below D (tyA y) A (covL c (c_sz c)) (wC a y c t) [.ref (a 3)].toArray s) (F0 m 4 ls []) := by
    intro n4
    induction n4 with
    | zero =>
      intro i H locs ls hi hn hP hD hS hl
      omega
    | succ n4 ih4 =>
      intro i H locs ls hi hn hP hD hS hl
      refine lv_iload_n hx hb dX0_coveredLines_4 rfl (lv_at hl 2 rfl) ?_
      refine lv_aload_n hx hb dX0_coveredLines_5 rfl (lv_at hl 0 rfl) ?_
      refine cg_sz hx hb hts hinX0 hown hK hP (hts (.fieldLink RX0 29 "FencedWords$Log" "size" "I") (List.mem_of_getElem? (i := 1) rfl)) dX0_coveredLines_6 ?_
      refine q_icmp_ge (tgt := 55) hx hb (show i < 2 ^ 31 by omega) (show (c_sz c) < 2 ^ 31 by omega) dX0_coveredLines_9 (by decide) (fun (h9 : (c_sz c) ≤ i) => ?_) (fun (h9 : i < (c_sz c)) => ?_)
      · refine lv_iload_n hx hb dX0_coveredLines_55 rfl (lv_at hl 1 rfl) ?_
        exact retGi hx hb hr hlocks hK hP hD hS dX0_coveredLines_56 (by rw [show i = c_sz c by omega]) rfl
      · have hfi := hf i h9
        refine lv_iload_n hx hb dX0_coveredLines_12 rfl (lv_at hl 1 rfl) ?_
        refine lv_iconst (v := nI 1) hx hb dX0_coveredLines_13 (by decide) ?_
        refine lv_aload_n hx hb dX0_coveredLines_14 rfl (lv_at hl 0 rfl) ?_
        refine cg_r4 hx hb hts hinX0 hown hK hP (hts (.fieldLink RX0 9 "FencedWords$Log" "firsts" "[I") (List.mem_of_getElem? (i := 2) rfl)) dX0_coveredLines_15 ?_
        refine lv_iload_n hx hb dX0_coveredLines_18 rfl (lv_at hl 2 rfl) ?_
        refine cl_fi hx hb hK hP (show i < 20 by omega) dX0_coveredLines_19 ?_
        refine callNi (rest := [.int (nI 1), .int (covL c i)]) ⟨hx, hb, hml, hown, hts⟩ (mX1_lineOf l y _ (c_fi c i) (by omega)) ⟨va_cnB (host := "FencedWords") 1 hts gX0_coveredLines_X1_lineOf_n32 rfl rfl rfl hN.2.2.2.2 (hts (.initialized RX1) (List.mem_of_getElem? (i := 5) rfl)) (by decide +kernel) ⟨Nat.le_of_ble_eq_true rfl, Nat.le_of_ble_eq_true rfl⟩, hts (.static yX1_lineOf) (List.mem_of_getElem? (i := 4) rfl), trivial⟩ hK hP hD hS hA hN rfl hl.1 rfl (Nat.le_of_ble_eq_true rfl) dX0_coveredLines_20 ⟨Nat.le_of_ble_eq_true rfl, Nat.le_of_ble_eq_true rfl⟩ (fun H locs hP hD hS => ?_)
        refine lv_ishl hx hb dX0_coveredLines_23 ?_
        refine lv_ior hx hb dX0_coveredLines_24 ?_
        refine lv_istore_n (lv' := [(1, .int ((covL c i) ||| ((nI 1) <<< ((nI ((c_fi c i) / 8)) &&& 31)))), (0, .ref (a 3)), (2, .int (nI i))]) hx hb dX0_coveredLines_25 rfl hl (by decide) rfl (fun ls hl => ?_)
        refine lv_iload_n hx hb dX0_coveredLines_26 rfl (lv_at hl 0 rfl) ?_
        refine lv_iconst (v := nI 1) hx hb dX0_coveredLines_27 (by decide) ?_
        refine lv_aload_n hx hb dX0_coveredLines_28 rfl (lv_at hl 1 rfl) ?_
        refine cg_r4 hx hb hts hinX0 hown hK hP (hts (.fieldLink RX0 9 "FencedWords$Log" "firsts" "[I") (List.mem_of_getElem? (i := 2) rfl)) dX0_coveredLines_29 ?_
        refine lv_iload_n hx hb dX0_coveredLines_32 rfl (lv_at hl 2 rfl) ?_
        refine cl_fi hx hb hK hP (show i < 20 by omega) dX0_coveredLines_33 ?_
        refine lv_aload_n hx hb dX0_coveredLines_34 rfl (lv_at hl 1 rfl) ?_
        refine cg_r5 hx hb hts hinX0 hown hK hP (hts (.fieldLink RX0 15 "FencedWords$Log" "counts" "[I") (List.mem_of_getElem? (i := 3) rfl)) dX0_coveredLines_35 ?_
        refine lv_iload_n hx hb dX0_coveredLines_38 rfl (lv_at hl 2 rfl) ?_
        refine cl_co hx hb hK hP (show i < 20 by omega) dX0_coveredLines_39 ?_
        refine q_iadd hx hb dX0_coveredLines_40 ?_
        refine lv_iconst (v := nI 1) hx hb dX0_coveredLines_41 (by decide) ?_
        refine q_isub hx hb (show 1 ≤ ((c_fi c i) + (c_co c i)) by omega) dX0_coveredLines_42 ?_
        refine callNi (rest := [.int (nI 1), .int ((covL c i) ||| ((nI 1) <<< ((nI ((c_fi c i) / 8)) &&& 31)))]) ⟨hx, hb, hml, hown, hts⟩ (mX1_lineOf l y _ (((c_fi c i) + (c_co c i)) - 1) (by omega)) ⟨va_cnB (host := "FencedWords") 1 hts gX0_coveredLines_X1_lineOf_n32 rfl rfl rfl hN.2.2.2.2 (hts (.initialized RX1) (List.mem_of_getElem? (i := 5) rfl)) (by decide +kernel) ⟨Nat.le_of_ble_eq_true rfl, Nat.le_of_ble_eq_true rfl⟩, hts (.static yX1_lineOf) (List.mem_of_getElem? (i := 4) rfl), trivial⟩ hK hP hD hS hA hN rfl hl.1 rfl (Nat.le_of_ble_eq_true rfl) dX0_coveredLines_43 ⟨Nat.le_of_ble_eq_true rfl, Nat.le_of_ble_eq_true rfl⟩ (fun H locs hP hD hS => ?_)
        refine lv_ishl hx hb dX0_coveredLines_46 ?_
        refine lv_ior hx hb dX0_coveredLines_47 ?_
        refine lv_istore_n (lv' := [(1, .int (((covL c i) ||| ((nI 1) <<< ((nI ((c_fi c i) / 8)) &&& 31))) ||| ((nI 1) <<< ((nI ((((c_fi c i) + (c_co c i)) - 1) / 8)) &&& 31)))), (0, .ref (a 3)), (2, .int (nI i))]) hx hb dX0_coveredLines_48 rfl hl (by decide) rfl (fun ls hl => ?_)
        refine lv_iinc (v := nI (i + 1)) (lv' := [(2, .int (nI (i + 1))), (1, .int (((covL c i) ||| ((nI 1) <<< ((nI ((c_fi c i) / 8)) &&& 31))) ||| ((nI 1) <<< ((nI ((((c_fi c i) + (c_co c i)) - 1) / 8)) &&& 31)))), (0, .ref (a 3))]) hx hb dX0_coveredLines_49 hl (k := 2) rfl (nI_add i 1) (by decide) rfl (fun ls hl => ?_)
        refine lv_goto (tgt := 4) hx hb dX0_coveredLines_52 (by decide) ?_
        exact ih4 (i + 1) _ _ _ (by omega) (by omega) hP hD hS (lv_sub hl [2, 1, 0] rfl)
  exact loop (c_sz c + 1) 0 _ _ _ (by omega) (by omega) hP hD hS (lv_sub hl [2, 1, 0] rfl)
theorem in_X0_X0_oldValue : ∀ w ∈ wsX00, w ∈ wsX0_oldValue := fun w h => List.mem_cons_of_mem _ (List.mem_append_right _ (h))
set_option maxHeartbeats 400000 in
set_option maxRecDepth 100000 in
theorem mX0_oldValue (l : Launch) (y : Nat → ClassId) (t : va_W) (a : Nat → Nat) (c : CS) (r i : Nat) (hr0 : r < 20) (hi : c_sc c r + 1 + i < 40) : MGl l yX0_oldValue wsX0_oldValue 0 0 [.ref (a 3), .int (nI r), .int (nI i)] (tyA y) (wC a y c t) (c_ce c (c_sc c r + 1 + i)) (wC a y c t) := by
  refine MGl.of (cc := cX0_oldValue) (maxL := 3) (by decide) rfl (Nat.le_of_ble_eq_true rfl) ?_
  intro D p e s m below meth c0 A ls hx hb hr hml hown hlocks hts hK hP hD hA hN hl hS
  have hl : lv_has ls 3 [(0, .ref (a 3)), (1, .int (nI r)), (2, .int (nI i))] := hl
  have hinX0 : ∀ w ∈ u_ws RX0 TX0 8, w ∈ wsX0_oldValue := in_X0_X0_oldValue
  refine lv_aload_n hx hb dX0_oldValue_0 rfl (lv_at hl 0 rfl) ?_
  refine cg_r7 hx hb hts hinX0 hown hK hP (hts (.fieldLink RX0 21 "FencedWords$Log" "cells" "[J") (List.mem_of_getElem? (i := 1) rfl)) dX0_oldValue_1 ?_
  refine lv_aload_n hx hb dX0_oldValue_4 rfl (lv_at hl 0 rfl) ?_
  refine cg_r6 hx hb hts hinX0 hown hK hP (hts (.fieldLink RX0 18 "FencedWords$Log" "startCells" "[I") (List.mem_of_getElem? (i := 2) rfl)) dX0_oldValue_5 ?_
  refine lv_iload_n hx hb dX0_oldValue_8 rfl (lv_at hl 1 rfl) ?_
  refine cl_sc hx hb hK hP (show r < 20 by omega) dX0_oldValue_9 ?_
  refine lv_iconst (v := nI 1) hx hb dX0_oldValue_10 (by decide) ?_
  refine q_iadd hx hb dX0_oldValue_11 ?_
  refine lv_iload_n hx hb dX0_oldValue_12 rfl (lv_at hl 2 rfl) ?_
  refine q_iadd hx hb dX0_oldValue_13 ?_
  refine cl_ce hx hb hK hP (show (((c_sc c r) + 1) + i) < 40 by omega) dX0_oldValue_14 ?_
  exact retGl hx hb hr hlocks hK hP hD hS dX0_oldValue_15 rfl rfl
theorem in_X0_X0_write : ∀ w ∈ wsX00, w ∈ wsX0_write := fun w h => List.mem_cons_of_mem _ (List.mem_append_right _ (h))
set_option maxHeartbeats 400000 in
set_option maxRecDepth 100000 in
theorem mX0_write (l : Launch) (y : Nat → ClassId) (t : va_W) (a : Nat → Nat) (c : CS) (k n : Nat) (h1 : k + n ≤ 32) (h2 : c_sz c < 20) (h3 : c_tk c + 1 + n ≤ 40) : MGv l yX0_write wsX0_write 1 40 [.ref (a 3), .int (nI k), .int (nI n), .ref (a 1)] (tyA y) (wC a y c t) (wC a y (writeA k n c) t) := by
  refine MGv.of (cc := cX0_write) (maxL := 4) (by decide) rfl (Nat.le_of_ble_eq_true rfl) ?_
  intro D p e s m below meth c0 A ls hx hb hr hml hown hlocks hts hK hP hD hA hN hl hS
  have hl : lv_has ls 4 [(0, .ref (a 3)), (1, .int (nI k)), (2, .int (nI n)), (3, .ref (a 1))] := hl
  have hinX0 : ∀ w ∈ u_ws RX0 TX0 8, w ∈ wsX0_write := in_X0_X0_write
  refine lv_aload_n hx hb dX0_write_0 rfl (lv_at hl 0 rfl) ?_
  refine cg_r4 hx hb hts hinX0 hown hK hP (hts (.fieldLink RX0 9 "FencedWords$Log" "firsts" "[I") (List.mem_of_getElem? (i := 1) rfl)) dX0_write_1 ?_
  refine lv_aload_n hx hb dX0_write_4 rfl (lv_at hl 0 rfl) ?_
  refine cg_sz hx hb hts hinX0 hown hK hP (hts (.fieldLink RX0 29 "FencedWords$Log" "size" "I") (List.mem_of_getElem? (i := 2) rfl)) dX0_write_5 ?_
  refine lv_iload_n hx hb dX0_write_8 rfl (lv_at hl 1 rfl) ?_
  refine ct_fi (v := k) hx hb hK hP hD hS (show (c_sz c) < 20 by omega) dX0_write_9 (fun H locs hP hD hS => ?_)
  refine lv_aload_n hx hb dX0_write_10 rfl (lv_at hl 0 rfl) ?_
  refine cg_r5 hx hb hts hinX0 hown hK hP (hts (.fieldLink RX0 15 "FencedWords$Log" "counts" "[I") (List.mem_of_getElem? (i := 3) rfl)) dX0_write_11 ?_
  refine lv_aload_n hx hb dX0_write_14 rfl (lv_at hl 0 rfl) ?_
  refine cg_sz hx hb hts hinX0 hown hK hP (hts (.fieldLink RX0 29 "FencedWords$Log" "size" "I") (List.mem_of_getElem? (i := 2) rfl)) dX0_write_15 ?_
  refine lv_iload_n hx hb dX0_write_18 rfl (lv_at hl 2 rfl) ?_
  refine ct_co (v := n) hx hb hK hP hD hS (show (c_sz c) < 20 by omega) dX0_write_19 (fun H locs hP hD hS => ?_)
  refine lv_aload_n hx hb dX0_write_20 rfl (lv_at hl 0 rfl) ?_
  refine cg_r6 hx hb hts hinX0 hown hK hP (hts (.fieldLink RX0 18 "FencedWords$Log" "startCells" "[I") (List.mem_of_getElem? (i := 4) rfl)) dX0_write_21 ?_
  refine lv_aload_n hx hb dX0_write_24 rfl (lv_at hl 0 rfl) ?_
  refine cg_sz hx hb hts hinX0 hown hK hP (hts (.fieldLink RX0 29 "FencedWords$Log" "size" "I") (List.mem_of_getElem? (i := 2) rfl)) dX0_write_25 ?_
  refine lv_aload_n hx hb dX0_write_28 rfl (lv_at hl 0 rfl) ?_
  refine cg_tk hx hb hts hinX0 hown hK hP (hts (.fieldLink RX0 25 "FencedWords$Log" "cellsTaken" "I") (List.mem_of_getElem? (i := 5) rfl)) dX0_write_29 ?_
  refine ct_sc (v := c_tk c) hx hb hK hP hD hS (show (c_sz c) < 20 by omega) dX0_write_32 (fun H locs hP hD hS => ?_)
  refine lv_aload_n hx hb dX0_write_33 rfl (lv_at hl 3 rfl) ?_
  refine lv_iload_n hx hb dX0_write_34 rfl (lv_at hl 1 rfl) ?_
  refine lv_aload_n hx hb dX0_write_35 rfl (lv_at hl 0 rfl) ?_
  refine cg_r7 hx hb hts hinX0 hown hK hP (hts (.fieldLink RX0 21 "FencedWords$Log" "cells" "[J") (List.mem_of_getElem? (i := 6) rfl)) dX0_write_36 ?_
  refine lv_aload_n hx hb dX0_write_39 rfl (lv_at hl 0 rfl) ?_
  refine cg_tk hx hb hts hinX0 hown hK hP (hts (.fieldLink RX0 25 "FencedWords$Log" "cellsTaken" "I") (List.mem_of_getElem? (i := 5) rfl)) dX0_write_40 ?_
  refine lv_iconst (v := nI 1) hx hb dX0_write_43 (by decide) ?_
  refine q_iadd hx hb dX0_write_44 ?_
  refine lv_iload_n hx hb dX0_write_45 rfl (lv_at hl 2 rfl) ?_
  refine cy_S_ce hx hb (hml.trans hl.1.symm) hown (hts (.methodLink RX0 36 arraycopyName) (List.mem_of_getElem? (i := 7) rfl)) (hts (.native arraycopyName) (List.mem_of_getElem? (i := 8) rfl)) (hts (.static arraycopyName) (List.mem_of_getElem? (i := 9) rfl)) (hts (.initialized "java/lang/System") (List.mem_of_getElem? (i := 10) rfl)) hK hP hD hS (show k + n ≤ 32 by omega) (show ((c_tk c) + 1) + n ≤ 40 by omega) (Nat.le_of_ble_eq_true rfl) (by decide +kernel) dX0_write_46 (fun H locs hP hD hS => ?_)
  refine lv_aload_n hx hb dX0_write_49 rfl (lv_at hl 0 rfl) ?_
  refine lv_dup hx hb dX0_write_50 rfl ?_
  refine cg_tk hx hb hts hinX0 hown hK hP (hts (.fieldLink RX0 25 "FencedWords$Log" "cellsTaken" "I") (List.mem_of_getElem? (i := 5) rfl)) dX0_write_51 ?_
  refine lv_iload_n hx hb dX0_write_54 rfl (lv_at hl 2 rfl) ?_
  refine lv_iconst (v := nI 1) hx hb dX0_write_55 (by decide) ?_
  refine q_iadd hx hb dX0_write_56 ?_
  refine q_iadd hx hb dX0_write_57 ?_
  refine cp_tk (v := (c_tk c) + (n + 1)) hx hb hts hinX0 hown hK hP hD hS (hts (.fieldLink RX0 25 "FencedWords$Log" "cellsTaken" "I") (List.mem_of_getElem? (i := 5) rfl)) dX0_write_58 (fun H locs hP hD hS => ?_)
  refine lv_aload_n hx hb dX0_write_61 rfl (lv_at hl 0 rfl) ?_
  refine lv_dup hx hb dX0_write_62 rfl ?_
  refine cg_sz hx hb hts hinX0 hown hK hP (hts (.fieldLink RX0 29 "FencedWords$Log" "size" "I") (List.mem_of_getElem? (i := 2) rfl)) dX0_write_63 ?_
  refine lv_iconst (v := nI 1) hx hb dX0_write_66 (by decide) ?_
  refine q_iadd hx hb dX0_write_67 ?_
  refine cp_sz (v := (c_sz c) + 1) hx hb hts hinX0 hown hK hP hD hS (hts (.fieldLink RX0 29 "FencedWords$Log" "size" "I") (List.mem_of_getElem? (i := 2) rfl)) dX0_write_68 (fun H locs hP hD hS => ?_)
  refine lv_aload_n hx hb dX0_write_71 rfl (lv_at hl 0 rfl) ?_
  refine lv_iconst (v := nI 1) hx hb dX0_write_72 (by decide) ?_
  refine cp_nk (v := true) hx hb hts hinX0 hown hK hP hD hS (hts (.fieldLink RX0 42 "FencedWords$Log" "newestNotKept" "Z") (List.mem_of_getElem? (i := 11) rfl)) dX0_write_73 (fun H locs hP hD hS => ?_)
  exact retGv hx hb hr hlocks hK hP hD hS dX0_write_76 rfl
theorem in_X0_X0_keepNewest : ∀ w ∈ wsX00, w ∈ wsX0_keepNewest := fun w h => List.mem_cons_of_mem _ (List.mem_append_right _ (h))
set_option maxHeartbeats 400000 in
set_option maxRecDepth 100000 in
theorem mX0_keepNewest (l : Launch) (y : Nat → ClassId) (t : va_W) (a : Nat → Nat) (c : CS)  : MGv l yX0_keepNewest wsX0_keepNewest 0 0 [.ref (a 3)] (tyA y) (wC a y c t) (wC a y (keepN c) t) := by
  refine MGv.of (cc := cX0_keepNewest) (maxL := 1) (by decide) rfl (Nat.le_of_ble_eq_true rfl) ?_
  intro D p e s m below meth c0 A ls hx hb hr hml hown hlocks hts hK hP hD hA hN hl hS
  have hl : lv_has ls 1 [(0, .ref (a 3))] := hl
  have hinX0 : ∀ w ∈ u_ws RX0 TX0 8, w ∈ wsX0_keepNewest := in_X0_X0_keepNewest
  refine lv_aload_n hx hb dX0_keepNewest_0 rfl (lv_at hl 0 rfl) ?_
  refine lv_iconst (v := nI 0) hx hb dX0_keepNewest_1 (by decide) ?_
  refine cp_nk (v := false) hx hb hts hinX0 hown hK hP hD hS (hts (.fieldLink RX0 42 "FencedWords$Log" "newestNotKept" "Z") (List.mem_of_getElem? (i := 1) rfl)) dX0_keepNewest_2 (fun H locs hP hD hS => ?_)
  exact retGv hx hb hr hlocks hK hP hD hS dX0_keepNewest_5 rfl
theorem in_X0_X0_crossOut : ∀ w ∈ wsX00, w ∈ wsX0_crossOut := fun w h => List.mem_cons_of_mem _ (List.mem_append_right _ (h))
set_option maxHeartbeats 400000 in
set_option maxRecDepth 100000 in
theorem mX0_crossOut (l : Launch) (y : Nat → ClassId) (t : va_W) (a : Nat → Nat) (c : CS)  : MGv l yX0_crossOut wsX0_crossOut 0 0 [.ref (a 3)] (tyA y) (wC a y c t) (wC a y (crossA c) t) := by
  refine MGv.of (cc := cX0_crossOut) (maxL := 1) (by decide) rfl (Nat.le_of_ble_eq_true rfl) ?_
  intro D p e s m below meth c0 A ls hx hb hr hml hown hlocks hts hK hP hD hA hN hl hS
  have hl : lv_has ls 1 [(0, .ref (a 3))] := hl
  have hinX0 : ∀ w ∈ u_ws RX0 TX0 8, w ∈ wsX0_crossOut := in_X0_X0_crossOut
  refine lv_aload_n hx hb dX0_crossOut_0 rfl (lv_at hl 0 rfl) ?_
  refine lv_iconst (v := nI 1) hx hb dX0_crossOut_1 (by decide) ?_
  refine cp_xo (v := true) hx hb hts hinX0 hown hK hP hD hS (hts (.fieldLink RX0 46 "FencedWords$Log" "crossedOut" "Z") (List.mem_of_getElem? (i := 1) rfl)) dX0_crossOut_2 (fun H locs hP hD hS => ?_)
  exact retGv hx hb hr hlocks hK hP hD hS dX0_crossOut_5 rfl
theorem in_X0_X0_dropAll : ∀ w ∈ wsX00, w ∈ wsX0_dropAll := fun w h => List.mem_cons_of_mem _ (List.mem_append_right _ (h))
set_option maxHeartbeats 400000 in
set_option maxRecDepth 100000 in
theorem mX0_dropAll (l : Launch) (y : Nat → ClassId) (t : va_W) (a : Nat → Nat) (c : CS)  : MGv l yX0_dropAll wsX0_dropAll 0 0 [.ref (a 3)] (tyA y) (wC a y c t) (wC a y (dropA c) t) := by
  refine MGv.of (cc := cX0_dropAll) (maxL := 1) (by decide) rfl (Nat.le_of_ble_eq_true rfl) ?_
  intro D p e s m below meth c0 A ls hx hb hr hml hown hlocks hts hK hP hD hA hN hl hS
  have hl : lv_has ls 1 [(0, .ref (a 3))] := hl
  have hinX0 : ∀ w ∈ u_ws RX0 TX0 8, w ∈ wsX0_dropAll := in_X0_X0_dropAll
  refine lv_aload_n hx hb dX0_dropAll_0 rfl (lv_at hl 0 rfl) ?_
  refine lv_iconst (v := nI 0) hx hb dX0_dropAll_1 (by decide) ?_
  refine cp_sz (v := 0) hx hb hts hinX0 hown hK hP hD hS (hts (.fieldLink RX0 29 "FencedWords$Log" "size" "I") (List.mem_of_getElem? (i := 1) rfl)) dX0_dropAll_2 (fun H locs hP hD hS => ?_)
  refine lv_aload_n hx hb dX0_dropAll_5 rfl (lv_at hl 0 rfl) ?_
  refine lv_iconst (v := nI 0) hx hb dX0_dropAll_6 (by decide) ?_
  refine cp_tk (v := 0) hx hb hts hinX0 hown hK hP hD hS (hts (.fieldLink RX0 25 "FencedWords$Log" "cellsTaken" "I") (List.mem_of_getElem? (i := 2) rfl)) dX0_dropAll_7 (fun H locs hP hD hS => ?_)
  refine lv_aload_n hx hb dX0_dropAll_10 rfl (lv_at hl 0 rfl) ?_
  refine lv_iconst (v := nI 0) hx hb dX0_dropAll_11 (by decide) ?_
  refine cp_xo (v := false) hx hb hts hinX0 hown hK hP hD hS (hts (.fieldLink RX0 46 "FencedWords$Log" "crossedOut" "Z") (List.mem_of_getElem? (i := 3) rfl)) dX0_dropAll_12 (fun H locs hP hD hS => ?_)
  exact retGv hx hb hr hlocks hK hP hD hS dX0_dropAll_15 rfl
theorem in_X0_X0_settle : ∀ w ∈ wsX00, w ∈ wsX0_settle := fun w h => List.mem_cons_of_mem _ (List.mem_append_right _ (h))
set_option maxHeartbeats 400000 in
set_option maxRecDepth 100000 in
theorem mX0_settle (l : Launch) (y : Nat → ClassId) (t : va_W) (a : Nat → Nat) (c : CS) (w x : Bool) (hz : c_sz c ≤ 20) (hk : c_nk c = true → 1 ≤ c_sz c) : MGv l yX0_settle wsX0_settle 0 0 [.ref (a 3), .int (bI w), .int (bI x)] (tyA y) (wC a y c t) (wC a y (settleF c w x) t) := by
  refine MGv.of (cc := cX0_settle) (maxL := 3) (by decide) rfl (Nat.le_of_ble_eq_true rfl) ?_
  intro D p e s m below meth c0 A ls hx hb hr hml hown hlocks hts hK hP hD hA hN hl hS
  have hl : lv_has ls 3 [(0, .ref (a 3)), (1, .int (bI w)), (2, .int (bI x))] := hl
  have hinX0 : ∀ w ∈ u_ws RX0 TX0 8, w ∈ wsX0_settle := in_X0_X0_settle
  refine lv_aload_n hx hb dX0_settle_0 rfl (lv_at hl 0 rfl) ?_
  refine cg_nk hx hb hts hinX0 hown hK hP (hts (.fieldLink RX0 42 "FencedWords$Log" "newestNotKept" "Z") (List.mem_of_getElem? (i := 1) rfl)) dX0_settle_1 ?_
  refine q_ifb_eq (tgt := 34) hx hb dX0_settle_4 (by decide) (fun (h4 : (c_nk c) = false) => ?_) (fun (h4 : (c_nk c) = true) => ?_)
  · refine lv_aload_n hx hb dX0_settle_34 rfl (lv_at hl 0 rfl) ?_
    refine cg_xo hx hb hts hinX0 hown hK hP (hts (.fieldLink RX0 46 "FencedWords$Log" "crossedOut" "Z") (List.mem_of_getElem? (i := 5) rfl)) dX0_settle_35 ?_
    refine q_ifb_eq (tgt := 55) hx hb dX0_settle_38 (by decide) (fun (h38 : (c_xo c) = false) => ?_) (fun (h38 : (c_xo c) = true) => ?_)
    · refine lv_aload_n hx hb dX0_settle_55 rfl (lv_at hl 0 rfl) ?_
      refine lv_iconst (v := nI 0) hx hb dX0_settle_56 (by decide) ?_
      refine cp_nk (v := false) hx hb hts hinX0 hown hK hP hD hS (hts (.fieldLink RX0 42 "FencedWords$Log" "newestNotKept" "Z") (List.mem_of_getElem? (i := 1) rfl)) dX0_settle_57 (fun H locs hP hD hS => ?_)
      refine lv_aload_n hx hb dX0_settle_60 rfl (lv_at hl 0 rfl) ?_
      refine lv_iconst (v := nI 0) hx hb dX0_settle_61 (by decide) ?_
      refine cp_xo (v := false) hx hb hts hinX0 hown hK hP hD hS (hts (.fieldLink RX0 46 "FencedWords$Log" "crossedOut" "Z") (List.mem_of_getElem? (i := 5) rfl)) dX0_settle_62 (fun H locs hP hD hS => ?_)
      exact retGv hx hb hr hlocks hK hP hD hS dX0_settle_65 (congrArg (fun z => wC a y z t) (show cs_xo (cs_nk c false) false = settleF c w x by (simp [settleF, h4, h38] <;> rfl)))
    · refine lv_iload_n hx hb dX0_settle_41 rfl (lv_at hl 2 rfl) ?_
      refine q_ifb_eq (tgt := 55) hx hb dX0_settle_42 (by decide) (fun (h42 : x = false) => ?_) (fun (h42 : x = true) => ?_)
      · refine lv_aload_n hx hb dX0_settle_55 rfl (lv_at hl 0 rfl) ?_
        refine lv_iconst (v := nI 0) hx hb dX0_settle_56 (by decide) ?_
        refine cp_nk (v := false) hx hb hts hinX0 hown hK hP hD hS (hts (.fieldLink RX0 42 "FencedWords$Log" "newestNotKept" "Z") (List.mem_of_getElem? (i := 1) rfl)) dX0_settle_57 (fun H locs hP hD hS => ?_)
        refine lv_aload_n hx hb dX0_settle_60 rfl (lv_at hl 0 rfl) ?_
        refine lv_iconst (v := nI 0) hx hb dX0_settle_61 (by decide) ?_
        refine cp_xo (v := false) hx hb hts hinX0 hown hK hP hD hS (hts (.fieldLink RX0 46 "FencedWords$Log" "crossedOut" "Z") (List.mem_of_getElem? (i := 5) rfl)) dX0_settle_62 (fun H locs hP hD hS => ?_)
        exact retGv hx hb hr hlocks hK hP hD hS dX0_settle_65 (congrArg (fun z => wC a y z t) (show cs_xo (cs_nk c false) false = settleF c w x by (simp [settleF, h4, h38, h42] <;> rfl)))
      · refine lv_aload_n hx hb dX0_settle_45 rfl (lv_at hl 0 rfl) ?_
        refine lv_iconst (v := nI 0) hx hb dX0_settle_46 (by decide) ?_
        refine cp_sz (v := 0) hx hb hts hinX0 hown hK hP hD hS (hts (.fieldLink RX0 29 "FencedWords$Log" "size" "I") (List.mem_of_getElem? (i := 2) rfl)) dX0_settle_47 (fun H locs hP hD hS => ?_)
        refine lv_aload_n hx hb dX0_settle_50 rfl (lv_at hl 0 rfl) ?_
        refine lv_iconst (v := nI 0) hx hb dX0_settle_51 (by decide) ?_
        refine cp_tk (v := 0) hx hb hts hinX0 hown hK hP hD hS (hts (.fieldLink RX0 25 "FencedWords$Log" "cellsTaken" "I") (List.mem_of_getElem? (i := 4) rfl)) dX0_settle_52 (fun H locs hP hD hS => ?_)
        refine lv_aload_n hx hb dX0_settle_55 rfl (lv_at hl 0 rfl) ?_
        refine lv_iconst (v := nI 0) hx hb dX0_settle_56 (by decide) ?_
        refine cp_nk (v := false) hx hb hts hinX0 hown hK hP hD hS (hts (.fieldLink RX0 42 "FencedWords$Log" "newestNotKept" "Z") (List.mem_of_getElem? (i := 1) rfl)) dX0_settle_57 (fun H locs hP hD hS => ?_)
        refine lv_aload_n hx hb dX0_settle_60 rfl (lv_at hl 0 rfl) ?_
        refine lv_iconst (v := nI 0) hx hb dX0_settle_61 (by decide) ?_
        refine cp_xo (v := false) hx hb hts hinX0 hown hK hP hD hS (hts (.fieldLink RX0 46 "FencedWords$Log" "crossedOut" "Z") (List.mem_of_getElem? (i := 5) rfl)) dX0_settle_62 (fun H locs hP hD hS => ?_)
        exact retGv hx hb hr hlocks hK hP hD hS dX0_settle_65 (congrArg (fun z => wC a y z t) (show cs_xo (cs_nk (cs_tk (cs_sz c 0) 0) false) false = settleF c w x by (simp [settleF, h4, h38, h42] <;> rfl)))
  · have hz1 := hk h4
    refine lv_iload_n hx hb dX0_settle_7 rfl (lv_at hl 1 rfl) ?_
    refine q_ifb_ne (tgt := 34) hx hb dX0_settle_8 (by decide) (fun (h8 : w = true) => ?_) (fun (h8 : w = false) => ?_)
    · refine lv_aload_n hx hb dX0_settle_34 rfl (lv_at hl 0 rfl) ?_
      refine cg_xo hx hb hts hinX0 hown hK hP (hts (.fieldLink RX0 46 "FencedWords$Log" "crossedOut" "Z") (List.mem_of_getElem? (i := 5) rfl)) dX0_settle_35 ?_
      refine q_ifb_eq (tgt := 55) hx hb dX0_settle_38 (by decide) (fun (h38 : (c_xo c) = false) => ?_) (fun (h38 : (c_xo c) = true) => ?_)
      · refine lv_aload_n hx hb dX0_settle_55 rfl (lv_at hl 0 rfl) ?_
        refine lv_iconst (v := nI 0) hx hb dX0_settle_56 (by decide) ?_
        refine cp_nk (v := false) hx hb hts hinX0 hown hK hP hD hS (hts (.fieldLink RX0 42 "FencedWords$Log" "newestNotKept" "Z") (List.mem_of_getElem? (i := 1) rfl)) dX0_settle_57 (fun H locs hP hD hS => ?_)
        refine lv_aload_n hx hb dX0_settle_60 rfl (lv_at hl 0 rfl) ?_
        refine lv_iconst (v := nI 0) hx hb dX0_settle_61 (by decide) ?_
        refine cp_xo (v := false) hx hb hts hinX0 hown hK hP hD hS (hts (.fieldLink RX0 46 "FencedWords$Log" "crossedOut" "Z") (List.mem_of_getElem? (i := 5) rfl)) dX0_settle_62 (fun H locs hP hD hS => ?_)
        exact retGv hx hb hr hlocks hK hP hD hS dX0_settle_65 (congrArg (fun z => wC a y z t) (show cs_xo (cs_nk c false) false = settleF c w x by (simp [settleF, h4, h8, h38] <;> rfl)))
      · refine lv_iload_n hx hb dX0_settle_41 rfl (lv_at hl 2 rfl) ?_
        refine q_ifb_eq (tgt := 55) hx hb dX0_settle_42 (by decide) (fun (h42 : x = false) => ?_) (fun (h42 : x = true) => ?_)
        · refine lv_aload_n hx hb dX0_settle_55 rfl (lv_at hl 0 rfl) ?_
          refine lv_iconst (v := nI 0) hx hb dX0_settle_56 (by decide) ?_
          refine cp_nk (v := false) hx hb hts hinX0 hown hK hP hD hS (hts (.fieldLink RX0 42 "FencedWords$Log" "newestNotKept" "Z") (List.mem_of_getElem? (i := 1) rfl)) dX0_settle_57 (fun H locs hP hD hS => ?_)
          refine lv_aload_n hx hb dX0_settle_60 rfl (lv_at hl 0 rfl) ?_
          refine lv_iconst (v := nI 0) hx hb dX0_settle_61 (by decide) ?_
          refine cp_xo (v := false) hx hb hts hinX0 hown hK hP hD hS (hts (.fieldLink RX0 46 "FencedWords$Log" "crossedOut" "Z") (List.mem_of_getElem? (i := 5) rfl)) dX0_settle_62 (fun H locs hP hD hS => ?_)
          exact retGv hx hb hr hlocks hK hP hD hS dX0_settle_65 (congrArg (fun z => wC a y z t) (show cs_xo (cs_nk c false) false = settleF c w x by (simp [settleF, h4, h8, h38, h42] <;> rfl)))
        · refine lv_aload_n hx hb dX0_settle_45 rfl (lv_at hl 0 rfl) ?_
          refine lv_iconst (v := nI 0) hx hb dX0_settle_46 (by decide) ?_
          refine cp_sz (v := 0) hx hb hts hinX0 hown hK hP hD hS (hts (.fieldLink RX0 29 "FencedWords$Log" "size" "I") (List.mem_of_getElem? (i := 2) rfl)) dX0_settle_47 (fun H locs hP hD hS => ?_)
          refine lv_aload_n hx hb dX0_settle_50 rfl (lv_at hl 0 rfl) ?_
          refine lv_iconst (v := nI 0) hx hb dX0_settle_51 (by decide) ?_
          refine cp_tk (v := 0) hx hb hts hinX0 hown hK hP hD hS (hts (.fieldLink RX0 25 "FencedWords$Log" "cellsTaken" "I") (List.mem_of_getElem? (i := 4) rfl)) dX0_settle_52 (fun H locs hP hD hS => ?_)
          refine lv_aload_n hx hb dX0_settle_55 rfl (lv_at hl 0 rfl) ?_
          refine lv_iconst (v := nI 0) hx hb dX0_settle_56 (by decide) ?_
          refine cp_nk (v := false) hx hb hts hinX0 hown hK hP hD hS (hts (.fieldLink RX0 42 "FencedWords$Log" "newestNotKept" "Z") (List.mem_of_getElem? (i := 1) rfl)) dX0_settle_57 (fun H locs hP hD hS => ?_)
          refine lv_aload_n hx hb dX0_settle_60 rfl (lv_at hl 0 rfl) ?_
          refine lv_iconst (v := nI 0) hx hb dX0_settle_61 (by decide) ?_
          refine cp_xo (v := false) hx hb hts hinX0 hown hK hP hD hS (hts (.fieldLink RX0 46 "FencedWords$Log" "crossedOut" "Z") (List.mem_of_getElem? (i := 5) rfl)) dX0_settle_62 (fun H locs hP hD hS => ?_)
          exact retGv hx hb hr hlocks hK hP hD hS dX0_settle_65 (congrArg (fun z => wC a y z t) (show cs_xo (cs_nk (cs_tk (cs_sz c 0) 0) false) false = settleF c w x by (simp [settleF, h4, h8, h38, h42] <;> rfl)))
    · refine lv_aload_n hx hb dX0_settle_11 rfl (lv_at hl 0 rfl) ?_
      refine lv_dup hx hb dX0_settle_12 rfl ?_
      refine cg_sz hx hb hts hinX0 hown hK hP (hts (.fieldLink RX0 29 "FencedWords$Log" "size" "I") (List.mem_of_getElem? (i := 2) rfl)) dX0_settle_13 ?_
      refine lv_iconst (v := nI 1) hx hb dX0_settle_16 (by decide) ?_
      refine q_isub hx hb (show 1 ≤ (c_sz c) by omega) dX0_settle_17 ?_
      refine cp_sz (v := (c_sz c) - 1) hx hb hts hinX0 hown hK hP hD hS (hts (.fieldLink RX0 29 "FencedWords$Log" "size" "I") (List.mem_of_getElem? (i := 2) rfl)) dX0_settle_18 (fun H locs hP hD hS => ?_)
      refine lv_aload_n hx hb dX0_settle_21 rfl (lv_at hl 0 rfl) ?_
      refine lv_aload_n hx hb dX0_settle_22 rfl (lv_at hl 0 rfl) ?_
      refine cg_r6 hx hb hts hinX0 hown hK hP (hts (.fieldLink RX0 18 "FencedWords$Log" "startCells" "[I") (List.mem_of_getElem? (i := 3) rfl)) dX0_settle_23 ?_
      refine lv_aload_n hx hb dX0_settle_26 rfl (lv_at hl 0 rfl) ?_
      refine cg_sz hx hb hts hinX0 hown hK hP (hts (.fieldLink RX0 29 "FencedWords$Log" "size" "I") (List.mem_of_getElem? (i := 2) rfl)) dX0_settle_27 ?_
      refine cl_sc hx hb hK hP (show ((c_sz c) - 1) < 20 by omega) dX0_settle_30 ?_
      refine cp_tk (v := c_sc c ((c_sz c) - 1)) hx hb hts hinX0 hown hK hP hD hS (hts (.fieldLink RX0 25 "FencedWords$Log" "cellsTaken" "I") (List.mem_of_getElem? (i := 4) rfl)) dX0_settle_31 (fun H locs hP hD hS => ?_)
      refine lv_aload_n hx hb dX0_settle_34 rfl (lv_at hl 0 rfl) ?_
      refine cg_xo hx hb hts hinX0 hown hK hP (hts (.fieldLink RX0 46 "FencedWords$Log" "crossedOut" "Z") (List.mem_of_getElem? (i := 5) rfl)) dX0_settle_35 ?_
      refine q_ifb_eq (tgt := 55) hx hb dX0_settle_38 (by decide) (fun (h38 : (c_xo c) = false) => ?_) (fun (h38 : (c_xo c) = true) => ?_)
      · refine lv_aload_n hx hb dX0_settle_55 rfl (lv_at hl 0 rfl) ?_
        refine lv_iconst (v := nI 0) hx hb dX0_settle_56 (by decide) ?_
        refine cp_nk (v := false) hx hb hts hinX0 hown hK hP hD hS (hts (.fieldLink RX0 42 "FencedWords$Log" "newestNotKept" "Z") (List.mem_of_getElem? (i := 1) rfl)) dX0_settle_57 (fun H locs hP hD hS => ?_)
        refine lv_aload_n hx hb dX0_settle_60 rfl (lv_at hl 0 rfl) ?_
        refine lv_iconst (v := nI 0) hx hb dX0_settle_61 (by decide) ?_
        refine cp_xo (v := false) hx hb hts hinX0 hown hK hP hD hS (hts (.fieldLink RX0 46 "FencedWords$Log" "crossedOut" "Z") (List.mem_of_getElem? (i := 5) rfl)) dX0_settle_62 (fun H locs hP hD hS => ?_)
        exact retGv hx hb hr hlocks hK hP hD hS dX0_settle_65 (congrArg (fun z => wC a y z t) (show cs_xo (cs_nk (cs_tk (cs_sz c ((c_sz c) - 1)) (c_sc c ((c_sz c) - 1))) false) false = settleF c w x by (simp [settleF, h4, h8, h38] <;> rfl)))
      · refine lv_iload_n hx hb dX0_settle_41 rfl (lv_at hl 2 rfl) ?_
        refine q_ifb_eq (tgt := 55) hx hb dX0_settle_42 (by decide) (fun (h42 : x = false) => ?_) (fun (h42 : x = true) => ?_)
        · refine lv_aload_n hx hb dX0_settle_55 rfl (lv_at hl 0 rfl) ?_
          refine lv_iconst (v := nI 0) hx hb dX0_settle_56 (by decide) ?_
          refine cp_nk (v := false) hx hb hts hinX0 hown hK hP hD hS (hts (.fieldLink RX0 42 "FencedWords$Log" "newestNotKept" "Z") (List.mem_of_getElem? (i := 1) rfl)) dX0_settle_57 (fun H locs hP hD hS => ?_)
          refine lv_aload_n hx hb dX0_settle_60 rfl (lv_at hl 0 rfl) ?_
          refine lv_iconst (v := nI 0) hx hb dX0_settle_61 (by decide) ?_
          refine cp_xo (v := false) hx hb hts hinX0 hown hK hP hD hS (hts (.fieldLink RX0 46 "FencedWords$Log" "crossedOut" "Z") (List.mem_of_getElem? (i := 5) rfl)) dX0_settle_62 (fun H locs hP hD hS => ?_)
          exact retGv hx hb hr hlocks hK hP hD hS dX0_settle_65 (congrArg (fun z => wC a y z t) (show cs_xo (cs_nk (cs_tk (cs_sz c ((c_sz c) - 1)) (c_sc c ((c_sz c) - 1))) false) false = settleF c w x by (simp [settleF, h4, h8, h38, h42] <;> rfl)))
        · refine lv_aload_n hx hb dX0_settle_45 rfl (lv_at hl 0 rfl) ?_
          refine lv_iconst (v := nI 0) hx hb dX0_settle_46 (by decide) ?_
          refine cp_sz (v := 0) hx hb hts hinX0 hown hK hP hD hS (hts (.fieldLink RX0 29 "FencedWords$Log" "size" "I") (List.mem_of_getElem? (i := 2) rfl)) dX0_settle_47 (fun H locs hP hD hS => ?_)
          refine lv_aload_n hx hb dX0_settle_50 rfl (lv_at hl 0 rfl) ?_
          refine lv_iconst (v := nI 0) hx hb dX0_settle_51 (by decide) ?_
          refine cp_tk (v := 0) hx hb hts hinX0 hown hK hP hD hS (hts (.fieldLink RX0 25 "FencedWords$Log" "cellsTaken" "I") (List.mem_of_getElem? (i := 4) rfl)) dX0_settle_52 (fun H locs hP hD hS => ?_)
          refine lv_aload_n hx hb dX0_settle_55 rfl (lv_at hl 0 rfl) ?_
          refine lv_iconst (v := nI 0) hx hb dX0_settle_56 (by decide) ?_
          refine cp_nk (v := false) hx hb hts hinX0 hown hK hP hD hS (hts (.fieldLink RX0 42 "FencedWords$Log" "newestNotKept" "Z") (List.mem_of_getElem? (i := 1) rfl)) dX0_settle_57 (fun H locs hP hD hS => ?_)
          refine lv_aload_n hx hb dX0_settle_60 rfl (lv_at hl 0 rfl) ?_
          refine lv_iconst (v := nI 0) hx hb dX0_settle_61 (by decide) ?_
          refine cp_xo (v := false) hx hb hts hinX0 hown hK hP hD hS (hts (.fieldLink RX0 46 "FencedWords$Log" "crossedOut" "Z") (List.mem_of_getElem? (i := 5) rfl)) dX0_settle_62 (fun H locs hP hD hS => ?_)
          exact retGv hx hb hr hlocks hK hP hD hS dX0_settle_65 (congrArg (fun z => wC a y z t) (show cs_xo (cs_nk (cs_tk (cs_sz (cs_tk (cs_sz c ((c_sz c) - 1)) (c_sc c ((c_sz c) - 1))) 0) 0) false) false = settleF c w x by (simp [settleF, h4, h8, h38, h42] <;> rfl)))
end
section
theorem in_X1_X1_losePower : ∀ w ∈ wsX10, w ∈ wsX1_losePower := fun w h => List.mem_cons_of_mem _ (List.mem_append_left _ (List.mem_append_right _ (h)))
set_option maxHeartbeats 400000 in
set_option maxRecDepth 100000 in
theorem mX1_losePower (l : Launch) (y : Nat → ClassId) (t : va_W) (a : Nat → Nat) (c : CS) (hz : c_sz c ≤ 20) (hk : c_nk c = true → 1 ≤ c_sz c) : MGv l yX1_losePower wsX1_losePower 1 22 [.ref (a 0)] (tyA y) (wC a y c t) (wC a y (loseF c) t) := by
  refine MGv.of (cc := cX1_losePower) (maxL := 3) (by decide) rfl (Nat.le_of_ble_eq_true rfl) ?_
  intro D p e s m below meth c0 A ls hx hb hr hml hown hlocks hts hK hP hD hA hN hl hS
  have hl : lv_has ls 3 [(0, .ref (a 0))] := hl
  have hinX1 : ∀ w ∈ u_ws RX1 TX1 10, w ∈ wsX1_losePower := in_X1_X1_losePower
  refine lv_iconst (v := nI 0) hx hb dX1_losePower_0 (by decide) ?_
  refine lv_istore_n (lv' := [(1, .int (nI 0)), (0, .ref (a 0))]) hx hb dX1_losePower_1 rfl hl (by decide) rfl (fun ls hl => ?_)
  have loop : ∀ (n2 : Nat) (i : Nat) (H : Heap) (locs : List Loc) (ls : Array Slot), (i ≤ 32) → (33 ≤ i + n2) → va_P D vwCl (wC a y (cs_K c (keepM c i)) t) H → va_D A (wC a y (cs_K c (keepM c i)) t) → va_S A s.heap H locs → lv_has ls 3 [(0, .ref (a 0)), (1, .int (nI i))] → W p l e ({ frames := 1, cells := 0, slots := 0, locals := 22 }) s m [.ref (a 0)].toArray below meth c0 H locs 0 0 (GQv below D (tyA y) A (wC a y (loseF c) t) [.ref (a 0)].toArray s) (F0 m 2 ls []) := by
    intro n2
    induction n2 with
    | zero =>
      intro i H locs ls hi hn hP hD hS hl
      omega
    | succ n2 ih2 =>
      intro i H locs ls hi hn hP hD hS hl
      refine lv_iload_n hx hb dX1_losePower_2 rfl (lv_at hl 1 rfl) ?_
      refine lv_bipush (v := nI 32) hx hb dX1_losePower_3 (by decide) ?_
      refine q_icmp_ge (tgt := 37) hx hb (show i < 2 ^ 31 by omega) (show 32 < 2 ^ 31 by omega) dX1_losePower_5 (by decide) (fun (h5 : 32 ≤ i) => ?_) (fun (h5 : i < 32) => ?_)
      · have e32 : i = 32 := by omega
        subst e32
        refine lv_aload_n hx hb dX1_losePower_37 rfl (lv_at hl 0 rfl) ?_
        refine cg_mk hx hb hts hinX1 hown hK hP (hts (.fieldLink RX1 31 "FencedWords" "maskOfLoss" "J") (List.mem_of_getElem? (i := 1) rfl)) dX1_losePower_38 ?_
        refine lv_bipush (v := nI 32) hx hb dX1_losePower_41 (by decide) ?_
        refine callSi (rest := []) ⟨hx, hb, hml, hown, hts⟩ (mX1_hasBit l y _ (c_mk c) 32 (by omega)) (va_cwS 2 hts gX1_losePower_X1_hasBit rfl rfl rfl (by decide +kernel) ⟨Nat.le_of_ble_eq_true rfl, Nat.le_of_ble_eq_true rfl⟩) hK hP hD hS hA hN rfl hl.1 rfl (Nat.le_of_ble_eq_true rfl) dX1_losePower_43 ⟨Nat.le_of_ble_eq_true rfl, Nat.le_of_ble_eq_true rfl⟩ (fun H locs hP hD hS => ?_)
        refine lv_istore_n (lv' := [(1, .int (bI (hbL (c_mk c) 32))), (0, .ref (a 0))]) hx hb dX1_losePower_46 rfl hl (by decide) rfl (fun ls hl => ?_)
        refine lv_aload_n hx hb dX1_losePower_47 rfl (lv_at hl 1 rfl) ?_
        refine cg_mk hx hb hts hinX1 hown hK hP (hts (.fieldLink RX1 31 "FencedWords" "maskOfLoss" "J") (List.mem_of_getElem? (i := 1) rfl)) dX1_losePower_48 ?_
        refine lv_bipush (v := nI 33) hx hb dX1_losePower_51 (by decide) ?_
        refine callSi (rest := []) ⟨hx, hb, hml, hown, hts⟩ (mX1_hasBit l y _ (c_mk c) 33 (by omega)) (va_cwS 2 hts gX1_losePower_X1_hasBit rfl rfl rfl (by decide +kernel) ⟨Nat.le_of_ble_eq_true rfl, Nat.le_of_ble_eq_true rfl⟩) hK hP hD hS hA hN rfl hl.1 rfl (Nat.le_of_ble_eq_true rfl) dX1_losePower_53 ⟨Nat.le_of_ble_eq_true rfl, Nat.le_of_ble_eq_true rfl⟩ (fun H locs hP hD hS => ?_)
        refine lv_istore_n (lv' := [(2, .int (bI (hbL (c_mk c) 33))), (1, .int (bI (hbL (c_mk c) 32))), (0, .ref (a 0))]) hx hb dX1_losePower_56 rfl hl (by decide) rfl (fun ls hl => ?_)
        refine lv_aload_n hx hb dX1_losePower_57 rfl (lv_at hl 2 rfl) ?_
        refine cg_r3 hx hb hts hinX1 hown hK hP (hts (.fieldLink RX1 19 "FencedWords" "log" "LFencedWords$Log;") (List.mem_of_getElem? (i := 4) rfl)) dX1_losePower_58 ?_
        refine lv_iload_n hx hb dX1_losePower_61 rfl (lv_at hl 1 rfl) ?_
        refine lv_iload_n hx hb dX1_losePower_62 rfl (lv_at hl 0 rfl) ?_
        refine callVv (rest := []) ⟨hx, hb, hml, hown, hts⟩ (mX0_settle l y t a (cs_K c (keepM c 32)) (hbL (c_mk c) 32) (hbL (c_mk c) 33) hz hk) (cwV 2 hts gX1_losePower_X0_settle rfl rfl rfl (by decide +kernel) ⟨Nat.le_of_ble_eq_true rfl, Nat.le_of_ble_eq_true rfl⟩) (va_recv hK hP (ci := 0) (q0 := 3) rfl rfl) hK hP hD hS hA hN rfl hl.1 rfl (Nat.le_of_ble_eq_true rfl) dX1_losePower_63 ⟨Nat.le_of_ble_eq_true rfl, Nat.le_of_ble_eq_true rfl⟩ (fun H locs hP hD hS => ?_)
        generalize hc1 : settleF (cs_K c (keepM c 32)) (hbL (c_mk c) 32) (hbL (c_mk c) 33) = c1 at hP hD
        have hP : va_P D vwCl (wC a y c1 t) H := hP
        have hD : va_D A (wC a y c1 t) := hD
        refine lv_aload_n hx hb dX1_losePower_66 rfl (lv_at hl 2 rfl) ?_
        refine lv_iconst (v := nI 0) hx hb dX1_losePower_67 (by decide) ?_
        refine cp_on (v := false) hx hb hts hinX1 hown hK hP hD hS (hts (.fieldLink RX1 23 "FencedWords" "powerOn" "Z") (List.mem_of_getElem? (i := 5) rfl)) dX1_losePower_68 (fun H locs hP hD hS => ?_)
        refine lv_aload_n hx hb dX1_losePower_71 rfl (lv_at hl 2 rfl) ?_
        refine lv_iconst (v := nI 0) hx hb dX1_losePower_72 (by decide) ?_
        refine cp_op (v := false) hx hb hts hinX1 hown hK hP hD hS (hts (.fieldLink RX1 35 "FencedWords" "transactionOpen" "Z") (List.mem_of_getElem? (i := 6) rfl)) dX1_losePower_73 (fun H locs hP hD hS => ?_)
        refine lv_aload_n hx hb dX1_losePower_76 rfl (lv_at hl 2 rfl) ?_
        refine lv_iconst (v := nI 0) hx hb dX1_losePower_77 (by decide) ?_
        refine cp_fl (v := nI 0) hx hb hts hinX1 hown hK hP hD hS (hts (.fieldLink RX1 138 "FencedWords" "flushedLines" "I") (List.mem_of_getElem? (i := 7) rfl)) dX1_losePower_78 (fun H locs hP hD hS => ?_)
        exact retGv hx hb hr hlocks hK hP hD hS dX1_losePower_81 (by rw [← hc1]; rfl)
      · refine lv_aload_n hx hb dX1_losePower_8 rfl (lv_at hl 0 rfl) ?_
        refine cg_mk hx hb hts hinX1 hown hK hP (hts (.fieldLink RX1 31 "FencedWords" "maskOfLoss" "J") (List.mem_of_getElem? (i := 1) rfl)) dX1_losePower_9 ?_
        refine lv_iload_n hx hb dX1_losePower_12 rfl (lv_at hl 1 rfl) ?_
        refine callSi (rest := []) ⟨hx, hb, hml, hown, hts⟩ (mX1_hasBit l y _ (c_mk c) i (by omega)) (va_cwS 2 hts gX1_losePower_X1_hasBit rfl rfl rfl (by decide +kernel) ⟨Nat.le_of_ble_eq_true rfl, Nat.le_of_ble_eq_true rfl⟩) hK hP hD hS hA hN rfl hl.1 rfl (Nat.le_of_ble_eq_true rfl) dX1_losePower_13 ⟨Nat.le_of_ble_eq_true rfl, Nat.le_of_ble_eq_true rfl⟩ (fun H locs hP hD hS => ?_)
        refine q_ifb_eq (tgt := 31) hx hb dX1_losePower_16 (by decide) (fun (h16 : (hbL (c_mk c) i) = false) => ?_) (fun (h16 : (hbL (c_mk c) i) = true) => ?_)
        · refine lv_iinc (v := nI (i + 1)) (lv' := [(1, .int (nI (i + 1))), (0, .ref (a 0))]) hx hb dX1_losePower_31 hl (k := 1) rfl (nI_add i 1) (by decide) rfl (fun ls hl => ?_)
          refine lv_goto (tgt := 2) hx hb dX1_losePower_34 (by decide) ?_
          rw [keepM_f h16] at hP hD
          exact ih2 (i + 1) _ _ _ (by omega) (by omega) hP hD hS (lv_sub hl [1, 0] rfl)
        · refine lv_aload_n hx hb dX1_losePower_19 rfl (lv_at hl 0 rfl) ?_
          refine cg_r2 hx hb hts hinX1 hown hK hP (hts (.fieldLink RX1 13 "FencedWords" "keptValues" "[J") (List.mem_of_getElem? (i := 2) rfl)) dX1_losePower_20 ?_
          refine lv_iload_n hx hb dX1_losePower_23 rfl (lv_at hl 1 rfl) ?_
          refine lv_aload_n hx hb dX1_losePower_24 rfl (lv_at hl 0 rfl) ?_
          refine cg_r1 hx hb hts hinX1 hown hK hP (hts (.fieldLink RX1 9 "FencedWords" "seenValues" "[J") (List.mem_of_getElem? (i := 3) rfl)) dX1_losePower_25 ?_
          refine lv_iload_n hx hb dX1_losePower_28 rfl (lv_at hl 1 rfl) ?_
          refine cl_S hx hb hK hP (show i < 32 by omega) dX1_losePower_29 ?_
          refine ct_K (v := c_S c i) hx hb hK hP hD hS (show i < 32 by omega) dX1_losePower_30 (fun H locs hP hD hS => ?_)
          refine lv_iinc (v := nI (i + 1)) (lv' := [(1, .int (nI (i + 1))), (0, .ref (a 0))]) hx hb dX1_losePower_31 hl (k := 1) rfl (nI_add i 1) (by decide) rfl (fun ls hl => ?_)
          refine lv_goto (tgt := 2) hx hb dX1_losePower_34 (by decide) ?_
          have hP : va_P D vwCl (wC a y (cs_K (cs_K c (keepM c i)) (vp_updL (keepM c i) i (c_S c i))) t) H := hP
          have hD : va_D A (wC a y (cs_K (cs_K c (keepM c i)) (vp_updL (keepM c i) i (c_S c i))) t) := hD
          rw [css_K, keepM_t h16] at hP hD
          exact ih2 (i + 1) _ _ _ (by omega) (by omega) hP hD hS (lv_sub hl [1, 0] rfl)
  have e0 : c = cs_K c (keepM c 0) := (by rw [keepM_0]; rfl)
  rw [e0] at hP hD
  exact loop 33 0 _ _ _ (by omega) (by omega) hP hD hS (lv_sub hl [1, 0] rfl)
theorem in_X1_X1_endAct : ∀ w ∈ wsX10, w ∈ wsX1_endAct := fun w h => List.mem_cons_of_mem _ (List.mem_append_left _ (List.mem_append_right _ (h)))
set_option maxHeartbeats 400000 in
set_option maxRecDepth 100000 in
theorem mX1_endAct (l : Launch) (y : Nat → ClassId) (t : va_W) (a : Nat → Nat) (c : CS) (hB : CB c) : MGi l yX1_endAct wsX1_endAct 2 44 [.ref (a 0)] (tyA y) (wC a y c t) (bI ((endActF c).1)) (wC a y ((endActF c).2) t) := by
  refine MGi.of (cc := cX1_endAct) (maxL := 1) (by decide) rfl (Nat.le_of_ble_eq_true rfl) ?_
  intro D p e s m below meth c0 A ls hx hb hr hml hown hlocks hts hK hP hD hA hN hl hS
  have hl : lv_has ls 1 [(0, .ref (a 0))] := hl
  have hinX1 : ∀ w ∈ u_ws RX1 TX1 10, w ∈ wsX1_endAct := in_X1_X1_endAct
  obtain ⟨hz, hk, ha⟩ := id hB
  refine lv_aload_n hx hb dX1_endAct_0 rfl (lv_at hl 0 rfl) ?_
  refine lv_dup hx hb dX1_endAct_1 rfl ?_
  refine cg_ad hx hb hts hinX1 hown hK hP (hts (.fieldLink RX1 88 "FencedWords" "actsDone" "I") (List.mem_of_getElem? (i := 1) rfl)) dX1_endAct_2 ?_
  refine lv_iconst (v := nI 1) hx hb dX1_endAct_5 (by decide) ?_
  refine lv_iadd hx hb dX1_endAct_6 ?_
  refine cp_ad (v := (c_ad c) + (nI 1)) hx hb hts hinX1 hown hK hP hD hS (hts (.fieldLink RX1 88 "FencedWords" "actsDone" "I") (List.mem_of_getElem? (i := 1) rfl)) dX1_endAct_7 (fun H locs hP hD hS => ?_)
  refine lv_aload_n hx hb dX1_endAct_10 rfl (lv_at hl 0 rfl) ?_
  refine cg_au hx hb hts hinX1 hown hK hP (hts (.fieldLink RX1 27 "FencedWords" "actsUntilLoss" "I") (List.mem_of_getElem? (i := 2) rfl)) dX1_endAct_11 ?_
  refine q_if_ne (tgt := 19) hx hb (show (c_au c) < 2 ^ 31 by omega) dX1_endAct_14 (by decide) (fun (h14 : ¬ (c_au c) = 0) => ?_) (fun (h14 : (c_au c) = 0) => ?_)
  · refine lv_aload_n hx hb dX1_endAct_19 rfl (lv_at hl 0 rfl) ?_
    refine lv_dup hx hb dX1_endAct_20 rfl ?_
    refine cg_au hx hb hts hinX1 hown hK hP (hts (.fieldLink RX1 27 "FencedWords" "actsUntilLoss" "I") (List.mem_of_getElem? (i := 2) rfl)) dX1_endAct_21 ?_
    refine lv_iconst (v := nI 1) hx hb dX1_endAct_24 (by decide) ?_
    refine q_isub hx hb (show 1 ≤ (c_au c) by omega) dX1_endAct_25 ?_
    refine cp_au (v := (c_au c) - 1) hx hb hts hinX1 hown hK hP hD hS (hts (.fieldLink RX1 27 "FencedWords" "actsUntilLoss" "I") (List.mem_of_getElem? (i := 2) rfl)) dX1_endAct_26 (fun H locs hP hD hS => ?_)
    refine lv_aload_n hx hb dX1_endAct_29 rfl (lv_at hl 0 rfl) ?_
    refine cg_au hx hb hts hinX1 hown hK hP (hts (.fieldLink RX1 27 "FencedWords" "actsUntilLoss" "I") (List.mem_of_getElem? (i := 2) rfl)) dX1_endAct_30 ?_
    refine q_if_le (tgt := 38) hx hb (show ((c_au c) - 1) < 2 ^ 31 by omega) dX1_endAct_33 (by decide) (fun (h33 : ((c_au c) - 1) = 0) => ?_) (fun (h33 : ¬ ((c_au c) - 1) = 0) => ?_)
    · refine lv_aload_n hx hb dX1_endAct_38 rfl (lv_at hl 0 rfl) ?_
      refine callVv (rest := []) ⟨hx, hb, hml, hown, hts⟩ (mX1_losePower l y t a (cs_au (cs_ad c ((c_ad c) + (nI 1))) ((c_au c) - 1)) hz hk) (cwV 0 hts gX1_endAct_X1_losePower rfl rfl rfl (by decide +kernel) ⟨Nat.le_of_ble_eq_true rfl, Nat.le_of_ble_eq_true rfl⟩) (va_recv hK hP (ci := 1) (q0 := 0) rfl rfl) hK hP hD hS hA hN rfl hl.1 rfl (Nat.le_of_ble_eq_true rfl) dX1_endAct_39 ⟨Nat.le_of_ble_eq_true rfl, Nat.le_of_ble_eq_true rfl⟩ (fun H locs hP hD hS => ?_)
      generalize hc1 : loseF (cs_au (cs_ad c ((c_ad c) + (nI 1))) ((c_au c) - 1)) = c1 at hP hD
      have hP : va_P D vwCl (wC a y c1 t) H := hP
      have hD : va_D A (wC a y c1 t) := hD
      refine lv_iconst (v := nI 0) hx hb dX1_endAct_42 (by decide) ?_
      exact retGz hx hb hr hlocks hK hP hD hS dX1_endAct_43 (by unfold endActF; rw [if_neg h14, if_pos h33]; rfl) (congrArg (fun z => wC a y z t) (show c1 = (endActF c).2 by (unfold endActF; rw [if_neg h14, if_pos h33]; exact hc1.symm)))
    · refine lv_iconst (v := nI 1) hx hb dX1_endAct_36 (by decide) ?_
      exact retGz hx hb hr hlocks hK hP hD hS dX1_endAct_37 (by unfold endActF; rw [if_neg h14, if_neg h33]; rfl) (congrArg (fun z => wC a y z t) (show cs_au (cs_ad c ((c_ad c) + (nI 1))) ((c_au c) - 1) = (endActF c).2 by (unfold endActF; rw [if_neg h14, if_neg h33])))
  · refine lv_iconst (v := nI 1) hx hb dX1_endAct_17 (by decide) ?_
    exact retGz hx hb hr hlocks hK hP hD hS dX1_endAct_18 (by unfold endActF; rw [if_pos h14]; rfl) (congrArg (fun z => wC a y z t) (show cs_ad c ((c_ad c) + (nI 1)) = (endActF c).2 by (unfold endActF; rw [if_pos h14])))
theorem in_X1_X1_storeValue : ∀ w ∈ wsX10, w ∈ wsX1_storeValue := fun w h => List.mem_cons_of_mem _ (List.mem_append_left _ (List.mem_append_right _ (h)))
set_option maxHeartbeats 400000 in
set_option maxRecDepth 100000 in
theorem mX1_storeValue (l : Launch) (y : Nat → ClassId) (t : va_W) (a : Nat → Nat) (c : CS) (k : Nat) (v : Int64) (hB : CB c) (hk0 : k < 32) : MGi l yX1_storeValue wsX1_storeValue 3 64 [.ref (a 0), .int (nI k), .long v] (tyA y) (wC a y c t) (bI ((endActF (storeA k v c)).1)) (wC a y ((endActF (storeA k v c)).2) t) := by
  refine MGi.of (cc := cX1_storeValue) (maxL := 4) (by decide) rfl (Nat.le_of_ble_eq_true rfl) ?_
  intro D p e s m below meth c0 A ls hx hb hr hml hown hlocks hts hK hP hD hA hN hl hS
  have hl : lv_has ls 4 [(0, .ref (a 0)), (1, .int (nI k)), (2, .long v)] := hl
  have hinX1 : ∀ w ∈ u_ws RX1 TX1 10, w ∈ wsX1_storeValue := in_X1_X1_storeValue
  refine lv_aload_n hx hb dX1_storeValue_0 rfl (lv_at hl 0 rfl) ?_
  refine cg_r1 hx hb hts hinX1 hown hK hP (hts (.fieldLink RX1 9 "FencedWords" "seenValues" "[J") (List.mem_of_getElem? (i := 1) rfl)) dX1_storeValue_1 ?_
  refine lv_iload_n hx hb dX1_storeValue_4 rfl (lv_at hl 1 rfl) ?_
  refine lv_lload_n hx hb dX1_storeValue_5 rfl (lv_at hl 2 rfl) ?_
  refine ct_S (v := v) hx hb hK hP hD hS (show k < 32 by omega) dX1_storeValue_6 (fun H locs hP hD hS => ?_)
  refine lv_aload_n hx hb dX1_storeValue_7 rfl (lv_at hl 0 rfl) ?_
  refine callVi (rest := []) ⟨hx, hb, hml, hown, hts⟩ (mX1_endAct l y t a (cs_S c (vp_updL (c_S c) k v)) ⟨hB.1, hB.2.1, hB.2.2⟩) (cwV 0 hts gX1_storeValue_X1_endAct rfl rfl rfl (by decide +kernel) ⟨Nat.le_of_ble_eq_true rfl, Nat.le_of_ble_eq_true rfl⟩) (va_recv hK hP (ci := 1) (q0 := 0) rfl rfl) hK hP hD hS hA hN rfl hl.1 rfl (Nat.le_of_ble_eq_true rfl) dX1_storeValue_8 ⟨Nat.le_of_ble_eq_true rfl, Nat.le_of_ble_eq_true rfl⟩ (fun H locs hP hD hS => ?_)
  generalize hc1 : (endActF (cs_S c (vp_updL (c_S c) k v))).2 = c1 at hP hD
  have hP : va_P D vwCl (wC a y c1 t) H := hP
  have hD : va_D A (wC a y c1 t) := hD
  exact retGz hx hb hr hlocks hK hP hD hS dX1_storeValue_11 rfl (by rw [← hc1]; rfl)
theorem in_X1_X1_flush : ∀ w ∈ wsX10, w ∈ wsX1_flush := fun w h => List.mem_cons_of_mem _ (List.mem_append_left _ (List.mem_append_right _ (h)))
set_option maxHeartbeats 400000 in
set_option maxRecDepth 100000 in
theorem mX1_flush (l : Launch) (y : Nat → ClassId) (t : va_W) (a : Nat → Nat) (c : CS) (k : Nat) (hB : CB c) : MGi l yX1_flush wsX1_flush 3 64 [.ref (a 0), .int (nI k)] (tyA y) (wC a y c t) (bI ((endActF (flushA k c)).1)) (wC a y ((endActF (flushA k c)).2) t) := by
  refine MGi.of (cc := cX1_flush) (maxL := 2) (by decide) rfl (Nat.le_of_ble_eq_true rfl) ?_
  intro D p e s m below meth c0 A ls hx hb hr hml hown hlocks hts hK hP hD hA hN hl hS
  have hl : lv_has ls 2 [(0, .ref (a 0)), (1, .int (nI k))] := hl
  have hinX1 : ∀ w ∈ u_ws RX1 TX1 10, w ∈ wsX1_flush := in_X1_X1_flush
  refine lv_aload_n hx hb dX1_flush_0 rfl (lv_at hl 0 rfl) ?_
  refine lv_dup hx hb dX1_flush_1 rfl ?_
  refine cg_fl hx hb hts hinX1 hown hK hP (hts (.fieldLink RX1 138 "FencedWords" "flushedLines" "I") (List.mem_of_getElem? (i := 1) rfl)) dX1_flush_2 ?_
  refine lv_iconst (v := nI 1) hx hb dX1_flush_5 (by decide) ?_
  refine lv_iload_n hx hb dX1_flush_6 rfl (lv_at hl 1 rfl) ?_
  refine lv_ishl hx hb dX1_flush_7 ?_
  refine lv_ior hx hb dX1_flush_8 ?_
  refine cp_fl (v := (c_fl c) ||| ((nI 1) <<< ((nI k) &&& 31))) hx hb hts hinX1 hown hK hP hD hS (hts (.fieldLink RX1 138 "FencedWords" "flushedLines" "I") (List.mem_of_getElem? (i := 1) rfl)) dX1_flush_9 (fun H locs hP hD hS => ?_)
  refine lv_aload_n hx hb dX1_flush_12 rfl (lv_at hl 0 rfl) ?_
  refine callVi (rest := []) ⟨hx, hb, hml, hown, hts⟩ (mX1_endAct l y t a (cs_fl c ((c_fl c) ||| ((nI 1) <<< ((nI k) &&& 31)))) ⟨hB.1, hB.2.1, hB.2.2⟩) (cwV 0 hts gX1_flush_X1_endAct rfl rfl rfl (by decide +kernel) ⟨Nat.le_of_ble_eq_true rfl, Nat.le_of_ble_eq_true rfl⟩) (va_recv hK hP (ci := 1) (q0 := 0) rfl rfl) hK hP hD hS hA hN rfl hl.1 rfl (Nat.le_of_ble_eq_true rfl) dX1_flush_13 ⟨Nat.le_of_ble_eq_true rfl, Nat.le_of_ble_eq_true rfl⟩ (fun H locs hP hD hS => ?_)
  generalize hc1 : (endActF (cs_fl c ((c_fl c) ||| ((nI 1) <<< ((nI k) &&& 31))))).2 = c1 at hP hD
  have hP : va_P D vwCl (wC a y c1 t) H := hP
  have hD : va_D A (wC a y c1 t) := hD
  exact retGz hx hb hr hlocks hK hP hD hS dX1_flush_16 rfl (by rw [← hc1]; rfl)
theorem in_X1_X1_fence : ∀ w ∈ wsX10, w ∈ wsX1_fence := fun w h => List.mem_cons_of_mem _ (List.mem_append_left _ (List.mem_append_right _ (h)))
set_option maxHeartbeats 400000 in
set_option maxRecDepth 100000 in
theorem mX1_fence (l : Launch) (y : Nat → ClassId) (t : va_W) (a : Nat → Nat) (c : CS) (hB : CB c) : MGi l yX1_fence wsX1_fence 3 64 [.ref (a 0)] (tyA y) (wC a y c t) (bI ((endActF (fenceA c)).1)) (wC a y ((endActF (fenceA c)).2) t) := by
  refine MGi.of (cc := cX1_fence) (maxL := 2) (by decide) rfl (Nat.le_of_ble_eq_true rfl) ?_
  intro D p e s m below meth c0 A ls hx hb hr hml hown hlocks hts hK hP hD hA hN hl hS
  have hl : lv_has ls 2 [(0, .ref (a 0))] := hl
  have hinX1 : ∀ w ∈ u_ws RX1 TX1 10, w ∈ wsX1_fence := in_X1_X1_fence
  refine lv_iconst (v := nI 0) hx hb dX1_fence_0 (by decide) ?_
  refine lv_istore_n (lv' := [(1, .int (nI 0)), (0, .ref (a 0))]) hx hb dX1_fence_1 rfl hl (by decide) rfl (fun ls hl => ?_)
  have loop : ∀ (n2 : Nat) (i : Nat) (H : Heap) (locs : List Loc) (ls : Array Slot), (i ≤ 32) → (33 ≤ i + n2) → va_P D vwCl (wC a y (cs_K c (keepL c i)) t) H → va_D A (wC a y (cs_K c (keepL c i)) t) → va_S A s.heap H locs → lv_has ls 2 [(0, .ref (a 0)), (1, .int (nI i))] → W p l e ({ frames := 3, cells := 0, slots := 0, locals := 64 }) s m [.ref (a 0)].toArray below meth c0 H locs 0 0 (GQi below D (tyA y) A (bI ((endActF (fenceA c)).1)) (wC a y ((endActF (fenceA c)).2) t) [.ref (a 0)].toArray s) (F0 m 2 ls []) := by
    intro n2
    induction n2 with
    | zero =>
      intro i H locs ls hi hn hP hD hS hl
      omega
    | succ n2 ih2 =>
      intro i H locs ls hi hn hP hD hS hl
      refine lv_iload_n hx hb dX1_fence_2 rfl (lv_at hl 1 rfl) ?_
      refine lv_bipush (v := nI 32) hx hb dX1_fence_3 (by decide) ?_
      refine q_icmp_ge (tgt := 41) hx hb (show i < 2 ^ 31 by omega) (show 32 < 2 ^ 31 by omega) dX1_fence_5 (by decide) (fun (h5 : 32 ≤ i) => ?_) (fun (h5 : i < 32) => ?_)
      · have e32 : i = 32 := by omega
        subst e32
        refine lv_aload_n hx hb dX1_fence_41 rfl (lv_at hl 0 rfl) ?_
        refine lv_iconst (v := nI 0) hx hb dX1_fence_42 (by decide) ?_
        refine cp_fl (v := nI 0) hx hb hts hinX1 hown hK hP hD hS (hts (.fieldLink RX1 138 "FencedWords" "flushedLines" "I") (List.mem_of_getElem? (i := 1) rfl)) dX1_fence_43 (fun H locs hP hD hS => ?_)
        refine lv_aload_n hx hb dX1_fence_46 rfl (lv_at hl 0 rfl) ?_
        refine callVi (rest := []) ⟨hx, hb, hml, hown, hts⟩ (mX1_endAct l y t a (cs_fl (cs_K c (keepL c 32)) (nI 0)) ⟨hB.1, hB.2.1, hB.2.2⟩) (cwV 0 hts gX1_fence_X1_endAct rfl rfl rfl (by decide +kernel) ⟨Nat.le_of_ble_eq_true rfl, Nat.le_of_ble_eq_true rfl⟩) (va_recv hK hP (ci := 1) (q0 := 0) rfl rfl) hK hP hD hS hA hN rfl hl.1 rfl (Nat.le_of_ble_eq_true rfl) dX1_fence_47 ⟨Nat.le_of_ble_eq_true rfl, Nat.le_of_ble_eq_true rfl⟩ (fun H locs hP hD hS => ?_)
        generalize hc1 : (endActF (cs_fl (cs_K c (keepL c 32)) (nI 0))).2 = c1 at hP hD
        have hP : va_P D vwCl (wC a y c1 t) H := hP
        have hD : va_D A (wC a y c1 t) := hD
        exact retGz hx hb hr hlocks hK hP hD hS dX1_fence_50 rfl (by rw [← hc1]; rfl)
      · refine lv_aload_n hx hb dX1_fence_8 rfl (lv_at hl 0 rfl) ?_
        refine cg_fl hx hb hts hinX1 hown hK hP (hts (.fieldLink RX1 138 "FencedWords" "flushedLines" "I") (List.mem_of_getElem? (i := 1) rfl)) dX1_fence_9 ?_
        refine lv_i2l hx hb dX1_fence_12 rfl ?_
        refine lv_iload_n hx hb dX1_fence_13 rfl (lv_at hl 1 rfl) ?_
        refine callSi (rest := [.long ((c_fl c).toInt64)]) ⟨hx, hb, hml, hown, hts⟩ (mX1_lineOf l y _ i (by omega)) (va_cwS 1 hts gX1_fence_X1_lineOf rfl rfl rfl (by decide +kernel) ⟨Nat.le_of_ble_eq_true rfl, Nat.le_of_ble_eq_true rfl⟩) hK hP hD hS hA hN rfl hl.1 rfl (Nat.le_of_ble_eq_true rfl) dX1_fence_14 ⟨Nat.le_of_ble_eq_true rfl, Nat.le_of_ble_eq_true rfl⟩ (fun H locs hP hD hS => ?_)
        refine callSi (rest := []) ⟨hx, hb, hml, hown, hts⟩ (mX1_hasBit l y _ ((c_fl c).toInt64) (i / 8) (by omega)) (va_cwS 2 hts gX1_fence_X1_hasBit rfl rfl rfl (by decide +kernel) ⟨Nat.le_of_ble_eq_true rfl, Nat.le_of_ble_eq_true rfl⟩) hK hP hD hS hA hN rfl hl.1 rfl (Nat.le_of_ble_eq_true rfl) dX1_fence_17 ⟨Nat.le_of_ble_eq_true rfl, Nat.le_of_ble_eq_true rfl⟩ (fun H locs hP hD hS => ?_)
        refine q_ifb_eq (tgt := 35) hx hb dX1_fence_20 (by decide) (fun (h20 : (hbL ((c_fl c).toInt64) (i / 8)) = false) => ?_) (fun (h20 : (hbL ((c_fl c).toInt64) (i / 8)) = true) => ?_)
        · refine lv_iinc (v := nI (i + 1)) (lv' := [(1, .int (nI (i + 1))), (0, .ref (a 0))]) hx hb dX1_fence_35 hl (k := 1) rfl (nI_add i 1) (by decide) rfl (fun ls hl => ?_)
          refine lv_goto (tgt := 2) hx hb dX1_fence_38 (by decide) ?_
          rw [keepL_f h20] at hP hD
          exact ih2 (i + 1) _ _ _ (by omega) (by omega) hP hD hS (lv_sub hl [1, 0] rfl)
        · refine lv_aload_n hx hb dX1_fence_23 rfl (lv_at hl 0 rfl) ?_
          refine cg_r2 hx hb hts hinX1 hown hK hP (hts (.fieldLink RX1 13 "FencedWords" "keptValues" "[J") (List.mem_of_getElem? (i := 2) rfl)) dX1_fence_24 ?_
          refine lv_iload_n hx hb dX1_fence_27 rfl (lv_at hl 1 rfl) ?_
          refine lv_aload_n hx hb dX1_fence_28 rfl (lv_at hl 0 rfl) ?_
          refine cg_r1 hx hb hts hinX1 hown hK hP (hts (.fieldLink RX1 9 "FencedWords" "seenValues" "[J") (List.mem_of_getElem? (i := 3) rfl)) dX1_fence_29 ?_
          refine lv_iload_n hx hb dX1_fence_32 rfl (lv_at hl 1 rfl) ?_
          refine cl_S hx hb hK hP (show i < 32 by omega) dX1_fence_33 ?_
          refine ct_K (v := c_S c i) hx hb hK hP hD hS (show i < 32 by omega) dX1_fence_34 (fun H locs hP hD hS => ?_)
          refine lv_iinc (v := nI (i + 1)) (lv' := [(1, .int (nI (i + 1))), (0, .ref (a 0))]) hx hb dX1_fence_35 hl (k := 1) rfl (nI_add i 1) (by decide) rfl (fun ls hl => ?_)
          refine lv_goto (tgt := 2) hx hb dX1_fence_38 (by decide) ?_
          have hP : va_P D vwCl (wC a y (cs_K (cs_K c (keepL c i)) (vp_updL (keepL c i) i (c_S c i))) t) H := hP
          have hD : va_D A (wC a y (cs_K (cs_K c (keepL c i)) (vp_updL (keepL c i) i (c_S c i))) t) := hD
          rw [css_K, keepL_t h20] at hP hD
          exact ih2 (i + 1) _ _ _ (by omega) (by omega) hP hD hS (lv_sub hl [1, 0] rfl)
  have e0 : c = cs_K c (keepL c 0) := (by rw [keepL_0]; rfl)
  rw [e0] at hP hD
  exact loop 33 0 _ _ _ (by omega) (by omega) hP hD hS (lv_sub hl [1, 0] rfl)
set_option maxHeartbeats 400000 in
set_option maxRecDepth 100000 in
theorem mX1_doPlainActs (l : Launch) (y : Nat → ClassId) (t : va_W) (a : Nat → Nat) (c : CS) (n : Nat) (hB : CB c) (hn0 : n ≤ 100) : MGi l yX1_doPlainActs wsX1_doPlainActs 3 64 [.ref (a 0), .int (nI n)] (tyA y) (wC a y c t) (bI ((runF (plainL n) c).1)) (wC a y ((runF (plainL n) c).2) t) := by
  refine MGi.of (cc := cX1_doPlainActs) (maxL := 3) (by decide) rfl (Nat.le_of_ble_eq_true rfl) ?_
  intro D p e s m below meth c0 A ls hx hb hr hml hown hlocks hts hK hP hD hA hN hl hS
  have hl : lv_has ls 3 [(0, .ref (a 0)), (1, .int (nI n))] := hl
  refine lv_iconst (v := nI 0) hx hb dX1_doPlainActs_0 (by decide) ?_
  refine lv_istore_n (lv' := [(2, .int (nI 0)), (0, .ref (a 0)), (1, .int (nI n))]) hx hb dX1_doPlainActs_1 rfl hl (by decide) rfl (fun ls hl => ?_)
  have loop : ∀ (n2 : Nat) (i : Nat) (d : CS) (H : Heap) (locs : List Loc) (ls : Array Slot), (i ≤ n) → (n + 1 ≤ i + n2) → (CB d) → (runF (plainL n) c = runF (plainL (n - i)) d) → va_P D vwCl (wC a y d t) H → va_D A (wC a y d t) → va_S A s.heap H locs → lv_has ls 3 [(0, .ref (a 0)), (1, .int (nI n)), (2, .int (nI i))] → W p l e ({ frames := 3, cells := 0, slots := 0, locals := 64 }) s m [.ref (a 0), .int (nI n)].toArray below meth c0 H locs 0 0 (GQi below D (tyA y) A (bI ((runF (plainL n) c).1)) (wC a y ((runF (plainL n) c).2) t) [.ref (a 0), .int (nI n)].toArray s) (F0 m 2 ls []) := by
    intro n2
    induction n2 with
    | zero =>
      intro i d H locs ls hi hn hB hE hP hD hS hl
      omega
    | succ n2 ih2 =>
      intro i d H locs ls hi hn hB hE hP hD hS hl
      refine lv_iload_n hx hb dX1_doPlainActs_2 rfl (lv_at hl 2 rfl) ?_
      refine lv_iload_n hx hb dX1_doPlainActs_3 rfl (lv_at hl 1 rfl) ?_
      refine q_icmp_ge (tgt := 22) hx hb (show i < 2 ^ 31 by omega) (show n < 2 ^ 31 by omega) dX1_doPlainActs_4 (by decide) (fun (h4 : n ≤ i) => ?_) (fun (h4 : i < n) => ?_)
      · refine lv_iconst (v := nI 1) hx hb dX1_doPlainActs_22 (by decide) ?_
        exact retGz hx hb hr hlocks hK hP hD hS dX1_doPlainActs_23 (by rw [hE, show n - i = 0 by omega]; rfl) (by rw [hE, show n - i = 0 by omega]; rfl)
      · refine lv_aload_n hx hb dX1_doPlainActs_7 rfl (lv_at hl 0 rfl) ?_
        refine callVi (rest := []) ⟨hx, hb, hml, hown, hts⟩ (mX1_endAct l y t a d ⟨hB.1, hB.2.1, hB.2.2⟩) (cwV 0 hts gX1_doPlainActs_X1_endAct rfl rfl rfl (by decide +kernel) ⟨Nat.le_of_ble_eq_true rfl, Nat.le_of_ble_eq_true rfl⟩) (va_recv hK hP (ci := 1) (q0 := 0) rfl rfl) hK hP hD hS hA hN rfl hl.1 rfl (Nat.le_of_ble_eq_true rfl) dX1_doPlainActs_8 ⟨Nat.le_of_ble_eq_true rfl, Nat.le_of_ble_eq_true rfl⟩ (fun H locs hP hD hS => ?_)
        generalize hc1 : (endActF d).2 = c1 at hP hD
        have hP : va_P D vwCl (wC a y c1 t) H := hP
        have hD : va_D A (wC a y c1 t) := hD
        refine q_ifb_ne (tgt := 16) hx hb dX1_doPlainActs_11 (by decide) (fun (h11 : ((endActF d).1) = true) => ?_) (fun (h11 : ((endActF d).1) = false) => ?_)
        · refine lv_iinc (v := nI (i + 1)) (lv' := [(2, .int (nI (i + 1))), (0, .ref (a 0)), (1, .int (nI n))]) hx hb dX1_doPlainActs_16 hl (k := 2) rfl (nI_add i 1) (by decide) rfl (fun ls hl => ?_)
          refine lv_goto (tgt := 2) hx hb dX1_doPlainActs_19 (by decide) ?_
          exact ih2 (i + 1) c1 _ _ _ (by omega) (by omega) (hc1 ▸ CB_ok hB h11) (by rw [hE, plainL_s (by omega), runF_t (f := fun c => c) h11, hc1]; rfl) hP hD hS (lv_sub hl [1, 2, 0] rfl)
        · refine lv_iconst (v := nI 0) hx hb dX1_doPlainActs_14 (by decide) ?_
          exact retGz hx hb hr hlocks hK hP hD hS dX1_doPlainActs_15 (by rw [hE, plainL_s (by omega), runF_f (f := fun c => c) h11]; rfl) (by rw [hE, plainL_s (by omega), runF_f (f := fun c => c) h11, ← hc1])
  exact loop (n + 1) 0 c _ _ _ (by omega) (by omega) hB rfl hP hD hS (lv_sub hl [1, 2, 0] rfl)
end
section
theorem in_X1_X1_append : ∀ w ∈ wsX10, w ∈ wsX1_append := fun w h => List.mem_cons_of_mem _ (List.mem_append_left _ (List.mem_append_right _ (h)))
set_option maxHeartbeats 400000 in
set_option maxRecDepth 100000 in
theorem mX1_append (l : Launch) (y : Nat → ClassId) (t : va_W) (a : Nat → Nat) (c : CS) (k n : Nat) (hB : CB c) (hn0 : n ≤ 8) (h1 : k + n ≤ 32) (h2 : c_sz c < 20) (h3 : c_tk c + 1 + n ≤ 40) : MGi l yX1_append wsX1_append 4 86 [.ref (a 0), .int (nI k), .int (nI n)] (tyA y) (wC a y c t) (bI ((appendF k n c).1)) (wC a y ((appendF k n c).2) t) := by
  refine MGi.of (cc := cX1_append) (maxL := 3) (by decide) rfl (Nat.le_of_ble_eq_true rfl) ?_
  intro D p e s m below meth c0 A ls hx hb hr hml hown hlocks hts hK hP hD hA hN hl hS
  have hl : lv_has ls 3 [(0, .ref (a 0)), (1, .int (nI k)), (2, .int (nI n))] := hl
  have hinX1 : ∀ w ∈ u_ws RX1 TX1 10, w ∈ wsX1_append := in_X1_X1_append
  refine lv_aload_n hx hb dX1_append_0 rfl (lv_at hl 0 rfl) ?_
  refine lv_iload_n hx hb dX1_append_1 rfl (lv_at hl 2 rfl) ?_
  refine lv_iconst (v := nI 1) hx hb dX1_append_2 (by decide) ?_
  refine q_iadd hx hb dX1_append_3 ?_
  refine callVi (rest := []) ⟨hx, hb, hml, hown, hts⟩ (mX1_doPlainActs l y t a c (n + 1) ⟨hB.1, hB.2.1, hB.2.2⟩ (by omega)) (cwV 1 hts gX1_append_X1_doPlainActs rfl rfl rfl (by decide +kernel) ⟨Nat.le_of_ble_eq_true rfl, Nat.le_of_ble_eq_true rfl⟩) (va_recv hK hP (ci := 1) (q0 := 0) rfl rfl) hK hP hD hS hA hN rfl hl.1 rfl (Nat.le_of_ble_eq_true rfl) dX1_append_4 ⟨Nat.le_of_ble_eq_true rfl, Nat.le_of_ble_eq_true rfl⟩ (fun H locs hP hD hS => ?_)
  generalize hc1 : (runF (plainL (n + 1)) c).2 = c1 at hP hD
  have hP : va_P D vwCl (wC a y c1 t) H := hP
  have hD : va_D A (wC a y c1 t) := hD
  refine q_ifb_ne (tgt := 12) hx hb dX1_append_7 (by decide) (fun (h7 : ((runF (plainL (n + 1)) c).1) = true) => ?_) (fun (h7 : ((runF (plainL (n + 1)) c).1) = false) => ?_)
  · obtain ⟨u1, v1, e1, hv1⟩ := plain_ok h7
    rw [hc1] at e1
    have hB : CB c1 := hc1 ▸ CB_plain hB h7
    have g2 : c_sz c1 < 20 := (by rw [e1]; exact h2)
    have g3 : c_tk c1 + 1 + n ≤ 40 := (by rw [e1]; exact h3)
    refine lv_aload_n hx hb dX1_append_12 rfl (lv_at hl 0 rfl) ?_
    refine cg_r3 hx hb hts hinX1 hown hK hP (hts (.fieldLink RX1 19 "FencedWords" "log" "LFencedWords$Log;") (List.mem_of_getElem? (i := 1) rfl)) dX1_append_13 ?_
    refine lv_iload_n hx hb dX1_append_16 rfl (lv_at hl 1 rfl) ?_
    refine lv_iload_n hx hb dX1_append_17 rfl (lv_at hl 2 rfl) ?_
    refine lv_aload_n hx hb dX1_append_18 rfl (lv_at hl 0 rfl) ?_
    refine cg_r1 hx hb hts hinX1 hown hK hP (hts (.fieldLink RX1 9 "FencedWords" "seenValues" "[J") (List.mem_of_getElem? (i := 2) rfl)) dX1_append_19 ?_
    refine callVv (rest := []) ⟨hx, hb, hml, hown, hts⟩ (mX0_write l y t a c1 k n (by omega) (by assumption) (by assumption)) (cwV 3 hts gX1_append_X0_write rfl rfl rfl (by decide +kernel) ⟨Nat.le_of_ble_eq_true rfl, Nat.le_of_ble_eq_true rfl⟩) (va_recv hK hP (ci := 0) (q0 := 3) rfl rfl) hK hP hD hS hA hN rfl hl.1 rfl (Nat.le_of_ble_eq_true rfl) dX1_append_22 ⟨Nat.le_of_ble_eq_true rfl, Nat.le_of_ble_eq_true rfl⟩ (fun H locs hP hD hS => ?_)
    generalize hc2 : writeA k n c1 = c2 at hP hD
    have hP : va_P D vwCl (wC a y c2 t) H := hP
    have hD : va_D A (wC a y c2 t) := hD
    have hB : CB c2 := (by rw [← hc2]; exact CB_write hB g2)
    refine lv_aload_n hx hb dX1_append_25 rfl (lv_at hl 0 rfl) ?_
    refine lv_iconst (v := nI 2) hx hb dX1_append_26 (by decide) ?_
    refine callVi (rest := []) ⟨hx, hb, hml, hown, hts⟩ (mX1_doPlainActs l y t a c2 2 ⟨hB.1, hB.2.1, hB.2.2⟩ (by omega)) (cwV 1 hts gX1_append_X1_doPlainActs rfl rfl rfl (by decide +kernel) ⟨Nat.le_of_ble_eq_true rfl, Nat.le_of_ble_eq_true rfl⟩) (va_recv hK hP (ci := 1) (q0 := 0) rfl rfl) hK hP hD hS hA hN rfl hl.1 rfl (Nat.le_of_ble_eq_true rfl) dX1_append_27 ⟨Nat.le_of_ble_eq_true rfl, Nat.le_of_ble_eq_true rfl⟩ (fun H locs hP hD hS => ?_)
    generalize hc3 : (runF (plainL 2) c2).2 = c3 at hP hD
    have hP : va_P D vwCl (wC a y c3 t) H := hP
    have hD : va_D A (wC a y c3 t) := hD
    refine q_ifb_ne (tgt := 35) hx hb dX1_append_30 (by decide) (fun (h30 : ((runF (plainL 2) c2).1) = true) => ?_) (fun (h30 : ((runF (plainL 2) c2).1) = false) => ?_)
    · have hB : CB c3 := hc3 ▸ CB_plain hB h30
      refine lv_aload_n hx hb dX1_append_35 rfl (lv_at hl 0 rfl) ?_
      refine cg_r3 hx hb hts hinX1 hown hK hP (hts (.fieldLink RX1 19 "FencedWords" "log" "LFencedWords$Log;") (List.mem_of_getElem? (i := 1) rfl)) dX1_append_36 ?_
      refine callVv (rest := []) ⟨hx, hb, hml, hown, hts⟩ (mX0_keepNewest l y t a c3) (cwV 0 hts gX1_append_X0_keepNewest rfl rfl rfl (by decide +kernel) ⟨Nat.le_of_ble_eq_true rfl, Nat.le_of_ble_eq_true rfl⟩) (va_recv hK hP (ci := 0) (q0 := 3) rfl rfl) hK hP hD hS hA hN rfl hl.1 rfl (Nat.le_of_ble_eq_true rfl) dX1_append_39 ⟨Nat.le_of_ble_eq_true rfl, Nat.le_of_ble_eq_true rfl⟩ (fun H locs hP hD hS => ?_)
      generalize hc4 : keepN c3 = c4 at hP hD
      have hP : va_P D vwCl (wC a y c4 t) H := hP
      have hD : va_D A (wC a y c4 t) := hD
      have hB : CB c4 := (by rw [← hc4]; exact ⟨hB.1, fun h => (by cases h), hB.2.2⟩)
      refine lv_aload_n hx hb dX1_append_42 rfl (lv_at hl 0 rfl) ?_
      refine callVi (rest := []) ⟨hx, hb, hml, hown, hts⟩ (mX1_fence l y t a c4 ⟨hB.1, hB.2.1, hB.2.2⟩) (cwV 0 hts gX1_append_X1_fence rfl rfl rfl (by decide +kernel) ⟨Nat.le_of_ble_eq_true rfl, Nat.le_of_ble_eq_true rfl⟩) (va_recv hK hP (ci := 1) (q0 := 0) rfl rfl) hK hP hD hS hA hN rfl hl.1 rfl (Nat.le_of_ble_eq_true rfl) dX1_append_43 ⟨Nat.le_of_ble_eq_true rfl, Nat.le_of_ble_eq_true rfl⟩ (fun H locs hP hD hS => ?_)
      generalize hc5 : (endActF (fenceA c4)).2 = c5 at hP hD
      have hP : va_P D vwCl (wC a y c5 t) H := hP
      have hD : va_D A (wC a y c5 t) := hD
      exact retGz hx hb hr hlocks hK hP hD hS dX1_append_46 (by unfold appendF twoF; rw [if_pos h7, hc1, hc2, if_pos h30, hc3]; simp only [hc4]) (by unfold appendF twoF; rw [if_pos h7, hc1, hc2, if_pos h30, hc3]; simp only [hc4, hc5])
    · refine lv_iconst (v := nI 0) hx hb dX1_append_33 (by decide) ?_
      exact retGz hx hb hr hlocks hK hP hD hS dX1_append_34 (by unfold appendF twoF; rw [if_pos h7, hc1, hc2, if_neg (by rw [h30]; decide)]; rfl) (by unfold appendF twoF; rw [if_pos h7, hc1, hc2, if_neg (by rw [h30]; decide), hc3])
  · refine lv_iconst (v := nI 0) hx hb dX1_append_10 (by decide) ?_
    exact retGz hx hb hr hlocks hK hP hD hS dX1_append_11 (by unfold appendF; rw [if_neg (by rw [h7]; decide)]; rfl) (by unfold appendF; rw [if_neg (by rw [h7]; decide), hc1])
theorem in_X0_X1_clearLog : ∀ w ∈ wsX00, w ∈ wsX1_clearLog := fun w h => List.mem_cons_of_mem _ (List.mem_append_right _ (h))
theorem in_X1_X1_clearLog : ∀ w ∈ wsX10, w ∈ wsX1_clearLog := fun w h => List.mem_cons_of_mem _ (List.mem_append_left _ (List.mem_append_right _ (h)))
set_option maxHeartbeats 400000 in
set_option maxRecDepth 100000 in
theorem mX1_clearLog (l : Launch) (y : Nat → ClassId) (t : va_W) (a : Nat → Nat) (c : CS) (hB : CB c) (hnk : c_nk c = false) : MGi l yX1_clearLog wsX1_clearLog 4 86 [.ref (a 0)] (tyA y) (wC a y c t) (bI ((clearF c).1)) (wC a y ((clearF c).2) t) := by
  refine MGi.of (cc := cX1_clearLog) (maxL := 1) (by decide) rfl (Nat.le_of_ble_eq_true rfl) ?_
  intro D p e s m below meth c0 A ls hx hb hr hml hown hlocks hts hK hP hD hA hN hl hS
  have hl : lv_has ls 1 [(0, .ref (a 0))] := hl
  have hinX0 : ∀ w ∈ u_ws RX0 TX0 8, w ∈ wsX1_clearLog := in_X0_X1_clearLog
  have hinX1 : ∀ w ∈ u_ws RX1 TX1 10, w ∈ wsX1_clearLog := in_X1_X1_clearLog
  have hz := hB.1
  refine lv_aload_n hx hb dX1_clearLog_0 rfl (lv_at hl 0 rfl) ?_
  refine cg_r3 hx hb hts hinX1 hown hK hP (hts (.fieldLink RX1 19 "FencedWords" "log" "LFencedWords$Log;") (List.mem_of_getElem? (i := 1) rfl)) dX1_clearLog_1 ?_
  refine cn_sz (host := "FencedWords") hx hb hts hinX0 hown hK hP (va_Nw.use rfl hN.1) dX1_clearLog_4 ?_
  refine q_if_ne (tgt := 12) hx hb (show (c_sz c) < 2 ^ 31 by omega) dX1_clearLog_7 (by decide) (fun (h7 : ¬ (c_sz c) = 0) => ?_) (fun (h7 : (c_sz c) = 0) => ?_)
  · refine lv_aload_n hx hb dX1_clearLog_12 rfl (lv_at hl 0 rfl) ?_
    refine cg_r3 hx hb hts hinX1 hown hK hP (hts (.fieldLink RX1 19 "FencedWords" "log" "LFencedWords$Log;") (List.mem_of_getElem? (i := 1) rfl)) dX1_clearLog_13 ?_
    refine callVv (rest := []) ⟨hx, hb, hml, hown, hts⟩ (mX0_crossOut l y t a c) (cwV 0 hts gX1_clearLog_X0_crossOut rfl rfl rfl (by decide +kernel) ⟨Nat.le_of_ble_eq_true rfl, Nat.le_of_ble_eq_true rfl⟩) (va_recv hK hP (ci := 0) (q0 := 3) rfl rfl) hK hP hD hS hA hN rfl hl.1 rfl (Nat.le_of_ble_eq_true rfl) dX1_clearLog_16 ⟨Nat.le_of_ble_eq_true rfl, Nat.le_of_ble_eq_true rfl⟩ (fun H locs hP hD hS => ?_)
    generalize hc1 : crossA c = c1 at hP hD
    have hP : va_P D vwCl (wC a y c1 t) H := hP
    have hD : va_D A (wC a y c1 t) := hD
    have hB : CB c1 := (by rw [← hc1]; exact ⟨hB.1, hB.2.1, hB.2.2⟩)
    have hnk : c_nk c1 = false := (by rw [← hc1]; exact hnk)
    refine lv_aload_n hx hb dX1_clearLog_19 rfl (lv_at hl 0 rfl) ?_
    refine lv_iconst (v := nI 2) hx hb dX1_clearLog_20 (by decide) ?_
    refine callVi (rest := []) ⟨hx, hb, hml, hown, hts⟩ (mX1_doPlainActs l y t a c1 2 ⟨hB.1, hB.2.1, hB.2.2⟩ (by omega)) (cwV 1 hts gX1_clearLog_X1_doPlainActs rfl rfl rfl (by decide +kernel) ⟨Nat.le_of_ble_eq_true rfl, Nat.le_of_ble_eq_true rfl⟩) (va_recv hK hP (ci := 1) (q0 := 0) rfl rfl) hK hP hD hS hA hN rfl hl.1 rfl (Nat.le_of_ble_eq_true rfl) dX1_clearLog_21 ⟨Nat.le_of_ble_eq_true rfl, Nat.le_of_ble_eq_true rfl⟩ (fun H locs hP hD hS => ?_)
    generalize hc2 : (runF (plainL 2) c1).2 = c2 at hP hD
    have hP : va_P D vwCl (wC a y c2 t) H := hP
    have hD : va_D A (wC a y c2 t) := hD
    refine q_ifb_ne (tgt := 29) hx hb dX1_clearLog_24 (by decide) (fun (h24 : ((runF (plainL 2) c1).1) = true) => ?_) (fun (h24 : ((runF (plainL 2) c1).1) = false) => ?_)
    · obtain ⟨u1, v1, e1, hv1⟩ := plain_ok h24
      rw [hc2] at e1
      have hB : CB c2 := hc2 ▸ CB_plain hB h24
      have hnk : c_nk c2 = false := (by rw [e1]; exact hnk)
      refine lv_aload_n hx hb dX1_clearLog_29 rfl (lv_at hl 0 rfl) ?_
      refine cg_r3 hx hb hts hinX1 hown hK hP (hts (.fieldLink RX1 19 "FencedWords" "log" "LFencedWords$Log;") (List.mem_of_getElem? (i := 1) rfl)) dX1_clearLog_30 ?_
      refine callVv (rest := []) ⟨hx, hb, hml, hown, hts⟩ (mX0_dropAll l y t a c2) (cwV 0 hts gX1_clearLog_X0_dropAll rfl rfl rfl (by decide +kernel) ⟨Nat.le_of_ble_eq_true rfl, Nat.le_of_ble_eq_true rfl⟩) (va_recv hK hP (ci := 0) (q0 := 3) rfl rfl) hK hP hD hS hA hN rfl hl.1 rfl (Nat.le_of_ble_eq_true rfl) dX1_clearLog_33 ⟨Nat.le_of_ble_eq_true rfl, Nat.le_of_ble_eq_true rfl⟩ (fun H locs hP hD hS => ?_)
      generalize hc3 : dropA c2 = c3 at hP hD
      have hP : va_P D vwCl (wC a y c3 t) H := hP
      have hD : va_D A (wC a y c3 t) := hD
      have hB : CB c3 := (by rw [← hc3]; exact ⟨Nat.zero_le _, fun h => absurd (hnk.symm.trans h) (by decide), hB.2.2⟩)
      refine lv_aload_n hx hb dX1_clearLog_36 rfl (lv_at hl 0 rfl) ?_
      refine callVi (rest := []) ⟨hx, hb, hml, hown, hts⟩ (mX1_fence l y t a c3 ⟨hB.1, hB.2.1, hB.2.2⟩) (cwV 0 hts gX1_clearLog_X1_fence rfl rfl rfl (by decide +kernel) ⟨Nat.le_of_ble_eq_true rfl, Nat.le_of_ble_eq_true rfl⟩) (va_recv hK hP (ci := 1) (q0 := 0) rfl rfl) hK hP hD hS hA hN rfl hl.1 rfl (Nat.le_of_ble_eq_true rfl) dX1_clearLog_37 ⟨Nat.le_of_ble_eq_true rfl, Nat.le_of_ble_eq_true rfl⟩ (fun H locs hP hD hS => ?_)
      generalize hc4 : (endActF (fenceA c3)).2 = c4 at hP hD
      have hP : va_P D vwCl (wC a y c4 t) H := hP
      have hD : va_D A (wC a y c4 t) := hD
      exact retGz hx hb hr hlocks hK hP hD hS dX1_clearLog_40 (by unfold clearF twoF; rw [if_neg h7, hc1, if_pos h24, hc2]; simp only [hc3]) (by unfold clearF twoF; rw [if_neg h7, hc1, if_pos h24, hc2]; simp only [hc3, hc4])
    · refine lv_iconst (v := nI 0) hx hb dX1_clearLog_27 (by decide) ?_
      exact retGz hx hb hr hlocks hK hP hD hS dX1_clearLog_28 (by unfold clearF twoF; rw [if_neg h7, hc1, if_neg (by rw [h24]; decide)]; rfl) (by unfold clearF twoF; rw [if_neg h7, hc1, if_neg (by rw [h24]; decide), hc2])
  · refine lv_iconst (v := nI 1) hx hb dX1_clearLog_10 (by decide) ?_
    exact retGz hx hb hr hlocks hK hP hD hS dX1_clearLog_11 (by unfold clearF; rw [if_pos h7]; rfl) (by unfold clearF; rw [if_pos h7])
set_option maxHeartbeats 400000 in
set_option maxRecDepth 100000 in
theorem mX1_keepLines (l : Launch) (y : Nat → ClassId) (t : va_W) (a : Nat → Nat) (c : CS) (x : Int32) (hB : CB c) : MGi l yX1_keepLines wsX1_keepLines 4 85 [.ref (a 0), .int x] (tyA y) (wC a y c t) (bI ((keepLinesF x c).1)) (wC a y ((keepLinesF x c).2) t) := by
  refine MGi.of (cc := cX1_keepLines) (maxL := 3) (by decide) rfl (Nat.le_of_ble_eq_true rfl) ?_
  intro D p e s m below meth c0 A ls hx hb hr hml hown hlocks hts hK hP hD hA hN hl hS
  have hl : lv_has ls 3 [(0, .ref (a 0)), (1, .int x)] := hl
  refine lv_iload_n hx hb dX1_keepLines_0 rfl (lv_at hl 1 rfl) ?_
  refine lv_if_ne (tgt := 6) hx hb dX1_keepLines_1 (by decide) (fun (h1 : ¬ x = 0) => ?_) (fun (h1 : x = 0) => ?_)
  · refine lv_iconst (v := nI 0) hx hb dX1_keepLines_6 (by decide) ?_
    refine lv_istore_n (lv' := [(2, .int (nI 0)), (0, .ref (a 0)), (1, .int x)]) hx hb dX1_keepLines_7 rfl hl (by decide) rfl (fun ls hl => ?_)
    have loop : ∀ (n8 : Nat) (i : Nat) (d : CS) (H : Heap) (locs : List Loc) (ls : Array Slot), (i ≤ 4) → (5 ≤ i + n8) → (CB d) → (runF (linesL x 4) c = runF (linesL x (4 - i)) d) → va_P D vwCl (wC a y d t) H → va_D A (wC a y d t) → va_S A s.heap H locs → lv_has ls 3 [(0, .ref (a 0)), (1, .int x), (2, .int (nI i))] → W p l e ({ frames := 4, cells := 0, slots := 0, locals := 85 }) s m [.ref (a 0), .int x].toArray below meth c0 H locs 0 0 (GQi below D (tyA y) A (bI ((keepLinesF x c).1)) (wC a y ((keepLinesF x c).2) t) [.ref (a 0), .int x].toArray s) (F0 m 8 ls []) := by
      intro n8
      induction n8 with
      | zero =>
        intro i d H locs ls hi hn hB hE hP hD hS hl
        omega
      | succ n8 ih8 =>
        intro i d H locs ls hi hn hB hE hP hD hS hl
        refine lv_iload_n hx hb dX1_keepLines_8 rfl (lv_at hl 2 rfl) ?_
        refine lv_iconst (v := nI 4) hx hb dX1_keepLines_9 (by decide) ?_
        refine q_icmp_ge (tgt := 38) hx hb (show i < 2 ^ 31 by omega) (show 4 < 2 ^ 31 by omega) dX1_keepLines_10 (by decide) (fun (h10 : 4 ≤ i) => ?_) (fun (h10 : i < 4) => ?_)
        · refine lv_aload_n hx hb dX1_keepLines_38 rfl (lv_at hl 0 rfl) ?_
          refine callVi (rest := []) ⟨hx, hb, hml, hown, hts⟩ (mX1_fence l y t a d ⟨hB.1, hB.2.1, hB.2.2⟩) (cwV 0 hts gX1_keepLines_X1_fence rfl rfl rfl (by decide +kernel) ⟨Nat.le_of_ble_eq_true rfl, Nat.le_of_ble_eq_true rfl⟩) (va_recv hK hP (ci := 1) (q0 := 0) rfl rfl) hK hP hD hS hA hN rfl hl.1 rfl (Nat.le_of_ble_eq_true rfl) dX1_keepLines_39 ⟨Nat.le_of_ble_eq_true rfl, Nat.le_of_ble_eq_true rfl⟩ (fun H locs hP hD hS => ?_)
          generalize hc1 : (endActF (fenceA d)).2 = c1 at hP hD
          have hP : va_P D vwCl (wC a y c1 t) H := hP
          have hD : va_D A (wC a y c1 t) := hD
          exact retGz hx hb hr hlocks hK hP hD hS dX1_keepLines_42 (by unfold keepLinesF; rw [if_neg h1, hE, show 4 - i = 0 by omega]; show _ = bI (runF [fenceA] d).1; rw [runF_one]) (by unfold keepLinesF; rw [if_neg h1, hE, show 4 - i = 0 by omega]; show _ = wC a y (runF [fenceA] d).2 t; rw [runF_one, hc1])
        · refine lv_iload_n hx hb dX1_keepLines_13 rfl (lv_at hl 1 rfl) ?_
          refine lv_i2l hx hb dX1_keepLines_14 rfl ?_
          refine lv_iload_n hx hb dX1_keepLines_15 rfl (lv_at hl 2 rfl) ?_
          refine callSi (rest := []) ⟨hx, hb, hml, hown, hts⟩ (mX1_hasBit l y _ x.toInt64 i (by omega)) (va_cwS 2 hts gX1_keepLines_X1_hasBit rfl rfl rfl (by decide +kernel) ⟨Nat.le_of_ble_eq_true rfl, Nat.le_of_ble_eq_true rfl⟩) hK hP hD hS hA hN rfl hl.1 rfl (Nat.le_of_ble_eq_true rfl) dX1_keepLines_16 ⟨Nat.le_of_ble_eq_true rfl, Nat.le_of_ble_eq_true rfl⟩ (fun H locs hP hD hS => ?_)
          refine q_ifb_eq (tgt := 32) hx hb dX1_keepLines_19 (by decide) (fun (h19 : (hbL x.toInt64 i) = false) => ?_) (fun (h19 : (hbL x.toInt64 i) = true) => ?_)
          · refine lv_iinc (v := nI (i + 1)) (lv' := [(2, .int (nI (i + 1))), (0, .ref (a 0)), (1, .int x)]) hx hb dX1_keepLines_32 hl (k := 2) rfl (nI_add i 1) (by decide) rfl (fun ls hl => ?_)
            refine lv_goto (tgt := 8) hx hb dX1_keepLines_35 (by decide) ?_
            exact ih8 (i + 1) d _ _ _ (by omega) (by omega) hB (by rw [hE, linesL_f (by omega) h19]) hP hD hS (lv_sub hl [1, 2, 0] rfl)
          · refine lv_aload_n hx hb dX1_keepLines_22 rfl (lv_at hl 0 rfl) ?_
            refine lv_iload_n hx hb dX1_keepLines_23 rfl (lv_at hl 2 rfl) ?_
            refine callVi (rest := []) ⟨hx, hb, hml, hown, hts⟩ (mX1_flush l y t a d i ⟨hB.1, hB.2.1, hB.2.2⟩) (cwV 1 hts gX1_keepLines_X1_flush rfl rfl rfl (by decide +kernel) ⟨Nat.le_of_ble_eq_true rfl, Nat.le_of_ble_eq_true rfl⟩) (va_recv hK hP (ci := 1) (q0 := 0) rfl rfl) hK hP hD hS hA hN rfl hl.1 rfl (Nat.le_of_ble_eq_true rfl) dX1_keepLines_24 ⟨Nat.le_of_ble_eq_true rfl, Nat.le_of_ble_eq_true rfl⟩ (fun H locs hP hD hS => ?_)
            generalize hc2 : (endActF (flushA i d)).2 = c2 at hP hD
            have hP : va_P D vwCl (wC a y c2 t) H := hP
            have hD : va_D A (wC a y c2 t) := hD
            refine q_ifb_ne (tgt := 32) hx hb dX1_keepLines_27 (by decide) (fun (h27 : ((endActF (flushA i d)).1) = true) => ?_) (fun (h27 : ((endActF (flushA i d)).1) = false) => ?_)
            · refine lv_iinc (v := nI (i + 1)) (lv' := [(2, .int (nI (i + 1))), (0, .ref (a 0)), (1, .int x)]) hx hb dX1_keepLines_32 hl (k := 2) rfl (nI_add i 1) (by decide) rfl (fun ls hl => ?_)
              refine lv_goto (tgt := 8) hx hb dX1_keepLines_35 (by decide) ?_
              exact ih8 (i + 1) c2 _ _ _ (by omega) (by omega) (hc2 ▸ CB_ok (c := flushA i d) ⟨hB.1, hB.2.1, hB.2.2⟩ h27) (by rw [hE, linesL_t (by omega) h19, runF_t h27, hc2]) hP hD hS (lv_sub hl [1, 2, 0] rfl)
            · refine lv_iconst (v := nI 0) hx hb dX1_keepLines_30 (by decide) ?_
              exact retGz hx hb hr hlocks hK hP hD hS dX1_keepLines_31 (by unfold keepLinesF; rw [if_neg h1, hE, linesL_t (by omega) h19, runF_f h27]; rfl) (by unfold keepLinesF; rw [if_neg h1, hE, linesL_t (by omega) h19, runF_f h27, hc2])
    exact loop 5 0 c _ _ _ (by omega) (by omega) hB rfl hP hD hS (lv_sub hl [1, 2, 0] rfl)
  · refine lv_iconst (v := nI 1) hx hb dX1_keepLines_4 (by decide) ?_
    exact retGz hx hb hr hlocks hK hP hD hS dX1_keepLines_5 (by unfold keepLinesF; rw [if_pos h1]; rfl) (by unfold keepLinesF; rw [if_pos h1])
theorem in_X0_X1_storeOldValues : ∀ w ∈ wsX00, w ∈ wsX1_storeOldValues := fun w h => List.mem_cons_of_mem _ (List.mem_append_right _ (h))
theorem in_X1_X1_storeOldValues : ∀ w ∈ wsX10, w ∈ wsX1_storeOldValues := fun w h => List.mem_cons_of_mem _ (List.mem_append_left _ (List.mem_append_right _ (h)))
set_option maxHeartbeats 400000 in
set_option maxRecDepth 100000 in
theorem mX1_storeOldValues (l : Launch) (y : Nat → ClassId) (t : va_W) (a : Nat → Nat) (c : CS) (hF : SF c) : MGi l yX1_storeOldValues wsX1_storeOldValues 4 87 [.ref (a 0)] (tyA y) (wC a y c t) (bI ((stOldF c).1)) (wC a y ((stOldF c).2) t) := by
  refine MGi.of (cc := cX1_storeOldValues) (maxL := 3) (by decide) rfl (Nat.le_of_ble_eq_true rfl) ?_
  intro D p e s m below meth c0 A ls hx hb hr hml hown hlocks hts hK hP hD hA hN hl hS
  have hl : lv_has ls 3 [(0, .ref (a 0))] := hl
  have hinX0 : ∀ w ∈ u_ws RX0 TX0 8, w ∈ wsX1_storeOldValues := in_X0_X1_storeOldValues
  have hinX1 : ∀ w ∈ u_ws RX1 TX1 10, w ∈ wsX1_storeOldValues := in_X1_X1_storeOldValues
  have hz := hF.1.1
  refine lv_aload_n hx hb dX1_storeOldValues_0 rfl (lv_at hl 0 rfl) ?_
  refine cg_r3 hx hb hts hinX1 hown hK hP (hts (.fieldLink RX1 19 "FencedWords" "log" "LFencedWords$Log;") (List.mem_of_getElem? (i := 1) rfl)) dX1_storeOldValues_1 ?_
  refine cn_sz (host := "FencedWords") hx hb hts hinX0 hown hK hP (va_Nw.use rfl hN.1) dX1_storeOldValues_4 ?_
  refine lv_iconst (v := nI 1) hx hb dX1_storeOldValues_7 (by decide) ?_
  refine lv_isub hx hb dX1_storeOldValues_8 ?_
  refine lv_istore_n (lv' := [(1, .int ((nI (c_sz c)) - (nI 1))), (0, .ref (a 0))]) hx hb dX1_storeOldValues_9 rfl hl (by decide) rfl (fun ls hl => ?_)
  have loopR : ∀ (n10 : Nat) (k : Nat) (d : CS) (H : Heap) (locs : List Loc) (ls : Array Slot), (k ≤ c_sz d) → (k + 1 ≤ n10) → (SF d) → (stOldF c = runF (soR d k) d) → va_P D vwCl (wC a y d t) H → va_D A (wC a y d t) → va_S A s.heap H locs → lv_has ls 3 [(0, .ref (a 0)), (1, .int (nI k - nI 1))] → W p l e ({ frames := 4, cells := 0, slots := 0, locals := 87 }) s m [.ref (a 0)].toArray below meth c0 H locs 0 0 (GQi below D (tyA y) A (bI ((stOldF c).1)) (wC a y ((stOldF c).2) t) [.ref (a 0)].toArray s) (F0 m 10 ls []) := by
    intro n10
    induction n10 with
    | zero =>
      intro k d H locs ls hi hn hF hE hP hD hS hl
      omega
    | succ n10 ih10 =>
      intro k d H locs ls hi hn hF hE hP hD hS hl
      refine lv_iload_n hx hb dX1_storeOldValues_10 rfl (lv_at hl 1 rfl) ?_
      refine lv_if_lt (tgt := 70) hx hb dX1_storeOldValues_11 (by decide) (fun (h11 : (nI k - nI 1) < 0) => ?_) (fun (h11 : ¬ (nI k - nI 1) < 0) => ?_)
      · have hk0 : k = 0 := (sub1_neg (by have := hF.1.1; omega)).mp h11
        subst hk0
        refine lv_iconst (v := nI 1) hx hb dX1_storeOldValues_70 (by decide) ?_
        exact retGz hx hb hr hlocks hK hP hD hS dX1_storeOldValues_71 (by rw [hE]; rfl) (by rw [hE]; rfl)
      · obtain ⟨j, rfl⟩ : ∃ j, k = j + 1 := ⟨k - 1, by have q : k ≠ 0 := fun q => h11 ((sub1_neg (by have := hF.1.1; omega)).mpr q); omega⟩
        rw [sub1_s j] at hl
        have hj := hF.2 j (by omega)
        have hz := hF.1.1
        refine lv_iconst (v := nI 0) hx hb dX1_storeOldValues_14 (by decide) ?_
        refine lv_istore_n (lv' := [(2, .int (nI 0)), (0, .ref (a 0)), (1, .int (nI j))]) hx hb dX1_storeOldValues_15 rfl hl (by decide) rfl (fun ls hl => ?_)
        have loopI : ∀ (n16 : Nat) (i : Nat) (d : CS) (H : Heap) (locs : List Loc) (ls : Array Slot), (j < c_sz d) → (i ≤ c_co d j) → (c_co d j + 1 ≤ i + n16) → (SF d) → (stOldF c = runF (soI d j (c_co d j - i) ++ soR d j) d) → va_P D vwCl (wC a y d t) H → va_D A (wC a y d t) → va_S A s.heap H locs → lv_has ls 3 [(0, .ref (a 0)), (1, .int (nI j)), (2, .int (nI i))] → W p l e ({ frames := 4, cells := 0, slots := 0, locals := 87 }) s m [.ref (a 0)].toArray below meth c0 H locs 0 0 (GQi below D (tyA y) A (bI ((stOldF c).1)) (wC a y ((stOldF c).2) t) [.ref (a 0)].toArray s) (F0 m 16 ls []) := by
          intro n16
          induction n16 with
          | zero =>
            intro i d H locs ls hjs hi hn2 hF hE hP hD hS hl
            omega
          | succ n16 ih16 =>
            intro i d H locs ls hjs hi hn2 hF hE hP hD hS hl
            have hj := hF.2 j hjs
            have hB := hF.1
            have hz := hF.1.1
            refine lv_iload_n hx hb dX1_storeOldValues_16 rfl (lv_at hl 2 rfl) ?_
            refine lv_aload_n hx hb dX1_storeOldValues_17 rfl (lv_at hl 0 rfl) ?_
            refine cg_r3 hx hb hts hinX1 hown hK hP (hts (.fieldLink RX1 19 "FencedWords" "log" "LFencedWords$Log;") (List.mem_of_getElem? (i := 1) rfl)) dX1_storeOldValues_18 ?_
            refine cn_r5 (host := "FencedWords") hx hb hts hinX0 hown hK hP (va_Nw.use rfl hN.2.2.1) dX1_storeOldValues_21 ?_
            refine lv_iload_n hx hb dX1_storeOldValues_24 rfl (lv_at hl 1 rfl) ?_
            refine cl_co hx hb hK hP (show j < 20 by omega) dX1_storeOldValues_25 ?_
            refine q_icmp_ge (tgt := 64) hx hb (show i < 2 ^ 31 by omega) (show (c_co d j) < 2 ^ 31 by omega) dX1_storeOldValues_26 (by decide) (fun (h26 : (c_co d j) ≤ i) => ?_) (fun (h26 : i < (c_co d j)) => ?_)
            · refine lv_iinc (v := nI j + (-1)) (lv' := [(1, .int (nI j + (-1))), (0, .ref (a 0)), (2, .int (nI i))]) hx hb dX1_storeOldValues_64 hl (k := 1) rfl rfl (by decide) rfl (fun ls hl => ?_)
              refine lv_goto (tgt := 10) hx hb dX1_storeOldValues_67 (by decide) ?_
              rw [dec_s j] at hl
              exact ih10 j d _ _ _ (by omega) (by omega) hF (by rw [hE, so_n h26]) hP hD hS (lv_sub hl [1, 0] rfl)
            · refine lv_aload_n hx hb dX1_storeOldValues_29 rfl (lv_at hl 0 rfl) ?_
              refine lv_aload_n hx hb dX1_storeOldValues_30 rfl (lv_at hl 0 rfl) ?_
              refine cg_r3 hx hb hts hinX1 hown hK hP (hts (.fieldLink RX1 19 "FencedWords" "log" "LFencedWords$Log;") (List.mem_of_getElem? (i := 1) rfl)) dX1_storeOldValues_31 ?_
              refine cn_r4 (host := "FencedWords") hx hb hts hinX0 hown hK hP (va_Nw.use rfl hN.2.2.2.1) dX1_storeOldValues_34 ?_
              refine lv_iload_n hx hb dX1_storeOldValues_37 rfl (lv_at hl 1 rfl) ?_
              refine cl_fi hx hb hK hP (show j < 20 by omega) dX1_storeOldValues_38 ?_
              refine lv_iload_n hx hb dX1_storeOldValues_39 rfl (lv_at hl 2 rfl) ?_
              refine q_iadd hx hb dX1_storeOldValues_40 ?_
              refine lv_aload_n hx hb dX1_storeOldValues_41 rfl (lv_at hl 0 rfl) ?_
              refine cg_r3 hx hb hts hinX1 hown hK hP (hts (.fieldLink RX1 19 "FencedWords" "log" "LFencedWords$Log;") (List.mem_of_getElem? (i := 1) rfl)) dX1_storeOldValues_42 ?_
              refine lv_iload_n hx hb dX1_storeOldValues_45 rfl (lv_at hl 1 rfl) ?_
              refine lv_iload_n hx hb dX1_storeOldValues_46 rfl (lv_at hl 2 rfl) ?_
              refine callVl (rest := [.int (nI ((c_fi d j) + i)), .ref (a 0)]) ⟨hx, hb, hml, hown, hts⟩ (mX0_oldValue l y t a d j i (by omega) (by omega)) (cwV 2 hts gX1_storeOldValues_X0_oldValue rfl rfl rfl (by decide +kernel) ⟨Nat.le_of_ble_eq_true rfl, Nat.le_of_ble_eq_true rfl⟩) (va_recv hK hP (ci := 0) (q0 := 3) rfl rfl) hK hP hD hS hA hN rfl hl.1 rfl (Nat.le_of_ble_eq_true rfl) dX1_storeOldValues_47 ⟨Nat.le_of_ble_eq_true rfl, Nat.le_of_ble_eq_true rfl⟩ (fun H locs hP hD hS => ?_)
              refine callVi (rest := []) ⟨hx, hb, hml, hown, hts⟩ (mX1_storeValue l y t a d ((c_fi d j) + i) (c_ce d (c_sc d j + 1 + i)) ⟨hB.1, hB.2.1, hB.2.2⟩ (by omega)) (cwV 2 hts gX1_storeOldValues_X1_storeValue rfl rfl rfl (by decide +kernel) ⟨Nat.le_of_ble_eq_true rfl, Nat.le_of_ble_eq_true rfl⟩) (va_recv hK hP (ci := 1) (q0 := 0) rfl rfl) hK hP hD hS hA hN rfl hl.1 rfl (Nat.le_of_ble_eq_true rfl) dX1_storeOldValues_50 ⟨Nat.le_of_ble_eq_true rfl, Nat.le_of_ble_eq_true rfl⟩ (fun H locs hP hD hS => ?_)
              generalize hc1 : (endActF (storeA ((c_fi d j) + i) (c_ce d (c_sc d j + 1 + i)) d)).2 = c1 at hP hD
              have hP : va_P D vwCl (wC a y c1 t) H := hP
              have hD : va_D A (wC a y c1 t) := hD
              refine q_ifb_ne (tgt := 58) hx hb dX1_storeOldValues_53 (by decide) (fun (h53 : ((endActF (storeA ((c_fi d j) + i) (c_ce d (c_sc d j + 1 + i)) d)).1) = true) => ?_) (fun (h53 : ((endActF (storeA ((c_fi d j) + i) (c_ce d (c_sc d j + 1 + i)) d)).1) = false) => ?_)
              · obtain ⟨v1, el, -⟩ := endAct_ok h53
                rw [hc1] at el
                refine lv_iinc (v := nI (i + 1)) (lv' := [(2, .int (nI (i + 1))), (0, .ref (a 0)), (1, .int (nI j))]) hx hb dX1_storeOldValues_58 hl (k := 2) rfl (nI_add i 1) (by decide) rfl (fun ls hl => ?_)
                refine lv_goto (tgt := 16) hx hb dX1_storeOldValues_61 (by decide) ?_
                exact ih16 (i + 1) c1 _ _ _ (by rw [el]; exact hjs) (by rw [el]; exact h26) (by rw [el]; exact (by omega : c_co d j + 1 ≤ i + 1 + n16)) (hc1 ▸ SF_ok (c := storeA _ _ d) hF h53) (by rw [hE]; exact so_t h26 h53 hc1) hP hD hS (lv_sub hl [1, 2, 0] rfl)
              · refine lv_iconst (v := nI 0) hx hb dX1_storeOldValues_56 (by decide) ?_
                exact retGz hx hb hr hlocks hK hP hD hS dX1_storeOldValues_57 (by rw [hE, so_f h26 h53]; rfl) (by rw [hE, so_f h26 h53, hc1])
        exact loopI (c_co d j + 1) 0 d _ _ _ (by omega) (by omega) (by omega) hF hE hP hD hS (lv_sub hl [1, 2, 0] rfl)
  exact loopR (c_sz c + 1) (c_sz c) c _ _ _ (by omega) (by omega) hF rfl hP hD hS (lv_sub hl [1, 0] rfl)
theorem in_X1_X1_undo : ∀ w ∈ wsX10, w ∈ wsX1_undo := fun w h => List.mem_cons_of_mem _ (List.mem_append_left _ (List.mem_append_right _ (h)))
set_option maxHeartbeats 400000 in
set_option maxRecDepth 100000 in
theorem mX1_undo (l : Launch) (y : Nat → ClassId) (t : va_W) (a : Nat → Nat) (c : CS) (hF : SF c) (hnk : c_nk c = false) : MGi l yX1_undo wsX1_undo 5 109 [.ref (a 0)] (tyA y) (wC a y c t) (bI ((undoF c).1)) (wC a y ((undoF c).2) t) := by
  refine MGi.of (cc := cX1_undo) (maxL := 1) (by decide) rfl (Nat.le_of_ble_eq_true rfl) ?_
  intro D p e s m below meth c0 A ls hx hb hr hml hown hlocks hts hK hP hD hA hN hl hS
  have hl : lv_has ls 1 [(0, .ref (a 0))] := hl
  have hinX1 : ∀ w ∈ u_ws RX1 TX1 10, w ∈ wsX1_undo := in_X1_X1_undo
  refine lv_aload_n hx hb dX1_undo_0 rfl (lv_at hl 0 rfl) ?_
  refine callVi (rest := []) ⟨hx, hb, hml, hown, hts⟩ (mX1_storeOldValues l y t a c (by assumption)) (cwV 0 hts gX1_undo_X1_storeOldValues rfl rfl rfl (by decide +kernel) ⟨Nat.le_of_ble_eq_true rfl, Nat.le_of_ble_eq_true rfl⟩) (va_recv hK hP (ci := 1) (q0 := 0) rfl rfl) hK hP hD hS hA hN rfl hl.1 rfl (Nat.le_of_ble_eq_true rfl) dX1_undo_1 ⟨Nat.le_of_ble_eq_true rfl, Nat.le_of_ble_eq_true rfl⟩ (fun H locs hP hD hS => ?_)
  generalize hc1 : (stOldF c).2 = c1 at hP hD
  have hP : va_P D vwCl (wC a y c1 t) H := hP
  have hD : va_D A (wC a y c1 t) := hD
  refine q_ifb_eq (tgt := 32) hx hb dX1_undo_4 (by decide) (fun (h4 : ((stOldF c).1) = false) => ?_) (fun (h4 : ((stOldF c).1) = true) => ?_)
  · refine lv_iconst (v := nI 0) hx hb dX1_undo_32 (by decide) ?_
    exact retGz hx hb hr hlocks hK hP hD hS dX1_undo_33 (by unfold undoF; rw [if_neg (by rw [h4]; decide), hc1]; rfl) (by unfold undoF; rw [if_neg (by rw [h4]; decide), hc1])
  · have hN1 : SN c1 := hc1 ▸ SN_stOld ⟨hF, hnk⟩ h4
    have hz := hN1.1.1.1
    have hf : ∀ r, r < c_sz c1 → 1 ≤ c_co c1 r ∧ c_fi c1 r + c_co c1 r ≤ 32 := fun r hr => ⟨(hN1.1.2 r hr).1, (hN1.1.2 r hr).2.2.1⟩
    have hB := hN1.1.1
    refine lv_aload_n hx hb dX1_undo_7 rfl (lv_at hl 0 rfl) ?_
    refine lv_aload_n hx hb dX1_undo_8 rfl (lv_at hl 0 rfl) ?_
    refine cg_r3 hx hb hts hinX1 hown hK hP (hts (.fieldLink RX1 19 "FencedWords" "log" "LFencedWords$Log;") (List.mem_of_getElem? (i := 1) rfl)) dX1_undo_9 ?_
    refine callVi (rest := [.ref (a 0)]) ⟨hx, hb, hml, hown, hts⟩ (mX0_coveredLines l y t a c1 (by assumption) (by assumption)) (cwV 0 hts gX1_undo_X0_coveredLines rfl rfl rfl (by decide +kernel) ⟨Nat.le_of_ble_eq_true rfl, Nat.le_of_ble_eq_true rfl⟩) (va_recv hK hP (ci := 0) (q0 := 3) rfl rfl) hK hP hD hS hA hN rfl hl.1 rfl (Nat.le_of_ble_eq_true rfl) dX1_undo_12 ⟨Nat.le_of_ble_eq_true rfl, Nat.le_of_ble_eq_true rfl⟩ (fun H locs hP hD hS => ?_)
    refine callVi (rest := []) ⟨hx, hb, hml, hown, hts⟩ (mX1_keepLines l y t a c1 (covL c1 (c_sz c1)) (by assumption)) (cwV 1 hts gX1_undo_X1_keepLines rfl rfl rfl (by decide +kernel) ⟨Nat.le_of_ble_eq_true rfl, Nat.le_of_ble_eq_true rfl⟩) (va_recv hK hP (ci := 1) (q0 := 0) rfl rfl) hK hP hD hS hA hN rfl hl.1 rfl (Nat.le_of_ble_eq_true rfl) dX1_undo_15 ⟨Nat.le_of_ble_eq_true rfl, Nat.le_of_ble_eq_true rfl⟩ (fun H locs hP hD hS => ?_)
    generalize hc2 : (keepLinesF (covL c1 (c_sz c1)) c1).2 = c2 at hP hD
    have hP : va_P D vwCl (wC a y c2 t) H := hP
    have hD : va_D A (wC a y c2 t) := hD
    refine q_ifb_eq (tgt := 32) hx hb dX1_undo_18 (by decide) (fun (h18 : ((keepLinesF (covL c1 (c_sz c1)) c1).1) = false) => ?_) (fun (h18 : ((keepLinesF (covL c1 (c_sz c1)) c1).1) = true) => ?_)
    · refine lv_iconst (v := nI 0) hx hb dX1_undo_32 (by decide) ?_
      exact retGz hx hb hr hlocks hK hP hD hS dX1_undo_33 (by unfold undoF; rw [if_pos h4, hc1, if_neg (by rw [h18]; decide), hc2]; rfl) (by unfold undoF; rw [if_pos h4, hc1, if_neg (by rw [h18]; decide), hc2])
    · have hN2 : SN c2 := hc2 ▸ SN_keepLines hN1 h18
      have hB := hN2.1.1
      have hnk := hN2.2
      refine lv_aload_n hx hb dX1_undo_21 rfl (lv_at hl 0 rfl) ?_
      refine callVi (rest := []) ⟨hx, hb, hml, hown, hts⟩ (mX1_clearLog l y t a c2 (by assumption) (by assumption)) (cwV 0 hts gX1_undo_X1_clearLog rfl rfl rfl (by decide +kernel) ⟨Nat.le_of_ble_eq_true rfl, Nat.le_of_ble_eq_true rfl⟩) (va_recv hK hP (ci := 1) (q0 := 0) rfl rfl) hK hP hD hS hA hN rfl hl.1 rfl (Nat.le_of_ble_eq_true rfl) dX1_undo_22 ⟨Nat.le_of_ble_eq_true rfl, Nat.le_of_ble_eq_true rfl⟩ (fun H locs hP hD hS => ?_)
      generalize hc3 : (clearF c2).2 = c3 at hP hD
      have hP : va_P D vwCl (wC a y c3 t) H := hP
      have hD : va_D A (wC a y c3 t) := hD
      refine q_ifb_eq (tgt := 32) hx hb dX1_undo_25 (by decide) (fun (h25 : ((clearF c2).1) = false) => ?_) (fun (h25 : ((clearF c2).1) = true) => ?_)
      · refine lv_iconst (v := nI 0) hx hb dX1_undo_32 (by decide) ?_
        exact retGz hx hb hr hlocks hK hP hD hS dX1_undo_33 (by unfold undoF; rw [if_pos h4, hc1, if_pos h18, hc2, h25]; rfl) (by unfold undoF; rw [if_pos h4, hc1, if_pos h18, hc2, hc3])
      · refine lv_iconst (v := nI 1) hx hb dX1_undo_28 (by decide) ?_
        refine lv_goto (tgt := 33) hx hb dX1_undo_29 (by decide) ?_
        exact retGz hx hb hr hlocks hK hP hD hS dX1_undo_33 (by unfold undoF; rw [if_pos h4, hc1, if_pos h18, hc2, h25]; rfl) (by unfold undoF; rw [if_pos h4, hc1, if_pos h18, hc2, hc3])
end
section
theorem in_X1_X1_arm : ∀ w ∈ wsX10, w ∈ wsX1_arm := fun w h => List.mem_cons_of_mem _ (List.mem_append_right _ (h))
set_option maxHeartbeats 400000 in
set_option maxRecDepth 100000 in
theorem mX1_arm (l : Launch) (y : Nat → ClassId) (t : va_W) (a : Nat → Nat) (c : CS) (n : Int32) (v : Int64)  : MGi l yX1_arm wsX1_arm 0 0 [.ref (a 0), .int n, .long v] (tyA y) (wC a y c t) (bI ((armF n v c).1)) (wC a y ((armF n v c).2) t) := by
  refine MGi.of (cc := cX1_arm) (maxL := 4) (by decide) rfl (Nat.le_of_ble_eq_true rfl) ?_
  intro D p e s m below meth c0 A ls hx hb hr hml hown hlocks hts hK hP hD hA hN hl hS
  have hl : lv_has ls 4 [(0, .ref (a 0)), (1, .int n), (2, .long v)] := hl
  have hinX1 : ∀ w ∈ u_ws RX1 TX1 10, w ∈ wsX1_arm := in_X1_X1_arm
  refine lv_iload_n hx hb dX1_arm_0 rfl (lv_at hl 1 rfl) ?_
  refine lv_if_lt (tgt := 11) hx hb dX1_arm_1 (by decide) (fun (h1 : n < 0) => ?_) (fun (h1 : ¬ n < 0) => ?_)
  · refine lv_iconst (v := nI 0) hx hb dX1_arm_11 (by decide) ?_
    exact retGz hx hb hr hlocks hK hP hD hS dX1_arm_12 (by unfold armF; rw [if_pos h1]; rfl) (by unfold armF; rw [if_pos h1])
  · refine lv_iload_n hx hb dX1_arm_4 rfl (lv_at hl 1 rfl) ?_
    refine lv_sipush (v := nI 500) hx hb dX1_arm_5 (by decide) ?_
    refine lv_icmp_le (tgt := 13) hx hb dX1_arm_8 (by decide) (fun (h8 : n ≤ (nI 500)) => ?_) (fun (h8 : ¬ n ≤ (nI 500)) => ?_)
    · have g8 : ¬ nI 500 < n := (by rw [Int32.lt_iff_toInt_lt]; rw [Int32.le_iff_toInt_le] at h8; omega)
      obtain ⟨k, rfl, hk0⟩ := arm_nat h1 g8
      refine lv_aload_n hx hb dX1_arm_13 rfl (lv_at hl 0 rfl) ?_
      refine lv_iload_n hx hb dX1_arm_14 rfl (lv_at hl 1 rfl) ?_
      refine cp_au (v := k) hx hb hts hinX1 hown hK hP hD hS (hts (.fieldLink RX1 27 "FencedWords" "actsUntilLoss" "I") (List.mem_of_getElem? (i := 1) rfl)) dX1_arm_15 (fun H locs hP hD hS => ?_)
      refine lv_aload_n hx hb dX1_arm_18 rfl (lv_at hl 0 rfl) ?_
      refine lv_lload_n hx hb dX1_arm_19 rfl (lv_at hl 2 rfl) ?_
      refine cp_mk (v := v) hx hb hts hinX1 hown hK hP hD hS (hts (.fieldLink RX1 31 "FencedWords" "maskOfLoss" "J") (List.mem_of_getElem? (i := 2) rfl)) dX1_arm_20 (fun H locs hP hD hS => ?_)
      refine lv_iconst (v := nI 1) hx hb dX1_arm_23 (by decide) ?_
      exact retGz hx hb hr hlocks hK hP hD hS dX1_arm_24 (by unfold armF; rw [if_neg h1, if_neg g8]; rfl) (by unfold armF; rw [if_neg h1, if_neg g8, nI_clamp (by omega)])
    · refine lv_iconst (v := nI 0) hx hb dX1_arm_11 (by decide) ?_
      exact retGz hx hb hr hlocks hK hP hD hS dX1_arm_12 (by unfold armF; rw [if_neg h1, if_pos (by rw [Int32.lt_iff_toInt_lt]; rw [Int32.le_iff_toInt_le] at h8; omega)]; rfl) (by unfold armF; rw [if_neg h1, if_pos (by rw [Int32.lt_iff_toInt_lt]; rw [Int32.le_iff_toInt_le] at h8; omega)])
theorem in_X1_X1_begin : ∀ w ∈ wsX10, w ∈ wsX1_begin := fun w h => List.mem_cons_of_mem _ (List.mem_append_right _ (h))
set_option maxHeartbeats 400000 in
set_option maxRecDepth 100000 in
theorem mX1_begin (l : Launch) (y : Nat → ClassId) (t : va_W) (a : Nat → Nat) (c : CS)  : MGi l yX1_begin wsX1_begin 0 0 [.ref (a 0)] (tyA y) (wC a y c t) ((beginF c).1) (wC a y ((beginF c).2) t) := by
  refine MGi.of (cc := cX1_begin) (maxL := 1) (by decide) rfl (Nat.le_of_ble_eq_true rfl) ?_
  intro D p e s m below meth c0 A ls hx hb hr hml hown hlocks hts hK hP hD hA hN hl hS
  have hl : lv_has ls 1 [(0, .ref (a 0))] := hl
  have hinX1 : ∀ w ∈ u_ws RX1 TX1 10, w ∈ wsX1_begin := in_X1_X1_begin
  refine lv_aload_n hx hb dX1_begin_0 rfl (lv_at hl 0 rfl) ?_
  refine cg_on hx hb hts hinX1 hown hK hP (hts (.fieldLink RX1 23 "FencedWords" "powerOn" "Z") (List.mem_of_getElem? (i := 1) rfl)) dX1_begin_1 ?_
  refine q_ifb_eq (tgt := 14) hx hb dX1_begin_4 (by decide) (fun (h4 : (c_on c) = false) => ?_) (fun (h4 : (c_on c) = true) => ?_)
  · refine lv_iconst (v := (-1)) hx hb dX1_begin_14 (by decide) ?_
    exact retGi hx hb hr hlocks hK hP hD hS dX1_begin_15 (by unfold beginF; rw [if_pos h4]) (by unfold beginF; rw [if_pos h4])
  · refine lv_aload_n hx hb dX1_begin_7 rfl (lv_at hl 0 rfl) ?_
    refine cg_op hx hb hts hinX1 hown hK hP (hts (.fieldLink RX1 35 "FencedWords" "transactionOpen" "Z") (List.mem_of_getElem? (i := 2) rfl)) dX1_begin_8 ?_
    refine q_ifb_eq (tgt := 16) hx hb dX1_begin_11 (by decide) (fun (h11 : (c_op c) = false) => ?_) (fun (h11 : (c_op c) = true) => ?_)
    · refine lv_aload_n hx hb dX1_begin_16 rfl (lv_at hl 0 rfl) ?_
      refine lv_iconst (v := nI 1) hx hb dX1_begin_17 (by decide) ?_
      refine cp_op (v := true) hx hb hts hinX1 hown hK hP hD hS (hts (.fieldLink RX1 35 "FencedWords" "transactionOpen" "Z") (List.mem_of_getElem? (i := 2) rfl)) dX1_begin_18 (fun H locs hP hD hS => ?_)
      refine lv_aload_n hx hb dX1_begin_21 rfl (lv_at hl 0 rfl) ?_
      refine lv_iconst (v := nI 0) hx hb dX1_begin_22 (by decide) ?_
      refine cp_sl (v := nI 0) hx hb hts hinX1 hown hK hP hD hS (hts (.fieldLink RX1 38 "FencedWords" "storedLines" "I") (List.mem_of_getElem? (i := 3) rfl)) dX1_begin_23 (fun H locs hP hD hS => ?_)
      refine lv_iconst (v := nI 0) hx hb dX1_begin_26 (by decide) ?_
      exact retGi hx hb hr hlocks hK hP hD hS dX1_begin_27 (by unfold beginF; rw [if_neg (by rw [h4]; decide), if_neg (by rw [h11]; decide)]) (by unfold beginF; rw [if_neg (by rw [h4]; decide), if_neg (by rw [h11]; decide)])
    · refine lv_iconst (v := (-1)) hx hb dX1_begin_14 (by decide) ?_
      exact retGi hx hb hr hlocks hK hP hD hS dX1_begin_15 (by unfold beginF; rw [if_neg (by rw [h4]; decide), if_pos h11]) (by unfold beginF; rw [if_neg (by rw [h4]; decide), if_pos h11])
theorem in_X1_X1_snapshot : ∀ w ∈ wsX10, w ∈ wsX1_snapshot := fun w h => List.mem_cons_of_mem _ (List.mem_append_left _ (List.mem_append_right _ (h)))
set_option maxHeartbeats 400000 in
set_option maxRecDepth 100000 in
theorem mX1_snapshot (l : Launch) (y : Nat → ClassId) (t : va_W) (a : Nat → Nat) (c : CS) (x n : Int32) (hF : SF c) (ht : c_tk c ≤ 40) (h2z : 2 * c_sz c ≤ c_tk c) : MGi l yX1_snapshot wsX1_snapshot 5 108 [.ref (a 0), .int x, .int n] (tyA y) (wC a y c t) ((snapF x n c).1) (wC a y ((snapF x n c).2) t) := by
  refine MGi.of (cc := cX1_snapshot) (maxL := 3) (by decide) rfl (Nat.le_of_ble_eq_true rfl) ?_
  intro D p e s m below meth c0 A ls hx hb hr hml hown hlocks hts hK hP hD hA hN hl hS
  have hl : lv_has ls 3 [(0, .ref (a 0)), (1, .int x), (2, .int n)] := hl
  have hinX1 : ∀ w ∈ u_ws RX1 TX1 10, w ∈ wsX1_snapshot := in_X1_X1_snapshot
  refine lv_aload_n hx hb dX1_snapshot_0 rfl (lv_at hl 0 rfl) ?_
  refine cg_op hx hb hts hinX1 hown hK hP (hts (.fieldLink RX1 35 "FencedWords" "transactionOpen" "Z") (List.mem_of_getElem? (i := 1) rfl)) dX1_snapshot_1 ?_
  refine q_ifb_eq (tgt := 26) hx hb dX1_snapshot_4 (by decide) (fun (h4 : (c_op c) = false) => ?_) (fun (h4 : (c_op c) = true) => ?_)
  · refine lv_iconst (v := (-1)) hx hb dX1_snapshot_26 (by decide) ?_
    exact retGi hx hb hr hlocks hK hP hD hS dX1_snapshot_27 (by unfold snapF; rw [if_pos h4]) (by unfold snapF; rw [if_pos h4])
  · refine lv_iload_n hx hb dX1_snapshot_7 rfl (lv_at hl 1 rfl) ?_
    refine lv_iload_n hx hb dX1_snapshot_8 rfl (lv_at hl 2 rfl) ?_
    refine callSi (rest := []) ⟨hx, hb, hml, hown, hts⟩ (mX1_areWords l y _ x n) (va_cwS 2 hts gX1_snapshot_X1_areWords rfl rfl rfl (by decide +kernel) ⟨Nat.le_of_ble_eq_true rfl, Nat.le_of_ble_eq_true rfl⟩) hK hP hD hS hA hN rfl hl.1 rfl (Nat.le_of_ble_eq_true rfl) dX1_snapshot_9 ⟨Nat.le_of_ble_eq_true rfl, Nat.le_of_ble_eq_true rfl⟩ (fun H locs hP hD hS => ?_)
    refine q_ifb_eq (tgt := 26) hx hb dX1_snapshot_12 (by decide) (fun (h12 : (areW x n) = false) => ?_) (fun (h12 : (areW x n) = true) => ?_)
    · refine lv_iconst (v := (-1)) hx hb dX1_snapshot_26 (by decide) ?_
      exact retGi hx hb hr hlocks hK hP hD hS dX1_snapshot_27 (by unfold snapF; rw [if_neg (by rw [h4]; decide), if_pos h12]) (by unfold snapF; rw [if_neg (by rw [h4]; decide), if_pos h12])
    · obtain ⟨ka, kn, rfl, rfl, q1, q2, q3⟩ := areW_nat h12
      refine lv_aload_n hx hb dX1_snapshot_15 rfl (lv_at hl 0 rfl) ?_
      refine cg_r3 hx hb hts hinX1 hown hK hP (hts (.fieldLink RX1 19 "FencedWords" "log" "LFencedWords$Log;") (List.mem_of_getElem? (i := 2) rfl)) dX1_snapshot_16 ?_
      refine lv_iload_n hx hb dX1_snapshot_19 rfl (lv_at hl 2 rfl) ?_
      refine callVi (rest := []) ⟨hx, hb, hml, hown, hts⟩ (mX0_hasRoomFor l y t a c kn (by omega) (by assumption)) (cwV 1 hts gX1_snapshot_X0_hasRoomFor rfl rfl rfl (by decide +kernel) ⟨Nat.le_of_ble_eq_true rfl, Nat.le_of_ble_eq_true rfl⟩) (va_recv hK hP (ci := 0) (q0 := 3) rfl rfl) hK hP hD hS hA hN rfl hl.1 rfl (Nat.le_of_ble_eq_true rfl) dX1_snapshot_20 ⟨Nat.le_of_ble_eq_true rfl, Nat.le_of_ble_eq_true rfl⟩ (fun H locs hP hD hS => ?_)
      refine q_ifb_ne (tgt := 28) hx hb dX1_snapshot_23 (by decide) (fun (h23 : (roomF c kn) = true) => ?_) (fun (h23 : (roomF c kn) = false) => ?_)
      · have hr1 : kn + 1 ≤ 40 - c_tk c := (by have q := h23; unfold roomF at q; exact of_decide_eq_true q)
        have hB := hF.1
        have g2 : c_sz c < 20 := (by omega)
        have g3 : c_tk c + 1 + kn ≤ 40 := (by omega)
        refine lv_aload_n hx hb dX1_snapshot_28 rfl (lv_at hl 0 rfl) ?_
        refine lv_iload_n hx hb dX1_snapshot_29 rfl (lv_at hl 1 rfl) ?_
        refine lv_iload_n hx hb dX1_snapshot_30 rfl (lv_at hl 2 rfl) ?_
        refine callVi (rest := []) ⟨hx, hb, hml, hown, hts⟩ (mX1_append l y t a c ka kn (by assumption) (by omega) (by omega) (by assumption) (by assumption)) (cwV 2 hts gX1_snapshot_X1_append rfl rfl rfl (by decide +kernel) ⟨Nat.le_of_ble_eq_true rfl, Nat.le_of_ble_eq_true rfl⟩) (va_recv hK hP (ci := 1) (q0 := 0) rfl rfl) hK hP hD hS hA hN rfl hl.1 rfl (Nat.le_of_ble_eq_true rfl) dX1_snapshot_31 ⟨Nat.le_of_ble_eq_true rfl, Nat.le_of_ble_eq_true rfl⟩ (fun H locs hP hD hS => ?_)
        generalize hc1 : (appendF ka kn c).2 = c1 at hP hD
        have hP : va_P D vwCl (wC a y c1 t) H := hP
        have hD : va_D A (wC a y c1 t) := hD
        refine q_ifb_eq (tgt := 41) hx hb dX1_snapshot_34 (by decide) (fun (h34 : ((appendF ka kn c).1) = false) => ?_) (fun (h34 : ((appendF ka kn c).1) = true) => ?_)
        · refine lv_bipush (v := (-2)) hx hb dX1_snapshot_41 (by decide) ?_
          exact retGi hx hb hr hlocks hK hP hD hS dX1_snapshot_43 (by unfold snapF; rw [if_neg (by rw [h4]; decide), if_neg (by rw [h12]; decide), nI_clamp (n := kn) (by omega), if_neg (by rw [h23]; decide), nI_clamp (n := ka) (by omega)]; simp only [h34]; rfl) (by unfold snapF; rw [if_neg (by rw [h4]; decide), if_neg (by rw [h12]; decide), nI_clamp (n := kn) (by omega), if_neg (by rw [h23]; decide), nI_clamp (n := ka) (by omega), ← hc1])
        · refine lv_iconst (v := nI 0) hx hb dX1_snapshot_37 (by decide) ?_
          refine lv_goto (tgt := 43) hx hb dX1_snapshot_38 (by decide) ?_
          exact retGi hx hb hr hlocks hK hP hD hS dX1_snapshot_43 (by unfold snapF; rw [if_neg (by rw [h4]; decide), if_neg (by rw [h12]; decide), nI_clamp (n := kn) (by omega), if_neg (by rw [h23]; decide), nI_clamp (n := ka) (by omega)]; simp only [h34]; rfl) (by unfold snapF; rw [if_neg (by rw [h4]; decide), if_neg (by rw [h12]; decide), nI_clamp (n := kn) (by omega), if_neg (by rw [h23]; decide), nI_clamp (n := ka) (by omega), ← hc1])
      · refine lv_iconst (v := (-1)) hx hb dX1_snapshot_26 (by decide) ?_
        exact retGi hx hb hr hlocks hK hP hD hS dX1_snapshot_27 (by unfold snapF; rw [if_neg (by rw [h4]; decide), if_neg (by rw [h12]; decide), nI_clamp (n := kn) (by omega), if_pos h23]) (by unfold snapF; rw [if_neg (by rw [h4]; decide), if_neg (by rw [h12]; decide), nI_clamp (n := kn) (by omega), if_pos h23])
theorem in_X1_X1_store : ∀ w ∈ wsX10, w ∈ wsX1_store := fun w h => List.mem_cons_of_mem _ (List.mem_append_left _ (List.mem_append_right _ (h)))
set_option maxHeartbeats 400000 in
set_option maxRecDepth 100000 in
theorem mX1_store (l : Launch) (y : Nat → ClassId) (t : va_W) (a : Nat → Nat) (c : CS) (x : Int32) (v : Int64) (hF : SF c) : MGi l yX1_store wsX1_store 4 87 [.ref (a 0), .int x, .long v] (tyA y) (wC a y c t) ((storeF x v c).1) (wC a y ((storeF x v c).2) t) := by
  refine MGi.of (cc := cX1_store) (maxL := 4) (by decide) rfl (Nat.le_of_ble_eq_true rfl) ?_
  intro D p e s m below meth c0 A ls hx hb hr hml hown hlocks hts hK hP hD hA hN hl hS
  have hl : lv_has ls 4 [(0, .ref (a 0)), (1, .int x), (2, .long v)] := hl
  have hinX1 : ∀ w ∈ u_ws RX1 TX1 10, w ∈ wsX1_store := in_X1_X1_store
  have hB := hF.1
  have hz := hB.1
  have hf : ∀ r, r < c_sz c → c_fi c r + c_co c r ≤ 32 := fun r hr => (hF.2 r hr).2.2.1
  refine lv_aload_n hx hb dX1_store_0 rfl (lv_at hl 0 rfl) ?_
  refine cg_op hx hb hts hinX1 hown hK hP (hts (.fieldLink RX1 35 "FencedWords" "transactionOpen" "Z") (List.mem_of_getElem? (i := 1) rfl)) dX1_store_1 ?_
  refine q_ifb_eq (tgt := 25) hx hb dX1_store_4 (by decide) (fun (h4 : (c_op c) = false) => ?_) (fun (h4 : (c_op c) = true) => ?_)
  · refine lv_iconst (v := (-1)) hx hb dX1_store_25 (by decide) ?_
    exact retGi hx hb hr hlocks hK hP hD hS dX1_store_26 (by unfold storeF; rw [if_pos h4]) (by unfold storeF; rw [if_pos h4])
  · refine lv_iload_n hx hb dX1_store_7 rfl (lv_at hl 1 rfl) ?_
    refine callSi (rest := []) ⟨hx, hb, hml, hown, hts⟩ (mX1_isWord l y _ x) (va_cwS 1 hts gX1_store_X1_isWord rfl rfl rfl (by decide +kernel) ⟨Nat.le_of_ble_eq_true rfl, Nat.le_of_ble_eq_true rfl⟩) hK hP hD hS hA hN rfl hl.1 rfl (Nat.le_of_ble_eq_true rfl) dX1_store_8 ⟨Nat.le_of_ble_eq_true rfl, Nat.le_of_ble_eq_true rfl⟩ (fun H locs hP hD hS => ?_)
    refine q_ifb_eq (tgt := 25) hx hb dX1_store_11 (by decide) (fun (h11 : (isW x) = false) => ?_) (fun (h11 : (isW x) = true) => ?_)
    · refine lv_iconst (v := (-1)) hx hb dX1_store_25 (by decide) ?_
      exact retGi hx hb hr hlocks hK hP hD hS dX1_store_26 (by unfold storeF; rw [if_neg (by rw [h4]; decide), if_pos h11]) (by unfold storeF; rw [if_neg (by rw [h4]; decide), if_pos h11])
    · obtain ⟨k, rfl, q1⟩ := isW_nat h11
      refine lv_aload_n hx hb dX1_store_14 rfl (lv_at hl 0 rfl) ?_
      refine cg_r3 hx hb hts hinX1 hown hK hP (hts (.fieldLink RX1 19 "FencedWords" "log" "LFencedWords$Log;") (List.mem_of_getElem? (i := 2) rfl)) dX1_store_15 ?_
      refine lv_iload_n hx hb dX1_store_18 rfl (lv_at hl 1 rfl) ?_
      refine callVi (rest := []) ⟨hx, hb, hml, hown, hts⟩ (mX0_covers l y t a c k (by omega) (by assumption) (by assumption)) (cwV 1 hts gX1_store_X0_covers rfl rfl rfl (by decide +kernel) ⟨Nat.le_of_ble_eq_true rfl, Nat.le_of_ble_eq_true rfl⟩) (va_recv hK hP (ci := 0) (q0 := 3) rfl rfl) hK hP hD hS hA hN rfl hl.1 rfl (Nat.le_of_ble_eq_true rfl) dX1_store_19 ⟨Nat.le_of_ble_eq_true rfl, Nat.le_of_ble_eq_true rfl⟩ (fun H locs hP hD hS => ?_)
      refine q_ifb_ne (tgt := 27) hx hb dX1_store_22 (by decide) (fun (h22 : (coversF c k) = true) => ?_) (fun (h22 : (coversF c k) = false) => ?_)
      · refine lv_aload_n hx hb dX1_store_27 rfl (lv_at hl 0 rfl) ?_
        refine lv_dup hx hb dX1_store_28 rfl ?_
        refine cg_sl hx hb hts hinX1 hown hK hP (hts (.fieldLink RX1 38 "FencedWords" "storedLines" "I") (List.mem_of_getElem? (i := 3) rfl)) dX1_store_29 ?_
        refine lv_iconst (v := nI 1) hx hb dX1_store_32 (by decide) ?_
        refine lv_iload_n hx hb dX1_store_33 rfl (lv_at hl 1 rfl) ?_
        refine callSi (rest := [.int (nI 1), .int (c_sl c), .ref (a 0)]) ⟨hx, hb, hml, hown, hts⟩ (mX1_lineOf l y _ k (by omega)) (va_cwS 1 hts gX1_store_X1_lineOf rfl rfl rfl (by decide +kernel) ⟨Nat.le_of_ble_eq_true rfl, Nat.le_of_ble_eq_true rfl⟩) hK hP hD hS hA hN rfl hl.1 rfl (Nat.le_of_ble_eq_true rfl) dX1_store_34 ⟨Nat.le_of_ble_eq_true rfl, Nat.le_of_ble_eq_true rfl⟩ (fun H locs hP hD hS => ?_)
        refine lv_ishl hx hb dX1_store_37 ?_
        refine lv_ior hx hb dX1_store_38 ?_
        refine cp_sl (v := (c_sl c) ||| ((nI 1) <<< ((nI (k / 8)) &&& 31))) hx hb hts hinX1 hown hK hP hD hS (hts (.fieldLink RX1 38 "FencedWords" "storedLines" "I") (List.mem_of_getElem? (i := 3) rfl)) dX1_store_39 (fun H locs hP hD hS => ?_)
        refine lv_aload_n hx hb dX1_store_42 rfl (lv_at hl 0 rfl) ?_
        refine lv_iload_n hx hb dX1_store_43 rfl (lv_at hl 1 rfl) ?_
        refine lv_lload_n hx hb dX1_store_44 rfl (lv_at hl 2 rfl) ?_
        refine callVi (rest := []) ⟨hx, hb, hml, hown, hts⟩ (mX1_storeValue l y t a (cs_sl c ((c_sl c) ||| ((nI 1) <<< ((nI (k / 8)) &&& 31)))) k v ⟨hB.1, hB.2.1, hB.2.2⟩ (by omega)) (cwV 2 hts gX1_store_X1_storeValue rfl rfl rfl (by decide +kernel) ⟨Nat.le_of_ble_eq_true rfl, Nat.le_of_ble_eq_true rfl⟩) (va_recv hK hP (ci := 1) (q0 := 0) rfl rfl) hK hP hD hS hA hN rfl hl.1 rfl (Nat.le_of_ble_eq_true rfl) dX1_store_45 ⟨Nat.le_of_ble_eq_true rfl, Nat.le_of_ble_eq_true rfl⟩ (fun H locs hP hD hS => ?_)
        generalize hc1 : (endActF (storeA k v (cs_sl c ((c_sl c) ||| ((nI 1) <<< ((nI (k / 8)) &&& 31)))))).2 = c1 at hP hD
        have hP : va_P D vwCl (wC a y c1 t) H := hP
        have hD : va_D A (wC a y c1 t) := hD
        refine q_ifb_eq (tgt := 55) hx hb dX1_store_48 (by decide) (fun (h48 : ((endActF (storeA k v (cs_sl c ((c_sl c) ||| ((nI 1) <<< ((nI (k / 8)) &&& 31)))))).1) = false) => ?_) (fun (h48 : ((endActF (storeA k v (cs_sl c ((c_sl c) ||| ((nI 1) <<< ((nI (k / 8)) &&& 31)))))).1) = true) => ?_)
        · refine lv_bipush (v := (-2)) hx hb dX1_store_55 (by decide) ?_
          exact retGi hx hb hr hlocks hK hP hD hS dX1_store_57 (by unfold storeF; rw [if_neg (by rw [h4]; decide), if_neg (by rw [h11]; decide), nI_clamp (n := k) (by omega), if_neg (by rw [h22]; decide)]; have q : (endActF (storeA k v (slA k c))).1 = _ := h48; simp only [q]; rfl) (by unfold storeF; rw [if_neg (by rw [h4]; decide), if_neg (by rw [h11]; decide), nI_clamp (n := k) (by omega), if_neg (by rw [h22]; decide), ← hc1]; rfl)
        · refine lv_iconst (v := nI 0) hx hb dX1_store_51 (by decide) ?_
          refine lv_goto (tgt := 57) hx hb dX1_store_52 (by decide) ?_
          exact retGi hx hb hr hlocks hK hP hD hS dX1_store_57 (by unfold storeF; rw [if_neg (by rw [h4]; decide), if_neg (by rw [h11]; decide), nI_clamp (n := k) (by omega), if_neg (by rw [h22]; decide)]; have q : (endActF (storeA k v (slA k c))).1 = _ := h48; simp only [q]; rfl) (by unfold storeF; rw [if_neg (by rw [h4]; decide), if_neg (by rw [h11]; decide), nI_clamp (n := k) (by omega), if_neg (by rw [h22]; decide), ← hc1]; rfl)
      · refine lv_iconst (v := (-1)) hx hb dX1_store_25 (by decide) ?_
        exact retGi hx hb hr hlocks hK hP hD hS dX1_store_26 (by unfold storeF; rw [if_neg (by rw [h4]; decide), if_neg (by rw [h11]; decide), nI_clamp (n := k) (by omega), if_pos h22]) (by unfold storeF; rw [if_neg (by rw [h4]; decide), if_neg (by rw [h11]; decide), nI_clamp (n := k) (by omega), if_pos h22])
theorem in_X1_X1_commit : ∀ w ∈ wsX10, w ∈ wsX1_commit := fun w h => List.mem_cons_of_mem _ (List.mem_append_left _ (List.mem_append_right _ (h)))
set_option maxHeartbeats 400000 in
set_option maxRecDepth 100000 in
theorem mX1_commit (l : Launch) (y : Nat → ClassId) (t : va_W) (a : Nat → Nat) (c : CS) (hF : SF c) (hnk : c_nk c = false) : MGi l yX1_commit wsX1_commit 5 107 [.ref (a 0)] (tyA y) (wC a y c t) ((commitF c).1) (wC a y ((commitF c).2) t) := by
  refine MGi.of (cc := cX1_commit) (maxL := 1) (by decide) rfl (Nat.le_of_ble_eq_true rfl) ?_
  intro D p e s m below meth c0 A ls hx hb hr hml hown hlocks hts hK hP hD hA hN hl hS
  have hl : lv_has ls 1 [(0, .ref (a 0))] := hl
  have hinX1 : ∀ w ∈ u_ws RX1 TX1 10, w ∈ wsX1_commit := in_X1_X1_commit
  have hB := hF.1
  refine lv_aload_n hx hb dX1_commit_0 rfl (lv_at hl 0 rfl) ?_
  refine cg_op hx hb hts hinX1 hown hK hP (hts (.fieldLink RX1 35 "FencedWords" "transactionOpen" "Z") (List.mem_of_getElem? (i := 1) rfl)) dX1_commit_1 ?_
  refine q_ifb_ne (tgt := 9) hx hb dX1_commit_4 (by decide) (fun (h4 : (c_op c) = true) => ?_) (fun (h4 : (c_op c) = false) => ?_)
  · refine lv_aload_n hx hb dX1_commit_9 rfl (lv_at hl 0 rfl) ?_
    refine lv_aload_n hx hb dX1_commit_10 rfl (lv_at hl 0 rfl) ?_
    refine cg_sl hx hb hts hinX1 hown hK hP (hts (.fieldLink RX1 38 "FencedWords" "storedLines" "I") (List.mem_of_getElem? (i := 2) rfl)) dX1_commit_11 ?_
    refine callVi (rest := []) ⟨hx, hb, hml, hown, hts⟩ (mX1_keepLines l y t a c (c_sl c) (by assumption)) (cwV 1 hts gX1_commit_X1_keepLines rfl rfl rfl (by decide +kernel) ⟨Nat.le_of_ble_eq_true rfl, Nat.le_of_ble_eq_true rfl⟩) (va_recv hK hP (ci := 1) (q0 := 0) rfl rfl) hK hP hD hS hA hN rfl hl.1 rfl (Nat.le_of_ble_eq_true rfl) dX1_commit_14 ⟨Nat.le_of_ble_eq_true rfl, Nat.le_of_ble_eq_true rfl⟩ (fun H locs hP hD hS => ?_)
    generalize hc1 : (keepLinesF (c_sl c) c).2 = c1 at hP hD
    have hP : va_P D vwCl (wC a y c1 t) H := hP
    have hD : va_D A (wC a y c1 t) := hD
    refine q_ifb_eq (tgt := 27) hx hb dX1_commit_17 (by decide) (fun (h17 : ((keepLinesF (c_sl c) c).1) = false) => ?_) (fun (h17 : ((keepLinesF (c_sl c) c).1) = true) => ?_)
    · refine lv_bipush (v := (-2)) hx hb dX1_commit_27 (by decide) ?_
      exact retGi hx hb hr hlocks hK hP hD hS dX1_commit_29 (by unfold commitF; rw [if_neg (by rw [h4]; decide), if_pos h17]) (by unfold commitF; rw [if_neg (by rw [h4]; decide), if_pos h17, hc1])
    · have hN1 : SN c1 := hc1 ▸ SN_keepLines ⟨hF, hnk⟩ h17
      have hB := hN1.1.1
      have hnk := hN1.2
      refine lv_aload_n hx hb dX1_commit_20 rfl (lv_at hl 0 rfl) ?_
      refine callVi (rest := []) ⟨hx, hb, hml, hown, hts⟩ (mX1_clearLog l y t a c1 (by assumption) (by assumption)) (cwV 0 hts gX1_commit_X1_clearLog rfl rfl rfl (by decide +kernel) ⟨Nat.le_of_ble_eq_true rfl, Nat.le_of_ble_eq_true rfl⟩) (va_recv hK hP (ci := 1) (q0 := 0) rfl rfl) hK hP hD hS hA hN rfl hl.1 rfl (Nat.le_of_ble_eq_true rfl) dX1_commit_21 ⟨Nat.le_of_ble_eq_true rfl, Nat.le_of_ble_eq_true rfl⟩ (fun H locs hP hD hS => ?_)
      generalize hc2 : (clearF c1).2 = c2 at hP hD
      have hP : va_P D vwCl (wC a y c2 t) H := hP
      have hD : va_D A (wC a y c2 t) := hD
      refine q_ifb_ne (tgt := 30) hx hb dX1_commit_24 (by decide) (fun (h24 : ((clearF c1).1) = true) => ?_) (fun (h24 : ((clearF c1).1) = false) => ?_)
      · refine lv_aload_n hx hb dX1_commit_30 rfl (lv_at hl 0 rfl) ?_
        refine lv_iconst (v := nI 0) hx hb dX1_commit_31 (by decide) ?_
        refine cp_op (v := false) hx hb hts hinX1 hown hK hP hD hS (hts (.fieldLink RX1 35 "FencedWords" "transactionOpen" "Z") (List.mem_of_getElem? (i := 1) rfl)) dX1_commit_32 (fun H locs hP hD hS => ?_)
        refine lv_iconst (v := nI 0) hx hb dX1_commit_35 (by decide) ?_
        exact retGi hx hb hr hlocks hK hP hD hS dX1_commit_36 (by unfold commitF; rw [if_neg (by rw [h4]; decide), if_neg (by rw [h17]; decide), hc1, if_neg (by rw [h24]; decide)]) (by unfold commitF; rw [if_neg (by rw [h4]; decide), if_neg (by rw [h17]; decide), hc1, if_neg (by rw [h24]; decide), hc2])
      · refine lv_bipush (v := (-2)) hx hb dX1_commit_27 (by decide) ?_
        exact retGi hx hb hr hlocks hK hP hD hS dX1_commit_29 (by unfold commitF; rw [if_neg (by rw [h4]; decide), if_neg (by rw [h17]; decide), hc1, if_pos h24]) (by unfold commitF; rw [if_neg (by rw [h4]; decide), if_neg (by rw [h17]; decide), hc1, if_pos h24, hc2])
  · refine lv_iconst (v := (-1)) hx hb dX1_commit_7 (by decide) ?_
    exact retGi hx hb hr hlocks hK hP hD hS dX1_commit_8 (by unfold commitF; rw [if_pos h4]) (by unfold commitF; rw [if_pos h4])
theorem in_X1_X1_abort : ∀ w ∈ wsX10, w ∈ wsX1_abort := fun w h => List.mem_cons_of_mem _ (List.mem_append_left _ (List.mem_append_right _ (h)))
set_option maxHeartbeats 400000 in
set_option maxRecDepth 100000 in
theorem mX1_abort (l : Launch) (y : Nat → ClassId) (t : va_W) (a : Nat → Nat) (c : CS) (hF : SF c) (hnk : c_nk c = false) : MGi l yX1_abort wsX1_abort 6 129 [.ref (a 0)] (tyA y) (wC a y c t) ((abortF c).1) (wC a y ((abortF c).2) t) := by
  refine MGi.of (cc := cX1_abort) (maxL := 1) (by decide) rfl (Nat.le_of_ble_eq_true rfl) ?_
  intro D p e s m below meth c0 A ls hx hb hr hml hown hlocks hts hK hP hD hA hN hl hS
  have hl : lv_has ls 1 [(0, .ref (a 0))] := hl
  have hinX1 : ∀ w ∈ u_ws RX1 TX1 10, w ∈ wsX1_abort := in_X1_X1_abort
  refine lv_aload_n hx hb dX1_abort_0 rfl (lv_at hl 0 rfl) ?_
  refine cg_op hx hb hts hinX1 hown hK hP (hts (.fieldLink RX1 35 "FencedWords" "transactionOpen" "Z") (List.mem_of_getElem? (i := 1) rfl)) dX1_abort_1 ?_
  refine q_ifb_ne (tgt := 9) hx hb dX1_abort_4 (by decide) (fun (h4 : (c_op c) = true) => ?_) (fun (h4 : (c_op c) = false) => ?_)
  · refine lv_aload_n hx hb dX1_abort_9 rfl (lv_at hl 0 rfl) ?_
    refine callVi (rest := []) ⟨hx, hb, hml, hown, hts⟩ (mX1_undo l y t a c hF hnk) (cwV 0 hts gX1_abort_X1_undo rfl rfl rfl (by decide +kernel) ⟨Nat.le_of_ble_eq_true rfl, Nat.le_of_ble_eq_true rfl⟩) (va_recv hK hP (ci := 1) (q0 := 0) rfl rfl) hK hP hD hS hA hN rfl hl.1 rfl (Nat.le_of_ble_eq_true rfl) dX1_abort_10 ⟨Nat.le_of_ble_eq_true rfl, Nat.le_of_ble_eq_true rfl⟩ (fun H locs hP hD hS => ?_)
    generalize hc1 : (undoF c).2 = c1 at hP hD
    have hP : va_P D vwCl (wC a y c1 t) H := hP
    have hD : va_D A (wC a y c1 t) := hD
    refine q_ifb_ne (tgt := 19) hx hb dX1_abort_13 (by decide) (fun (h13 : ((undoF c).1) = true) => ?_) (fun (h13 : ((undoF c).1) = false) => ?_)
    · refine lv_aload_n hx hb dX1_abort_19 rfl (lv_at hl 0 rfl) ?_
      refine lv_iconst (v := nI 0) hx hb dX1_abort_20 (by decide) ?_
      refine cp_op (v := false) hx hb hts hinX1 hown hK hP hD hS (hts (.fieldLink RX1 35 "FencedWords" "transactionOpen" "Z") (List.mem_of_getElem? (i := 1) rfl)) dX1_abort_21 (fun H locs hP hD hS => ?_)
      refine lv_iconst (v := nI 0) hx hb dX1_abort_24 (by decide) ?_
      exact retGi hx hb hr hlocks hK hP hD hS dX1_abort_25 (by unfold abortF; rw [if_neg (by rw [h4]; decide), if_neg (by rw [h13]; decide)]) (by unfold abortF; rw [if_neg (by rw [h4]; decide), if_neg (by rw [h13]; decide), hc1])
    · refine lv_bipush (v := (-2)) hx hb dX1_abort_16 (by decide) ?_
      exact retGi hx hb hr hlocks hK hP hD hS dX1_abort_18 (by unfold abortF; rw [if_neg (by rw [h4]; decide), if_pos h13]) (by unfold abortF; rw [if_neg (by rw [h4]; decide), if_pos h13, hc1])
  · refine lv_iconst (v := (-1)) hx hb dX1_abort_7 (by decide) ?_
    exact retGi hx hb hr hlocks hK hP hD hS dX1_abort_8 (by unfold abortF; rw [if_pos h4]) (by unfold abortF; rw [if_pos h4])
theorem in_X1_X1_recover : ∀ w ∈ wsX10, w ∈ wsX1_recover := fun w h => List.mem_cons_of_mem _ (List.mem_append_left _ (List.mem_append_right _ (h)))
set_option maxHeartbeats 400000 in
set_option maxRecDepth 100000 in
theorem mX1_recover (l : Launch) (y : Nat → ClassId) (t : va_W) (a : Nat → Nat) (c : CS) (hF : SF c) (hnk : c_nk c = false) : MGi l yX1_recover wsX1_recover 6 129 [.ref (a 0)] (tyA y) (wC a y c t) ((recoverF c).1) (wC a y ((recoverF c).2) t) := by
  refine MGi.of (cc := cX1_recover) (maxL := 1) (by decide) rfl (Nat.le_of_ble_eq_true rfl) ?_
  intro D p e s m below meth c0 A ls hx hb hr hml hown hlocks hts hK hP hD hA hN hl hS
  have hl : lv_has ls 1 [(0, .ref (a 0))] := hl
  have hinX1 : ∀ w ∈ u_ws RX1 TX1 10, w ∈ wsX1_recover := in_X1_X1_recover
  refine lv_aload_n hx hb dX1_recover_0 rfl (lv_at hl 0 rfl) ?_
  refine cg_on hx hb hts hinX1 hown hK hP (hts (.fieldLink RX1 23 "FencedWords" "powerOn" "Z") (List.mem_of_getElem? (i := 1) rfl)) dX1_recover_1 ?_
  refine q_ifb_eq (tgt := 9) hx hb dX1_recover_4 (by decide) (fun (h4 : (c_on c) = false) => ?_) (fun (h4 : (c_on c) = true) => ?_)
  · refine lv_aload_n hx hb dX1_recover_9 rfl (lv_at hl 0 rfl) ?_
    refine lv_iconst (v := nI 1) hx hb dX1_recover_10 (by decide) ?_
    refine cp_on (v := true) hx hb hts hinX1 hown hK hP hD hS (hts (.fieldLink RX1 23 "FencedWords" "powerOn" "Z") (List.mem_of_getElem? (i := 1) rfl)) dX1_recover_11 (fun H locs hP hD hS => ?_)
    refine lv_aload_n hx hb dX1_recover_14 rfl (lv_at hl 0 rfl) ?_
    refine cg_r2 hx hb hts hinX1 hown hK hP (hts (.fieldLink RX1 13 "FencedWords" "keptValues" "[J") (List.mem_of_getElem? (i := 2) rfl)) dX1_recover_15 ?_
    refine lv_iconst (v := nI 0) hx hb dX1_recover_18 (by decide) ?_
    refine lv_aload_n hx hb dX1_recover_19 rfl (lv_at hl 0 rfl) ?_
    refine cg_r1 hx hb hts hinX1 hown hK hP (hts (.fieldLink RX1 9 "FencedWords" "seenValues" "[J") (List.mem_of_getElem? (i := 3) rfl)) dX1_recover_20 ?_
    refine lv_iconst (v := nI 0) hx hb dX1_recover_23 (by decide) ?_
    refine lv_bipush (v := nI 32) hx hb dX1_recover_24 (by decide) ?_
    refine cy_K_S hx hb (hml.trans hl.1.symm) hown (hts (.methodLink RX1 76 arraycopyName) (List.mem_of_getElem? (i := 4) rfl)) (hts (.native arraycopyName) (List.mem_of_getElem? (i := 5) rfl)) (hts (.static arraycopyName) (List.mem_of_getElem? (i := 6) rfl)) (hts (.initialized "java/lang/System") (List.mem_of_getElem? (i := 7) rfl)) hK hP hD hS (show 0 + 32 ≤ 32 by omega) (show 0 + 32 ≤ 32 by omega) (Nat.le_of_ble_eq_true rfl) (by decide +kernel) dX1_recover_26 (fun H locs hP hD hS => ?_)
    have hF : SF (cs_S (cs_on c true) (va_cpy (c_K c) (c_S c) 0 0 32)) := hF
    have hnk : c_nk (cs_S (cs_on c true) (va_cpy (c_K c) (c_S c) 0 0 32)) = false := hnk
    refine lv_aload_n hx hb dX1_recover_29 rfl (lv_at hl 0 rfl) ?_
    refine callVi (rest := []) ⟨hx, hb, hml, hown, hts⟩ (mX1_undo l y t a (cs_S (cs_on c true) (va_cpy (c_K c) (c_S c) 0 0 32)) hF hnk) (cwV 0 hts gX1_recover_X1_undo rfl rfl rfl (by decide +kernel) ⟨Nat.le_of_ble_eq_true rfl, Nat.le_of_ble_eq_true rfl⟩) (va_recv hK hP (ci := 1) (q0 := 0) rfl rfl) hK hP hD hS hA hN rfl hl.1 rfl (Nat.le_of_ble_eq_true rfl) dX1_recover_30 ⟨Nat.le_of_ble_eq_true rfl, Nat.le_of_ble_eq_true rfl⟩ (fun H locs hP hD hS => ?_)
    generalize hc1 : (undoF (cs_S (cs_on c true) (va_cpy (c_K c) (c_S c) 0 0 32))).2 = c1 at hP hD
    have hP : va_P D vwCl (wC a y c1 t) H := hP
    have hD : va_D A (wC a y c1 t) := hD
    refine q_ifb_eq (tgt := 40) hx hb dX1_recover_33 (by decide) (fun (h33 : ((undoF (cs_S (cs_on c true) (va_cpy (c_K c) (c_S c) 0 0 32))).1) = false) => ?_) (fun (h33 : ((undoF (cs_S (cs_on c true) (va_cpy (c_K c) (c_S c) 0 0 32))).1) = true) => ?_)
    · refine lv_bipush (v := (-2)) hx hb dX1_recover_40 (by decide) ?_
      exact retGi hx hb hr hlocks hK hP hD hS dX1_recover_42 (by unfold recoverF; rw [if_neg (by rw [h4]; decide)]; have q : (undoF (recA c)).1 = _ := h33; simp only [q]; rfl) (by unfold recoverF; rw [if_neg (by rw [h4]; decide), ← hc1]; rfl)
    · refine lv_iconst (v := nI 0) hx hb dX1_recover_36 (by decide) ?_
      refine lv_goto (tgt := 42) hx hb dX1_recover_37 (by decide) ?_
      exact retGi hx hb hr hlocks hK hP hD hS dX1_recover_42 (by unfold recoverF; rw [if_neg (by rw [h4]; decide)]; have q : (undoF (recA c)).1 = _ := h33; simp only [q]; rfl) (by unfold recoverF; rw [if_neg (by rw [h4]; decide), ← hc1]; rfl)
  · refine lv_iconst (v := (-1)) hx hb dX1_recover_7 (by decide) ?_
    exact retGi hx hb hr hlocks hK hP hD hS dX1_recover_8 (by unfold recoverF; rw [if_pos h4]) (by unfold recoverF; rw [if_pos h4])
theorem in_X1_X1_on : ∀ w ∈ wsX10, w ∈ wsX1_on := fun w h => List.mem_cons_of_mem _ (List.mem_append_right _ (h))
set_option maxHeartbeats 400000 in
set_option maxRecDepth 100000 in
theorem mX1_on (l : Launch) (y : Nat → ClassId) (t : va_W) (a : Nat → Nat) (c : CS)  : MGi l yX1_on wsX1_on 0 0 [.ref (a 0)] (tyA y) (wC a y c t) (bI (c_on c)) (wC a y c t) := by
  refine MGi.of (cc := cX1_on) (maxL := 1) (by decide) rfl (Nat.le_of_ble_eq_true rfl) ?_
  intro D p e s m below meth c0 A ls hx hb hr hml hown hlocks hts hK hP hD hA hN hl hS
  have hl : lv_has ls 1 [(0, .ref (a 0))] := hl
  have hinX1 : ∀ w ∈ u_ws RX1 TX1 10, w ∈ wsX1_on := in_X1_X1_on
  refine lv_aload_n hx hb dX1_on_0 rfl (lv_at hl 0 rfl) ?_
  refine cg_on hx hb hts hinX1 hown hK hP (hts (.fieldLink RX1 23 "FencedWords" "powerOn" "Z") (List.mem_of_getElem? (i := 1) rfl)) dX1_on_1 ?_
  exact retGz hx hb hr hlocks hK hP hD hS dX1_on_4 rfl rfl
theorem in_X1_X1_open : ∀ w ∈ wsX10, w ∈ wsX1_open := fun w h => List.mem_cons_of_mem _ (List.mem_append_right _ (h))
set_option maxHeartbeats 400000 in
set_option maxRecDepth 100000 in
theorem mX1_open (l : Launch) (y : Nat → ClassId) (t : va_W) (a : Nat → Nat) (c : CS)  : MGi l yX1_open wsX1_open 0 0 [.ref (a 0)] (tyA y) (wC a y c t) (bI (c_op c)) (wC a y c t) := by
  refine MGi.of (cc := cX1_open) (maxL := 1) (by decide) rfl (Nat.le_of_ble_eq_true rfl) ?_
  intro D p e s m below meth c0 A ls hx hb hr hml hown hlocks hts hK hP hD hA hN hl hS
  have hl : lv_has ls 1 [(0, .ref (a 0))] := hl
  have hinX1 : ∀ w ∈ u_ws RX1 TX1 10, w ∈ wsX1_open := in_X1_X1_open
  refine lv_aload_n hx hb dX1_open_0 rfl (lv_at hl 0 rfl) ?_
  refine cg_op hx hb hts hinX1 hown hK hP (hts (.fieldLink RX1 35 "FencedWords" "transactionOpen" "Z") (List.mem_of_getElem? (i := 1) rfl)) dX1_open_1 ?_
  exact retGz hx hb hr hlocks hK hP hD hS dX1_open_4 rfl rfl
theorem in_X1_X1_seen : ∀ w ∈ wsX10, w ∈ wsX1_seen := fun w h => List.mem_cons_of_mem _ (List.mem_append_right _ (h))
set_option maxHeartbeats 400000 in
set_option maxRecDepth 100000 in
theorem mX1_seen (l : Launch) (y : Nat → ClassId) (t : va_W) (a : Nat → Nat) (c : CS) (x : Int32)  : MGl l yX1_seen wsX1_seen 1 20 [.ref (a 0), .int x] (tyA y) (wC a y c t) (seenF x c) (wC a y c t) := by
  refine MGl.of (cc := cX1_seen) (maxL := 2) (by decide) rfl (Nat.le_of_ble_eq_true rfl) ?_
  intro D p e s m below meth c0 A ls hx hb hr hml hown hlocks hts hK hP hD hA hN hl hS
  have hl : lv_has ls 2 [(0, .ref (a 0)), (1, .int x)] := hl
  have hinX1 : ∀ w ∈ u_ws RX1 TX1 10, w ∈ wsX1_seen := in_X1_X1_seen
  refine lv_aload_n hx hb dX1_seen_0 rfl (lv_at hl 0 rfl) ?_
  refine cg_on hx hb hts hinX1 hown hK hP (hts (.fieldLink RX1 23 "FencedWords" "powerOn" "Z") (List.mem_of_getElem? (i := 1) rfl)) dX1_seen_1 ?_
  refine q_ifb_eq (tgt := 23) hx hb dX1_seen_4 (by decide) (fun (h4 : (c_on c) = false) => ?_) (fun (h4 : (c_on c) = true) => ?_)
  · refine lv_lconst (v := 0) hx hb dX1_seen_23 (by decide) ?_
    exact retGl hx hb hr hlocks hK hP hD hS dX1_seen_24 (by unfold seenF; rw [if_pos h4]) rfl
  · refine lv_iload_n hx hb dX1_seen_7 rfl (lv_at hl 1 rfl) ?_
    refine callSi (rest := []) ⟨hx, hb, hml, hown, hts⟩ (mX1_isWord l y _ x) (va_cwS 1 hts gX1_seen_X1_isWord rfl rfl rfl (by decide +kernel) ⟨Nat.le_of_ble_eq_true rfl, Nat.le_of_ble_eq_true rfl⟩) hK hP hD hS hA hN rfl hl.1 rfl (Nat.le_of_ble_eq_true rfl) dX1_seen_8 ⟨Nat.le_of_ble_eq_true rfl, Nat.le_of_ble_eq_true rfl⟩ (fun H locs hP hD hS => ?_)
    refine q_ifb_eq (tgt := 23) hx hb dX1_seen_11 (by decide) (fun (h11 : (isW x) = false) => ?_) (fun (h11 : (isW x) = true) => ?_)
    · refine lv_lconst (v := 0) hx hb dX1_seen_23 (by decide) ?_
      exact retGl hx hb hr hlocks hK hP hD hS dX1_seen_24 (by unfold seenF; rw [if_neg (by rw [h4]; decide), if_pos h11]) rfl
    · obtain ⟨k, rfl, q1⟩ := isW_nat h11
      refine lv_aload_n hx hb dX1_seen_14 rfl (lv_at hl 0 rfl) ?_
      refine cg_r1 hx hb hts hinX1 hown hK hP (hts (.fieldLink RX1 9 "FencedWords" "seenValues" "[J") (List.mem_of_getElem? (i := 2) rfl)) dX1_seen_15 ?_
      refine lv_iload_n hx hb dX1_seen_18 rfl (lv_at hl 1 rfl) ?_
      refine cl_S hx hb hK hP (show k < 32 by omega) dX1_seen_19 ?_
      refine lv_goto (tgt := 24) hx hb dX1_seen_20 (by decide) ?_
      exact retGl hx hb hr hlocks hK hP hD hS dX1_seen_24 (by unfold seenF; rw [if_neg (by rw [h4]; decide), if_neg (by rw [h11]; decide), nI_clamp (by omega)]) rfl
theorem in_X1_X1_kept : ∀ w ∈ wsX10, w ∈ wsX1_kept := fun w h => List.mem_cons_of_mem _ (List.mem_append_right _ (h))
set_option maxHeartbeats 400000 in
set_option maxRecDepth 100000 in
theorem mX1_kept (l : Launch) (y : Nat → ClassId) (t : va_W) (a : Nat → Nat) (c : CS) (x : Int32)  : MGl l yX1_kept wsX1_kept 1 20 [.ref (a 0), .int x] (tyA y) (wC a y c t) (keptF x c) (wC a y c t) := by
  refine MGl.of (cc := cX1_kept) (maxL := 2) (by decide) rfl (Nat.le_of_ble_eq_true rfl) ?_
  intro D p e s m below meth c0 A ls hx hb hr hml hown hlocks hts hK hP hD hA hN hl hS
  have hl : lv_has ls 2 [(0, .ref (a 0)), (1, .int x)] := hl
  have hinX1 : ∀ w ∈ u_ws RX1 TX1 10, w ∈ wsX1_kept := in_X1_X1_kept
  refine lv_iload_n hx hb dX1_kept_0 rfl (lv_at hl 1 rfl) ?_
  refine callSi (rest := []) ⟨hx, hb, hml, hown, hts⟩ (mX1_isWord l y _ x) (va_cwS 1 hts gX1_kept_X1_isWord rfl rfl rfl (by decide +kernel) ⟨Nat.le_of_ble_eq_true rfl, Nat.le_of_ble_eq_true rfl⟩) hK hP hD hS hA hN rfl hl.1 rfl (Nat.le_of_ble_eq_true rfl) dX1_kept_1 ⟨Nat.le_of_ble_eq_true rfl, Nat.le_of_ble_eq_true rfl⟩ (fun H locs hP hD hS => ?_)
  refine q_ifb_eq (tgt := 16) hx hb dX1_kept_4 (by decide) (fun (h4 : (isW x) = false) => ?_) (fun (h4 : (isW x) = true) => ?_)
  · refine lv_lconst (v := 0) hx hb dX1_kept_16 (by decide) ?_
    exact retGl hx hb hr hlocks hK hP hD hS dX1_kept_17 (by unfold keptF; rw [if_pos h4]) rfl
  · obtain ⟨k, rfl, q1⟩ := isW_nat h4
    refine lv_aload_n hx hb dX1_kept_7 rfl (lv_at hl 0 rfl) ?_
    refine cg_r2 hx hb hts hinX1 hown hK hP (hts (.fieldLink RX1 13 "FencedWords" "keptValues" "[J") (List.mem_of_getElem? (i := 1) rfl)) dX1_kept_8 ?_
    refine lv_iload_n hx hb dX1_kept_11 rfl (lv_at hl 1 rfl) ?_
    refine cl_K hx hb hK hP (show k < 32 by omega) dX1_kept_12 ?_
    refine lv_goto (tgt := 17) hx hb dX1_kept_13 (by decide) ?_
    exact retGl hx hb hr hlocks hK hP hD hS dX1_kept_17 (by unfold keptF; rw [if_neg (by rw [h4]; decide), nI_clamp (by omega)]) rfl
theorem in_X0_X1_records : ∀ w ∈ wsX00, w ∈ wsX1_records := fun w h => List.mem_cons_of_mem _ (List.mem_append_right _ (h))
theorem in_X1_X1_records : ∀ w ∈ wsX10, w ∈ wsX1_records := fun w h => List.mem_cons_of_mem _ (List.mem_append_left _ (List.mem_append_right _ (h)))
set_option maxHeartbeats 400000 in
set_option maxRecDepth 100000 in
theorem mX1_records (l : Launch) (y : Nat → ClassId) (t : va_W) (a : Nat → Nat) (c : CS)  : MGi l yX1_records wsX1_records 0 0 [.ref (a 0)] (tyA y) (wC a y c t) (nI (c_sz c)) (wC a y c t) := by
  refine MGi.of (cc := cX1_records) (maxL := 1) (by decide) rfl (Nat.le_of_ble_eq_true rfl) ?_
  intro D p e s m below meth c0 A ls hx hb hr hml hown hlocks hts hK hP hD hA hN hl hS
  have hl : lv_has ls 1 [(0, .ref (a 0))] := hl
  have hinX0 : ∀ w ∈ u_ws RX0 TX0 8, w ∈ wsX1_records := in_X0_X1_records
  have hinX1 : ∀ w ∈ u_ws RX1 TX1 10, w ∈ wsX1_records := in_X1_X1_records
  refine lv_aload_n hx hb dX1_records_0 rfl (lv_at hl 0 rfl) ?_
  refine cg_r3 hx hb hts hinX1 hown hK hP (hts (.fieldLink RX1 19 "FencedWords" "log" "LFencedWords$Log;") (List.mem_of_getElem? (i := 1) rfl)) dX1_records_1 ?_
  refine cn_sz (host := "FencedWords") hx hb hts hinX0 hown hK hP (va_Nw.use rfl hN.1) dX1_records_4 ?_
  exact retGi hx hb hr hlocks hK hP hD hS dX1_records_7 rfl rfl
theorem in_X0_X1_taken : ∀ w ∈ wsX00, w ∈ wsX1_taken := fun w h => List.mem_cons_of_mem _ (List.mem_append_right _ (h))
theorem in_X1_X1_taken : ∀ w ∈ wsX10, w ∈ wsX1_taken := fun w h => List.mem_cons_of_mem _ (List.mem_append_left _ (List.mem_append_right _ (h)))
set_option maxHeartbeats 400000 in
set_option maxRecDepth 100000 in
theorem mX1_taken (l : Launch) (y : Nat → ClassId) (t : va_W) (a : Nat → Nat) (c : CS)  : MGi l yX1_taken wsX1_taken 0 0 [.ref (a 0)] (tyA y) (wC a y c t) (nI (c_tk c)) (wC a y c t) := by
  refine MGi.of (cc := cX1_taken) (maxL := 1) (by decide) rfl (Nat.le_of_ble_eq_true rfl) ?_
  intro D p e s m below meth c0 A ls hx hb hr hml hown hlocks hts hK hP hD hA hN hl hS
  have hl : lv_has ls 1 [(0, .ref (a 0))] := hl
  have hinX0 : ∀ w ∈ u_ws RX0 TX0 8, w ∈ wsX1_taken := in_X0_X1_taken
  have hinX1 : ∀ w ∈ u_ws RX1 TX1 10, w ∈ wsX1_taken := in_X1_X1_taken
  refine lv_aload_n hx hb dX1_taken_0 rfl (lv_at hl 0 rfl) ?_
  refine cg_r3 hx hb hts hinX1 hown hK hP (hts (.fieldLink RX1 19 "FencedWords" "log" "LFencedWords$Log;") (List.mem_of_getElem? (i := 1) rfl)) dX1_taken_1 ?_
  refine cn_tk (host := "FencedWords") hx hb hts hinX0 hown hK hP (va_Nw.use rfl hN.2.1) dX1_taken_4 ?_
  exact retGi hx hb hr hlocks hK hP hD hS dX1_taken_7 rfl rfl
theorem in_X1_X1_meter : ∀ w ∈ wsX10, w ∈ wsX1_meter := fun w h => List.mem_cons_of_mem _ (List.mem_append_right _ (h))
set_option maxHeartbeats 400000 in
set_option maxRecDepth 100000 in
theorem mX1_meter (l : Launch) (y : Nat → ClassId) (t : va_W) (a : Nat → Nat) (c : CS)  : MGi l yX1_meter wsX1_meter 0 0 [.ref (a 0)] (tyA y) (wC a y c t) (c_ad c) (wC a y c t) := by
  refine MGi.of (cc := cX1_meter) (maxL := 1) (by decide) rfl (Nat.le_of_ble_eq_true rfl) ?_
  intro D p e s m below meth c0 A ls hx hb hr hml hown hlocks hts hK hP hD hA hN hl hS
  have hl : lv_has ls 1 [(0, .ref (a 0))] := hl
  have hinX1 : ∀ w ∈ u_ws RX1 TX1 10, w ∈ wsX1_meter := in_X1_X1_meter
  refine lv_aload_n hx hb dX1_meter_0 rfl (lv_at hl 0 rfl) ?_
  refine cg_ad hx hb hts hinX1 hown hK hP (hts (.fieldLink RX1 88 "FencedWords" "actsDone" "I") (List.mem_of_getElem? (i := 1) rfl)) dX1_meter_1 ?_
  exact retGi hx hb hr hlocks hK hP hD hS dX1_meter_4 rfl rfl
end
section
/-! ===== what the reference's methods do to its state ===== -/
def isV (a : Int32) : Bool := !decide (a < 0) && !decide (nI 31 < a)
theorem isV_nat {a : Int32} (h : isV a = true) : ∃ k : Nat, a = nI k ∧ k < 32 := by
  simp only [isV, Bool.and_eq_true, Bool.not_eq_true', decide_eq_false_iff_not] at h
  obtain ⟨k, hk, rfl⟩ := nI_of h.1
  exact ⟨k, rfl, Nat.lt_succ_of_le (Nat.not_lt.mp (fun q => h.2 ((nI_ltI (by decide) hk).mpr q)))⟩
def listA (w o : Nat) (v : Int64) (r : RS) : RS := rs_ac (rs_wi (rs_on (rs_an r (upN (r_an r) (r_ac r) w)) (upN (r_on r) (r_ac r) o)) (vp_updL (r_wi r) (r_ac r) v)) (r_ac r + 1)
abbrev Act : Type := Nat × Nat × Int64
def listAll (xs : List Act) (r : RS) : RS := xs.foldl (fun r t => listA t.1 t.2.1 t.2.2 r) r
theorem la_snoc (xs : List Act) (w o : Nat) (v : Int64) (r : RS) : listA w o v (listAll xs r) = listAll (xs ++ [(w, o, v)]) r := by simp [listAll, List.foldl_append]
theorem la_app (xs ys : List Act) (r : RS) : listAll ys (listAll xs r) = listAll (xs ++ ys) r := by simp [listAll, List.foldl_append]
def keepR (r : RS) (n : Nat) : Nat → Int64 := fun j => if j < n ∧ r_fl r (j / 8) = true then r_S r j else r_K r j
theorem keepR_0 (r : RS) : keepR r 0 = r_K r := by funext j; simp [keepR]
theorem keepR_t {r : RS} {i : Nat} (h : r_fl r (i / 8) = true) : vp_updL (keepR r i) i (r_S r i) = keepR r (i + 1) := by
  funext j
  by_cases e : j = i
  · subst e; simp [vp_updL, keepR, h]
  · have q : j < i ↔ j < i + 1 := by omega
    simp [vp_updL, keepR, e, q]
theorem keepR_f {r : RS} {i : Nat} (h : r_fl r (i / 8) = false) : vp_updL (keepR r i) i (keepR r i i) = keepR r (i + 1) := by
  funext j
  by_cases e : j = i
  · subst e; simp [vp_updL, keepR, h]
  · have q : j < i ↔ j < i + 1 := by omega
    simp [vp_updL, keepR, e, q]
def keepF (r : RS) (n : Nat) : Nat → Int64 := fun j => if j < n ∧ hbL (r_mk r) j = true then r_S r j else r_K r j
theorem keepF_0 (r : RS) : keepF r 0 = r_K r := by funext j; simp [keepF]
theorem keepF_self (r : RS) (i : Nat) : keepF r i i = r_K r i := by simp [keepF]
theorem keepF_t {r : RS} {i : Nat} (h : hbL (r_mk r) i = true) : vp_updL (keepF r i) i (r_S r i) = keepF r (i + 1) := by
  funext j
  by_cases e : j = i
  · subst e; simp [vp_updL, keepF, h]
  · have q : j < i ↔ j < i + 1 := by omega
    simp [vp_updL, keepF, e, q]
theorem keepF_f {r : RS} {i : Nat} (h : hbL (r_mk r) i = false) : vp_updL (keepF r i) i (keepF r i i) = keepF r (i + 1) := by
  funext j
  by_cases e : j = i
  · subst e; simp [vp_updL, keepF, h]
  · have q : j < i ↔ j < i + 1 := by omega
    simp [vp_updL, keepF, e, q]
theorem keepF_e {r : RS} {i : Nat} (h : r_S r i = keepF r i i) : vp_updL (keepF r i) i (keepF r i i) = keepF r (i + 1) := by
  have h2 : r_S r i = r_K r i := by rw [h, keepF_self]
  funext j
  by_cases e : j = i
  · subst e; simp [vp_updL, keepF, h2]
  · have q : j < i ↔ j < i + 1 := by omega
    simp [vp_updL, keepF, e, q]
def clrB (f : Nat → Bool) (n : Nat) : Nat → Bool := fun j => if j < n then false else f j
theorem clrB_0 (f : Nat → Bool) : clrB f 0 = f := by funext j; simp [clrB]
theorem clrB_s (f : Nat → Bool) (i : Nat) : upB (clrB f i) i false = clrB f (i + 1) := by
  funext j
  by_cases e : j = i
  · subst e; simp [upB, clrB]
  · have q : j < i ↔ j < i + 1 := by omega
    simp [upB, clrB, e, q]
def setTo (f : Nat → Nat) (n v : Nat) : Nat → Nat := fun j => if j < n then v else f j
theorem setTo_0 (f : Nat → Nat) (v : Nat) : setTo f 0 v = f := by funext j; simp [setTo]
theorem setTo_s (f : Nat → Nat) (i v : Nat) : upN (setTo f i v) i v = setTo f (i + 1) v := by
  funext j
  by_cases e : j = i
  · subst e; simp [upN, setTo]
  · have q : j < i ↔ j < i + 1 := by omega
    simp [upN, setTo, e, q]
theorem cpy_0 (f g : Nat → Int64) (sp dp : Nat) : va_cpy f g sp dp 0 = g := by
  funext j
  have q : ¬ (dp ≤ j ∧ j < dp + 0) := by omega
  simp only [va_cpy, if_neg q]
theorem cpy_s (f g : Nat → Int64) (sp dp i : Nat) : vp_updL (va_cpy f g sp dp i) (dp + i) (f (sp + i)) = va_cpy f g sp dp (i + 1) := by
  funext j
  by_cases e : j = dp + i
  · subst e
    have q : dp ≤ dp + i ∧ dp + i < dp + (i + 1) := by omega
    simp only [vp_updL, va_cpy, if_pos q, if_true]
    congr 1
    omega
  · have q : (dp ≤ j ∧ j < dp + i) ↔ (dp ≤ j ∧ j < dp + (i + 1)) := by omega
    simp only [vp_updL, va_cpy, if_neg e, q]
theorem rss_K (c : RS) (x y : Nat → Int64) : rs_K (rs_K c x) y = rs_K c y := rfl
theorem rss_S (c : RS) (x y : Nat → Int64) : rs_S (rs_S c x) y = rs_S c y := rfl
theorem rss_fl (c : RS) (x y : Nat → Bool) : rs_fl (rs_fl c x) y = rs_fl c y := rfl
theorem rss_to (c : RS) (x y : Nat → Bool) : rs_to (rs_to c x) y = rs_to c y := rfl
theorem rss_st (c : RS) (x y : Nat → Nat) : rs_st (rs_st c x) y = rs_st c y := rfl
theorem rss_ol (c : RS) (x y : Nat → Int64) : rs_ol (rs_ol c x) y = rs_ol c y := rfl
def fenceR (r : RS) : RS := rs_fl (rs_K r (keepR r 32)) (clrB (r_fl r) 4)
def standR (h : Nat) (r : RS) : RS := rs_st r (setTo (r_st r) (r_rc r) h)
def meR (r : RS) : RS := rs_me r (r_me r + nI 1)
def oneR (w o : Nat) (v : Int64) (r : RS) : RS :=
  if w = 1 then rs_S (meR r) (vp_updL (r_S r) o v) else if w = 2 then rs_fl (meR r) (upB (r_fl r) o true) else if w = 3 then fenceR (meR r)
  else if w = 4 then rs_st (meR r) (upN (r_st r) (r_rc r - 1) 1) else if w = 5 then rs_st (fenceR (meR r)) (upN (r_st (fenceR (meR r))) (r_rc (fenceR (meR r)) - 1) 2)
  else if w = 6 then standR 3 (meR r) else if w = 7 then rs_rc (fenceR (meR r)) 0 else meR r
def recsR (r : RS) : RS :=
  if ¬ r_rc r = 0 ∧ (r_st r (r_rc r - 1) = 0 ∨ (r_st r (r_rc r - 1) = 1 ∧ hbL (r_mk r) 32 = false))
  then (if ¬ r_rc r - 1 = 0 ∧ r_st r 0 = 3 ∧ hbL (r_mk r) 33 = true then rs_rc (rs_rc r (r_rc r - 1)) 0 else rs_rc r (r_rc r - 1))
  else (if ¬ r_rc r = 0 ∧ r_st r 0 = 3 ∧ hbL (r_mk r) 33 = true then rs_rc r 0 else r)
def failB (r : RS) : RS := rs_fl (rs_op (rs_of (standR 2 r) true) false) (clrB (r_fl (standR 2 r)) 4)
def failR (r : RS) : RS := failB (recsR (rs_K r (keepF r 32)))
def endR (r : RS) : Bool × RS := if r_ar r = 0 then (true, r) else if r_ar r - 1 = 0 then (false, failR (rs_ar r (r_ar r - 1))) else (true, rs_ar r (r_ar r - 1))
def stepR (k : Nat) (r : RS) : Bool × RS := endR (oneR (r_an r k) (r_on r k) (r_wi r k) r)
def goR : Nat → Nat → RS → Bool × RS
  | 0, _, r => (true, r)
  | n + 1, k, r => if (stepR k r).1 = true then goR n (k + 1) (stepR k r).2 else (false, (stepR k r).2)
def goF (r : RS) : Bool × RS := goR (r_ac r) 0 r
theorem goR_t {n k : Nat} {r : RS} (hn : 0 < n) (h : (stepR k r).1 = true) : goR n k r = goR (n - 1) (k + 1) (stepR k r).2 := by
  obtain ⟨j, rfl⟩ : ∃ j, n = j + 1 := ⟨n - 1, by omega⟩
  show (if (stepR k r).1 = true then _ else _) = _
  rw [if_pos h]; rfl
theorem goR_f {n k : Nat} {r : RS} (hn : 0 < n) (h : (stepR k r).1 = false) : goR n k r = (false, (stepR k r).2) := by
  obtain ⟨j, rfl⟩ : ∃ j, n = j + 1 := ⟨n - 1, by omega⟩
  show (if (stepR k r).1 = true then _ else _) = _
  rw [if_neg (by rw [h]; decide)]
def takR (r : RS) : Nat → Nat
  | 0 => 0
  | k + 1 => takR r k + (r_ma r k + 1)
def covQ (r : RS) (k q : Nat) : Bool := decide (r_fi r q ≤ k) && decide (k < r_fi r q + r_ma r q)
def covR (r : RS) (k : Nat) : Bool := anyTo (covQ r k) (r_rc r)
def clrL (r : RS) : List Act := if r_rc r = 0 then [] else [(6, 0, 0), (0, 0, 0), (7, 0, 0)]
def snC (n k : Nat) : Nat := if k = n + 2 then 4 else if k = n + 4 then 5 else 0
def snL (n : Nat) : Nat → List Act
  | 0 => []
  | i + 1 => snL n i ++ [(snC n (i + 1), 0, 0)]
def tlL (f : Nat → Bool) : Nat → List Act
  | 0 => []
  | i + 1 => tlL f i ++ (if f i = true then [(2, i, 0)] else [])
def uiL (r : RS) (q : Nat) : Nat → List Act
  | 0 => []
  | i + 1 => uiL r q i ++ [(1, r_fi r q + i, r_ol r (r_fr r q + i))]
def uoL (r : RS) : Nat → List Act
  | 0 => []
  | p + 1 => uoL r p ++ uiL r (r_rc r - (p + 1)) (r_ma r (r_rc r - (p + 1)))
def hasL (r : RS) (l : Nat) : Bool := anyTo (fun b => covR r (8 * l + b)) 8
def undL (r : RS) : List Act := if r_rc r = 0 then [] else uoL r (r_rc r) ++ tlL (hasL r) 4 ++ [(3, 0, 0)] ++ clrL r
def undR (r : RS) : RS := listAll (undL r) (rs_ac r 0)
def comL (r : RS) : List Act := tlL (r_to r) 4 ++ (if tlL (r_to r) 4 = [] then [] else [(3, 0, 0)]) ++ clrL r
/-! the reference's public methods -/
def armR (n : Int32) (mk : Int64) (r : RS) : Bool × RS := if n < 0 then (false, r) else if nI 500 < n then (false, r) else (true, rs_mk (rs_ar r n.toNatClampNeg) mk)
def beginR (r : RS) : Int32 × RS := if r_of r = true then ((-1), r) else if r_op r = true then ((-1), r) else (nI 0, rs_to (rs_op r true) (clrB (r_to r) 4))
def snRec (k n : Nat) (r : RS) : RS := rs_ol (rs_st (rs_fr (rs_ma (rs_fi r (upN (r_fi r) (r_rc r) k)) (upN (r_ma r) (r_rc r) n)) (upN (r_fr r) (r_rc r) (takR r (r_rc r) - r_rc r))) (upN (r_st r) (r_rc r) 0)) (va_cpy (r_S r) (r_ol r) k (takR r (r_rc r) - r_rc r) n)
def snR (k n : Nat) (r : RS) : RS := listAll (snL n (n + 4)) (rs_ac (rs_rc (snRec k n r) (r_rc r + 1)) 0)
def goI (r : RS) : Int32 × RS := (bRes (goF r).1, (goF r).2)
def snapR (a n : Int32) (r : RS) : Int32 × RS := if r_op r = false then ((-1), r) else if n < nI 1 then ((-1), r) else if nI 8 < n then ((-1), r) else if isV a = false then ((-1), r) else if isV (a + n - nI 1) = false then ((-1), r) else if 40 < takR r (r_rc r) + n.toNatClampNeg + 1 then ((-1), r) else goI (snR a.toNatClampNeg n.toNatClampNeg r)
def stoR (k : Nat) (v : Int64) (r : RS) : RS := listA 1 k v (rs_ac (rs_to r (upB (r_to r) (k / 8) true)) 0)
def storeR (a : Int32) (v : Int64) (r : RS) : Int32 × RS := if r_op r = false then ((-1), r) else if isV a = false then ((-1), r) else if covR r a.toNatClampNeg = false then ((-1), r) else goI (stoR a.toNatClampNeg v r)
def commitR (r : RS) : Int32 × RS := if r_op r = false then ((-1), r) else goI (rs_op (listAll (comL r) (rs_ac r 0)) false)
def abortR (r : RS) : Int32 × RS := if r_op r = false then ((-1), r) else goI (rs_op (undR r) false)
def recR (r : RS) : RS := rs_S (rs_of r false) (va_cpy (r_K r) (r_S r) 0 0 32)
def recoverR (r : RS) : Int32 × RS := if r_of r = false then ((-1), r) else goI (undR (recR r))
def seenR (a : Int32) (r : RS) : Int64 := if r_of r = true then 0 else if isV a = false then 0 else r_S r a.toNatClampNeg
def keptR (a : Int32) (r : RS) : Int64 := if isV a = false then 0 else r_K r a.toNatClampNeg
/-! bits by an arithmetic shift -/
theorem wb_c : ∀ k, k < 64 → ((nI k).toInt64 &&& 63) = lN k := by decide +kernel
theorem wb_sm : ∀ k, k < 64 → ((lN k).toBitVec.smod 64) = BitVec.ofNat 64 k := by decide +kernel
theorem ts_sbit {w : Int64} {j : Nat} (hj : j < 64) : ((w >>> lN j) &&& 1) = 1 ↔ w.toBitVec.getLsbD j = true := by
  have e : (w >>> lN j).toBitVec = w.toBitVec.sshiftRight j := by
    rw [Int64.toBitVec_shiftRight, wb_sm j hj]
    show w.toBitVec.sshiftRight (BitVec.ofNat 64 j).toNat = _
    rw [BitVec.toNat_ofNat, Nat.mod_eq_of_lt (Nat.lt_of_lt_of_le hj (by decide))]
  have e0 : (w.toBitVec.sshiftRight j).getLsbD 0 = w.toBitVec.getLsbD j := by
    rw [BitVec.getLsbD_sshiftRight]
    simp [hj]
  rw [← Int64.toBitVec_inj, Int64.toBitVec_and, e]
  show w.toBitVec.sshiftRight j &&& 1#64 = 1#64 ↔ _
  constructor
  · intro h
    have t := congrArg (fun x => x.getLsbD 0) h
    simp only [BitVec.getLsbD_and, e0] at t
    simpa using t
  · intro h
    apply BitVec.eq_of_getLsbD_eq
    intro i hi
    rw [BitVec.getLsbD_and]
    cases i with
    | zero => rw [e0, h]; rfl
    | succ n => simp
theorem sb_cmp1 (x : Int64) {k : Nat} (hk : k < 64) : lg_cmp ((x >>> ((nI k).toInt64 &&& 63)) &&& 1) 1 = 0 ↔ hbL x k = true := by
  rw [lg_cmp_0, wb_c k hk]
  exact ts_sbit hk
theorem one_an (w o : Nat) (v : Int64) (r : RS) : r_an (oneR w o v r) = r_an r := by
  unfold oneR
  repeat' split
  all_goals simp only [standR, fenceR, meR, rx_an_S, rx_an_fl, rx_an_K, rx_an_st, rx_an_rc, rx_an_me]
theorem one_on (w o : Nat) (v : Int64) (r : RS) : r_on (oneR w o v r) = r_on r := by
  unfold oneR
  repeat' split
  all_goals simp only [standR, fenceR, meR, rx_on_S, rx_on_fl, rx_on_K, rx_on_st, rx_on_rc, rx_on_me]
theorem one_wi (w o : Nat) (v : Int64) (r : RS) : r_wi (oneR w o v r) = r_wi r := by
  unfold oneR
  repeat' split
  all_goals simp only [standR, fenceR, meR, rx_wi_S, rx_wi_fl, rx_wi_K, rx_wi_st, rx_wi_rc, rx_wi_me]
theorem one_ac (w o : Nat) (v : Int64) (r : RS) : r_ac (oneR w o v r) = r_ac r := by
  unfold oneR
  repeat' split
  all_goals simp only [standR, fenceR, meR, rx_ac_S, rx_ac_fl, rx_ac_K, rx_ac_st, rx_ac_rc, rx_ac_me]
theorem one_ar (w o : Nat) (v : Int64) (r : RS) : r_ar (oneR w o v r) = r_ar r := by
  unfold oneR
  repeat' split
  all_goals simp only [standR, fenceR, meR, rx_ar_S, rx_ar_fl, rx_ar_K, rx_ar_st, rx_ar_rc, rx_ar_me]
theorem one_mk (w o : Nat) (v : Int64) (r : RS) : r_mk (oneR w o v r) = r_mk r := by
  unfold oneR
  repeat' split
  all_goals simp only [standR, fenceR, meR, rx_mk_S, rx_mk_fl, rx_mk_K, rx_mk_st, rx_mk_rc, rx_mk_me]
theorem one_fi (w o : Nat) (v : Int64) (r : RS) : r_fi (oneR w o v r) = r_fi r := by
  unfold oneR
  repeat' split
  all_goals simp only [standR, fenceR, meR, rx_fi_S, rx_fi_fl, rx_fi_K, rx_fi_st, rx_fi_rc, rx_fi_me]
theorem one_ma (w o : Nat) (v : Int64) (r : RS) : r_ma (oneR w o v r) = r_ma r := by
  unfold oneR
  repeat' split
  all_goals simp only [standR, fenceR, meR, rx_ma_S, rx_ma_fl, rx_ma_K, rx_ma_st, rx_ma_rc, rx_ma_me]
theorem one_fr (w o : Nat) (v : Int64) (r : RS) : r_fr (oneR w o v r) = r_fr r := by
  unfold oneR
  repeat' split
  all_goals simp only [standR, fenceR, meR, rx_fr_S, rx_fr_fl, rx_fr_K, rx_fr_st, rx_fr_rc, rx_fr_me]
theorem one_ol (w o : Nat) (v : Int64) (r : RS) : r_ol (oneR w o v r) = r_ol r := by
  unfold oneR
  repeat' split
  all_goals simp only [standR, fenceR, meR, rx_ol_S, rx_ol_fl, rx_ol_K, rx_ol_st, rx_ol_rc, rx_ol_me]
theorem one_of (w o : Nat) (v : Int64) (r : RS) : r_of (oneR w o v r) = r_of r := by
  unfold oneR
  repeat' split
  all_goals simp only [standR, fenceR, meR, rx_of_S, rx_of_fl, rx_of_K, rx_of_st, rx_of_rc, rx_of_me]
theorem one_op (w o : Nat) (v : Int64) (r : RS) : r_op (oneR w o v r) = r_op r := by
  unfold oneR
  repeat' split
  all_goals simp only [standR, fenceR, meR, rx_op_S, rx_op_fl, rx_op_K, rx_op_st, rx_op_rc, rx_op_me]
theorem one_to (w o : Nat) (v : Int64) (r : RS) : r_to (oneR w o v r) = r_to r := by
  unfold oneR
  repeat' split
  all_goals simp only [standR, fenceR, meR, rx_to_S, rx_to_fl, rx_to_K, rx_to_st, rx_to_rc, rx_to_me]
theorem one_rc (w o : Nat) (v : Int64) (r : RS) : r_rc (oneR w o v r) = if w = 7 then 0 else r_rc r := by
  unfold oneR
  by_cases h : w = 7
  · subst h; simp [rx_rc_rc]
  · rw [if_neg h]
    repeat' split
    all_goals first | (simp only [standR, fenceR, meR, rx_rc_S, rx_rc_fl, rx_rc_K, rx_rc_st, rx_rc_me]; done) | (exfalso; omega)
theorem one_st3 (w o : Nat) (v : Int64) (r : RS) (h : ∀ j, r_st r j ≤ 3) : ∀ j, r_st (oneR w o v r) j ≤ 3 := by
  intro j
  unfold oneR
  repeat' split
  all_goals simp only [standR, fenceR, meR, rx_st_S, rx_st_fl, rx_st_K, rx_st_st, rx_st_rc, rx_st_me, upN, setTo]
  all_goals first | exact h j | (split <;> first | exact h j | omega)
def AOK (r : RS) : Prop := r_ac r ≤ 64 ∧ r_rc r ≤ 20 ∧ r_ar r ≤ 500 ∧ (∀ j, r_st r j ≤ 3) ∧ (∀ j, j < r_ac r → r_an r j ≤ 7 ∧ (r_an r j = 1 → r_on r j < 32) ∧ (r_an r j = 2 → r_on r j < 4)) ∧ ((1 ≤ r_rc r ∧ ∀ j, j < r_ac r → r_an r j ≠ 7) ∨ ∀ j, j < r_ac r → r_an r j ≠ 4 ∧ r_an r j ≠ 5)
theorem AOK_one {r : RS} {k : Nat} (h : AOK r) (hk : k < r_ac r) : AOK (oneR (r_an r k) (r_on r k) (r_wi r k) r) := by
  obtain ⟨h1, h2, h3, h4, h5, h6⟩ := h
  refine ⟨by rw [one_ac]; exact h1, ?_, by rw [one_ar]; exact h3, one_st3 _ _ _ _ h4, ?_, ?_⟩
  · rw [one_rc]; split <;> omega
  · rw [one_ac, one_an, one_on]; exact h5
  · rw [one_ac, one_an, one_rc]
    rcases h6 with ⟨a, b⟩ | b
    · exact Or.inl ⟨by rw [if_neg (b k hk)]; exact a, b⟩
    · exact Or.inr b
theorem AOK_end {r : RS} (h : AOK r) (v : Nat) (hv : v ≤ 500) : AOK (rs_ar r v) := ⟨h.1, h.2.1, hv, h.2.2.2⟩
theorem la_f_ac : ∀ (xs : List Act) (r : RS), r_ac (listAll xs r) = r_ac r + xs.length := by
  intro xs
  induction xs with
  | nil => intro r; rfl
  | cons x xs ih =>
    intro r
    show r_ac (listAll xs (listA x.1 x.2.1 x.2.2 r)) = _
    rw [ih, List.length_cons]
    have e : r_ac (listA x.1 x.2.1 x.2.2 r) = r_ac r + 1 := by simp only [listA, rx_ac_ac]
    omega
theorem la_f_S : ∀ (xs : List Act) (r : RS), r_S (listAll xs r) = r_S r := by
  intro xs
  induction xs with
  | nil => intro r; rfl
  | cons x xs ih =>
    intro r
    show r_S (listAll xs (listA x.1 x.2.1 x.2.2 r)) = _
    rw [ih]
    simp only [listA, rx_S_an, rx_S_on, rx_S_wi, rx_S_ac]
theorem la_f_K : ∀ (xs : List Act) (r : RS), r_K (listAll xs r) = r_K r := by
  intro xs
  induction xs with
  | nil => intro r; rfl
  | cons x xs ih =>
    intro r
    show r_K (listAll xs (listA x.1 x.2.1 x.2.2 r)) = _
    rw [ih]
    simp only [listA, rx_K_an, rx_K_on, rx_K_wi, rx_K_ac]
theorem la_f_fl : ∀ (xs : List Act) (r : RS), r_fl (listAll xs r) = r_fl r := by
  intro xs
  induction xs with
  | nil => intro r; rfl
  | cons x xs ih =>
    intro r
    show r_fl (listAll xs (listA x.1 x.2.1 x.2.2 r)) = _
    rw [ih]
    simp only [listA, rx_fl_an, rx_fl_on, rx_fl_wi, rx_fl_ac]
theorem la_f_rc : ∀ (xs : List Act) (r : RS), r_rc (listAll xs r) = r_rc r := by
  intro xs
  induction xs with
  | nil => intro r; rfl
  | cons x xs ih =>
    intro r
    show r_rc (listAll xs (listA x.1 x.2.1 x.2.2 r)) = _
    rw [ih]
    simp only [listA, rx_rc_an, rx_rc_on, rx_rc_wi, rx_rc_ac]
theorem la_f_fi : ∀ (xs : List Act) (r : RS), r_fi (listAll xs r) = r_fi r := by
  intro xs
  induction xs with
  | nil => intro r; rfl
  | cons x xs ih =>
    intro r
    show r_fi (listAll xs (listA x.1 x.2.1 x.2.2 r)) = _
    rw [ih]
    simp only [listA, rx_fi_an, rx_fi_on, rx_fi_wi, rx_fi_ac]
theorem la_f_ma : ∀ (xs : List Act) (r : RS), r_ma (listAll xs r) = r_ma r := by
  intro xs
  induction xs with
  | nil => intro r; rfl
  | cons x xs ih =>
    intro r
    show r_ma (listAll xs (listA x.1 x.2.1 x.2.2 r)) = _
    rw [ih]
    simp only [listA, rx_ma_an, rx_ma_on, rx_ma_wi, rx_ma_ac]
theorem la_f_fr : ∀ (xs : List Act) (r : RS), r_fr (listAll xs r) = r_fr r := by
  intro xs
  induction xs with
  | nil => intro r; rfl
  | cons x xs ih =>
    intro r
    show r_fr (listAll xs (listA x.1 x.2.1 x.2.2 r)) = _
    rw [ih]
    simp only [listA, rx_fr_an, rx_fr_on, rx_fr_wi, rx_fr_ac]
theorem la_f_st : ∀ (xs : List Act) (r : RS), r_st (listAll xs r) = r_st r := by
  intro xs
  induction xs with
  | nil => intro r; rfl
  | cons x xs ih =>
    intro r
    show r_st (listAll xs (listA x.1 x.2.1 x.2.2 r)) = _
    rw [ih]
    simp only [listA, rx_st_an, rx_st_on, rx_st_wi, rx_st_ac]
theorem la_f_ol : ∀ (xs : List Act) (r : RS), r_ol (listAll xs r) = r_ol r := by
  intro xs
  induction xs with
  | nil => intro r; rfl
  | cons x xs ih =>
    intro r
    show r_ol (listAll xs (listA x.1 x.2.1 x.2.2 r)) = _
    rw [ih]
    simp only [listA, rx_ol_an, rx_ol_on, rx_ol_wi, rx_ol_ac]
theorem la_f_of : ∀ (xs : List Act) (r : RS), r_of (listAll xs r) = r_of r := by
  intro xs
  induction xs with
  | nil => intro r; rfl
  | cons x xs ih =>
    intro r
    show r_of (listAll xs (listA x.1 x.2.1 x.2.2 r)) = _
    rw [ih]
    simp only [listA, rx_of_an, rx_of_on, rx_of_wi, rx_of_ac]
theorem la_f_op : ∀ (xs : List Act) (r : RS), r_op (listAll xs r) = r_op r := by
  intro xs
  induction xs with
  | nil => intro r; rfl
  | cons x xs ih =>
    intro r
    show r_op (listAll xs (listA x.1 x.2.1 x.2.2 r)) = _
    rw [ih]
    simp only [listA, rx_op_an, rx_op_on, rx_op_wi, rx_op_ac]
theorem la_f_to : ∀ (xs : List Act) (r : RS), r_to (listAll xs r) = r_to r := by
  intro xs
  induction xs with
  | nil => intro r; rfl
  | cons x xs ih =>
    intro r
    show r_to (listAll xs (listA x.1 x.2.1 x.2.2 r)) = _
    rw [ih]
    simp only [listA, rx_to_an, rx_to_on, rx_to_wi, rx_to_ac]
theorem la_f_ar : ∀ (xs : List Act) (r : RS), r_ar (listAll xs r) = r_ar r := by
  intro xs
  induction xs with
  | nil => intro r; rfl
  | cons x xs ih =>
    intro r
    show r_ar (listAll xs (listA x.1 x.2.1 x.2.2 r)) = _
    rw [ih]
    simp only [listA, rx_ar_an, rx_ar_on, rx_ar_wi, rx_ar_ac]
theorem la_f_mk : ∀ (xs : List Act) (r : RS), r_mk (listAll xs r) = r_mk r := by
  intro xs
  induction xs with
  | nil => intro r; rfl
  | cons x xs ih =>
    intro r
    show r_mk (listAll xs (listA x.1 x.2.1 x.2.2 r)) = _
    rw [ih]
    simp only [listA, rx_mk_an, rx_mk_on, rx_mk_wi, rx_mk_ac]
theorem la_f_me : ∀ (xs : List Act) (r : RS), r_me (listAll xs r) = r_me r := by
  intro xs
  induction xs with
  | nil => intro r; rfl
  | cons x xs ih =>
    intro r
    show r_me (listAll xs (listA x.1 x.2.1 x.2.2 r)) = _
    rw [ih]
    simp only [listA, rx_me_an, rx_me_on, rx_me_wi, rx_me_ac]
end
section
theorem recs_rc (r : RS) : r_rc (recsR r) ≤ r_rc r := by
  unfold recsR
  repeat' split
  all_goals first | (simp only [rx_rc_rc]; omega) | exact Nat.le_refl _
theorem snL_len (n : Nat) : ∀ i, (snL n i).length = i := by
  intro i
  induction i with
  | zero => rfl
  | succ i ih => simp [snL, ih]
theorem tlL_len (f : Nat → Bool) : ∀ i, (tlL f i).length ≤ i := by
  intro i
  induction i with
  | zero => exact Nat.le_refl 0
  | succ i ih =>
    simp only [tlL, List.length_append]
    split
    · simp; omega
    · simp; omega
theorem uiL_len (r : RS) (q : Nat) : ∀ i, (uiL r q i).length = i := by
  intro i
  induction i with
  | zero => rfl
  | succ i ih => simp [uiL, ih]
theorem uoL_len (r : RS) : ∀ p, p ≤ r_rc r → (uoL r p).length + takR r (r_rc r - p) + p ≤ takR r (r_rc r) := by
  intro p
  induction p with
  | zero => intro _; simp [uoL]
  | succ p ih =>
    intro h
    have h1 := ih (by omega)
    have e : r_rc r - p = (r_rc r - (p + 1)) + 1 := by omega
    rw [e] at h1
    simp only [takR] at h1
    simp only [uoL, List.length_append, uiL_len]
    omega
theorem la_keep : ∀ (xs : List Act) (r : RS) (j : Nat), j < r_ac r → r_an (listAll xs r) j = r_an r j ∧ r_on (listAll xs r) j = r_on r j ∧ r_wi (listAll xs r) j = r_wi r j := by
  intro xs
  induction xs with
  | nil => intro r j _; exact ⟨rfl, rfl, rfl⟩
  | cons x xs ih =>
    intro r j hj
    have e : r_ac (listA x.1 x.2.1 x.2.2 r) = r_ac r + 1 := by simp only [listA, rx_ac_ac]
    have q := ih (listA x.1 x.2.1 x.2.2 r) j (by omega)
    have n : j ≠ r_ac r := by omega
    refine ⟨q.1.trans ?_, q.2.1.trans ?_, q.2.2.trans ?_⟩
    · simp only [listA, rx_an_ac, rx_an_wi, rx_an_on, rx_an_an]; exact upN_n _ _ n
    · simp only [listA, rx_on_ac, rx_on_wi, rx_on_on]; exact upN_n _ _ n
    · simp only [listA, rx_wi_ac, rx_wi_wi]; exact pk_uLn n
theorem la_at : ∀ (xs : List Act) (r : RS) (j : Nat) (x : Act), xs[j]? = some x → r_an (listAll xs r) (r_ac r + j) = x.1 ∧ r_on (listAll xs r) (r_ac r + j) = x.2.1 ∧ r_wi (listAll xs r) (r_ac r + j) = x.2.2 := by
  intro xs
  induction xs with
  | nil => intro r j x h; simp at h
  | cons z xs ih =>
    intro r j x h
    have e : r_ac (listA z.1 z.2.1 z.2.2 r) = r_ac r + 1 := by simp only [listA, rx_ac_ac]
    cases j with
    | zero =>
      simp at h
      subst h
      have q := la_keep xs (listA z.1 z.2.1 z.2.2 r) (r_ac r) (by omega)
      refine ⟨q.1.trans ?_, q.2.1.trans ?_, q.2.2.trans ?_⟩
      · simp only [listA, rx_an_ac, rx_an_wi, rx_an_on, rx_an_an]; exact upN_s _ _ _
      · simp only [listA, rx_on_ac, rx_on_wi, rx_on_on]; exact upN_s _ _ _
      · simp only [listA, rx_wi_ac, rx_wi_wi]; exact pk_uLs
    | succ j =>
      have q := ih (listA z.1 z.2.1 z.2.2 r) j x (by simpa using h)
      rw [e, show r_ac r + 1 + j = r_ac r + (j + 1) by omega] at q
      exact q
def actOK (x : Act) : Prop := x.1 ≤ 7 ∧ (x.1 = 1 → x.2.1 < 32) ∧ (x.1 = 2 → x.2.1 < 4)
theorem AOK_la {xs : List Act} {r : RS} (h0 : r_ac r = 0) (hl : xs.length ≤ 64) (hz : r_rc r ≤ 20) (ha : r_ar r ≤ 500) (hst : ∀ j, r_st r j ≤ 3) (hx : ∀ x ∈ xs, actOK x) (h6 : (1 ≤ r_rc r ∧ ∀ x ∈ xs, x.1 ≠ 7) ∨ ∀ x ∈ xs, x.1 ≠ 4 ∧ x.1 ≠ 5) : AOK (listAll xs r) := by
  have at_ : ∀ j, j < r_ac (listAll xs r) → ∃ x ∈ xs, r_an (listAll xs r) j = x.1 ∧ r_on (listAll xs r) j = x.2.1 := by
    intro j hj
    rw [la_f_ac, h0] at hj
    have hj2 : j < xs.length := by omega
    have q := la_at xs r j xs[j] (List.getElem?_eq_getElem hj2)
    rw [h0, Nat.zero_add] at q
    exact ⟨xs[j], List.getElem_mem hj2, q.1, q.2.1⟩
  refine ⟨by rw [la_f_ac]; omega, by rw [la_f_rc]; exact hz, by rw [la_f_ar]; exact ha, by rw [la_f_st]; exact hst, ?_, ?_⟩
  · intro j hj
    obtain ⟨x, hm, e1, e2⟩ := at_ j hj
    rw [e1, e2]
    exact hx x hm
  · rw [la_f_rc]
    rcases h6 with ⟨u, v⟩ | v
    · refine Or.inl ⟨u, fun j hj => ?_⟩
      obtain ⟨x, hm, e1, e2⟩ := at_ j hj
      rw [e1]; exact v x hm
    · refine Or.inr (fun j hj => ?_)
      obtain ⟨x, hm, e1, e2⟩ := at_ j hj
      rw [e1]; exact v x hm
end
section
def snHd (k n : Nat) (r : RS) : RS := rs_st (rs_fr (rs_ma (rs_fi r (upN (r_fi r) (r_rc r) k)) (upN (r_ma r) (r_rc r) n)) (upN (r_fr r) (r_rc r) (takR r (r_rc r) - r_rc r))) (upN (r_st r) (r_rc r) 0)
theorem hd_S (k n : Nat) (r : RS) : r_S (snHd k n r) = r_S r := by simp only [snHd, rx_S_st, rx_S_fr, rx_S_ma, rx_S_fi]
theorem hd_K (k n : Nat) (r : RS) : r_K (snHd k n r) = r_K r := by simp only [snHd, rx_K_st, rx_K_fr, rx_K_ma, rx_K_fi]
theorem hd_fl (k n : Nat) (r : RS) : r_fl (snHd k n r) = r_fl r := by simp only [snHd, rx_fl_st, rx_fl_fr, rx_fl_ma, rx_fl_fi]
theorem hd_rc (k n : Nat) (r : RS) : r_rc (snHd k n r) = r_rc r := by simp only [snHd, rx_rc_st, rx_rc_fr, rx_rc_ma, rx_rc_fi]
theorem hd_fi (k n : Nat) (r : RS) : r_fi (snHd k n r) = upN (r_fi r) (r_rc r) k := by simp only [snHd, rx_fi_st, rx_fi_fr, rx_fi_ma, rx_fi_fi]
theorem hd_ma (k n : Nat) (r : RS) : r_ma (snHd k n r) = upN (r_ma r) (r_rc r) n := by simp only [snHd, rx_ma_st, rx_ma_fr, rx_ma_ma]
theorem hd_fr (k n : Nat) (r : RS) : r_fr (snHd k n r) = upN (r_fr r) (r_rc r) (takR r (r_rc r) - r_rc r) := by simp only [snHd, rx_fr_st, rx_fr_fr]
theorem hd_st (k n : Nat) (r : RS) : r_st (snHd k n r) = upN (r_st r) (r_rc r) 0 := by simp only [snHd, rx_st_st]
theorem hd_ol (k n : Nat) (r : RS) : r_ol (snHd k n r) = r_ol r := by simp only [snHd, rx_ol_st, rx_ol_fr, rx_ol_ma, rx_ol_fi]
theorem hd_of (k n : Nat) (r : RS) : r_of (snHd k n r) = r_of r := by simp only [snHd, rx_of_st, rx_of_fr, rx_of_ma, rx_of_fi]
theorem hd_op (k n : Nat) (r : RS) : r_op (snHd k n r) = r_op r := by simp only [snHd, rx_op_st, rx_op_fr, rx_op_ma, rx_op_fi]
theorem hd_to (k n : Nat) (r : RS) : r_to (snHd k n r) = r_to r := by simp only [snHd, rx_to_st, rx_to_fr, rx_to_ma, rx_to_fi]
theorem hd_ar (k n : Nat) (r : RS) : r_ar (snHd k n r) = r_ar r := by simp only [snHd, rx_ar_st, rx_ar_fr, rx_ar_ma, rx_ar_fi]
theorem hd_mk (k n : Nat) (r : RS) : r_mk (snHd k n r) = r_mk r := by simp only [snHd, rx_mk_st, rx_mk_fr, rx_mk_ma, rx_mk_fi]
theorem hd_me (k n : Nat) (r : RS) : r_me (snHd k n r) = r_me r := by simp only [snHd, rx_me_st, rx_me_fr, rx_me_ma, rx_me_fi]
def snX (k n : Nat) (r : RS) : RS := rs_ac (rs_rc (rs_ol (snHd k n r) (va_cpy (r_S (snHd k n r)) (r_ol (snHd k n r)) k (takR r (r_rc r) - r_rc r) n)) (r_rc (snHd k n r) + 1)) 0
def snapX (a n : Int32) (r : RS) : Int32 × RS := if r_op r = false then ((-1), r) else if n < nI 1 then ((-1), r) else if nI 8 < n then ((-1), r) else if isV a = false then ((-1), r) else if isV (a + n - nI 1) = false then ((-1), r) else if 40 < takR r (r_rc r) + n.toNatClampNeg + 1 then ((-1), r) else goI (listAll (snL n.toNatClampNeg (n.toNatClampNeg + 4)) (snX a.toNatClampNeg n.toNatClampNeg r))
theorem sx_S (k n : Nat) (r : RS) : r_S (snX k n r) = r_S r := by simp only [snX, rx_S_ac, rx_S_rc, rx_S_ol, hd_S]
theorem sx_K (k n : Nat) (r : RS) : r_K (snX k n r) = r_K r := by simp only [snX, rx_K_ac, rx_K_rc, rx_K_ol, hd_K]
theorem sx_fl (k n : Nat) (r : RS) : r_fl (snX k n r) = r_fl r := by simp only [snX, rx_fl_ac, rx_fl_rc, rx_fl_ol, hd_fl]
theorem sx_rc (k n : Nat) (r : RS) : r_rc (snX k n r) = r_rc r + 1 := by simp only [snX, rx_rc_ac, rx_rc_rc, hd_rc]
theorem sx_fi (k n : Nat) (r : RS) : r_fi (snX k n r) = upN (r_fi r) (r_rc r) k := by simp only [snX, rx_fi_ac, rx_fi_rc, rx_fi_ol, hd_fi]
theorem sx_ma (k n : Nat) (r : RS) : r_ma (snX k n r) = upN (r_ma r) (r_rc r) n := by simp only [snX, rx_ma_ac, rx_ma_rc, rx_ma_ol, hd_ma]
theorem sx_fr (k n : Nat) (r : RS) : r_fr (snX k n r) = upN (r_fr r) (r_rc r) (takR r (r_rc r) - r_rc r) := by simp only [snX, rx_fr_ac, rx_fr_rc, rx_fr_ol, hd_fr]
theorem sx_st (k n : Nat) (r : RS) : r_st (snX k n r) = upN (r_st r) (r_rc r) 0 := by simp only [snX, rx_st_ac, rx_st_rc, rx_st_ol, hd_st]
theorem sx_of (k n : Nat) (r : RS) : r_of (snX k n r) = r_of r := by simp only [snX, rx_of_ac, rx_of_rc, rx_of_ol, hd_of]
theorem sx_op (k n : Nat) (r : RS) : r_op (snX k n r) = r_op r := by simp only [snX, rx_op_ac, rx_op_rc, rx_op_ol, hd_op]
theorem sx_to (k n : Nat) (r : RS) : r_to (snX k n r) = r_to r := by simp only [snX, rx_to_ac, rx_to_rc, rx_to_ol, hd_to]
theorem sx_ar (k n : Nat) (r : RS) : r_ar (snX k n r) = r_ar r := by simp only [snX, rx_ar_ac, rx_ar_rc, rx_ar_ol, hd_ar]
theorem sx_mk (k n : Nat) (r : RS) : r_mk (snX k n r) = r_mk r := by simp only [snX, rx_mk_ac, rx_mk_rc, rx_mk_ol, hd_mk]
theorem sx_me (k n : Nat) (r : RS) : r_me (snX k n r) = r_me r := by simp only [snX, rx_me_ac, rx_me_rc, rx_me_ol, hd_me]
theorem sx_ac (k n : Nat) (r : RS) : r_ac (snX k n r) = 0 := by simp only [snX, rx_ac_ac]
theorem sx_ol (k n : Nat) (r : RS) : r_ol (snX k n r) = va_cpy (r_S r) (r_ol r) k (takR r (r_rc r) - r_rc r) n := by simp only [snX, rx_ol_ac, rx_ol_rc, rx_ol_ol, hd_S, hd_ol]
theorem rs_ol_self (r : RS) : rs_ol r (r_ol r) = r := rfl
theorem snC_in (n k : Nat) : snC n k = 0 ∨ snC n k = 4 ∨ snC n k = 5 := by
  unfold snC
  repeat' split
  all_goals simp
theorem snL_ok (n : Nat) : ∀ i, ∀ x ∈ snL n i, actOK x ∧ x.1 ≠ 7 := by
  intro i
  induction i with
  | zero => intro x h; cases h
  | succ i ih =>
    intro x h
    rcases List.mem_append.mp h with q | q
    · exact ih x q
    · rw [List.mem_singleton.mp q]
      have z := snC_in n (i + 1)
      refine ⟨⟨?_, ?_, ?_⟩, ?_⟩
      · show snC n (i + 1) ≤ 7; omega
      · intro w; have w : snC n (i + 1) = 1 := w; omega
      · intro w; have w : snC n (i + 1) = 2 := w; omega
      · show snC n (i + 1) ≠ 7; omega
def RI (r : RS) : Prop := r_rc r ≤ 20 ∧ r_ar r ≤ 500 ∧ (∀ j, r_st r j ≤ 3) ∧ takR r (r_rc r) ≤ 40 ∧ 2 * r_rc r ≤ takR r (r_rc r) ∧ ∀ q, q < r_rc r → 1 ≤ r_ma r q ∧ r_ma r q ≤ 8 ∧ r_fi r q + r_ma r q ≤ 32 ∧ r_fr r q + r_ma r q ≤ 40
theorem AOK_sn {k n : Nat} {r : RS} (hI : RI r) (hn : n ≤ 8) (hr : r_rc r < 20) : AOK (listAll (snL n (n + 4)) (snX k n r)) := by
  refine AOK_la (sx_ac k n r) (by rw [snL_len]; omega) (by rw [sx_rc]; omega) (by rw [sx_ar]; exact hI.2.1) ?_ (fun x hx => (snL_ok n _ x hx).1) (Or.inl ⟨by rw [sx_rc]; omega, fun x hx => (snL_ok n _ x hx).2⟩)
  intro j
  rw [sx_st]
  unfold upN
  split
  · omega
  · exact hI.2.2.1 j
theorem tlL_ok (f : Nat → Bool) : ∀ i, i ≤ 4 → ∀ x ∈ tlL f i, actOK x ∧ x.1 = 2 := by
  intro i
  induction i with
  | zero => intro _ x h; cases h
  | succ i ih =>
    intro hi x h
    rcases List.mem_append.mp h with q | q
    · exact ih (by omega) x q
    · split at q
      · rw [List.mem_singleton.mp q]
        refine ⟨⟨?_, ?_, ?_⟩, rfl⟩
        · show 2 ≤ 7; omega
        · intro w; have w : (2 : Nat) = 1 := w; omega
        · intro _; show i < 4; omega
      · cases q
theorem clrL_ok (r : RS) : ∀ x ∈ clrL r, actOK x ∧ x.1 ≠ 4 ∧ x.1 ≠ 5 := by
  intro x h
  unfold clrL at h
  split at h
  · cases h
  · simp only [List.mem_cons, List.not_mem_nil, or_false] at h
    rcases h with rfl | rfl | rfl <;> simp [actOK]
theorem clrL_len (r : RS) : (clrL r).length ≤ 3 := by
  unfold clrL
  split <;> simp
theorem act3_ok : actOK (3, 0, 0) := by simp [actOK]
theorem uiL_ok {r : RS} {q : Nat} (h : r_fi r q + r_ma r q ≤ 32) : ∀ i, i ≤ r_ma r q → ∀ x ∈ uiL r q i, actOK x ∧ x.1 = 1 := by
  intro i
  induction i with
  | zero => intro _ x h; cases h
  | succ i ih =>
    intro hi x hx
    rcases List.mem_append.mp hx with z | z
    · exact ih (by omega) x z
    · rw [List.mem_singleton.mp z]
      refine ⟨⟨?_, ?_, ?_⟩, rfl⟩
      · show 1 ≤ 7; omega
      · intro _; show r_fi r q + i < 32; omega
      · intro w; have w : (1 : Nat) = 2 := w; omega
theorem uoL_ok {r : RS} (hI : RI r) : ∀ p, p ≤ r_rc r → ∀ x ∈ uoL r p, actOK x ∧ x.1 = 1 := by
  intro p
  induction p with
  | zero => intro _ x h; cases h
  | succ p ih =>
    intro hp x hx
    rcases List.mem_append.mp hx with z | z
    · exact ih (by omega) x z
    · exact uiL_ok (hI.2.2.2.2.2 _ (by omega)).2.2.1 _ (Nat.le_refl _) x z
theorem undL_ok {r : RS} (hI : RI r) : (undL r).length ≤ 64 ∧ ∀ x ∈ undL r, actOK x ∧ x.1 ≠ 4 ∧ x.1 ≠ 5 := by
  unfold undL
  split
  · exact ⟨Nat.zero_le _, fun x h => by cases h⟩
  · have l1 := uoL_len r (r_rc r) (Nat.le_refl _)
    have l2 := tlL_len (hasL r) 4
    have l3 := clrL_len r
    have l4 := hI.2.2.2.1
    refine ⟨by simp only [List.length_append, List.length_singleton]; omega, fun x h => ?_⟩
    rcases List.mem_append.mp h with h | h
    · rcases List.mem_append.mp h with h | h
      · rcases List.mem_append.mp h with h | h
        · have q := uoL_ok hI _ (Nat.le_refl _) x h
          exact ⟨q.1, by omega, by omega⟩
        · have q := tlL_ok (hasL r) 4 (Nat.le_refl _) x h
          exact ⟨q.1, by omega, by omega⟩
      · rw [List.mem_singleton.mp h]
        exact ⟨act3_ok, by decide, by decide⟩
    · exact clrL_ok r x h
theorem comL_ok (r : RS) : (comL r).length ≤ 64 ∧ ∀ x ∈ comL r, actOK x ∧ x.1 ≠ 4 ∧ x.1 ≠ 5 := by
  unfold comL
  have l2 := tlL_len (r_to r) 4
  have l3 := clrL_len r
  refine ⟨?_, fun x h => ?_⟩
  · simp only [List.length_append]
    split
    · simp only [List.length_nil]; omega
    · simp only [List.length_singleton]; omega
  · rcases List.mem_append.mp h with h | h
    · rcases List.mem_append.mp h with h | h
      · have q := tlL_ok (r_to r) 4 (Nat.le_refl _) x h
        exact ⟨q.1, by omega, by omega⟩
      · split at h
        · cases h
        · rw [List.mem_singleton.mp h]
          exact ⟨act3_ok, by decide, by decide⟩
    · exact clrL_ok r x h
theorem la_clr (xs : List Act) (r : RS) : clrL (listAll xs r) = clrL r := by unfold clrL; rw [la_f_rc]
theorem la_cov (xs : List Act) (r : RS) (k : Nat) : covR (listAll xs r) k = covR r k := by
  unfold covR
  rw [la_f_rc]
  congr 1
  funext q
  unfold covQ
  rw [la_f_fi, la_f_ma]
theorem AOK_und {r : RS} (hI : RI r) : AOK (undR r) := AOK_la rfl (undL_ok hI).1 hI.1 hI.2.1 hI.2.2.1 (fun x hx => ((undL_ok hI).2 x hx).1) (Or.inr (fun x hx => ((undL_ok hI).2 x hx).2))
theorem AOK_com {r : RS} (hI : RI r) : AOK (listAll (comL r) (rs_ac r 0)) := AOK_la rfl (comL_ok r).1 hI.1 hI.2.1 hI.2.2.1 (fun x hx => ((comL_ok r).2 x hx).1) (Or.inr (fun x hx => ((comL_ok r).2 x hx).2))
theorem AOK_sto {r : RS} {k : Nat} {v : Int64} (hI : RI r) (hk : k < 32) : AOK (stoR k v r) := by
  refine AOK_la (xs := [(1, k, v)]) (r := rs_ac (rs_to r (upB (r_to r) (k / 8) true)) 0) rfl (show 1 ≤ 64 by omega) hI.1 hI.2.1 hI.2.2.1 (fun x hx => ?_) (Or.inr (fun x hx => ?_))
  · rw [List.mem_singleton.mp hx]
    refine ⟨?_, ?_, ?_⟩
    · show 1 ≤ 7; omega
    · intro _; exact hk
    · intro w; have w : (1 : Nat) = 2 := w; omega
  · rw [List.mem_singleton.mp hx]
    exact ⟨show (1 : Nat) ≠ 4 by decide, show (1 : Nat) ≠ 5 by decide⟩
theorem AOK_op {r : RS} (h : AOK r) (v : Bool) : AOK (rs_op r v) := h
end
section
set_option maxHeartbeats 400000 in
set_option maxRecDepth 100000 in
theorem mX2_word (l : Launch) (y : Nat → ClassId) (t : va_W) (x : Int32)  : MGi l yX2_word wsX2_word 0 0 [.int x] (tyA y) t (bI (isV x)) t := by
  refine MGi.of (cc := cX2_word) (maxL := 1) (by decide) rfl (Nat.le_of_ble_eq_true rfl) ?_
  intro D p e s m below meth c0 A ls hx hb hr hml hown hlocks hts hK hP hD hA hN hl hS
  have hl : lv_has ls 1 [(0, .int x)] := hl
  refine lv_iload_n hx hb dX2_word_0 rfl (lv_at hl 0 rfl) ?_
  refine lv_if_lt (tgt := 14) hx hb dX2_word_1 (by decide) (fun (h1 : x < 0) => ?_) (fun (h1 : ¬ x < 0) => ?_)
  · refine lv_iconst (v := nI 0) hx hb dX2_word_14 (by decide) ?_
    exact retGz hx hb hr hlocks hK hP hD hS dX2_word_15 (by simp [isV, bI, h1] <;> rfl) rfl
  · refine lv_iload_n hx hb dX2_word_4 rfl (lv_at hl 0 rfl) ?_
    refine lv_bipush (v := nI 31) hx hb dX2_word_5 (by decide) ?_
    refine lv_icmp_gt (tgt := 14) hx hb dX2_word_7 (by decide) (fun (h7 : (nI 31) < x) => ?_) (fun (h7 : ¬ (nI 31) < x) => ?_)
    · refine lv_iconst (v := nI 0) hx hb dX2_word_14 (by decide) ?_
      exact retGz hx hb hr hlocks hK hP hD hS dX2_word_15 (by simp [isV, bI, h1, h7] <;> rfl) rfl
    · refine lv_iconst (v := nI 1) hx hb dX2_word_10 (by decide) ?_
      refine lv_goto (tgt := 15) hx hb dX2_word_11 (by decide) ?_
      exact retGz hx hb hr hlocks hK hP hD hS dX2_word_15 (by simp [isV, bI, h1, h7] <;> rfl) rfl
theorem in_X2_X2_list : ∀ w ∈ wsX20, w ∈ wsX2_list := fun w h => List.mem_cons_of_mem _ (List.mem_append_right _ (h))
set_option maxHeartbeats 400000 in
set_option maxRecDepth 100000 in
theorem mX2_list (l : Launch) (y : Nat → ClassId) (t : va_W) (b : Nat → Nat) (r : RS) (w o : Nat) (v : Int64) (hac : r_ac r < 64) : MGv l yX2_list wsX2_list 0 0 [.ref (b 0), .int (nI w), .int (nI o), .long v] (tyA y) (wR b y r t) (wR b y (listA w o v r) t) := by
  refine MGv.of (cc := cX2_list) (maxL := 5) (by decide) rfl (Nat.le_of_ble_eq_true rfl) ?_
  intro D p e s m below meth c0 A ls hx hb hr hml hown hlocks hts hK hP hD hA hN hl hS
  have hl : lv_has ls 5 [(0, .ref (b 0)), (1, .int (nI w)), (2, .int (nI o)), (3, .long v)] := hl
  have hinX2 : ∀ w ∈ u_ws RX2 TX2 19, w ∈ wsX2_list := in_X2_X2_list
  refine lv_aload_n hx hb dX2_list_0 rfl (lv_at hl 0 rfl) ?_
  refine rg_r10 hx hb hts hinX2 hown hK hP (hts (.fieldLink RX2 39 "FencedWordsModel" "act" "[I") (List.mem_of_getElem? (i := 1) rfl)) dX2_list_1 ?_
  refine lv_aload_n hx hb dX2_list_4 rfl (lv_at hl 0 rfl) ?_
  refine rg_ac hx hb hts hinX2 hown hK hP (hts (.fieldLink RX2 48 "FencedWordsModel" "acts" "I") (List.mem_of_getElem? (i := 2) rfl)) dX2_list_5 ?_
  refine lv_iload_n hx hb dX2_list_8 rfl (lv_at hl 1 rfl) ?_
  refine rt_an (v := w) hx hb hK hP hD hS (show (r_ac r) < 64 by omega) dX2_list_9 (fun H locs hP hD hS => ?_)
  refine lv_aload_n hx hb dX2_list_10 rfl (lv_at hl 0 rfl) ?_
  refine rg_r11 hx hb hts hinX2 hown hK hP (hts (.fieldLink RX2 42 "FencedWordsModel" "on" "[I") (List.mem_of_getElem? (i := 3) rfl)) dX2_list_11 ?_
  refine lv_aload_n hx hb dX2_list_14 rfl (lv_at hl 0 rfl) ?_
  refine rg_ac hx hb hts hinX2 hown hK hP (hts (.fieldLink RX2 48 "FencedWordsModel" "acts" "I") (List.mem_of_getElem? (i := 2) rfl)) dX2_list_15 ?_
  refine lv_iload_n hx hb dX2_list_18 rfl (lv_at hl 2 rfl) ?_
  refine rt_on (v := o) hx hb hK hP hD hS (show (r_ac r) < 64 by omega) dX2_list_19 (fun H locs hP hD hS => ?_)
  refine lv_aload_n hx hb dX2_list_20 rfl (lv_at hl 0 rfl) ?_
  refine rg_r12 hx hb hts hinX2 hown hK hP (hts (.fieldLink RX2 45 "FencedWordsModel" "with" "[J") (List.mem_of_getElem? (i := 4) rfl)) dX2_list_21 ?_
  refine lv_aload_n hx hb dX2_list_24 rfl (lv_at hl 0 rfl) ?_
  refine rg_ac hx hb hts hinX2 hown hK hP (hts (.fieldLink RX2 48 "FencedWordsModel" "acts" "I") (List.mem_of_getElem? (i := 2) rfl)) dX2_list_25 ?_
  refine lv_lload_n hx hb dX2_list_28 rfl (lv_at hl 3 rfl) ?_
  refine rt_wi (v := v) hx hb hK hP hD hS (show (r_ac r) < 64 by omega) dX2_list_29 (fun H locs hP hD hS => ?_)
  refine lv_aload_n hx hb dX2_list_30 rfl (lv_at hl 0 rfl) ?_
  refine lv_dup hx hb dX2_list_31 rfl ?_
  refine rg_ac hx hb hts hinX2 hown hK hP (hts (.fieldLink RX2 48 "FencedWordsModel" "acts" "I") (List.mem_of_getElem? (i := 2) rfl)) dX2_list_32 ?_
  refine lv_iconst (v := nI 1) hx hb dX2_list_35 (by decide) ?_
  refine q_iadd hx hb dX2_list_36 ?_
  refine rp_ac (v := (r_ac r) + 1) hx hb hts hinX2 hown hK hP hD hS (hts (.fieldLink RX2 48 "FencedWordsModel" "acts" "I") (List.mem_of_getElem? (i := 2) rfl)) dX2_list_37 (fun H locs hP hD hS => ?_)
  exact retGv hx hb hr hlocks hK hP hD hS dX2_list_40 rfl
theorem in_X2_X2_fence : ∀ w ∈ wsX20, w ∈ wsX2_fence := fun w h => List.mem_cons_of_mem _ (List.mem_append_right _ (h))
set_option maxHeartbeats 400000 in
set_option maxRecDepth 100000 in
theorem mX2_fence (l : Launch) (y : Nat → ClassId) (t : va_W) (b : Nat → Nat) (r : RS)  : MGv l yX2_fence wsX2_fence 0 0 [.ref (b 0)] (tyA y) (wR b y r t) (wR b y (fenceR r) t) := by
  refine MGv.of (cc := cX2_fence) (maxL := 2) (by decide) rfl (Nat.le_of_ble_eq_true rfl) ?_
  intro D p e s m below meth c0 A ls hx hb hr hml hown hlocks hts hK hP hD hA hN hl hS
  have hl : lv_has ls 2 [(0, .ref (b 0))] := hl
  have hinX2 : ∀ w ∈ u_ws RX2 TX2 19, w ∈ wsX2_fence := in_X2_X2_fence
  refine lv_iconst (v := nI 0) hx hb dX2_fence_0 (by decide) ?_
  refine lv_istore_n (lv' := [(1, .int (nI 0)), (0, .ref (b 0))]) hx hb dX2_fence_1 rfl hl (by decide) rfl (fun ls hl => ?_)
  have loop : ∀ (n2 : Nat) (i : Nat) (H : Heap) (locs : List Loc) (ls : Array Slot), (i ≤ 32) → (33 ≤ i + n2) → va_P D vwCl (wR b y (rs_K r (keepR r i)) t) H → va_D A (wR b y (rs_K r (keepR r i)) t) → va_S A s.heap H locs → lv_has ls 2 [(0, .ref (b 0)), (1, .int (nI i))] → W p l e ({ frames := 0, cells := 0, slots := 0, locals := 0 }) s m [.ref (b 0)].toArray below meth c0 H locs 0 0 (GQv below D (tyA y) A (wR b y (fenceR r) t) [.ref (b 0)].toArray s) (F0 m 2 ls []) := by
    intro n2
    induction n2 with
    | zero =>
      intro i H locs ls hi hn hP hD hS hl
      omega
    | succ n2 ih2 =>
      intro i H locs ls hi hn hP hD hS hl
      refine lv_iload_n hx hb dX2_fence_2 rfl (lv_at hl 1 rfl) ?_
      refine lv_bipush (v := nI 32) hx hb dX2_fence_3 (by decide) ?_
      refine q_icmp_ge (tgt := 47) hx hb (show i < 2 ^ 31 by omega) (show 32 < 2 ^ 31 by omega) dX2_fence_5 (by decide) (fun (h5 : 32 ≤ i) => ?_) (fun (h5 : i < 32) => ?_)
      · have e32 : i = 32 := by omega
        subst e32
        refine lv_iconst (v := nI 0) hx hb dX2_fence_47 (by decide) ?_
        refine lv_istore_n (lv' := [(1, .int (nI 0)), (0, .ref (b 0))]) hx hb dX2_fence_48 rfl hl (by decide) rfl (fun ls hl => ?_)
        have loop2 : ∀ (n49 : Nat) (i : Nat) (H : Heap) (locs : List Loc) (ls : Array Slot), (i ≤ 4) → (5 ≤ i + n49) → va_P D vwCl (wR b y (rs_fl (rs_K r (keepR r 32)) (clrB (r_fl r) i)) t) H → va_D A (wR b y (rs_fl (rs_K r (keepR r 32)) (clrB (r_fl r) i)) t) → va_S A s.heap H locs → lv_has ls 2 [(0, .ref (b 0)), (1, .int (nI i))] → W p l e ({ frames := 0, cells := 0, slots := 0, locals := 0 }) s m [.ref (b 0)].toArray below meth c0 H locs 0 0 (GQv below D (tyA y) A (wR b y (fenceR r) t) [.ref (b 0)].toArray s) (F0 m 49 ls []) := by
          intro n49
          induction n49 with
          | zero =>
            intro i H locs ls hi hn hP hD hS hl
            omega
          | succ n49 ih49 =>
            intro i H locs ls hi hn hP hD hS hl
            refine lv_iload_n hx hb dX2_fence_49 rfl (lv_at hl 1 rfl) ?_
            refine lv_iconst (v := nI 4) hx hb dX2_fence_50 (by decide) ?_
            refine q_icmp_ge (tgt := 67) hx hb (show i < 2 ^ 31 by omega) (show 4 < 2 ^ 31 by omega) dX2_fence_51 (by decide) (fun (h51 : 4 ≤ i) => ?_) (fun (h51 : i < 4) => ?_)
            · have e4 : i = 4 := by omega
              subst e4
              exact retGv hx hb hr hlocks hK hP hD hS dX2_fence_67 rfl
            · refine lv_aload_n hx hb dX2_fence_54 rfl (lv_at hl 0 rfl) ?_
              refine rg_r3 hx hb hts hinX2 hown hK hP (hts (.fieldLink RX2 16 "FencedWordsModel" "flushed" "[Z") (List.mem_of_getElem? (i := 2) rfl)) dX2_fence_55 ?_
              refine lv_iload_n hx hb dX2_fence_58 rfl (lv_at hl 1 rfl) ?_
              refine lv_iconst (v := nI 0) hx hb dX2_fence_59 (by decide) ?_
              refine rt_fl (v := false) hx hb hK hP hD hS (show i < 4 by omega) dX2_fence_60 (fun H locs hP hD hS => ?_)
              refine lv_iinc (v := nI (i + 1)) (lv' := [(1, .int (nI (i + 1))), (0, .ref (b 0))]) hx hb dX2_fence_61 hl (k := 1) rfl (nI_add i 1) (by decide) rfl (fun ls hl => ?_)
              refine lv_goto (tgt := 49) hx hb dX2_fence_64 (by decide) ?_
              have hP : va_P D vwCl (wR b y (rs_fl (rs_fl (rs_K r (keepR r 32)) (clrB (r_fl r) i)) (upB (clrB (r_fl r) i) i false)) t) H := hP
              have hD : va_D A (wR b y (rs_fl (rs_fl (rs_K r (keepR r 32)) (clrB (r_fl r) i)) (upB (clrB (r_fl r) i) i false)) t) := hD
              rw [rss_fl, clrB_s] at hP hD
              exact ih49 (i + 1) _ _ _ (by omega) (by omega) hP hD hS (lv_sub hl [1, 0] rfl)
        have e0 : rs_K r (keepR r 32) = rs_fl (rs_K r (keepR r 32)) (clrB (r_fl r) 0) := (by rw [clrB_0]; rfl)
        rw [e0] at hP hD
        exact loop2 5 0 _ _ _ (by omega) (by omega) hP hD hS (lv_sub hl [1, 0] rfl)
      · refine lv_aload_n hx hb dX2_fence_8 rfl (lv_at hl 0 rfl) ?_
        refine rg_r2 hx hb hts hinX2 hown hK hP (hts (.fieldLink RX2 13 "FencedWordsModel" "kept" "[J") (List.mem_of_getElem? (i := 1) rfl)) dX2_fence_9 ?_
        refine lv_iload_n hx hb dX2_fence_12 rfl (lv_at hl 1 rfl) ?_
        refine lv_aload_n hx hb dX2_fence_13 rfl (lv_at hl 0 rfl) ?_
        refine rg_r3 hx hb hts hinX2 hown hK hP (hts (.fieldLink RX2 16 "FencedWordsModel" "flushed" "[Z") (List.mem_of_getElem? (i := 2) rfl)) dX2_fence_14 ?_
        refine lv_iload_n hx hb dX2_fence_17 rfl (lv_at hl 1 rfl) ?_
        refine lv_bipush (v := nI 8) hx hb dX2_fence_18 (by decide) ?_
        refine q_idiv hx hb (show i < 2 ^ 31 by omega) (show 0 < 8 by omega) (show 8 < 2 ^ 31 by omega) dX2_fence_20 ?_
        refine rl_fl hx hb hK hP (show (i / 8) < 4 by omega) dX2_fence_21 ?_
        refine q_ifb_eq (tgt := 34) hx hb dX2_fence_22 (by decide) (fun (h22 : (r_fl r (i / 8)) = false) => ?_) (fun (h22 : (r_fl r (i / 8)) = true) => ?_)
        · refine lv_aload_n hx hb dX2_fence_34 rfl (lv_at hl 0 rfl) ?_
          refine rg_r2 hx hb hts hinX2 hown hK hP (hts (.fieldLink RX2 13 "FencedWordsModel" "kept" "[J") (List.mem_of_getElem? (i := 1) rfl)) dX2_fence_35 ?_
          refine lv_iload_n hx hb dX2_fence_38 rfl (lv_at hl 1 rfl) ?_
          refine rl_K hx hb hK hP (show i < 32 by omega) dX2_fence_39 ?_
          refine rt_K (v := (keepR r i) i) hx hb hK hP hD hS (show i < 32 by omega) dX2_fence_40 (fun H locs hP hD hS => ?_)
          refine lv_iinc (v := nI (i + 1)) (lv' := [(1, .int (nI (i + 1))), (0, .ref (b 0))]) hx hb dX2_fence_41 hl (k := 1) rfl (nI_add i 1) (by decide) rfl (fun ls hl => ?_)
          refine lv_goto (tgt := 2) hx hb dX2_fence_44 (by decide) ?_
          have hP : va_P D vwCl (wR b y (rs_K (rs_K r (keepR r i)) (vp_updL (keepR r i) i ((keepR r i) i))) t) H := hP
          have hD : va_D A (wR b y (rs_K (rs_K r (keepR r i)) (vp_updL (keepR r i) i ((keepR r i) i))) t) := hD
          rw [rss_K, keepR_f h22] at hP hD
          exact ih2 (i + 1) _ _ _ (by omega) (by omega) hP hD hS (lv_sub hl [1, 0] rfl)
        · refine lv_aload_n hx hb dX2_fence_25 rfl (lv_at hl 0 rfl) ?_
          refine rg_r1 hx hb hts hinX2 hown hK hP (hts (.fieldLink RX2 7 "FencedWordsModel" "seen" "[J") (List.mem_of_getElem? (i := 3) rfl)) dX2_fence_26 ?_
          refine lv_iload_n hx hb dX2_fence_29 rfl (lv_at hl 1 rfl) ?_
          refine rl_S hx hb hK hP (show i < 32 by omega) dX2_fence_30 ?_
          refine lv_goto (tgt := 40) hx hb dX2_fence_31 (by decide) ?_
          refine rt_K (v := r_S r i) hx hb hK hP hD hS (show i < 32 by omega) dX2_fence_40 (fun H locs hP hD hS => ?_)
          refine lv_iinc (v := nI (i + 1)) (lv' := [(1, .int (nI (i + 1))), (0, .ref (b 0))]) hx hb dX2_fence_41 hl (k := 1) rfl (nI_add i 1) (by decide) rfl (fun ls hl => ?_)
          refine lv_goto (tgt := 2) hx hb dX2_fence_44 (by decide) ?_
          have hP : va_P D vwCl (wR b y (rs_K (rs_K r (keepR r i)) (vp_updL (keepR r i) i (r_S r i))) t) H := hP
          have hD : va_D A (wR b y (rs_K (rs_K r (keepR r i)) (vp_updL (keepR r i) i (r_S r i))) t) := hD
          rw [rss_K, keepR_t h22] at hP hD
          exact ih2 (i + 1) _ _ _ (by omega) (by omega) hP hD hS (lv_sub hl [1, 0] rfl)
  have e0 : r = rs_K r (keepR r 0) := (by rw [keepR_0]; rfl)
  rw [e0] at hP hD
  exact loop 33 0 _ _ _ (by omega) (by omega) hP hD hS (lv_sub hl [1, 0] rfl)
theorem in_X2_X2_stand : ∀ w ∈ wsX20, w ∈ wsX2_stand := fun w h => List.mem_cons_of_mem _ (List.mem_append_right _ (h))
set_option maxHeartbeats 400000 in
set_option maxRecDepth 100000 in
theorem mX2_stand (l : Launch) (y : Nat → ClassId) (t : va_W) (b : Nat → Nat) (r : RS) (h : Nat) (hz : r_rc r ≤ 20) : MGv l yX2_stand wsX2_stand 0 0 [.ref (b 0), .int (nI h)] (tyA y) (wR b y r t) (wR b y (standR h r) t) := by
  refine MGv.of (cc := cX2_stand) (maxL := 3) (by decide) rfl (Nat.le_of_ble_eq_true rfl) ?_
  intro D p e s m below meth c0 A ls hx hb hr hml hown hlocks hts hK hP hD hA hN hl hS
  have hl : lv_has ls 3 [(0, .ref (b 0)), (1, .int (nI h))] := hl
  have hinX2 : ∀ w ∈ u_ws RX2 TX2 19, w ∈ wsX2_stand := in_X2_X2_stand
  refine lv_iconst (v := nI 0) hx hb dX2_stand_0 (by decide) ?_
  refine lv_istore_n (lv' := [(2, .int (nI 0)), (0, .ref (b 0)), (1, .int (nI h))]) hx hb dX2_stand_1 rfl hl (by decide) rfl (fun ls hl => ?_)
  have loop : ∀ (n2 : Nat) (i : Nat) (H : Heap) (locs : List Loc) (ls : Array Slot), (i ≤ r_rc r) → (r_rc r + 1 ≤ i + n2) → va_P D vwCl (wR b y (rs_st r (setTo (r_st r) i h)) t) H → va_D A (wR b y (rs_st r (setTo (r_st r) i h)) t) → va_S A s.heap H locs → lv_has ls 3 [(0, .ref (b 0)), (1, .int (nI h)), (2, .int (nI i))] → W p l e ({ frames := 0, cells := 0, slots := 0, locals := 0 }) s m [.ref (b 0), .int (nI h)].toArray below meth c0 H locs 0 0 (GQv below D (tyA y) A (wR b y (standR h r) t) [.ref (b 0), .int (nI h)].toArray s) (F0 m 2 ls []) := by
    intro n2
    induction n2 with
    | zero =>
      intro i H locs ls hi hn hP hD hS hl
      omega
    | succ n2 ih2 =>
      intro i H locs ls hi hn hP hD hS hl
      refine lv_iload_n hx hb dX2_stand_2 rfl (lv_at hl 2 rfl) ?_
      refine lv_aload_n hx hb dX2_stand_3 rfl (lv_at hl 0 rfl) ?_
      refine rg_rc hx hb hts hinX2 hown hK hP (hts (.fieldLink RX2 52 "FencedWordsModel" "records" "I") (List.mem_of_getElem? (i := 1) rfl)) dX2_stand_4 ?_
      refine q_icmp_ge (tgt := 23) hx hb (show i < 2 ^ 31 by omega) (show (r_rc r) < 2 ^ 31 by omega) dX2_stand_7 (by decide) (fun (h7 : (r_rc r) ≤ i) => ?_) (fun (h7 : i < (r_rc r)) => ?_)
      · have er : i = r_rc r := by omega
        subst er
        exact retGv hx hb hr hlocks hK hP hD hS dX2_stand_23 rfl
      · refine lv_aload_n hx hb dX2_stand_10 rfl (lv_at hl 0 rfl) ?_
        refine rg_r7 hx hb hts hinX2 hown hK hP (hts (.fieldLink RX2 30 "FencedWordsModel" "stands" "[I") (List.mem_of_getElem? (i := 2) rfl)) dX2_stand_11 ?_
        refine lv_iload_n hx hb dX2_stand_14 rfl (lv_at hl 2 rfl) ?_
        refine lv_iload_n hx hb dX2_stand_15 rfl (lv_at hl 1 rfl) ?_
        refine rt_st (v := h) hx hb hK hP hD hS (show i < 20 by omega) dX2_stand_16 (fun H locs hP hD hS => ?_)
        refine lv_iinc (v := nI (i + 1)) (lv' := [(2, .int (nI (i + 1))), (0, .ref (b 0)), (1, .int (nI h))]) hx hb dX2_stand_17 hl (k := 2) rfl (nI_add i 1) (by decide) rfl (fun ls hl => ?_)
        refine lv_goto (tgt := 2) hx hb dX2_stand_20 (by decide) ?_
        have hP : va_P D vwCl (wR b y (rs_st (rs_st r (setTo (r_st r) i h)) (upN (setTo (r_st r) i h) i h)) t) H := hP
        have hD : va_D A (wR b y (rs_st (rs_st r (setTo (r_st r) i h)) (upN (setTo (r_st r) i h) i h)) t) := hD
        rw [rss_st, setTo_s] at hP hD
        exact ih2 (i + 1) _ _ _ (by omega) (by omega) hP hD hS (lv_sub hl [1, 2, 0] rfl)
  have e0 : r = rs_st r (setTo (r_st r) 0 h) := (by rw [setTo_0]; rfl)
  rw [e0] at hP hD
  exact loop (r_rc r + 1) 0 _ _ _ (by omega) (by omega) hP hD hS (lv_sub hl [1, 2, 0] rfl)
theorem in_X2_X2_bit : ∀ w ∈ wsX20, w ∈ wsX2_bit := fun w h => List.mem_cons_of_mem _ (List.mem_append_right _ (h))
set_option maxHeartbeats 400000 in
set_option maxRecDepth 100000 in
theorem mX2_bit (l : Launch) (y : Nat → ClassId) (t : va_W) (b : Nat → Nat) (r : RS) (k : Nat) (hk : k < 64) : MGi l yX2_bit wsX2_bit 0 0 [.ref (b 0), .int (nI k)] (tyA y) (wR b y r t) (bI (hbL (r_mk r) k)) (wR b y r t) := by
  refine MGi.of (cc := cX2_bit) (maxL := 2) (by decide) rfl (Nat.le_of_ble_eq_true rfl) ?_
  intro D p e s m below meth c0 A ls hx hb hr hml hown hlocks hts hK hP hD hA hN hl hS
  have hl : lv_has ls 2 [(0, .ref (b 0)), (1, .int (nI k))] := hl
  have hinX2 : ∀ w ∈ u_ws RX2 TX2 19, w ∈ wsX2_bit := in_X2_X2_bit
  refine lv_aload_n hx hb dX2_bit_0 rfl (lv_at hl 0 rfl) ?_
  refine rg_mk hx hb hts hinX2 hown hK hP (hts (.fieldLink RX2 74 "FencedWordsModel" "mask" "J") (List.mem_of_getElem? (i := 1) rfl)) dX2_bit_1 ?_
  refine lv_iload_n hx hb dX2_bit_4 rfl (lv_at hl 1 rfl) ?_
  refine lv_lshr hx hb dX2_bit_5 rfl ?_
  refine lv_lconst (v := 1) hx hb dX2_bit_6 (by decide) ?_
  refine lv_land hx hb dX2_bit_7 ?_
  refine lv_lconst (v := 1) hx hb dX2_bit_8 (by decide) ?_
  refine W.lcmp hx hb dX2_bit_9 ?_
  refine lv_if_ne (tgt := 17) hx hb dX2_bit_10 (by decide) (fun (h10 : ¬ (lg_cmp (((r_mk r) >>> ((nI k).toInt64 &&& 63)) &&& 1) 1) = 0) => ?_) (fun (h10 : (lg_cmp (((r_mk r) >>> ((nI k).toInt64 &&& 63)) &&& 1) 1) = 0) => ?_)
  · refine lv_iconst (v := nI 0) hx hb dX2_bit_17 (by decide) ?_
    exact retGz hx hb hr hlocks hK hP hD hS dX2_bit_18 (by have q := sb_cmp1 (r_mk r) hk; simp [h10] at q; simp [q, bI] <;> rfl) rfl
  · refine lv_iconst (v := nI 1) hx hb dX2_bit_13 (by decide) ?_
    refine lv_goto (tgt := 18) hx hb dX2_bit_14 (by decide) ?_
    exact retGz hx hb hr hlocks hK hP hD hS dX2_bit_18 (by have q := sb_cmp1 (r_mk r) hk; simp [h10] at q; simp [q, bI] <;> rfl) rfl
theorem in_X2_X2_one : ∀ w ∈ wsX20, w ∈ wsX2_one := fun w h => List.mem_cons_of_mem _ (List.mem_append_right _ (h))
set_option maxHeartbeats 400000 in
set_option maxRecDepth 100000 in
theorem mX2_one_0 (l : Launch) (y : Nat → ClassId) (t : va_W) (b : Nat → Nat) (r : RS) (k : Nat) (hk : k < 64) (hz : r_rc r ≤ 20) (hw : r_an r k = 0)  : MGv l yX2_one wsX2_one 1 22 [.ref (b 0), .int (nI k)] (tyA y) (wR b y r t) (wR b y (oneR 0 (r_on r k) (r_wi r k) r) t) := by
  refine MGv.of (cc := cX2_one) (maxL := 3) (by decide) rfl (Nat.le_of_ble_eq_true rfl) ?_
  intro D p e s m below meth c0 A ls hx hb hr hml hown hlocks hts hK hP hD hA hN hl hS
  have hl : lv_has ls 3 [(0, .ref (b 0)), (1, .int (nI k))] := hl
  have hinX2 : ∀ w ∈ u_ws RX2 TX2 19, w ∈ wsX2_one := in_X2_X2_one
  refine lv_aload_n hx hb dX2_one_0 rfl (lv_at hl 0 rfl) ?_
  refine rg_r10 hx hb hts hinX2 hown hK hP (hts (.fieldLink RX2 39 "FencedWordsModel" "act" "[I") (List.mem_of_getElem? (i := 1) rfl)) dX2_one_1 ?_
  refine lv_iload_n hx hb dX2_one_4 rfl (lv_at hl 1 rfl) ?_
  refine rl_an hx hb hK hP (show k < 64 by omega) dX2_one_5 ?_
  rw [hw]
  refine lv_istore_n (lv' := [(2, .int (nI 0)), (0, .ref (b 0)), (1, .int (nI k))]) hx hb dX2_one_6 rfl hl (by decide) rfl (fun ls hl => ?_)
  refine lv_aload_n hx hb dX2_one_7 rfl (lv_at hl 1 rfl) ?_
  refine lv_dup hx hb dX2_one_8 rfl ?_
  refine rg_me hx hb hts hinX2 hown hK hP (hts (.fieldLink RX2 55 "FencedWordsModel" "meter" "I") (List.mem_of_getElem? (i := 2) rfl)) dX2_one_9 ?_
  refine lv_iconst (v := nI 1) hx hb dX2_one_12 (by decide) ?_
  refine lv_iadd hx hb dX2_one_13 ?_
  refine rp_me (v := (r_me r) + (nI 1)) hx hb hts hinX2 hown hK hP hD hS (hts (.fieldLink RX2 55 "FencedWordsModel" "meter" "I") (List.mem_of_getElem? (i := 2) rfl)) dX2_one_14 (fun H locs hP hD hS => ?_)
  refine lv_iload_n hx hb dX2_one_17 rfl (lv_at hl 0 rfl) ?_
  refine lv_iconst (v := nI 1) hx hb dX2_one_18 (by decide) ?_
  refine q_icmp_ne (tgt := 39) hx hb (show 0 < 2 ^ 31 by omega) (show 1 < 2 ^ 31 by omega) dX2_one_19 (by decide) (fun _ => ?_) (fun h19 => absurd h19 (by decide))
  refine lv_iload_n hx hb dX2_one_39 rfl (lv_at hl 0 rfl) ?_
  refine lv_iconst (v := nI 2) hx hb dX2_one_40 (by decide) ?_
  refine q_icmp_ne (tgt := 56) hx hb (show 0 < 2 ^ 31 by omega) (show 2 < 2 ^ 31 by omega) dX2_one_41 (by decide) (fun _ => ?_) (fun h41 => absurd h41 (by decide))
  refine lv_iload_n hx hb dX2_one_56 rfl (lv_at hl 0 rfl) ?_
  refine lv_iconst (v := nI 3) hx hb dX2_one_57 (by decide) ?_
  refine q_icmp_eq (tgt := 72) hx hb (show 0 < 2 ^ 31 by omega) (show 3 < 2 ^ 31 by omega) dX2_one_58 (by decide) (fun h58 => absurd h58 (by decide)) (fun _ => ?_)
  refine lv_iload_n hx hb dX2_one_61 rfl (lv_at hl 0 rfl) ?_
  refine lv_iconst (v := nI 5) hx hb dX2_one_62 (by decide) ?_
  refine q_icmp_eq (tgt := 72) hx hb (show 0 < 2 ^ 31 by omega) (show 5 < 2 ^ 31 by omega) dX2_one_63 (by decide) (fun h63 => absurd h63 (by decide)) (fun _ => ?_)
  refine lv_iload_n hx hb dX2_one_66 rfl (lv_at hl 0 rfl) ?_
  refine lv_bipush (v := nI 7) hx hb dX2_one_67 (by decide) ?_
  refine q_icmp_ne (tgt := 76) hx hb (show 0 < 2 ^ 31 by omega) (show 7 < 2 ^ 31 by omega) dX2_one_69 (by decide) (fun _ => ?_) (fun h69 => absurd h69 (by decide))
  refine lv_iload_n hx hb dX2_one_76 rfl (lv_at hl 0 rfl) ?_
  refine lv_iconst (v := nI 4) hx hb dX2_one_77 (by decide) ?_
  refine q_icmp_ne (tgt := 93) hx hb (show 0 < 2 ^ 31 by omega) (show 4 < 2 ^ 31 by omega) dX2_one_78 (by decide) (fun _ => ?_) (fun h78 => absurd h78 (by decide))
  refine lv_iload_n hx hb dX2_one_93 rfl (lv_at hl 0 rfl) ?_
  refine lv_iconst (v := nI 5) hx hb dX2_one_94 (by decide) ?_
  refine q_icmp_ne (tgt := 110) hx hb (show 0 < 2 ^ 31 by omega) (show 5 < 2 ^ 31 by omega) dX2_one_95 (by decide) (fun _ => ?_) (fun h95 => absurd h95 (by decide))
  refine lv_iload_n hx hb dX2_one_110 rfl (lv_at hl 0 rfl) ?_
  refine lv_bipush (v := nI 6) hx hb dX2_one_111 (by decide) ?_
  refine q_icmp_ne (tgt := 121) hx hb (show 0 < 2 ^ 31 by omega) (show 6 < 2 ^ 31 by omega) dX2_one_113 (by decide) (fun _ => ?_) (fun h113 => absurd h113 (by decide))
  refine lv_iload_n hx hb dX2_one_121 rfl (lv_at hl 0 rfl) ?_
  refine lv_bipush (v := nI 7) hx hb dX2_one_122 (by decide) ?_
  refine q_icmp_ne (tgt := 132) hx hb (show 0 < 2 ^ 31 by omega) (show 7 < 2 ^ 31 by omega) dX2_one_124 (by decide) (fun _ => ?_) (fun h124 => absurd h124 (by decide))
  exact retGv hx hb hr hlocks hK hP hD hS dX2_one_132 rfl
set_option maxHeartbeats 400000 in
set_option maxRecDepth 100000 in
theorem mX2_one_1 (l : Launch) (y : Nat → ClassId) (t : va_W) (b : Nat → Nat) (r : RS) (k : Nat) (hk : k < 64) (hz : r_rc r ≤ 20) (hw : r_an r k = 1) (h1 : r_on r k < 32) : MGv l yX2_one wsX2_one 1 22 [.ref (b 0), .int (nI k)] (tyA y) (wR b y r t) (wR b y (oneR 1 (r_on r k) (r_wi r k) r) t) := by
  refine MGv.of (cc := cX2_one) (maxL := 3) (by decide) rfl (Nat.le_of_ble_eq_true rfl) ?_
  intro D p e s m below meth c0 A ls hx hb hr hml hown hlocks hts hK hP hD hA hN hl hS
  have hl : lv_has ls 3 [(0, .ref (b 0)), (1, .int (nI k))] := hl
  have hinX2 : ∀ w ∈ u_ws RX2 TX2 19, w ∈ wsX2_one := in_X2_X2_one
  refine lv_aload_n hx hb dX2_one_0 rfl (lv_at hl 0 rfl) ?_
  refine rg_r10 hx hb hts hinX2 hown hK hP (hts (.fieldLink RX2 39 "FencedWordsModel" "act" "[I") (List.mem_of_getElem? (i := 1) rfl)) dX2_one_1 ?_
  refine lv_iload_n hx hb dX2_one_4 rfl (lv_at hl 1 rfl) ?_
  refine rl_an hx hb hK hP (show k < 64 by omega) dX2_one_5 ?_
  rw [hw]
  refine lv_istore_n (lv' := [(2, .int (nI 1)), (0, .ref (b 0)), (1, .int (nI k))]) hx hb dX2_one_6 rfl hl (by decide) rfl (fun ls hl => ?_)
  refine lv_aload_n hx hb dX2_one_7 rfl (lv_at hl 1 rfl) ?_
  refine lv_dup hx hb dX2_one_8 rfl ?_
  refine rg_me hx hb hts hinX2 hown hK hP (hts (.fieldLink RX2 55 "FencedWordsModel" "meter" "I") (List.mem_of_getElem? (i := 2) rfl)) dX2_one_9 ?_
  refine lv_iconst (v := nI 1) hx hb dX2_one_12 (by decide) ?_
  refine lv_iadd hx hb dX2_one_13 ?_
  refine rp_me (v := (r_me r) + (nI 1)) hx hb hts hinX2 hown hK hP hD hS (hts (.fieldLink RX2 55 "FencedWordsModel" "meter" "I") (List.mem_of_getElem? (i := 2) rfl)) dX2_one_14 (fun H locs hP hD hS => ?_)
  refine lv_iload_n hx hb dX2_one_17 rfl (lv_at hl 0 rfl) ?_
  refine lv_iconst (v := nI 1) hx hb dX2_one_18 (by decide) ?_
  refine q_icmp_ne (tgt := 39) hx hb (show 1 < 2 ^ 31 by omega) (show 1 < 2 ^ 31 by omega) dX2_one_19 (by decide) (fun h19 => absurd h19 (by decide)) (fun _ => ?_)
  refine lv_aload_n hx hb dX2_one_22 rfl (lv_at hl 1 rfl) ?_
  refine rg_r1 hx hb hts hinX2 hown hK hP (hts (.fieldLink RX2 7 "FencedWordsModel" "seen" "[J") (List.mem_of_getElem? (i := 3) rfl)) dX2_one_23 ?_
  refine lv_aload_n hx hb dX2_one_26 rfl (lv_at hl 1 rfl) ?_
  refine rg_r11 hx hb hts hinX2 hown hK hP (hts (.fieldLink RX2 42 "FencedWordsModel" "on" "[I") (List.mem_of_getElem? (i := 4) rfl)) dX2_one_27 ?_
  refine lv_iload_n hx hb dX2_one_30 rfl (lv_at hl 2 rfl) ?_
  refine rl_on hx hb hK hP (show k < 64 by omega) dX2_one_31 ?_
  refine lv_aload_n hx hb dX2_one_32 rfl (lv_at hl 1 rfl) ?_
  refine rg_r12 hx hb hts hinX2 hown hK hP (hts (.fieldLink RX2 45 "FencedWordsModel" "with" "[J") (List.mem_of_getElem? (i := 5) rfl)) dX2_one_33 ?_
  refine lv_iload_n hx hb dX2_one_36 rfl (lv_at hl 2 rfl) ?_
  refine rl_wi hx hb hK hP (show k < 64 by omega) dX2_one_37 ?_
  refine rt_S (v := r_wi r k) hx hb hK hP hD hS (show (r_on r k) < 32 by omega) dX2_one_38 (fun H locs hP hD hS => ?_)
  refine lv_iload_n hx hb dX2_one_39 rfl (lv_at hl 0 rfl) ?_
  refine lv_iconst (v := nI 2) hx hb dX2_one_40 (by decide) ?_
  refine q_icmp_ne (tgt := 56) hx hb (show 1 < 2 ^ 31 by omega) (show 2 < 2 ^ 31 by omega) dX2_one_41 (by decide) (fun _ => ?_) (fun h41 => absurd h41 (by decide))
  refine lv_iload_n hx hb dX2_one_56 rfl (lv_at hl 0 rfl) ?_
  refine lv_iconst (v := nI 3) hx hb dX2_one_57 (by decide) ?_
  refine q_icmp_eq (tgt := 72) hx hb (show 1 < 2 ^ 31 by omega) (show 3 < 2 ^ 31 by omega) dX2_one_58 (by decide) (fun h58 => absurd h58 (by decide)) (fun _ => ?_)
  refine lv_iload_n hx hb dX2_one_61 rfl (lv_at hl 0 rfl) ?_
  refine lv_iconst (v := nI 5) hx hb dX2_one_62 (by decide) ?_
  refine q_icmp_eq (tgt := 72) hx hb (show 1 < 2 ^ 31 by omega) (show 5 < 2 ^ 31 by omega) dX2_one_63 (by decide) (fun h63 => absurd h63 (by decide)) (fun _ => ?_)
  refine lv_iload_n hx hb dX2_one_66 rfl (lv_at hl 0 rfl) ?_
  refine lv_bipush (v := nI 7) hx hb dX2_one_67 (by decide) ?_
  refine q_icmp_ne (tgt := 76) hx hb (show 1 < 2 ^ 31 by omega) (show 7 < 2 ^ 31 by omega) dX2_one_69 (by decide) (fun _ => ?_) (fun h69 => absurd h69 (by decide))
  refine lv_iload_n hx hb dX2_one_76 rfl (lv_at hl 0 rfl) ?_
  refine lv_iconst (v := nI 4) hx hb dX2_one_77 (by decide) ?_
  refine q_icmp_ne (tgt := 93) hx hb (show 1 < 2 ^ 31 by omega) (show 4 < 2 ^ 31 by omega) dX2_one_78 (by decide) (fun _ => ?_) (fun h78 => absurd h78 (by decide))
  refine lv_iload_n hx hb dX2_one_93 rfl (lv_at hl 0 rfl) ?_
  refine lv_iconst (v := nI 5) hx hb dX2_one_94 (by decide) ?_
  refine q_icmp_ne (tgt := 110) hx hb (show 1 < 2 ^ 31 by omega) (show 5 < 2 ^ 31 by omega) dX2_one_95 (by decide) (fun _ => ?_) (fun h95 => absurd h95 (by decide))
  refine lv_iload_n hx hb dX2_one_110 rfl (lv_at hl 0 rfl) ?_
  refine lv_bipush (v := nI 6) hx hb dX2_one_111 (by decide) ?_
  refine q_icmp_ne (tgt := 121) hx hb (show 1 < 2 ^ 31 by omega) (show 6 < 2 ^ 31 by omega) dX2_one_113 (by decide) (fun _ => ?_) (fun h113 => absurd h113 (by decide))
  refine lv_iload_n hx hb dX2_one_121 rfl (lv_at hl 0 rfl) ?_
  refine lv_bipush (v := nI 7) hx hb dX2_one_122 (by decide) ?_
  refine q_icmp_ne (tgt := 132) hx hb (show 1 < 2 ^ 31 by omega) (show 7 < 2 ^ 31 by omega) dX2_one_124 (by decide) (fun _ => ?_) (fun h124 => absurd h124 (by decide))
  exact retGv hx hb hr hlocks hK hP hD hS dX2_one_132 rfl
set_option maxHeartbeats 400000 in
set_option maxRecDepth 100000 in
theorem mX2_one_2 (l : Launch) (y : Nat → ClassId) (t : va_W) (b : Nat → Nat) (r : RS) (k : Nat) (hk : k < 64) (hz : r_rc r ≤ 20) (hw : r_an r k = 2) (h1 : r_on r k < 4) : MGv l yX2_one wsX2_one 1 22 [.ref (b 0), .int (nI k)] (tyA y) (wR b y r t) (wR b y (oneR 2 (r_on r k) (r_wi r k) r) t) := by
  refine MGv.of (cc := cX2_one) (maxL := 3) (by decide) rfl (Nat.le_of_ble_eq_true rfl) ?_
  intro D p e s m below meth c0 A ls hx hb hr hml hown hlocks hts hK hP hD hA hN hl hS
  have hl : lv_has ls 3 [(0, .ref (b 0)), (1, .int (nI k))] := hl
  have hinX2 : ∀ w ∈ u_ws RX2 TX2 19, w ∈ wsX2_one := in_X2_X2_one
  refine lv_aload_n hx hb dX2_one_0 rfl (lv_at hl 0 rfl) ?_
  refine rg_r10 hx hb hts hinX2 hown hK hP (hts (.fieldLink RX2 39 "FencedWordsModel" "act" "[I") (List.mem_of_getElem? (i := 1) rfl)) dX2_one_1 ?_
  refine lv_iload_n hx hb dX2_one_4 rfl (lv_at hl 1 rfl) ?_
  refine rl_an hx hb hK hP (show k < 64 by omega) dX2_one_5 ?_
  rw [hw]
  refine lv_istore_n (lv' := [(2, .int (nI 2)), (0, .ref (b 0)), (1, .int (nI k))]) hx hb dX2_one_6 rfl hl (by decide) rfl (fun ls hl => ?_)
  refine lv_aload_n hx hb dX2_one_7 rfl (lv_at hl 1 rfl) ?_
  refine lv_dup hx hb dX2_one_8 rfl ?_
  refine rg_me hx hb hts hinX2 hown hK hP (hts (.fieldLink RX2 55 "FencedWordsModel" "meter" "I") (List.mem_of_getElem? (i := 2) rfl)) dX2_one_9 ?_
  refine lv_iconst (v := nI 1) hx hb dX2_one_12 (by decide) ?_
  refine lv_iadd hx hb dX2_one_13 ?_
  refine rp_me (v := (r_me r) + (nI 1)) hx hb hts hinX2 hown hK hP hD hS (hts (.fieldLink RX2 55 "FencedWordsModel" "meter" "I") (List.mem_of_getElem? (i := 2) rfl)) dX2_one_14 (fun H locs hP hD hS => ?_)
  refine lv_iload_n hx hb dX2_one_17 rfl (lv_at hl 0 rfl) ?_
  refine lv_iconst (v := nI 1) hx hb dX2_one_18 (by decide) ?_
  refine q_icmp_ne (tgt := 39) hx hb (show 2 < 2 ^ 31 by omega) (show 1 < 2 ^ 31 by omega) dX2_one_19 (by decide) (fun _ => ?_) (fun h19 => absurd h19 (by decide))
  refine lv_iload_n hx hb dX2_one_39 rfl (lv_at hl 0 rfl) ?_
  refine lv_iconst (v := nI 2) hx hb dX2_one_40 (by decide) ?_
  refine q_icmp_ne (tgt := 56) hx hb (show 2 < 2 ^ 31 by omega) (show 2 < 2 ^ 31 by omega) dX2_one_41 (by decide) (fun h41 => absurd h41 (by decide)) (fun _ => ?_)
  refine lv_aload_n hx hb dX2_one_44 rfl (lv_at hl 1 rfl) ?_
  refine rg_r3 hx hb hts hinX2 hown hK hP (hts (.fieldLink RX2 16 "FencedWordsModel" "flushed" "[Z") (List.mem_of_getElem? (i := 6) rfl)) dX2_one_45 ?_
  refine lv_aload_n hx hb dX2_one_48 rfl (lv_at hl 1 rfl) ?_
  refine rg_r11 hx hb hts hinX2 hown hK hP (hts (.fieldLink RX2 42 "FencedWordsModel" "on" "[I") (List.mem_of_getElem? (i := 4) rfl)) dX2_one_49 ?_
  refine lv_iload_n hx hb dX2_one_52 rfl (lv_at hl 2 rfl) ?_
  refine rl_on hx hb hK hP (show k < 64 by omega) dX2_one_53 ?_
  refine lv_iconst (v := nI 1) hx hb dX2_one_54 (by decide) ?_
  refine rt_fl (v := true) hx hb hK hP hD hS (show (r_on r k) < 4 by omega) dX2_one_55 (fun H locs hP hD hS => ?_)
  refine lv_iload_n hx hb dX2_one_56 rfl (lv_at hl 0 rfl) ?_
  refine lv_iconst (v := nI 3) hx hb dX2_one_57 (by decide) ?_
  refine q_icmp_eq (tgt := 72) hx hb (show 2 < 2 ^ 31 by omega) (show 3 < 2 ^ 31 by omega) dX2_one_58 (by decide) (fun h58 => absurd h58 (by decide)) (fun _ => ?_)
  refine lv_iload_n hx hb dX2_one_61 rfl (lv_at hl 0 rfl) ?_
  refine lv_iconst (v := nI 5) hx hb dX2_one_62 (by decide) ?_
  refine q_icmp_eq (tgt := 72) hx hb (show 2 < 2 ^ 31 by omega) (show 5 < 2 ^ 31 by omega) dX2_one_63 (by decide) (fun h63 => absurd h63 (by decide)) (fun _ => ?_)
  refine lv_iload_n hx hb dX2_one_66 rfl (lv_at hl 0 rfl) ?_
  refine lv_bipush (v := nI 7) hx hb dX2_one_67 (by decide) ?_
  refine q_icmp_ne (tgt := 76) hx hb (show 2 < 2 ^ 31 by omega) (show 7 < 2 ^ 31 by omega) dX2_one_69 (by decide) (fun _ => ?_) (fun h69 => absurd h69 (by decide))
  refine lv_iload_n hx hb dX2_one_76 rfl (lv_at hl 0 rfl) ?_
  refine lv_iconst (v := nI 4) hx hb dX2_one_77 (by decide) ?_
  refine q_icmp_ne (tgt := 93) hx hb (show 2 < 2 ^ 31 by omega) (show 4 < 2 ^ 31 by omega) dX2_one_78 (by decide) (fun _ => ?_) (fun h78 => absurd h78 (by decide))
  refine lv_iload_n hx hb dX2_one_93 rfl (lv_at hl 0 rfl) ?_
  refine lv_iconst (v := nI 5) hx hb dX2_one_94 (by decide) ?_
  refine q_icmp_ne (tgt := 110) hx hb (show 2 < 2 ^ 31 by omega) (show 5 < 2 ^ 31 by omega) dX2_one_95 (by decide) (fun _ => ?_) (fun h95 => absurd h95 (by decide))
  refine lv_iload_n hx hb dX2_one_110 rfl (lv_at hl 0 rfl) ?_
  refine lv_bipush (v := nI 6) hx hb dX2_one_111 (by decide) ?_
  refine q_icmp_ne (tgt := 121) hx hb (show 2 < 2 ^ 31 by omega) (show 6 < 2 ^ 31 by omega) dX2_one_113 (by decide) (fun _ => ?_) (fun h113 => absurd h113 (by decide))
  refine lv_iload_n hx hb dX2_one_121 rfl (lv_at hl 0 rfl) ?_
  refine lv_bipush (v := nI 7) hx hb dX2_one_122 (by decide) ?_
  refine q_icmp_ne (tgt := 132) hx hb (show 2 < 2 ^ 31 by omega) (show 7 < 2 ^ 31 by omega) dX2_one_124 (by decide) (fun _ => ?_) (fun h124 => absurd h124 (by decide))
  exact retGv hx hb hr hlocks hK hP hD hS dX2_one_132 rfl
set_option maxHeartbeats 400000 in
set_option maxRecDepth 100000 in
theorem mX2_one_3 (l : Launch) (y : Nat → ClassId) (t : va_W) (b : Nat → Nat) (r : RS) (k : Nat) (hk : k < 64) (hz : r_rc r ≤ 20) (hw : r_an r k = 3)  : MGv l yX2_one wsX2_one 1 22 [.ref (b 0), .int (nI k)] (tyA y) (wR b y r t) (wR b y (oneR 3 (r_on r k) (r_wi r k) r) t) := by
  refine MGv.of (cc := cX2_one) (maxL := 3) (by decide) rfl (Nat.le_of_ble_eq_true rfl) ?_
  intro D p e s m below meth c0 A ls hx hb hr hml hown hlocks hts hK hP hD hA hN hl hS
  have hl : lv_has ls 3 [(0, .ref (b 0)), (1, .int (nI k))] := hl
  have hinX2 : ∀ w ∈ u_ws RX2 TX2 19, w ∈ wsX2_one := in_X2_X2_one
  refine lv_aload_n hx hb dX2_one_0 rfl (lv_at hl 0 rfl) ?_
  refine rg_r10 hx hb hts hinX2 hown hK hP (hts (.fieldLink RX2 39 "FencedWordsModel" "act" "[I") (List.mem_of_getElem? (i := 1) rfl)) dX2_one_1 ?_
  refine lv_iload_n hx hb dX2_one_4 rfl (lv_at hl 1 rfl) ?_
  refine rl_an hx hb hK hP (show k < 64 by omega) dX2_one_5 ?_
  rw [hw]
  refine lv_istore_n (lv' := [(2, .int (nI 3)), (0, .ref (b 0)), (1, .int (nI k))]) hx hb dX2_one_6 rfl hl (by decide) rfl (fun ls hl => ?_)
  refine lv_aload_n hx hb dX2_one_7 rfl (lv_at hl 1 rfl) ?_
  refine lv_dup hx hb dX2_one_8 rfl ?_
  refine rg_me hx hb hts hinX2 hown hK hP (hts (.fieldLink RX2 55 "FencedWordsModel" "meter" "I") (List.mem_of_getElem? (i := 2) rfl)) dX2_one_9 ?_
  refine lv_iconst (v := nI 1) hx hb dX2_one_12 (by decide) ?_
  refine lv_iadd hx hb dX2_one_13 ?_
  refine rp_me (v := (r_me r) + (nI 1)) hx hb hts hinX2 hown hK hP hD hS (hts (.fieldLink RX2 55 "FencedWordsModel" "meter" "I") (List.mem_of_getElem? (i := 2) rfl)) dX2_one_14 (fun H locs hP hD hS => ?_)
  refine lv_iload_n hx hb dX2_one_17 rfl (lv_at hl 0 rfl) ?_
  refine lv_iconst (v := nI 1) hx hb dX2_one_18 (by decide) ?_
  refine q_icmp_ne (tgt := 39) hx hb (show 3 < 2 ^ 31 by omega) (show 1 < 2 ^ 31 by omega) dX2_one_19 (by decide) (fun _ => ?_) (fun h19 => absurd h19 (by decide))
  refine lv_iload_n hx hb dX2_one_39 rfl (lv_at hl 0 rfl) ?_
  refine lv_iconst (v := nI 2) hx hb dX2_one_40 (by decide) ?_
  refine q_icmp_ne (tgt := 56) hx hb (show 3 < 2 ^ 31 by omega) (show 2 < 2 ^ 31 by omega) dX2_one_41 (by decide) (fun _ => ?_) (fun h41 => absurd h41 (by decide))
  refine lv_iload_n hx hb dX2_one_56 rfl (lv_at hl 0 rfl) ?_
  refine lv_iconst (v := nI 3) hx hb dX2_one_57 (by decide) ?_
  refine q_icmp_eq (tgt := 72) hx hb (show 3 < 2 ^ 31 by omega) (show 3 < 2 ^ 31 by omega) dX2_one_58 (by decide) (fun _ => ?_) (fun h58 => absurd h58 (by decide))
  refine lv_aload_n hx hb dX2_one_72 rfl (lv_at hl 1 rfl) ?_
  refine callVv (rest := []) ⟨hx, hb, hml, hown, hts⟩ (mX2_fence l y t b (rs_me r ((r_me r) + (nI 1)))) (cwV 0 hts gX2_one_X2_fence rfl rfl rfl (by decide +kernel) ⟨Nat.le_of_ble_eq_true rfl, Nat.le_of_ble_eq_true rfl⟩) (va_recv hK hP (ci := 2) (q0 := 0) rfl rfl) hK hP hD hS hA hN rfl hl.1 rfl (Nat.le_of_ble_eq_true rfl) dX2_one_73 ⟨Nat.le_of_ble_eq_true rfl, Nat.le_of_ble_eq_true rfl⟩ (fun H locs hP hD hS => ?_)
  generalize hc1 : fenceR (rs_me r ((r_me r) + (nI 1))) = c1 at hP hD
  have hP : va_P D vwCl (wR b y c1 t) H := hP
  have hD : va_D A (wR b y c1 t) := hD
  have hrc : r_rc c1 = r_rc r := (by rw [← hc1]; rfl)
  refine lv_iload_n hx hb dX2_one_76 rfl (lv_at hl 0 rfl) ?_
  refine lv_iconst (v := nI 4) hx hb dX2_one_77 (by decide) ?_
  refine q_icmp_ne (tgt := 93) hx hb (show 3 < 2 ^ 31 by omega) (show 4 < 2 ^ 31 by omega) dX2_one_78 (by decide) (fun _ => ?_) (fun h78 => absurd h78 (by decide))
  refine lv_iload_n hx hb dX2_one_93 rfl (lv_at hl 0 rfl) ?_
  refine lv_iconst (v := nI 5) hx hb dX2_one_94 (by decide) ?_
  refine q_icmp_ne (tgt := 110) hx hb (show 3 < 2 ^ 31 by omega) (show 5 < 2 ^ 31 by omega) dX2_one_95 (by decide) (fun _ => ?_) (fun h95 => absurd h95 (by decide))
  refine lv_iload_n hx hb dX2_one_110 rfl (lv_at hl 0 rfl) ?_
  refine lv_bipush (v := nI 6) hx hb dX2_one_111 (by decide) ?_
  refine q_icmp_ne (tgt := 121) hx hb (show 3 < 2 ^ 31 by omega) (show 6 < 2 ^ 31 by omega) dX2_one_113 (by decide) (fun _ => ?_) (fun h113 => absurd h113 (by decide))
  refine lv_iload_n hx hb dX2_one_121 rfl (lv_at hl 0 rfl) ?_
  refine lv_bipush (v := nI 7) hx hb dX2_one_122 (by decide) ?_
  refine q_icmp_ne (tgt := 132) hx hb (show 3 < 2 ^ 31 by omega) (show 7 < 2 ^ 31 by omega) dX2_one_124 (by decide) (fun _ => ?_) (fun h124 => absurd h124 (by decide))
  exact retGv hx hb hr hlocks hK hP hD hS dX2_one_132 (by rw [← hc1]; rfl)
set_option maxHeartbeats 400000 in
set_option maxRecDepth 100000 in
theorem mX2_one_4 (l : Launch) (y : Nat → ClassId) (t : va_W) (b : Nat → Nat) (r : RS) (k : Nat) (hk : k < 64) (hz : r_rc r ≤ 20) (hw : r_an r k = 4) (h1 : 1 ≤ r_rc r) : MGv l yX2_one wsX2_one 1 22 [.ref (b 0), .int (nI k)] (tyA y) (wR b y r t) (wR b y (oneR 4 (r_on r k) (r_wi r k) r) t) := by
  refine MGv.of (cc := cX2_one) (maxL := 3) (by decide) rfl (Nat.le_of_ble_eq_true rfl) ?_
  intro D p e s m below meth c0 A ls hx hb hr hml hown hlocks hts hK hP hD hA hN hl hS
  have hl : lv_has ls 3 [(0, .ref (b 0)), (1, .int (nI k))] := hl
  have hinX2 : ∀ w ∈ u_ws RX2 TX2 19, w ∈ wsX2_one := in_X2_X2_one
  refine lv_aload_n hx hb dX2_one_0 rfl (lv_at hl 0 rfl) ?_
  refine rg_r10 hx hb hts hinX2 hown hK hP (hts (.fieldLink RX2 39 "FencedWordsModel" "act" "[I") (List.mem_of_getElem? (i := 1) rfl)) dX2_one_1 ?_
  refine lv_iload_n hx hb dX2_one_4 rfl (lv_at hl 1 rfl) ?_
  refine rl_an hx hb hK hP (show k < 64 by omega) dX2_one_5 ?_
  rw [hw]
  refine lv_istore_n (lv' := [(2, .int (nI 4)), (0, .ref (b 0)), (1, .int (nI k))]) hx hb dX2_one_6 rfl hl (by decide) rfl (fun ls hl => ?_)
  refine lv_aload_n hx hb dX2_one_7 rfl (lv_at hl 1 rfl) ?_
  refine lv_dup hx hb dX2_one_8 rfl ?_
  refine rg_me hx hb hts hinX2 hown hK hP (hts (.fieldLink RX2 55 "FencedWordsModel" "meter" "I") (List.mem_of_getElem? (i := 2) rfl)) dX2_one_9 ?_
  refine lv_iconst (v := nI 1) hx hb dX2_one_12 (by decide) ?_
  refine lv_iadd hx hb dX2_one_13 ?_
  refine rp_me (v := (r_me r) + (nI 1)) hx hb hts hinX2 hown hK hP hD hS (hts (.fieldLink RX2 55 "FencedWordsModel" "meter" "I") (List.mem_of_getElem? (i := 2) rfl)) dX2_one_14 (fun H locs hP hD hS => ?_)
  refine lv_iload_n hx hb dX2_one_17 rfl (lv_at hl 0 rfl) ?_
  refine lv_iconst (v := nI 1) hx hb dX2_one_18 (by decide) ?_
  refine q_icmp_ne (tgt := 39) hx hb (show 4 < 2 ^ 31 by omega) (show 1 < 2 ^ 31 by omega) dX2_one_19 (by decide) (fun _ => ?_) (fun h19 => absurd h19 (by decide))
  refine lv_iload_n hx hb dX2_one_39 rfl (lv_at hl 0 rfl) ?_
  refine lv_iconst (v := nI 2) hx hb dX2_one_40 (by decide) ?_
  refine q_icmp_ne (tgt := 56) hx hb (show 4 < 2 ^ 31 by omega) (show 2 < 2 ^ 31 by omega) dX2_one_41 (by decide) (fun _ => ?_) (fun h41 => absurd h41 (by decide))
  refine lv_iload_n hx hb dX2_one_56 rfl (lv_at hl 0 rfl) ?_
  refine lv_iconst (v := nI 3) hx hb dX2_one_57 (by decide) ?_
  refine q_icmp_eq (tgt := 72) hx hb (show 4 < 2 ^ 31 by omega) (show 3 < 2 ^ 31 by omega) dX2_one_58 (by decide) (fun h58 => absurd h58 (by decide)) (fun _ => ?_)
  refine lv_iload_n hx hb dX2_one_61 rfl (lv_at hl 0 rfl) ?_
  refine lv_iconst (v := nI 5) hx hb dX2_one_62 (by decide) ?_
  refine q_icmp_eq (tgt := 72) hx hb (show 4 < 2 ^ 31 by omega) (show 5 < 2 ^ 31 by omega) dX2_one_63 (by decide) (fun h63 => absurd h63 (by decide)) (fun _ => ?_)
  refine lv_iload_n hx hb dX2_one_66 rfl (lv_at hl 0 rfl) ?_
  refine lv_bipush (v := nI 7) hx hb dX2_one_67 (by decide) ?_
  refine q_icmp_ne (tgt := 76) hx hb (show 4 < 2 ^ 31 by omega) (show 7 < 2 ^ 31 by omega) dX2_one_69 (by decide) (fun _ => ?_) (fun h69 => absurd h69 (by decide))
  refine lv_iload_n hx hb dX2_one_76 rfl (lv_at hl 0 rfl) ?_
  refine lv_iconst (v := nI 4) hx hb dX2_one_77 (by decide) ?_
  refine q_icmp_ne (tgt := 93) hx hb (show 4 < 2 ^ 31 by omega) (show 4 < 2 ^ 31 by omega) dX2_one_78 (by decide) (fun h78 => absurd h78 (by decide)) (fun _ => ?_)
  refine lv_aload_n hx hb dX2_one_81 rfl (lv_at hl 1 rfl) ?_
  refine rg_r7 hx hb hts hinX2 hown hK hP (hts (.fieldLink RX2 30 "FencedWordsModel" "stands" "[I") (List.mem_of_getElem? (i := 7) rfl)) dX2_one_82 ?_
  refine lv_aload_n hx hb dX2_one_85 rfl (lv_at hl 1 rfl) ?_
  refine rg_rc hx hb hts hinX2 hown hK hP (hts (.fieldLink RX2 52 "FencedWordsModel" "records" "I") (List.mem_of_getElem? (i := 8) rfl)) dX2_one_86 ?_
  refine lv_iconst (v := nI 1) hx hb dX2_one_89 (by decide) ?_
  refine q_isub hx hb (show 1 ≤ (r_rc r) by omega) dX2_one_90 ?_
  refine lv_iconst (v := nI 1) hx hb dX2_one_91 (by decide) ?_
  refine rt_st (v := 1) hx hb hK hP hD hS (show ((r_rc r) - 1) < 20 by omega) dX2_one_92 (fun H locs hP hD hS => ?_)
  refine lv_iload_n hx hb dX2_one_93 rfl (lv_at hl 0 rfl) ?_
  refine lv_iconst (v := nI 5) hx hb dX2_one_94 (by decide) ?_
  refine q_icmp_ne (tgt := 110) hx hb (show 4 < 2 ^ 31 by omega) (show 5 < 2 ^ 31 by omega) dX2_one_95 (by decide) (fun _ => ?_) (fun h95 => absurd h95 (by decide))
  refine lv_iload_n hx hb dX2_one_110 rfl (lv_at hl 0 rfl) ?_
  refine lv_bipush (v := nI 6) hx hb dX2_one_111 (by decide) ?_
  refine q_icmp_ne (tgt := 121) hx hb (show 4 < 2 ^ 31 by omega) (show 6 < 2 ^ 31 by omega) dX2_one_113 (by decide) (fun _ => ?_) (fun h113 => absurd h113 (by decide))
  refine lv_iload_n hx hb dX2_one_121 rfl (lv_at hl 0 rfl) ?_
  refine lv_bipush (v := nI 7) hx hb dX2_one_122 (by decide) ?_
  refine q_icmp_ne (tgt := 132) hx hb (show 4 < 2 ^ 31 by omega) (show 7 < 2 ^ 31 by omega) dX2_one_124 (by decide) (fun _ => ?_) (fun h124 => absurd h124 (by decide))
  exact retGv hx hb hr hlocks hK hP hD hS dX2_one_132 rfl
set_option maxHeartbeats 400000 in
set_option maxRecDepth 100000 in
theorem mX2_one_5 (l : Launch) (y : Nat → ClassId) (t : va_W) (b : Nat → Nat) (r : RS) (k : Nat) (hk : k < 64) (hz : r_rc r ≤ 20) (hw : r_an r k = 5) (h1 : 1 ≤ r_rc r) : MGv l yX2_one wsX2_one 1 22 [.ref (b 0), .int (nI k)] (tyA y) (wR b y r t) (wR b y (oneR 5 (r_on r k) (r_wi r k) r) t) := by
  refine MGv.of (cc := cX2_one) (maxL := 3) (by decide) rfl (Nat.le_of_ble_eq_true rfl) ?_
  intro D p e s m below meth c0 A ls hx hb hr hml hown hlocks hts hK hP hD hA hN hl hS
  have hl : lv_has ls 3 [(0, .ref (b 0)), (1, .int (nI k))] := hl
  have hinX2 : ∀ w ∈ u_ws RX2 TX2 19, w ∈ wsX2_one := in_X2_X2_one
  refine lv_aload_n hx hb dX2_one_0 rfl (lv_at hl 0 rfl) ?_
  refine rg_r10 hx hb hts hinX2 hown hK hP (hts (.fieldLink RX2 39 "FencedWordsModel" "act" "[I") (List.mem_of_getElem? (i := 1) rfl)) dX2_one_1 ?_
  refine lv_iload_n hx hb dX2_one_4 rfl (lv_at hl 1 rfl) ?_
  refine rl_an hx hb hK hP (show k < 64 by omega) dX2_one_5 ?_
  rw [hw]
  refine lv_istore_n (lv' := [(2, .int (nI 5)), (0, .ref (b 0)), (1, .int (nI k))]) hx hb dX2_one_6 rfl hl (by decide) rfl (fun ls hl => ?_)
  refine lv_aload_n hx hb dX2_one_7 rfl (lv_at hl 1 rfl) ?_
  refine lv_dup hx hb dX2_one_8 rfl ?_
  refine rg_me hx hb hts hinX2 hown hK hP (hts (.fieldLink RX2 55 "FencedWordsModel" "meter" "I") (List.mem_of_getElem? (i := 2) rfl)) dX2_one_9 ?_
  refine lv_iconst (v := nI 1) hx hb dX2_one_12 (by decide) ?_
  refine lv_iadd hx hb dX2_one_13 ?_
  refine rp_me (v := (r_me r) + (nI 1)) hx hb hts hinX2 hown hK hP hD hS (hts (.fieldLink RX2 55 "FencedWordsModel" "meter" "I") (List.mem_of_getElem? (i := 2) rfl)) dX2_one_14 (fun H locs hP hD hS => ?_)
  refine lv_iload_n hx hb dX2_one_17 rfl (lv_at hl 0 rfl) ?_
  refine lv_iconst (v := nI 1) hx hb dX2_one_18 (by decide) ?_
  refine q_icmp_ne (tgt := 39) hx hb (show 5 < 2 ^ 31 by omega) (show 1 < 2 ^ 31 by omega) dX2_one_19 (by decide) (fun _ => ?_) (fun h19 => absurd h19 (by decide))
  refine lv_iload_n hx hb dX2_one_39 rfl (lv_at hl 0 rfl) ?_
  refine lv_iconst (v := nI 2) hx hb dX2_one_40 (by decide) ?_
  refine q_icmp_ne (tgt := 56) hx hb (show 5 < 2 ^ 31 by omega) (show 2 < 2 ^ 31 by omega) dX2_one_41 (by decide) (fun _ => ?_) (fun h41 => absurd h41 (by decide))
  refine lv_iload_n hx hb dX2_one_56 rfl (lv_at hl 0 rfl) ?_
  refine lv_iconst (v := nI 3) hx hb dX2_one_57 (by decide) ?_
  refine q_icmp_eq (tgt := 72) hx hb (show 5 < 2 ^ 31 by omega) (show 3 < 2 ^ 31 by omega) dX2_one_58 (by decide) (fun h58 => absurd h58 (by decide)) (fun _ => ?_)
  refine lv_iload_n hx hb dX2_one_61 rfl (lv_at hl 0 rfl) ?_
  refine lv_iconst (v := nI 5) hx hb dX2_one_62 (by decide) ?_
  refine q_icmp_eq (tgt := 72) hx hb (show 5 < 2 ^ 31 by omega) (show 5 < 2 ^ 31 by omega) dX2_one_63 (by decide) (fun _ => ?_) (fun h63 => absurd h63 (by decide))
  refine lv_aload_n hx hb dX2_one_72 rfl (lv_at hl 1 rfl) ?_
  refine callVv (rest := []) ⟨hx, hb, hml, hown, hts⟩ (mX2_fence l y t b (rs_me r ((r_me r) + (nI 1)))) (cwV 0 hts gX2_one_X2_fence rfl rfl rfl (by decide +kernel) ⟨Nat.le_of_ble_eq_true rfl, Nat.le_of_ble_eq_true rfl⟩) (va_recv hK hP (ci := 2) (q0 := 0) rfl rfl) hK hP hD hS hA hN rfl hl.1 rfl (Nat.le_of_ble_eq_true rfl) dX2_one_73 ⟨Nat.le_of_ble_eq_true rfl, Nat.le_of_ble_eq_true rfl⟩ (fun H locs hP hD hS => ?_)
  generalize hc1 : fenceR (rs_me r ((r_me r) + (nI 1))) = c1 at hP hD
  have hP : va_P D vwCl (wR b y c1 t) H := hP
  have hD : va_D A (wR b y c1 t) := hD
  have hrc : r_rc c1 = r_rc r := (by rw [← hc1]; rfl)
  refine lv_iload_n hx hb dX2_one_76 rfl (lv_at hl 0 rfl) ?_
  refine lv_iconst (v := nI 4) hx hb dX2_one_77 (by decide) ?_
  refine q_icmp_ne (tgt := 93) hx hb (show 5 < 2 ^ 31 by omega) (show 4 < 2 ^ 31 by omega) dX2_one_78 (by decide) (fun _ => ?_) (fun h78 => absurd h78 (by decide))
  refine lv_iload_n hx hb dX2_one_93 rfl (lv_at hl 0 rfl) ?_
  refine lv_iconst (v := nI 5) hx hb dX2_one_94 (by decide) ?_
  refine q_icmp_ne (tgt := 110) hx hb (show 5 < 2 ^ 31 by omega) (show 5 < 2 ^ 31 by omega) dX2_one_95 (by decide) (fun h95 => absurd h95 (by decide)) (fun _ => ?_)
  refine lv_aload_n hx hb dX2_one_98 rfl (lv_at hl 1 rfl) ?_
  refine rg_r7 hx hb hts hinX2 hown hK hP (hts (.fieldLink RX2 30 "FencedWordsModel" "stands" "[I") (List.mem_of_getElem? (i := 7) rfl)) dX2_one_99 ?_
  refine lv_aload_n hx hb dX2_one_102 rfl (lv_at hl 1 rfl) ?_
  refine rg_rc hx hb hts hinX2 hown hK hP (hts (.fieldLink RX2 52 "FencedWordsModel" "records" "I") (List.mem_of_getElem? (i := 8) rfl)) dX2_one_103 ?_
  refine lv_iconst (v := nI 1) hx hb dX2_one_106 (by decide) ?_
  refine q_isub hx hb (show 1 ≤ (r_rc c1) by omega) dX2_one_107 ?_
  refine lv_iconst (v := nI 2) hx hb dX2_one_108 (by decide) ?_
  refine rt_st (v := 2) hx hb hK hP hD hS (show ((r_rc c1) - 1) < 20 by omega) dX2_one_109 (fun H locs hP hD hS => ?_)
  refine lv_iload_n hx hb dX2_one_110 rfl (lv_at hl 0 rfl) ?_
  refine lv_bipush (v := nI 6) hx hb dX2_one_111 (by decide) ?_
  refine q_icmp_ne (tgt := 121) hx hb (show 5 < 2 ^ 31 by omega) (show 6 < 2 ^ 31 by omega) dX2_one_113 (by decide) (fun _ => ?_) (fun h113 => absurd h113 (by decide))
  refine lv_iload_n hx hb dX2_one_121 rfl (lv_at hl 0 rfl) ?_
  refine lv_bipush (v := nI 7) hx hb dX2_one_122 (by decide) ?_
  refine q_icmp_ne (tgt := 132) hx hb (show 5 < 2 ^ 31 by omega) (show 7 < 2 ^ 31 by omega) dX2_one_124 (by decide) (fun _ => ?_) (fun h124 => absurd h124 (by decide))
  exact retGv hx hb hr hlocks hK hP hD hS dX2_one_132 (by rw [← hc1]; rfl)
set_option maxHeartbeats 400000 in
set_option maxRecDepth 100000 in
theorem mX2_one_6 (l : Launch) (y : Nat → ClassId) (t : va_W) (b : Nat → Nat) (r : RS) (k : Nat) (hk : k < 64) (hz : r_rc r ≤ 20) (hw : r_an r k = 6)  : MGv l yX2_one wsX2_one 1 22 [.ref (b 0), .int (nI k)] (tyA y) (wR b y r t) (wR b y (oneR 6 (r_on r k) (r_wi r k) r) t) := by
  refine MGv.of (cc := cX2_one) (maxL := 3) (by decide) rfl (Nat.le_of_ble_eq_true rfl) ?_
  intro D p e s m below meth c0 A ls hx hb hr hml hown hlocks hts hK hP hD hA hN hl hS
  have hl : lv_has ls 3 [(0, .ref (b 0)), (1, .int (nI k))] := hl
  have hinX2 : ∀ w ∈ u_ws RX2 TX2 19, w ∈ wsX2_one := in_X2_X2_one
  refine lv_aload_n hx hb dX2_one_0 rfl (lv_at hl 0 rfl) ?_
  refine rg_r10 hx hb hts hinX2 hown hK hP (hts (.fieldLink RX2 39 "FencedWordsModel" "act" "[I") (List.mem_of_getElem? (i := 1) rfl)) dX2_one_1 ?_
  refine lv_iload_n hx hb dX2_one_4 rfl (lv_at hl 1 rfl) ?_
  refine rl_an hx hb hK hP (show k < 64 by omega) dX2_one_5 ?_
  rw [hw]
  refine lv_istore_n (lv' := [(2, .int (nI 6)), (0, .ref (b 0)), (1, .int (nI k))]) hx hb dX2_one_6 rfl hl (by decide) rfl (fun ls hl => ?_)
  refine lv_aload_n hx hb dX2_one_7 rfl (lv_at hl 1 rfl) ?_
  refine lv_dup hx hb dX2_one_8 rfl ?_
  refine rg_me hx hb hts hinX2 hown hK hP (hts (.fieldLink RX2 55 "FencedWordsModel" "meter" "I") (List.mem_of_getElem? (i := 2) rfl)) dX2_one_9 ?_
  refine lv_iconst (v := nI 1) hx hb dX2_one_12 (by decide) ?_
  refine lv_iadd hx hb dX2_one_13 ?_
  refine rp_me (v := (r_me r) + (nI 1)) hx hb hts hinX2 hown hK hP hD hS (hts (.fieldLink RX2 55 "FencedWordsModel" "meter" "I") (List.mem_of_getElem? (i := 2) rfl)) dX2_one_14 (fun H locs hP hD hS => ?_)
  refine lv_iload_n hx hb dX2_one_17 rfl (lv_at hl 0 rfl) ?_
  refine lv_iconst (v := nI 1) hx hb dX2_one_18 (by decide) ?_
  refine q_icmp_ne (tgt := 39) hx hb (show 6 < 2 ^ 31 by omega) (show 1 < 2 ^ 31 by omega) dX2_one_19 (by decide) (fun _ => ?_) (fun h19 => absurd h19 (by decide))
  refine lv_iload_n hx hb dX2_one_39 rfl (lv_at hl 0 rfl) ?_
  refine lv_iconst (v := nI 2) hx hb dX2_one_40 (by decide) ?_
  refine q_icmp_ne (tgt := 56) hx hb (show 6 < 2 ^ 31 by omega) (show 2 < 2 ^ 31 by omega) dX2_one_41 (by decide) (fun _ => ?_) (fun h41 => absurd h41 (by decide))
  refine lv_iload_n hx hb dX2_one_56 rfl (lv_at hl 0 rfl) ?_
  refine lv_iconst (v := nI 3) hx hb dX2_one_57 (by decide) ?_
  refine q_icmp_eq (tgt := 72) hx hb (show 6 < 2 ^ 31 by omega) (show 3 < 2 ^ 31 by omega) dX2_one_58 (by decide) (fun h58 => absurd h58 (by decide)) (fun _ => ?_)
  refine lv_iload_n hx hb dX2_one_61 rfl (lv_at hl 0 rfl) ?_
  refine lv_iconst (v := nI 5) hx hb dX2_one_62 (by decide) ?_
  refine q_icmp_eq (tgt := 72) hx hb (show 6 < 2 ^ 31 by omega) (show 5 < 2 ^ 31 by omega) dX2_one_63 (by decide) (fun h63 => absurd h63 (by decide)) (fun _ => ?_)
  refine lv_iload_n hx hb dX2_one_66 rfl (lv_at hl 0 rfl) ?_
  refine lv_bipush (v := nI 7) hx hb dX2_one_67 (by decide) ?_
  refine q_icmp_ne (tgt := 76) hx hb (show 6 < 2 ^ 31 by omega) (show 7 < 2 ^ 31 by omega) dX2_one_69 (by decide) (fun _ => ?_) (fun h69 => absurd h69 (by decide))
  refine lv_iload_n hx hb dX2_one_76 rfl (lv_at hl 0 rfl) ?_
  refine lv_iconst (v := nI 4) hx hb dX2_one_77 (by decide) ?_
  refine q_icmp_ne (tgt := 93) hx hb (show 6 < 2 ^ 31 by omega) (show 4 < 2 ^ 31 by omega) dX2_one_78 (by decide) (fun _ => ?_) (fun h78 => absurd h78 (by decide))
  refine lv_iload_n hx hb dX2_one_93 rfl (lv_at hl 0 rfl) ?_
  refine lv_iconst (v := nI 5) hx hb dX2_one_94 (by decide) ?_
  refine q_icmp_ne (tgt := 110) hx hb (show 6 < 2 ^ 31 by omega) (show 5 < 2 ^ 31 by omega) dX2_one_95 (by decide) (fun _ => ?_) (fun h95 => absurd h95 (by decide))
  refine lv_iload_n hx hb dX2_one_110 rfl (lv_at hl 0 rfl) ?_
  refine lv_bipush (v := nI 6) hx hb dX2_one_111 (by decide) ?_
  refine q_icmp_ne (tgt := 121) hx hb (show 6 < 2 ^ 31 by omega) (show 6 < 2 ^ 31 by omega) dX2_one_113 (by decide) (fun h113 => absurd h113 (by decide)) (fun _ => ?_)
  refine lv_aload_n hx hb dX2_one_116 rfl (lv_at hl 1 rfl) ?_
  refine lv_iconst (v := nI 3) hx hb dX2_one_117 (by decide) ?_
  refine callVv (rest := []) ⟨hx, hb, hml, hown, hts⟩ (mX2_stand l y t b (rs_me r ((r_me r) + (nI 1))) 3 hz) (cwV 1 hts gX2_one_X2_stand rfl rfl rfl (by decide +kernel) ⟨Nat.le_of_ble_eq_true rfl, Nat.le_of_ble_eq_true rfl⟩) (va_recv hK hP (ci := 2) (q0 := 0) rfl rfl) hK hP hD hS hA hN rfl hl.1 rfl (Nat.le_of_ble_eq_true rfl) dX2_one_118 ⟨Nat.le_of_ble_eq_true rfl, Nat.le_of_ble_eq_true rfl⟩ (fun H locs hP hD hS => ?_)
  generalize hc1 : standR 3 (rs_me r ((r_me r) + (nI 1))) = c1 at hP hD
  have hP : va_P D vwCl (wR b y c1 t) H := hP
  have hD : va_D A (wR b y c1 t) := hD
  refine lv_iload_n hx hb dX2_one_121 rfl (lv_at hl 0 rfl) ?_
  refine lv_bipush (v := nI 7) hx hb dX2_one_122 (by decide) ?_
  refine q_icmp_ne (tgt := 132) hx hb (show 6 < 2 ^ 31 by omega) (show 7 < 2 ^ 31 by omega) dX2_one_124 (by decide) (fun _ => ?_) (fun h124 => absurd h124 (by decide))
  exact retGv hx hb hr hlocks hK hP hD hS dX2_one_132 (by rw [← hc1]; rfl)
set_option maxHeartbeats 400000 in
set_option maxRecDepth 100000 in
theorem mX2_one_7 (l : Launch) (y : Nat → ClassId) (t : va_W) (b : Nat → Nat) (r : RS) (k : Nat) (hk : k < 64) (hz : r_rc r ≤ 20) (hw : r_an r k = 7)  : MGv l yX2_one wsX2_one 1 22 [.ref (b 0), .int (nI k)] (tyA y) (wR b y r t) (wR b y (oneR 7 (r_on r k) (r_wi r k) r) t) := by
  refine MGv.of (cc := cX2_one) (maxL := 3) (by decide) rfl (Nat.le_of_ble_eq_true rfl) ?_
  intro D p e s m below meth c0 A ls hx hb hr hml hown hlocks hts hK hP hD hA hN hl hS
  have hl : lv_has ls 3 [(0, .ref (b 0)), (1, .int (nI k))] := hl
  have hinX2 : ∀ w ∈ u_ws RX2 TX2 19, w ∈ wsX2_one := in_X2_X2_one
  refine lv_aload_n hx hb dX2_one_0 rfl (lv_at hl 0 rfl) ?_
  refine rg_r10 hx hb hts hinX2 hown hK hP (hts (.fieldLink RX2 39 "FencedWordsModel" "act" "[I") (List.mem_of_getElem? (i := 1) rfl)) dX2_one_1 ?_
  refine lv_iload_n hx hb dX2_one_4 rfl (lv_at hl 1 rfl) ?_
  refine rl_an hx hb hK hP (show k < 64 by omega) dX2_one_5 ?_
  rw [hw]
  refine lv_istore_n (lv' := [(2, .int (nI 7)), (0, .ref (b 0)), (1, .int (nI k))]) hx hb dX2_one_6 rfl hl (by decide) rfl (fun ls hl => ?_)
  refine lv_aload_n hx hb dX2_one_7 rfl (lv_at hl 1 rfl) ?_
  refine lv_dup hx hb dX2_one_8 rfl ?_
  refine rg_me hx hb hts hinX2 hown hK hP (hts (.fieldLink RX2 55 "FencedWordsModel" "meter" "I") (List.mem_of_getElem? (i := 2) rfl)) dX2_one_9 ?_
  refine lv_iconst (v := nI 1) hx hb dX2_one_12 (by decide) ?_
  refine lv_iadd hx hb dX2_one_13 ?_
  refine rp_me (v := (r_me r) + (nI 1)) hx hb hts hinX2 hown hK hP hD hS (hts (.fieldLink RX2 55 "FencedWordsModel" "meter" "I") (List.mem_of_getElem? (i := 2) rfl)) dX2_one_14 (fun H locs hP hD hS => ?_)
  refine lv_iload_n hx hb dX2_one_17 rfl (lv_at hl 0 rfl) ?_
  refine lv_iconst (v := nI 1) hx hb dX2_one_18 (by decide) ?_
  refine q_icmp_ne (tgt := 39) hx hb (show 7 < 2 ^ 31 by omega) (show 1 < 2 ^ 31 by omega) dX2_one_19 (by decide) (fun _ => ?_) (fun h19 => absurd h19 (by decide))
  refine lv_iload_n hx hb dX2_one_39 rfl (lv_at hl 0 rfl) ?_
  refine lv_iconst (v := nI 2) hx hb dX2_one_40 (by decide) ?_
  refine q_icmp_ne (tgt := 56) hx hb (show 7 < 2 ^ 31 by omega) (show 2 < 2 ^ 31 by omega) dX2_one_41 (by decide) (fun _ => ?_) (fun h41 => absurd h41 (by decide))
  refine lv_iload_n hx hb dX2_one_56 rfl (lv_at hl 0 rfl) ?_
  refine lv_iconst (v := nI 3) hx hb dX2_one_57 (by decide) ?_
  refine q_icmp_eq (tgt := 72) hx hb (show 7 < 2 ^ 31 by omega) (show 3 < 2 ^ 31 by omega) dX2_one_58 (by decide) (fun h58 => absurd h58 (by decide)) (fun _ => ?_)
  refine lv_iload_n hx hb dX2_one_61 rfl (lv_at hl 0 rfl) ?_
  refine lv_iconst (v := nI 5) hx hb dX2_one_62 (by decide) ?_
  refine q_icmp_eq (tgt := 72) hx hb (show 7 < 2 ^ 31 by omega) (show 5 < 2 ^ 31 by omega) dX2_one_63 (by decide) (fun h63 => absurd h63 (by decide)) (fun _ => ?_)
  refine lv_iload_n hx hb dX2_one_66 rfl (lv_at hl 0 rfl) ?_
  refine lv_bipush (v := nI 7) hx hb dX2_one_67 (by decide) ?_
  refine q_icmp_ne (tgt := 76) hx hb (show 7 < 2 ^ 31 by omega) (show 7 < 2 ^ 31 by omega) dX2_one_69 (by decide) (fun h69 => absurd h69 (by decide)) (fun _ => ?_)
  refine lv_aload_n hx hb dX2_one_72 rfl (lv_at hl 1 rfl) ?_
  refine callVv (rest := []) ⟨hx, hb, hml, hown, hts⟩ (mX2_fence l y t b (rs_me r ((r_me r) + (nI 1)))) (cwV 0 hts gX2_one_X2_fence rfl rfl rfl (by decide +kernel) ⟨Nat.le_of_ble_eq_true rfl, Nat.le_of_ble_eq_true rfl⟩) (va_recv hK hP (ci := 2) (q0 := 0) rfl rfl) hK hP hD hS hA hN rfl hl.1 rfl (Nat.le_of_ble_eq_true rfl) dX2_one_73 ⟨Nat.le_of_ble_eq_true rfl, Nat.le_of_ble_eq_true rfl⟩ (fun H locs hP hD hS => ?_)
  generalize hc1 : fenceR (rs_me r ((r_me r) + (nI 1))) = c1 at hP hD
  have hP : va_P D vwCl (wR b y c1 t) H := hP
  have hD : va_D A (wR b y c1 t) := hD
  have hrc : r_rc c1 = r_rc r := (by rw [← hc1]; rfl)
  refine lv_iload_n hx hb dX2_one_76 rfl (lv_at hl 0 rfl) ?_
  refine lv_iconst (v := nI 4) hx hb dX2_one_77 (by decide) ?_
  refine q_icmp_ne (tgt := 93) hx hb (show 7 < 2 ^ 31 by omega) (show 4 < 2 ^ 31 by omega) dX2_one_78 (by decide) (fun _ => ?_) (fun h78 => absurd h78 (by decide))
  refine lv_iload_n hx hb dX2_one_93 rfl (lv_at hl 0 rfl) ?_
  refine lv_iconst (v := nI 5) hx hb dX2_one_94 (by decide) ?_
  refine q_icmp_ne (tgt := 110) hx hb (show 7 < 2 ^ 31 by omega) (show 5 < 2 ^ 31 by omega) dX2_one_95 (by decide) (fun _ => ?_) (fun h95 => absurd h95 (by decide))
  refine lv_iload_n hx hb dX2_one_110 rfl (lv_at hl 0 rfl) ?_
  refine lv_bipush (v := nI 6) hx hb dX2_one_111 (by decide) ?_
  refine q_icmp_ne (tgt := 121) hx hb (show 7 < 2 ^ 31 by omega) (show 6 < 2 ^ 31 by omega) dX2_one_113 (by decide) (fun _ => ?_) (fun h113 => absurd h113 (by decide))
  refine lv_iload_n hx hb dX2_one_121 rfl (lv_at hl 0 rfl) ?_
  refine lv_bipush (v := nI 7) hx hb dX2_one_122 (by decide) ?_
  refine q_icmp_ne (tgt := 132) hx hb (show 7 < 2 ^ 31 by omega) (show 7 < 2 ^ 31 by omega) dX2_one_124 (by decide) (fun h124 => absurd h124 (by decide)) (fun _ => ?_)
  refine lv_aload_n hx hb dX2_one_127 rfl (lv_at hl 1 rfl) ?_
  refine lv_iconst (v := nI 0) hx hb dX2_one_128 (by decide) ?_
  refine rp_rc (v := 0) hx hb hts hinX2 hown hK hP hD hS (hts (.fieldLink RX2 52 "FencedWordsModel" "records" "I") (List.mem_of_getElem? (i := 8) rfl)) dX2_one_129 (fun H locs hP hD hS => ?_)
  exact retGv hx hb hr hlocks hK hP hD hS dX2_one_132 (by rw [← hc1]; rfl)
theorem mX2_one (l : Launch) (y : Nat → ClassId) (t : va_W) (b : Nat → Nat) (r : RS) (k : Nat) (hk : k < 64) (hz : r_rc r ≤ 20) (hw : r_an r k ≤ 7) (h1 : r_an r k = 1 → r_on r k < 32) (h2 : r_an r k = 2 → r_on r k < 4) (h45 : r_an r k = 4 ∨ r_an r k = 5 → 1 ≤ r_rc r) : MGv l yX2_one wsX2_one 1 22 [.ref (b 0), .int (nI k)] (tyA y) (wR b y r t) (wR b y (oneR (r_an r k) (r_on r k) (r_wi r k) r) t) := by
  have h : r_an r k = 0 ∨ r_an r k = 1 ∨ r_an r k = 2 ∨ r_an r k = 3 ∨ r_an r k = 4 ∨ r_an r k = 5 ∨ r_an r k = 6 ∨ r_an r k = 7 := by omega
  rcases h with h | h | h | h | h | h | h | h
  · rw [h]; exact mX2_one_0 l y t b r k hk hz h
  · rw [h]; exact mX2_one_1 l y t b r k hk hz h (h1 h)
  · rw [h]; exact mX2_one_2 l y t b r k hk hz h (h2 h)
  · rw [h]; exact mX2_one_3 l y t b r k hk hz h
  · rw [h]; exact mX2_one_4 l y t b r k hk hz h (h45 (Or.inl h))
  · rw [h]; exact mX2_one_5 l y t b r k hk hz h (h45 (Or.inr h))
  · rw [h]; exact mX2_one_6 l y t b r k hk hz h
  · rw [h]; exact mX2_one_7 l y t b r k hk hz h
end
section
theorem in_X2_X2_fail : ∀ w ∈ wsX20, w ∈ wsX2_fail := fun w h => List.mem_cons_of_mem _ (List.mem_append_right _ (h))
set_option maxHeartbeats 400000 in
set_option maxRecDepth 100000 in
theorem mX2_fail (l : Launch) (y : Nat → ClassId) (t : va_W) (b : Nat → Nat) (r : RS) (hz : r_rc r ≤ 20) (hst : ∀ j, r_st r j ≤ 3) : MGv l yX2_fail wsX2_fail 1 22 [.ref (b 0)] (tyA y) (wR b y r t) (wR b y (failR r) t) := by
  refine MGv.of (cc := cX2_fail) (maxL := 3) (by decide) rfl (Nat.le_of_ble_eq_true rfl) ?_
  intro D p e s m below meth c0 A ls hx hb hr hml hown hlocks hts hK hP hD hA hN hl hS
  have hl : lv_has ls 3 [(0, .ref (b 0))] := hl
  have hinX2 : ∀ w ∈ u_ws RX2 TX2 19, w ∈ wsX2_fail := in_X2_X2_fail
  refine lv_iconst (v := nI 0) hx hb dX2_fail_0 (by decide) ?_
  refine lv_istore_n (lv' := [(1, .int (nI 0)), (0, .ref (b 0))]) hx hb dX2_fail_1 rfl hl (by decide) rfl (fun ls hl => ?_)
  have loop : ∀ (n2 : Nat) (i : Nat) (H : Heap) (locs : List Loc) (ls : Array Slot), (i ≤ 32) → (33 ≤ i + n2) → va_P D vwCl (wR b y (rs_K r (keepF r i)) t) H → va_D A (wR b y (rs_K r (keepF r i)) t) → va_S A s.heap H locs → lv_has ls 3 [(0, .ref (b 0)), (1, .int (nI i))] → W p l e ({ frames := 1, cells := 0, slots := 0, locals := 22 }) s m [.ref (b 0)].toArray below meth c0 H locs 0 0 (GQv below D (tyA y) A (wR b y (failR r) t) [.ref (b 0)].toArray s) (F0 m 2 ls []) := by
    intro n2
    induction n2 with
    | zero =>
      intro i H locs ls hi hn hP hD hS hl
      omega
    | succ n2 ih2 =>
      intro i H locs ls hi hn hP hD hS hl
      refine lv_iload_n hx hb dX2_fail_2 rfl (lv_at hl 1 rfl) ?_
      refine lv_bipush (v := nI 32) hx hb dX2_fail_3 (by decide) ?_
      refine q_icmp_ge (tgt := 59) hx hb (show i < 2 ^ 31 by omega) (show 32 < 2 ^ 31 by omega) dX2_fail_5 (by decide) (fun (h5 : 32 ≤ i) => ?_) (fun (h5 : i < 32) => ?_)
      · have e32 : i = 32 := by omega
        subst e32
        generalize hr1 : rs_K r (keepF r 32) = r1 at hP hD
        have hz1 : r_rc r1 ≤ 20 := (by rw [← hr1]; exact hz)
        have hst1 : ∀ j, r_st r1 j ≤ 3 := (by rw [← hr1]; exact hst)
        have s0 := hst1 0
        have s1 := hst1 (r_rc r1 - 1)
        have tail : ∀ (r2 : RS) (H : Heap) (locs : List Loc) (ls : Array Slot), recsR r1 = r2 → va_P D vwCl (wR b y r2 t) H → va_D A (wR b y r2 t) → va_S A s.heap H locs → lv_has ls 3 [(0, .ref (b 0))] → W p l e ({ frames := 1, cells := 0, slots := 0, locals := 22 }) s m [.ref (b 0)].toArray below meth c0 H locs 0 0 (GQv below D (tyA y) A (wR b y (failR r) t) [.ref (b 0)].toArray s) (F0 m 142 ls []) := by
          intro r2 H locs ls e2 hP hD hS hl
          have hz : r_rc r2 ≤ 20 := Nat.le_trans (by rw [← e2]; exact recs_rc r1) hz1
          refine lv_aload_n hx hb dX2_fail_142 rfl (lv_at hl 0 rfl) ?_
          refine lv_iconst (v := nI 2) hx hb dX2_fail_143 (by decide) ?_
          refine callVv (rest := []) ⟨hx, hb, hml, hown, hts⟩ (mX2_stand l y t b r2 2 hz) (cwV 1 hts gX2_fail_X2_stand rfl rfl rfl (by decide +kernel) ⟨Nat.le_of_ble_eq_true rfl, Nat.le_of_ble_eq_true rfl⟩) (va_recv hK hP (ci := 2) (q0 := 0) rfl rfl) hK hP hD hS hA hN rfl hl.1 rfl (Nat.le_of_ble_eq_true rfl) dX2_fail_144 ⟨Nat.le_of_ble_eq_true rfl, Nat.le_of_ble_eq_true rfl⟩ (fun H locs hP hD hS => ?_)
          generalize hc1 : standR 2 r2 = c1 at hP hD
          have hP : va_P D vwCl (wR b y c1 t) H := hP
          have hD : va_D A (wR b y c1 t) := hD
          refine lv_aload_n hx hb dX2_fail_147 rfl (lv_at hl 0 rfl) ?_
          refine lv_iconst (v := nI 1) hx hb dX2_fail_148 (by decide) ?_
          refine rp_of (v := true) hx hb hts hinX2 hown hK hP hD hS (hts (.fieldLink RX2 82 "FencedWordsModel" "off" "Z") (List.mem_of_getElem? (i := 5) rfl)) dX2_fail_149 (fun H locs hP hD hS => ?_)
          refine lv_aload_n hx hb dX2_fail_152 rfl (lv_at hl 0 rfl) ?_
          refine lv_iconst (v := nI 0) hx hb dX2_fail_153 (by decide) ?_
          refine rp_op (v := false) hx hb hts hinX2 hown hK hP hD hS (hts (.fieldLink RX2 86 "FencedWordsModel" "open" "Z") (List.mem_of_getElem? (i := 6) rfl)) dX2_fail_154 (fun H locs hP hD hS => ?_)
          refine lv_iconst (v := nI 0) hx hb dX2_fail_157 (by decide) ?_
          refine lv_istore_n (lv' := [(2, .int (nI 0)), (0, .ref (b 0))]) hx hb dX2_fail_158 rfl hl (by decide) rfl (fun ls hl => ?_)
          have loop4 : ∀ (n159 : Nat) (i : Nat) (H : Heap) (locs : List Loc) (ls : Array Slot), (i ≤ 4) → (5 ≤ i + n159) → va_P D vwCl (wR b y (rs_fl (rs_op (rs_of c1 true) false) (clrB (r_fl c1) i)) t) H → va_D A (wR b y (rs_fl (rs_op (rs_of c1 true) false) (clrB (r_fl c1) i)) t) → va_S A s.heap H locs → lv_has ls 3 [(0, .ref (b 0)), (2, .int (nI i))] → W p l e ({ frames := 1, cells := 0, slots := 0, locals := 22 }) s m [.ref (b 0)].toArray below meth c0 H locs 0 0 (GQv below D (tyA y) A (wR b y (failR r) t) [.ref (b 0)].toArray s) (F0 m 159 ls []) := by
            intro n159
            induction n159 with
            | zero =>
              intro i H locs ls hi hn hP hD hS hl
              omega
            | succ n159 ih159 =>
              intro i H locs ls hi hn hP hD hS hl
              refine lv_iload_n hx hb dX2_fail_159 rfl (lv_at hl 1 rfl) ?_
              refine lv_iconst (v := nI 4) hx hb dX2_fail_160 (by decide) ?_
              refine q_icmp_ge (tgt := 177) hx hb (show i < 2 ^ 31 by omega) (show 4 < 2 ^ 31 by omega) dX2_fail_161 (by decide) (fun (h161 : 4 ≤ i) => ?_) (fun (h161 : i < 4) => ?_)
              · have e4 : i = 4 := by omega
                subst e4
                exact retGv hx hb hr hlocks hK hP hD hS dX2_fail_177 (by unfold failR failB; rw [hr1, e2, hc1])
              · refine lv_aload_n hx hb dX2_fail_164 rfl (lv_at hl 0 rfl) ?_
                refine rg_r3 hx hb hts hinX2 hown hK hP (hts (.fieldLink RX2 16 "FencedWordsModel" "flushed" "[Z") (List.mem_of_getElem? (i := 7) rfl)) dX2_fail_165 ?_
                refine lv_iload_n hx hb dX2_fail_168 rfl (lv_at hl 1 rfl) ?_
                refine lv_iconst (v := nI 0) hx hb dX2_fail_169 (by decide) ?_
                refine rt_fl (v := false) hx hb hK hP hD hS (show i < 4 by omega) dX2_fail_170 (fun H locs hP hD hS => ?_)
                refine lv_iinc (v := nI (i + 1)) (lv' := [(2, .int (nI (i + 1))), (0, .ref (b 0))]) hx hb dX2_fail_171 hl (k := 1) rfl (nI_add i 1) (by decide) rfl (fun ls hl => ?_)
                refine lv_goto (tgt := 159) hx hb dX2_fail_174 (by decide) ?_
                have hP : va_P D vwCl (wR b y (rs_fl (rs_fl (rs_op (rs_of c1 true) false) (clrB (r_fl c1) i)) (upB (clrB (r_fl c1) i) i false)) t) H := hP
                have hD : va_D A (wR b y (rs_fl (rs_fl (rs_op (rs_of c1 true) false) (clrB (r_fl c1) i)) (upB (clrB (r_fl c1) i) i false)) t) := hD
                rw [rss_fl, clrB_s] at hP hD
                exact ih159 (i + 1) _ _ _ (by omega) (by omega) hP hD hS (lv_sub hl [1, 0] rfl)
          have e0 : rs_op (rs_of c1 true) false = rs_fl (rs_op (rs_of c1 true) false) (clrB (r_fl c1) 0) := (by rw [clrB_0]; rfl)
          rw [e0] at hP hD
          exact loop4 5 0 _ _ _ (by omega) (by omega) hP hD hS (lv_sub hl [1, 0] rfl)
        refine lv_aload_n hx hb dX2_fail_59 rfl (lv_at hl 0 rfl) ?_
        refine rg_rc hx hb hts hinX2 hown hK hP (hts (.fieldLink RX2 52 "FencedWordsModel" "records" "I") (List.mem_of_getElem? (i := 3) rfl)) dX2_fail_60 ?_
        refine lv_iconst (v := nI 1) hx hb dX2_fail_63 (by decide) ?_
        refine lv_isub hx hb dX2_fail_64 ?_
        refine lv_istore_n (lv' := [(1, .int ((nI (r_rc r1)) - (nI 1))), (0, .ref (b 0))]) hx hb dX2_fail_65 rfl hl (by decide) rfl (fun ls hl => ?_)
        refine lv_aload_n hx hb dX2_fail_66 rfl (lv_at hl 1 rfl) ?_
        refine rg_rc hx hb hts hinX2 hown hK hP (hts (.fieldLink RX2 52 "FencedWordsModel" "records" "I") (List.mem_of_getElem? (i := 3) rfl)) dX2_fail_67 ?_
        refine q_if_le (tgt := 111) hx hb (show (r_rc r1) < 2 ^ 31 by omega) dX2_fail_70 (by decide) (fun (h70 : (r_rc r1) = 0) => ?_) (fun (h70 : ¬ (r_rc r1) = 0) => ?_)
        · refine lv_aload_n hx hb dX2_fail_111 rfl (lv_at hl 1 rfl) ?_
          refine rg_rc hx hb hts hinX2 hown hK hP (hts (.fieldLink RX2 52 "FencedWordsModel" "records" "I") (List.mem_of_getElem? (i := 3) rfl)) dX2_fail_112 ?_
          refine q_if_le (tgt := 142) hx hb (show (r_rc r1) < 2 ^ 31 by omega) dX2_fail_115 (by decide) (fun (h115 : (r_rc r1) = 0) => ?_) (fun (h115 : ¬ (r_rc r1) = 0) => ?_)
          · exact tail _ _ _ _ (by unfold recsR; rw [if_neg (fun q => q.1 h70), if_neg (fun q => q.1 h115)]) hP hD hS (lv_sub hl [1] rfl)
          · refine lv_aload_n hx hb dX2_fail_118 rfl (lv_at hl 1 rfl) ?_
            refine rg_r7 hx hb hts hinX2 hown hK hP (hts (.fieldLink RX2 30 "FencedWordsModel" "stands" "[I") (List.mem_of_getElem? (i := 4) rfl)) dX2_fail_119 ?_
            refine lv_iconst (v := nI 0) hx hb dX2_fail_122 (by decide) ?_
            refine rl_st hx hb hK hP (show 0 < 20 by omega) dX2_fail_123 ?_
            refine lv_iconst (v := nI 3) hx hb dX2_fail_124 (by decide) ?_
            refine q_icmp_ne (tgt := 142) hx hb (show (r_st r1 0) < 2 ^ 31 by omega) (show 3 < 2 ^ 31 by omega) dX2_fail_125 (by decide) (fun (h125 : ¬ (r_st r1 0) = 3) => ?_) (fun (h125 : (r_st r1 0) = 3) => ?_)
            · exact tail _ _ _ _ (by unfold recsR; rw [if_neg (fun q => q.1 h70), if_neg (fun q => h125 q.2.1)]) hP hD hS (lv_sub hl [1] rfl)
            · refine lv_aload_n hx hb dX2_fail_128 rfl (lv_at hl 1 rfl) ?_
              refine lv_bipush (v := nI 33) hx hb dX2_fail_129 (by decide) ?_
              refine callVi (rest := []) ⟨hx, hb, hml, hown, hts⟩ (mX2_bit l y t b r1 33 (by omega)) (cwV 1 hts gX2_fail_X2_bit rfl rfl rfl (by decide +kernel) ⟨Nat.le_of_ble_eq_true rfl, Nat.le_of_ble_eq_true rfl⟩) (va_recv hK hP (ci := 2) (q0 := 0) rfl rfl) hK hP hD hS hA hN rfl hl.1 rfl (Nat.le_of_ble_eq_true rfl) dX2_fail_131 ⟨Nat.le_of_ble_eq_true rfl, Nat.le_of_ble_eq_true rfl⟩ (fun H locs hP hD hS => ?_)
              refine q_ifb_eq (tgt := 142) hx hb dX2_fail_134 (by decide) (fun (h134 : (hbL (r_mk r1) 33) = false) => ?_) (fun (h134 : (hbL (r_mk r1) 33) = true) => ?_)
              · exact tail _ _ _ _ (by unfold recsR; rw [if_neg (fun q => q.1 h70), if_neg (fun q => absurd (q.2.2.symm.trans h134) (by decide))]) hP hD hS (lv_sub hl [1] rfl)
              · refine lv_aload_n hx hb dX2_fail_137 rfl (lv_at hl 1 rfl) ?_
                refine lv_iconst (v := nI 0) hx hb dX2_fail_138 (by decide) ?_
                refine rp_rc (v := 0) hx hb hts hinX2 hown hK hP hD hS (hts (.fieldLink RX2 52 "FencedWordsModel" "records" "I") (List.mem_of_getElem? (i := 3) rfl)) dX2_fail_139 (fun H locs hP hD hS => ?_)
                exact tail _ _ _ _ (by unfold recsR; rw [if_neg (fun q => q.1 h70), if_pos ⟨h115, h125, h134⟩]) hP hD hS (lv_sub hl [1] rfl)
        · rw [pk_sub (a := r_rc r1) (b := 1) (by omega)] at hl
          refine lv_aload_n hx hb dX2_fail_73 rfl (lv_at hl 1 rfl) ?_
          refine rg_r7 hx hb hts hinX2 hown hK hP (hts (.fieldLink RX2 30 "FencedWordsModel" "stands" "[I") (List.mem_of_getElem? (i := 4) rfl)) dX2_fail_74 ?_
          refine lv_iload_n hx hb dX2_fail_77 rfl (lv_at hl 0 rfl) ?_
          refine rl_st hx hb hK hP (show (r_rc r1 - 1) < 20 by omega) dX2_fail_78 ?_
          refine q_if_eq (tgt := 101) hx hb (show (r_st r1 (r_rc r1 - 1)) < 2 ^ 31 by omega) dX2_fail_79 (by decide) (fun (h79 : (r_st r1 (r_rc r1 - 1)) = 0) => ?_) (fun (h79 : ¬ (r_st r1 (r_rc r1 - 1)) = 0) => ?_)
          · refine lv_aload_n hx hb dX2_fail_101 rfl (lv_at hl 1 rfl) ?_
            refine lv_dup hx hb dX2_fail_102 rfl ?_
            refine rg_rc hx hb hts hinX2 hown hK hP (hts (.fieldLink RX2 52 "FencedWordsModel" "records" "I") (List.mem_of_getElem? (i := 3) rfl)) dX2_fail_103 ?_
            refine lv_iconst (v := nI 1) hx hb dX2_fail_106 (by decide) ?_
            refine q_isub hx hb (show 1 ≤ (r_rc r1) by omega) dX2_fail_107 ?_
            refine rp_rc (v := (r_rc r1) - 1) hx hb hts hinX2 hown hK hP hD hS (hts (.fieldLink RX2 52 "FencedWordsModel" "records" "I") (List.mem_of_getElem? (i := 3) rfl)) dX2_fail_108 (fun H locs hP hD hS => ?_)
            refine lv_aload_n hx hb dX2_fail_111 rfl (lv_at hl 1 rfl) ?_
            refine rg_rc hx hb hts hinX2 hown hK hP (hts (.fieldLink RX2 52 "FencedWordsModel" "records" "I") (List.mem_of_getElem? (i := 3) rfl)) dX2_fail_112 ?_
            refine q_if_le (tgt := 142) hx hb (show ((r_rc r1) - 1) < 2 ^ 31 by omega) dX2_fail_115 (by decide) (fun (h115 : ((r_rc r1) - 1) = 0) => ?_) (fun (h115 : ¬ ((r_rc r1) - 1) = 0) => ?_)
            · exact tail _ _ _ _ (by unfold recsR; rw [if_pos ⟨h70, Or.inl h79⟩, if_neg (fun q => q.1 h115)]) hP hD hS (lv_sub hl [1] rfl)
            · refine lv_aload_n hx hb dX2_fail_118 rfl (lv_at hl 1 rfl) ?_
              refine rg_r7 hx hb hts hinX2 hown hK hP (hts (.fieldLink RX2 30 "FencedWordsModel" "stands" "[I") (List.mem_of_getElem? (i := 4) rfl)) dX2_fail_119 ?_
              refine lv_iconst (v := nI 0) hx hb dX2_fail_122 (by decide) ?_
              refine rl_st hx hb hK hP (show 0 < 20 by omega) dX2_fail_123 ?_
              refine lv_iconst (v := nI 3) hx hb dX2_fail_124 (by decide) ?_
              refine q_icmp_ne (tgt := 142) hx hb (show (r_st r1 0) < 2 ^ 31 by omega) (show 3 < 2 ^ 31 by omega) dX2_fail_125 (by decide) (fun (h125 : ¬ (r_st r1 0) = 3) => ?_) (fun (h125 : (r_st r1 0) = 3) => ?_)
              · exact tail _ _ _ _ (by unfold recsR; rw [if_pos ⟨h70, Or.inl h79⟩, if_neg (fun q => h125 q.2.1)]) hP hD hS (lv_sub hl [1] rfl)
              · refine lv_aload_n hx hb dX2_fail_128 rfl (lv_at hl 1 rfl) ?_
                refine lv_bipush (v := nI 33) hx hb dX2_fail_129 (by decide) ?_
                refine callVi (rest := []) ⟨hx, hb, hml, hown, hts⟩ (mX2_bit l y t b (rs_rc r1 ((r_rc r1) - 1)) 33 (by omega)) (cwV 1 hts gX2_fail_X2_bit rfl rfl rfl (by decide +kernel) ⟨Nat.le_of_ble_eq_true rfl, Nat.le_of_ble_eq_true rfl⟩) (va_recv hK hP (ci := 2) (q0 := 0) rfl rfl) hK hP hD hS hA hN rfl hl.1 rfl (Nat.le_of_ble_eq_true rfl) dX2_fail_131 ⟨Nat.le_of_ble_eq_true rfl, Nat.le_of_ble_eq_true rfl⟩ (fun H locs hP hD hS => ?_)
                refine q_ifb_eq (tgt := 142) hx hb dX2_fail_134 (by decide) (fun (h134 : (hbL (r_mk r1) 33) = false) => ?_) (fun (h134 : (hbL (r_mk r1) 33) = true) => ?_)
                · exact tail _ _ _ _ (by unfold recsR; rw [if_pos ⟨h70, Or.inl h79⟩, if_neg (fun q => absurd (q.2.2.symm.trans h134) (by decide))]) hP hD hS (lv_sub hl [1] rfl)
                · refine lv_aload_n hx hb dX2_fail_137 rfl (lv_at hl 1 rfl) ?_
                  refine lv_iconst (v := nI 0) hx hb dX2_fail_138 (by decide) ?_
                  refine rp_rc (v := 0) hx hb hts hinX2 hown hK hP hD hS (hts (.fieldLink RX2 52 "FencedWordsModel" "records" "I") (List.mem_of_getElem? (i := 3) rfl)) dX2_fail_139 (fun H locs hP hD hS => ?_)
                  exact tail _ _ _ _ (by unfold recsR; rw [if_pos ⟨h70, Or.inl h79⟩, if_pos ⟨h115, h125, h134⟩]) hP hD hS (lv_sub hl [1] rfl)
          · refine lv_aload_n hx hb dX2_fail_82 rfl (lv_at hl 1 rfl) ?_
            refine rg_r7 hx hb hts hinX2 hown hK hP (hts (.fieldLink RX2 30 "FencedWordsModel" "stands" "[I") (List.mem_of_getElem? (i := 4) rfl)) dX2_fail_83 ?_
            refine lv_iload_n hx hb dX2_fail_86 rfl (lv_at hl 0 rfl) ?_
            refine rl_st hx hb hK hP (show (r_rc r1 - 1) < 20 by omega) dX2_fail_87 ?_
            refine lv_iconst (v := nI 1) hx hb dX2_fail_88 (by decide) ?_
            refine q_icmp_ne (tgt := 111) hx hb (show (r_st r1 (r_rc r1 - 1)) < 2 ^ 31 by omega) (show 1 < 2 ^ 31 by omega) dX2_fail_89 (by decide) (fun (h89 : ¬ (r_st r1 (r_rc r1 - 1)) = 1) => ?_) (fun (h89 : (r_st r1 (r_rc r1 - 1)) = 1) => ?_)
            · refine lv_aload_n hx hb dX2_fail_111 rfl (lv_at hl 1 rfl) ?_
              refine rg_rc hx hb hts hinX2 hown hK hP (hts (.fieldLink RX2 52 "FencedWordsModel" "records" "I") (List.mem_of_getElem? (i := 3) rfl)) dX2_fail_112 ?_
              refine q_if_le (tgt := 142) hx hb (show (r_rc r1) < 2 ^ 31 by omega) dX2_fail_115 (by decide) (fun (h115 : (r_rc r1) = 0) => ?_) (fun (h115 : ¬ (r_rc r1) = 0) => ?_)
              · exact tail _ _ _ _ (by unfold recsR; rw [if_neg (fun q => q.2.elim h79 (fun z => h89 z.1)), if_neg (fun q => q.1 h115)]) hP hD hS (lv_sub hl [1] rfl)
              · refine lv_aload_n hx hb dX2_fail_118 rfl (lv_at hl 1 rfl) ?_
                refine rg_r7 hx hb hts hinX2 hown hK hP (hts (.fieldLink RX2 30 "FencedWordsModel" "stands" "[I") (List.mem_of_getElem? (i := 4) rfl)) dX2_fail_119 ?_
                refine lv_iconst (v := nI 0) hx hb dX2_fail_122 (by decide) ?_
                refine rl_st hx hb hK hP (show 0 < 20 by omega) dX2_fail_123 ?_
                refine lv_iconst (v := nI 3) hx hb dX2_fail_124 (by decide) ?_
                refine q_icmp_ne (tgt := 142) hx hb (show (r_st r1 0) < 2 ^ 31 by omega) (show 3 < 2 ^ 31 by omega) dX2_fail_125 (by decide) (fun (h125 : ¬ (r_st r1 0) = 3) => ?_) (fun (h125 : (r_st r1 0) = 3) => ?_)
                · exact tail _ _ _ _ (by unfold recsR; rw [if_neg (fun q => q.2.elim h79 (fun z => h89 z.1)), if_neg (fun q => h125 q.2.1)]) hP hD hS (lv_sub hl [1] rfl)
                · refine lv_aload_n hx hb dX2_fail_128 rfl (lv_at hl 1 rfl) ?_
                  refine lv_bipush (v := nI 33) hx hb dX2_fail_129 (by decide) ?_
                  refine callVi (rest := []) ⟨hx, hb, hml, hown, hts⟩ (mX2_bit l y t b r1 33 (by omega)) (cwV 1 hts gX2_fail_X2_bit rfl rfl rfl (by decide +kernel) ⟨Nat.le_of_ble_eq_true rfl, Nat.le_of_ble_eq_true rfl⟩) (va_recv hK hP (ci := 2) (q0 := 0) rfl rfl) hK hP hD hS hA hN rfl hl.1 rfl (Nat.le_of_ble_eq_true rfl) dX2_fail_131 ⟨Nat.le_of_ble_eq_true rfl, Nat.le_of_ble_eq_true rfl⟩ (fun H locs hP hD hS => ?_)
                  refine q_ifb_eq (tgt := 142) hx hb dX2_fail_134 (by decide) (fun (h134 : (hbL (r_mk r1) 33) = false) => ?_) (fun (h134 : (hbL (r_mk r1) 33) = true) => ?_)
                  · exact tail _ _ _ _ (by unfold recsR; rw [if_neg (fun q => q.2.elim h79 (fun z => h89 z.1)), if_neg (fun q => absurd (q.2.2.symm.trans h134) (by decide))]) hP hD hS (lv_sub hl [1] rfl)
                  · refine lv_aload_n hx hb dX2_fail_137 rfl (lv_at hl 1 rfl) ?_
                    refine lv_iconst (v := nI 0) hx hb dX2_fail_138 (by decide) ?_
                    refine rp_rc (v := 0) hx hb hts hinX2 hown hK hP hD hS (hts (.fieldLink RX2 52 "FencedWordsModel" "records" "I") (List.mem_of_getElem? (i := 3) rfl)) dX2_fail_139 (fun H locs hP hD hS => ?_)
                    exact tail _ _ _ _ (by unfold recsR; rw [if_neg (fun q => q.2.elim h79 (fun z => h89 z.1)), if_pos ⟨h115, h125, h134⟩]) hP hD hS (lv_sub hl [1] rfl)
            · refine lv_aload_n hx hb dX2_fail_92 rfl (lv_at hl 1 rfl) ?_
              refine lv_bipush (v := nI 32) hx hb dX2_fail_93 (by decide) ?_
              refine callVi (rest := []) ⟨hx, hb, hml, hown, hts⟩ (mX2_bit l y t b r1 32 (by omega)) (cwV 1 hts gX2_fail_X2_bit rfl rfl rfl (by decide +kernel) ⟨Nat.le_of_ble_eq_true rfl, Nat.le_of_ble_eq_true rfl⟩) (va_recv hK hP (ci := 2) (q0 := 0) rfl rfl) hK hP hD hS hA hN rfl hl.1 rfl (Nat.le_of_ble_eq_true rfl) dX2_fail_95 ⟨Nat.le_of_ble_eq_true rfl, Nat.le_of_ble_eq_true rfl⟩ (fun H locs hP hD hS => ?_)
              refine q_ifb_ne (tgt := 111) hx hb dX2_fail_98 (by decide) (fun (h98 : (hbL (r_mk r1) 32) = true) => ?_) (fun (h98 : (hbL (r_mk r1) 32) = false) => ?_)
              · refine lv_aload_n hx hb dX2_fail_111 rfl (lv_at hl 1 rfl) ?_
                refine rg_rc hx hb hts hinX2 hown hK hP (hts (.fieldLink RX2 52 "FencedWordsModel" "records" "I") (List.mem_of_getElem? (i := 3) rfl)) dX2_fail_112 ?_
                refine q_if_le (tgt := 142) hx hb (show (r_rc r1) < 2 ^ 31 by omega) dX2_fail_115 (by decide) (fun (h115 : (r_rc r1) = 0) => ?_) (fun (h115 : ¬ (r_rc r1) = 0) => ?_)
                · exact tail _ _ _ _ (by unfold recsR; rw [if_neg (fun q => q.2.elim h79 (fun z => absurd (z.2.symm.trans h98) (by decide))), if_neg (fun q => q.1 h115)]) hP hD hS (lv_sub hl [1] rfl)
                · refine lv_aload_n hx hb dX2_fail_118 rfl (lv_at hl 1 rfl) ?_
                  refine rg_r7 hx hb hts hinX2 hown hK hP (hts (.fieldLink RX2 30 "FencedWordsModel" "stands" "[I") (List.mem_of_getElem? (i := 4) rfl)) dX2_fail_119 ?_
                  refine lv_iconst (v := nI 0) hx hb dX2_fail_122 (by decide) ?_
                  refine rl_st hx hb hK hP (show 0 < 20 by omega) dX2_fail_123 ?_
                  refine lv_iconst (v := nI 3) hx hb dX2_fail_124 (by decide) ?_
                  refine q_icmp_ne (tgt := 142) hx hb (show (r_st r1 0) < 2 ^ 31 by omega) (show 3 < 2 ^ 31 by omega) dX2_fail_125 (by decide) (fun (h125 : ¬ (r_st r1 0) = 3) => ?_) (fun (h125 : (r_st r1 0) = 3) => ?_)
                  · exact tail _ _ _ _ (by unfold recsR; rw [if_neg (fun q => q.2.elim h79 (fun z => absurd (z.2.symm.trans h98) (by decide))), if_neg (fun q => h125 q.2.1)]) hP hD hS (lv_sub hl [1] rfl)
                  · refine lv_aload_n hx hb dX2_fail_128 rfl (lv_at hl 1 rfl) ?_
                    refine lv_bipush (v := nI 33) hx hb dX2_fail_129 (by decide) ?_
                    refine callVi (rest := []) ⟨hx, hb, hml, hown, hts⟩ (mX2_bit l y t b r1 33 (by omega)) (cwV 1 hts gX2_fail_X2_bit rfl rfl rfl (by decide +kernel) ⟨Nat.le_of_ble_eq_true rfl, Nat.le_of_ble_eq_true rfl⟩) (va_recv hK hP (ci := 2) (q0 := 0) rfl rfl) hK hP hD hS hA hN rfl hl.1 rfl (Nat.le_of_ble_eq_true rfl) dX2_fail_131 ⟨Nat.le_of_ble_eq_true rfl, Nat.le_of_ble_eq_true rfl⟩ (fun H locs hP hD hS => ?_)
                    refine q_ifb_eq (tgt := 142) hx hb dX2_fail_134 (by decide) (fun (h134 : (hbL (r_mk r1) 33) = false) => ?_) (fun (h134 : (hbL (r_mk r1) 33) = true) => ?_)
                    · exact tail _ _ _ _ (by unfold recsR; rw [if_neg (fun q => q.2.elim h79 (fun z => absurd (z.2.symm.trans h98) (by decide))), if_neg (fun q => absurd (q.2.2.symm.trans h134) (by decide))]) hP hD hS (lv_sub hl [1] rfl)
                    · refine lv_aload_n hx hb dX2_fail_137 rfl (lv_at hl 1 rfl) ?_
                      refine lv_iconst (v := nI 0) hx hb dX2_fail_138 (by decide) ?_
                      refine rp_rc (v := 0) hx hb hts hinX2 hown hK hP hD hS (hts (.fieldLink RX2 52 "FencedWordsModel" "records" "I") (List.mem_of_getElem? (i := 3) rfl)) dX2_fail_139 (fun H locs hP hD hS => ?_)
                      exact tail _ _ _ _ (by unfold recsR; rw [if_neg (fun q => q.2.elim h79 (fun z => absurd (z.2.symm.trans h98) (by decide))), if_pos ⟨h115, h125, h134⟩]) hP hD hS (lv_sub hl [1] rfl)
              · refine lv_aload_n hx hb dX2_fail_101 rfl (lv_at hl 1 rfl) ?_
                refine lv_dup hx hb dX2_fail_102 rfl ?_
                refine rg_rc hx hb hts hinX2 hown hK hP (hts (.fieldLink RX2 52 "FencedWordsModel" "records" "I") (List.mem_of_getElem? (i := 3) rfl)) dX2_fail_103 ?_
                refine lv_iconst (v := nI 1) hx hb dX2_fail_106 (by decide) ?_
                refine q_isub hx hb (show 1 ≤ (r_rc r1) by omega) dX2_fail_107 ?_
                refine rp_rc (v := (r_rc r1) - 1) hx hb hts hinX2 hown hK hP hD hS (hts (.fieldLink RX2 52 "FencedWordsModel" "records" "I") (List.mem_of_getElem? (i := 3) rfl)) dX2_fail_108 (fun H locs hP hD hS => ?_)
                refine lv_aload_n hx hb dX2_fail_111 rfl (lv_at hl 1 rfl) ?_
                refine rg_rc hx hb hts hinX2 hown hK hP (hts (.fieldLink RX2 52 "FencedWordsModel" "records" "I") (List.mem_of_getElem? (i := 3) rfl)) dX2_fail_112 ?_
                refine q_if_le (tgt := 142) hx hb (show ((r_rc r1) - 1) < 2 ^ 31 by omega) dX2_fail_115 (by decide) (fun (h115 : ((r_rc r1) - 1) = 0) => ?_) (fun (h115 : ¬ ((r_rc r1) - 1) = 0) => ?_)
                · exact tail _ _ _ _ (by unfold recsR; rw [if_pos ⟨h70, Or.inr ⟨h89, h98⟩⟩, if_neg (fun q => q.1 h115)]) hP hD hS (lv_sub hl [1] rfl)
                · refine lv_aload_n hx hb dX2_fail_118 rfl (lv_at hl 1 rfl) ?_
                  refine rg_r7 hx hb hts hinX2 hown hK hP (hts (.fieldLink RX2 30 "FencedWordsModel" "stands" "[I") (List.mem_of_getElem? (i := 4) rfl)) dX2_fail_119 ?_
                  refine lv_iconst (v := nI 0) hx hb dX2_fail_122 (by decide) ?_
                  refine rl_st hx hb hK hP (show 0 < 20 by omega) dX2_fail_123 ?_
                  refine lv_iconst (v := nI 3) hx hb dX2_fail_124 (by decide) ?_
                  refine q_icmp_ne (tgt := 142) hx hb (show (r_st r1 0) < 2 ^ 31 by omega) (show 3 < 2 ^ 31 by omega) dX2_fail_125 (by decide) (fun (h125 : ¬ (r_st r1 0) = 3) => ?_) (fun (h125 : (r_st r1 0) = 3) => ?_)
                  · exact tail _ _ _ _ (by unfold recsR; rw [if_pos ⟨h70, Or.inr ⟨h89, h98⟩⟩, if_neg (fun q => h125 q.2.1)]) hP hD hS (lv_sub hl [1] rfl)
                  · refine lv_aload_n hx hb dX2_fail_128 rfl (lv_at hl 1 rfl) ?_
                    refine lv_bipush (v := nI 33) hx hb dX2_fail_129 (by decide) ?_
                    refine callVi (rest := []) ⟨hx, hb, hml, hown, hts⟩ (mX2_bit l y t b (rs_rc r1 ((r_rc r1) - 1)) 33 (by omega)) (cwV 1 hts gX2_fail_X2_bit rfl rfl rfl (by decide +kernel) ⟨Nat.le_of_ble_eq_true rfl, Nat.le_of_ble_eq_true rfl⟩) (va_recv hK hP (ci := 2) (q0 := 0) rfl rfl) hK hP hD hS hA hN rfl hl.1 rfl (Nat.le_of_ble_eq_true rfl) dX2_fail_131 ⟨Nat.le_of_ble_eq_true rfl, Nat.le_of_ble_eq_true rfl⟩ (fun H locs hP hD hS => ?_)
                    refine q_ifb_eq (tgt := 142) hx hb dX2_fail_134 (by decide) (fun (h134 : (hbL (r_mk r1) 33) = false) => ?_) (fun (h134 : (hbL (r_mk r1) 33) = true) => ?_)
                    · exact tail _ _ _ _ (by unfold recsR; rw [if_pos ⟨h70, Or.inr ⟨h89, h98⟩⟩, if_neg (fun q => absurd (q.2.2.symm.trans h134) (by decide))]) hP hD hS (lv_sub hl [1] rfl)
                    · refine lv_aload_n hx hb dX2_fail_137 rfl (lv_at hl 1 rfl) ?_
                      refine lv_iconst (v := nI 0) hx hb dX2_fail_138 (by decide) ?_
                      refine rp_rc (v := 0) hx hb hts hinX2 hown hK hP hD hS (hts (.fieldLink RX2 52 "FencedWordsModel" "records" "I") (List.mem_of_getElem? (i := 3) rfl)) dX2_fail_139 (fun H locs hP hD hS => ?_)
                      exact tail _ _ _ _ (by unfold recsR; rw [if_pos ⟨h70, Or.inr ⟨h89, h98⟩⟩, if_pos ⟨h115, h125, h134⟩]) hP hD hS (lv_sub hl [1] rfl)
      · refine lv_aload_n hx hb dX2_fail_8 rfl (lv_at hl 0 rfl) ?_
        refine rg_r2 hx hb hts hinX2 hown hK hP (hts (.fieldLink RX2 13 "FencedWordsModel" "kept" "[J") (List.mem_of_getElem? (i := 1) rfl)) dX2_fail_9 ?_
        refine lv_iload_n hx hb dX2_fail_12 rfl (lv_at hl 1 rfl) ?_
        refine lv_aload_n hx hb dX2_fail_13 rfl (lv_at hl 0 rfl) ?_
        refine rg_r1 hx hb hts hinX2 hown hK hP (hts (.fieldLink RX2 7 "FencedWordsModel" "seen" "[J") (List.mem_of_getElem? (i := 2) rfl)) dX2_fail_14 ?_
        refine lv_iload_n hx hb dX2_fail_17 rfl (lv_at hl 1 rfl) ?_
        refine rl_S hx hb hK hP (show i < 32 by omega) dX2_fail_18 ?_
        refine lv_aload_n hx hb dX2_fail_19 rfl (lv_at hl 0 rfl) ?_
        refine rg_r2 hx hb hts hinX2 hown hK hP (hts (.fieldLink RX2 13 "FencedWordsModel" "kept" "[J") (List.mem_of_getElem? (i := 1) rfl)) dX2_fail_20 ?_
        refine lv_iload_n hx hb dX2_fail_23 rfl (lv_at hl 1 rfl) ?_
        refine rl_K hx hb hK hP (show i < 32 by omega) dX2_fail_24 ?_
        refine W.lcmp hx hb dX2_fail_25 ?_
        refine lv_if_eq (tgt := 46) hx hb dX2_fail_26 (by decide) (fun (h26 : (lg_cmp (r_S r i) ((keepF r i) i)) = 0) => ?_) (fun (h26 : ¬ (lg_cmp (r_S r i) ((keepF r i) i)) = 0) => ?_)
        · refine lv_aload_n hx hb dX2_fail_46 rfl (lv_at hl 0 rfl) ?_
          refine rg_r2 hx hb hts hinX2 hown hK hP (hts (.fieldLink RX2 13 "FencedWordsModel" "kept" "[J") (List.mem_of_getElem? (i := 1) rfl)) dX2_fail_47 ?_
          refine lv_iload_n hx hb dX2_fail_50 rfl (lv_at hl 1 rfl) ?_
          refine rl_K hx hb hK hP (show i < 32 by omega) dX2_fail_51 ?_
          refine rt_K (v := (keepF r i) i) hx hb hK hP hD hS (show i < 32 by omega) dX2_fail_52 (fun H locs hP hD hS => ?_)
          refine lv_iinc (v := nI (i + 1)) (lv' := [(1, .int (nI (i + 1))), (0, .ref (b 0))]) hx hb dX2_fail_53 hl (k := 1) rfl (nI_add i 1) (by decide) rfl (fun ls hl => ?_)
          refine lv_goto (tgt := 2) hx hb dX2_fail_56 (by decide) ?_
          have hP : va_P D vwCl (wR b y (rs_K (rs_K r (keepF r i)) (vp_updL (keepF r i) i ((keepF r i) i))) t) H := hP
          have hD : va_D A (wR b y (rs_K (rs_K r (keepF r i)) (vp_updL (keepF r i) i ((keepF r i) i))) t) := hD
          rw [rss_K, keepF_e ((lg_cmp_0 _ _).mp h26)] at hP hD
          exact ih2 (i + 1) _ _ _ (by omega) (by omega) hP hD hS (lv_sub hl [1, 0] rfl)
        · refine lv_aload_n hx hb dX2_fail_29 rfl (lv_at hl 0 rfl) ?_
          refine lv_iload_n hx hb dX2_fail_30 rfl (lv_at hl 1 rfl) ?_
          refine callVi (rest := [.int (nI i), .ref (b 2)]) ⟨hx, hb, hml, hown, hts⟩ (mX2_bit l y t b (rs_K r (keepF r i)) i (by omega)) (cwV 1 hts gX2_fail_X2_bit rfl rfl rfl (by decide +kernel) ⟨Nat.le_of_ble_eq_true rfl, Nat.le_of_ble_eq_true rfl⟩) (va_recv hK hP (ci := 2) (q0 := 0) rfl rfl) hK hP hD hS hA hN rfl hl.1 rfl (Nat.le_of_ble_eq_true rfl) dX2_fail_31 ⟨Nat.le_of_ble_eq_true rfl, Nat.le_of_ble_eq_true rfl⟩ (fun H locs hP hD hS => ?_)
          refine q_ifb_eq (tgt := 46) hx hb dX2_fail_34 (by decide) (fun (h34 : (hbL (r_mk r) i) = false) => ?_) (fun (h34 : (hbL (r_mk r) i) = true) => ?_)
          · refine lv_aload_n hx hb dX2_fail_46 rfl (lv_at hl 0 rfl) ?_
            refine rg_r2 hx hb hts hinX2 hown hK hP (hts (.fieldLink RX2 13 "FencedWordsModel" "kept" "[J") (List.mem_of_getElem? (i := 1) rfl)) dX2_fail_47 ?_
            refine lv_iload_n hx hb dX2_fail_50 rfl (lv_at hl 1 rfl) ?_
            refine rl_K hx hb hK hP (show i < 32 by omega) dX2_fail_51 ?_
            refine rt_K (v := (keepF r i) i) hx hb hK hP hD hS (show i < 32 by omega) dX2_fail_52 (fun H locs hP hD hS => ?_)
            refine lv_iinc (v := nI (i + 1)) (lv' := [(1, .int (nI (i + 1))), (0, .ref (b 0))]) hx hb dX2_fail_53 hl (k := 1) rfl (nI_add i 1) (by decide) rfl (fun ls hl => ?_)
            refine lv_goto (tgt := 2) hx hb dX2_fail_56 (by decide) ?_
            have hP : va_P D vwCl (wR b y (rs_K (rs_K r (keepF r i)) (vp_updL (keepF r i) i ((keepF r i) i))) t) H := hP
            have hD : va_D A (wR b y (rs_K (rs_K r (keepF r i)) (vp_updL (keepF r i) i ((keepF r i) i))) t) := hD
            rw [rss_K, keepF_f h34] at hP hD
            exact ih2 (i + 1) _ _ _ (by omega) (by omega) hP hD hS (lv_sub hl [1, 0] rfl)
          · refine lv_aload_n hx hb dX2_fail_37 rfl (lv_at hl 0 rfl) ?_
            refine rg_r1 hx hb hts hinX2 hown hK hP (hts (.fieldLink RX2 7 "FencedWordsModel" "seen" "[J") (List.mem_of_getElem? (i := 2) rfl)) dX2_fail_38 ?_
            refine lv_iload_n hx hb dX2_fail_41 rfl (lv_at hl 1 rfl) ?_
            refine rl_S hx hb hK hP (show i < 32 by omega) dX2_fail_42 ?_
            refine lv_goto (tgt := 52) hx hb dX2_fail_43 (by decide) ?_
            refine rt_K (v := r_S r i) hx hb hK hP hD hS (show i < 32 by omega) dX2_fail_52 (fun H locs hP hD hS => ?_)
            refine lv_iinc (v := nI (i + 1)) (lv' := [(1, .int (nI (i + 1))), (0, .ref (b 0))]) hx hb dX2_fail_53 hl (k := 1) rfl (nI_add i 1) (by decide) rfl (fun ls hl => ?_)
            refine lv_goto (tgt := 2) hx hb dX2_fail_56 (by decide) ?_
            have hP : va_P D vwCl (wR b y (rs_K (rs_K r (keepF r i)) (vp_updL (keepF r i) i (r_S r i))) t) H := hP
            have hD : va_D A (wR b y (rs_K (rs_K r (keepF r i)) (vp_updL (keepF r i) i (r_S r i))) t) := hD
            rw [rss_K, keepF_t h34] at hP hD
            exact ih2 (i + 1) _ _ _ (by omega) (by omega) hP hD hS (lv_sub hl [1, 0] rfl)
  have e0 : r = rs_K r (keepF r 0) := (by rw [keepF_0]; rfl)
  rw [e0] at hP hD
  exact loop 33 0 _ _ _ (by omega) (by omega) hP hD hS (lv_sub hl [1, 0] rfl)
theorem in_X2_X2_go : ∀ w ∈ wsX20, w ∈ wsX2_go := fun w h => List.mem_cons_of_mem _ (List.mem_append_right _ (h))
set_option maxHeartbeats 400000 in
set_option maxRecDepth 100000 in
theorem mX2_go (l : Launch) (y : Nat → ClassId) (t : va_W) (b : Nat → Nat) (r : RS) (hO : AOK r) : MGi l yX2_go wsX2_go 2 44 [.ref (b 0)] (tyA y) (wR b y r t) (bRes (goF r).1) (wR b y ((goF r).2) t) := by
  refine MGi.of (cc := cX2_go) (maxL := 2) (by decide) rfl (Nat.le_of_ble_eq_true rfl) ?_
  intro D p e s m below meth c0 A ls hx hb hr hml hown hlocks hts hK hP hD hA hN hl hS
  have hl : lv_has ls 2 [(0, .ref (b 0))] := hl
  have hinX2 : ∀ w ∈ u_ws RX2 TX2 19, w ∈ wsX2_go := in_X2_X2_go
  have hac0 := hO.1
  refine lv_iconst (v := nI 0) hx hb dX2_go_0 (by decide) ?_
  refine lv_istore_n (lv' := [(1, .int (nI 0)), (0, .ref (b 0))]) hx hb dX2_go_1 rfl hl (by decide) rfl (fun ls hl => ?_)
  have loop : ∀ (n2 : Nat) (k : Nat) (d : RS) (H : Heap) (locs : List Loc) (ls : Array Slot), (k ≤ r_ac d) → (r_ac d + 1 ≤ k + n2) → (AOK d) → (goF r = goR (r_ac d - k) k d) → va_P D vwCl (wR b y d t) H → va_D A (wR b y d t) → va_S A s.heap H locs → lv_has ls 2 [(0, .ref (b 0)), (1, .int (nI k))] → W p l e ({ frames := 2, cells := 0, slots := 0, locals := 44 }) s m [.ref (b 0)].toArray below meth c0 H locs 0 0 (GQi below D (tyA y) A (bRes (goF r).1) (wR b y ((goF r).2) t) [.ref (b 0)].toArray s) (F0 m 2 ls []) := by
    intro n2
    induction n2 with
    | zero =>
      intro k d H locs ls hi hn hO hE hP hD hS hl
      omega
    | succ n2 ih2 =>
      intro k d H locs ls hi hn hO hE hP hD hS hl
      have hac0 := hO.1
      refine lv_iload_n hx hb dX2_go_2 rfl (lv_at hl 1 rfl) ?_
      refine lv_aload_n hx hb dX2_go_3 rfl (lv_at hl 0 rfl) ?_
      refine rg_ac hx hb hts hinX2 hown hK hP (hts (.fieldLink RX2 48 "FencedWordsModel" "acts" "I") (List.mem_of_getElem? (i := 1) rfl)) dX2_go_4 ?_
      refine q_icmp_ge (tgt := 52) hx hb (show k < 2 ^ 31 by omega) (show (r_ac d) < 2 ^ 31 by omega) dX2_go_7 (by decide) (fun (h7 : (r_ac d) ≤ k) => ?_) (fun (h7 : k < (r_ac d)) => ?_)
      · refine lv_iconst (v := nI 0) hx hb dX2_go_52 (by decide) ?_
        exact retGi hx hb hr hlocks hK hP hD hS dX2_go_53 (by rw [hE, show r_ac d - k = 0 by omega]; rfl) (by rw [hE, show r_ac d - k = 0 by omega]; rfl)
      · obtain ⟨g1, g2, g3, g4, g5, g6⟩ := id hO
        obtain ⟨o1, o2, o3⟩ := g5 k h7
        have o4 : r_an d k = 4 ∨ r_an d k = 5 → 1 ≤ r_rc d := (by intro q; rcases g6 with z | z; exact z.1; have := z k h7; omega)
        refine lv_aload_n hx hb dX2_go_10 rfl (lv_at hl 0 rfl) ?_
        refine lv_iload_n hx hb dX2_go_11 rfl (lv_at hl 1 rfl) ?_
        refine callVv (rest := []) ⟨hx, hb, hml, hown, hts⟩ (mX2_one l y t b d k (by omega) (by omega) o1 o2 o3 o4) (cwV 1 hts gX2_go_X2_one rfl rfl rfl (by decide +kernel) ⟨Nat.le_of_ble_eq_true rfl, Nat.le_of_ble_eq_true rfl⟩) (va_recv hK hP (ci := 2) (q0 := 0) rfl rfl) hK hP hD hS hA hN rfl hl.1 rfl (Nat.le_of_ble_eq_true rfl) dX2_go_12 ⟨Nat.le_of_ble_eq_true rfl, Nat.le_of_ble_eq_true rfl⟩ (fun H locs hP hD hS => ?_)
        generalize hc1 : oneR (r_an d k) (r_on d k) (r_wi d k) d = c1 at hP hD
        have hP : va_P D vwCl (wR b y c1 t) H := hP
        have hD : va_D A (wR b y c1 t) := hD
        have hO1 : AOK c1 := hc1 ▸ AOK_one hO h7
        have a1 := hO1.2.2.1
        have hzf := hO1.2.1
        have hstf := hO1.2.2.2.1
        have hac1 : r_ac c1 = r_ac d := (by rw [← hc1]; exact one_ac _ _ _ _)
        refine lv_aload_n hx hb dX2_go_15 rfl (lv_at hl 0 rfl) ?_
        refine rg_ar hx hb hts hinX2 hown hK hP (hts (.fieldLink RX2 68 "FencedWordsModel" "armed" "I") (List.mem_of_getElem? (i := 2) rfl)) dX2_go_16 ?_
        refine q_if_le (tgt := 46) hx hb (show (r_ar c1) < 2 ^ 31 by omega) dX2_go_19 (by decide) (fun (h19 : (r_ar c1) = 0) => ?_) (fun (h19 : ¬ (r_ar c1) = 0) => ?_)
        · refine lv_iinc (v := nI (k + 1)) (lv' := [(1, .int (nI (k + 1))), (0, .ref (b 0))]) hx hb dX2_go_46 hl (k := 1) rfl (nI_add k 1) (by decide) rfl (fun ls hl => ?_)
          refine lv_goto (tgt := 2) hx hb dX2_go_49 (by decide) ?_
          have es : stepR k d = (true, c1) := (by show endR (oneR _ _ _ d) = _; rw [hc1]; unfold endR; rw [if_pos h19])
          exact ih2 (k + 1) c1 _ _ _ (by show _ ≤ r_ac c1; omega) (by show r_ac c1 + 1 ≤ _; omega) hO1 (by rw [hE, goR_t (by omega) (by rw [es]), es]; show goR (r_ac d - k - 1) (k + 1) _ = goR (r_ac c1 - (k + 1)) (k + 1) _; rw [hac1, show r_ac d - k - 1 = r_ac d - (k + 1) by omega]) hP hD hS (lv_sub hl [1, 0] rfl)
        · refine lv_aload_n hx hb dX2_go_22 rfl (lv_at hl 0 rfl) ?_
          refine lv_dup hx hb dX2_go_23 rfl ?_
          refine rg_ar hx hb hts hinX2 hown hK hP (hts (.fieldLink RX2 68 "FencedWordsModel" "armed" "I") (List.mem_of_getElem? (i := 2) rfl)) dX2_go_24 ?_
          refine lv_iconst (v := nI 1) hx hb dX2_go_27 (by decide) ?_
          refine q_isub hx hb (show 1 ≤ (r_ar c1) by omega) dX2_go_28 ?_
          refine rp_ar (v := (r_ar c1) - 1) hx hb hts hinX2 hown hK hP hD hS (hts (.fieldLink RX2 68 "FencedWordsModel" "armed" "I") (List.mem_of_getElem? (i := 2) rfl)) dX2_go_29 (fun H locs hP hD hS => ?_)
          refine lv_aload_n hx hb dX2_go_32 rfl (lv_at hl 0 rfl) ?_
          refine rg_ar hx hb hts hinX2 hown hK hP (hts (.fieldLink RX2 68 "FencedWordsModel" "armed" "I") (List.mem_of_getElem? (i := 2) rfl)) dX2_go_33 ?_
          refine q_if_ne (tgt := 46) hx hb (show ((r_ar c1) - 1) < 2 ^ 31 by omega) dX2_go_36 (by decide) (fun (h36 : ¬ ((r_ar c1) - 1) = 0) => ?_) (fun (h36 : ((r_ar c1) - 1) = 0) => ?_)
          · refine lv_iinc (v := nI (k + 1)) (lv' := [(1, .int (nI (k + 1))), (0, .ref (b 0))]) hx hb dX2_go_46 hl (k := 1) rfl (nI_add k 1) (by decide) rfl (fun ls hl => ?_)
            refine lv_goto (tgt := 2) hx hb dX2_go_49 (by decide) ?_
            have es : stepR k d = (true, rs_ar c1 ((r_ar c1) - 1)) := (by show endR (oneR _ _ _ d) = _; rw [hc1]; unfold endR; rw [if_neg h19, if_neg h36])
            exact ih2 (k + 1) (rs_ar c1 ((r_ar c1) - 1)) _ _ _ (by show _ ≤ r_ac c1; omega) (by show r_ac c1 + 1 ≤ _; omega) (AOK_end hO1 _ (by omega)) (by rw [hE, goR_t (by omega) (by rw [es]), es]; show goR (r_ac d - k - 1) (k + 1) _ = goR (r_ac c1 - (k + 1)) (k + 1) _; rw [hac1, show r_ac d - k - 1 = r_ac d - (k + 1) by omega]) hP hD hS (lv_sub hl [1, 0] rfl)
          · refine lv_aload_n hx hb dX2_go_39 rfl (lv_at hl 0 rfl) ?_
            refine callVv (rest := []) ⟨hx, hb, hml, hown, hts⟩ (mX2_fail l y t b (rs_ar c1 ((r_ar c1) - 1)) hzf hstf) (cwV 0 hts gX2_go_X2_fail rfl rfl rfl (by decide +kernel) ⟨Nat.le_of_ble_eq_true rfl, Nat.le_of_ble_eq_true rfl⟩) (va_recv hK hP (ci := 2) (q0 := 0) rfl rfl) hK hP hD hS hA hN rfl hl.1 rfl (Nat.le_of_ble_eq_true rfl) dX2_go_40 ⟨Nat.le_of_ble_eq_true rfl, Nat.le_of_ble_eq_true rfl⟩ (fun H locs hP hD hS => ?_)
            generalize hc2 : failR (rs_ar c1 ((r_ar c1) - 1)) = c2 at hP hD
            have hP : va_P D vwCl (wR b y c2 t) H := hP
            have hD : va_D A (wR b y c2 t) := hD
            have es : stepR k d = (false, failR (rs_ar c1 (r_ar c1 - 1))) := (by show endR (oneR _ _ _ d) = _; rw [hc1]; unfold endR; rw [if_neg h19, if_pos h36])
            refine lv_bipush (v := (-2)) hx hb dX2_go_43 (by decide) ?_
            exact retGi hx hb hr hlocks hK hP hD hS dX2_go_45 (by rw [hE, goR_f (by omega) (by rw [es])]; rfl) (by rw [hE, goR_f (by omega) (by rw [es]), es, hc2])
  exact loop (r_ac r + 1) 0 r _ _ _ (by omega) (by omega) hO rfl hP hD hS (lv_sub hl [1, 0] rfl)
theorem in_X2_X2_taken : ∀ w ∈ wsX20, w ∈ wsX2_taken := fun w h => List.mem_cons_of_mem _ (List.mem_append_right _ (h))
set_option maxHeartbeats 400000 in
set_option maxRecDepth 100000 in
theorem mX2_taken (l : Launch) (y : Nat → ClassId) (t : va_W) (b : Nat → Nat) (r : RS) (hz : r_rc r ≤ 20) : MGi l yX2_taken wsX2_taken 0 0 [.ref (b 0)] (tyA y) (wR b y r t) (nI (takR r (r_rc r))) (wR b y r t) := by
  refine MGi.of (cc := cX2_taken) (maxL := 3) (by decide) rfl (Nat.le_of_ble_eq_true rfl) ?_
  intro D p e s m below meth c0 A ls hx hb hr hml hown hlocks hts hK hP hD hA hN hl hS
  have hl : lv_has ls 3 [(0, .ref (b 0))] := hl
  have hinX2 : ∀ w ∈ u_ws RX2 TX2 19, w ∈ wsX2_taken := in_X2_X2_taken
  refine lv_iconst (v := nI 0) hx hb dX2_taken_0 (by decide) ?_
  refine lv_istore_n (lv' := [(1, .int (nI 0)), (0, .ref (b 0))]) hx hb dX2_taken_1 rfl hl (by decide) rfl (fun ls hl => ?_)
  refine lv_iconst (v := nI 0) hx hb dX2_taken_2 (by decide) ?_
  refine lv_istore_n (lv' := [(2, .int (nI 0)), (1, .int (nI 0)), (0, .ref (b 0))]) hx hb dX2_taken_3 rfl hl (by decide) rfl (fun ls hl => ?_)
  have loop : ∀ (n4 : Nat) (i : Nat) (H : Heap) (locs : List Loc) (ls : Array Slot), (i ≤ r_rc r) → (r_rc r + 1 ≤ i + n4) → va_P D vwCl (wR b y r t) H → va_D A (wR b y r t) → va_S A s.heap H locs → lv_has ls 3 [(0, .ref (b 0)), (1, .int (nI (takR r i))), (2, .int (nI i))] → W p l e ({ frames := 0, cells := 0, slots := 0, locals := 0 }) s m [.ref (b 0)].toArray below meth c0 H locs 0 0 (GQi below D (tyA y) A (nI (takR r (r_rc r))) (wR b y r t) [.ref (b 0)].toArray s) (F0 m 4 ls []) := by
    intro n4
    induction n4 with
    | zero =>
      intro i H locs ls hi hn hP hD hS hl
      omega
    | succ n4 ih4 =>
      intro i H locs ls hi hn hP hD hS hl
      refine lv_iload_n hx hb dX2_taken_4 rfl (lv_at hl 2 rfl) ?_
      refine lv_aload_n hx hb dX2_taken_5 rfl (lv_at hl 0 rfl) ?_
      refine rg_rc hx hb hts hinX2 hown hK hP (hts (.fieldLink RX2 52 "FencedWordsModel" "records" "I") (List.mem_of_getElem? (i := 1) rfl)) dX2_taken_6 ?_
      refine q_icmp_ge (tgt := 29) hx hb (show i < 2 ^ 31 by omega) (show (r_rc r) < 2 ^ 31 by omega) dX2_taken_9 (by decide) (fun (h9 : (r_rc r) ≤ i) => ?_) (fun (h9 : i < (r_rc r)) => ?_)
      · refine lv_iload_n hx hb dX2_taken_29 rfl (lv_at hl 1 rfl) ?_
        exact retGi hx hb hr hlocks hK hP hD hS dX2_taken_30 (by rw [show i = r_rc r by omega]) rfl
      · refine lv_iload_n hx hb dX2_taken_12 rfl (lv_at hl 1 rfl) ?_
        refine lv_aload_n hx hb dX2_taken_13 rfl (lv_at hl 0 rfl) ?_
        refine rg_r5 hx hb hts hinX2 hown hK hP (hts (.fieldLink RX2 24 "FencedWordsModel" "many" "[I") (List.mem_of_getElem? (i := 2) rfl)) dX2_taken_14 ?_
        refine lv_iload_n hx hb dX2_taken_17 rfl (lv_at hl 2 rfl) ?_
        refine rl_ma hx hb hK hP (show i < 20 by omega) dX2_taken_18 ?_
        refine lv_iconst (v := nI 1) hx hb dX2_taken_19 (by decide) ?_
        refine q_iadd hx hb dX2_taken_20 ?_
        refine q_iadd hx hb dX2_taken_21 ?_
        refine lv_istore_n (lv' := [(1, .int (nI ((takR r i) + ((r_ma r i) + 1)))), (0, .ref (b 0)), (2, .int (nI i))]) hx hb dX2_taken_22 rfl hl (by decide) rfl (fun ls hl => ?_)
        refine lv_iinc (v := nI (i + 1)) (lv' := [(2, .int (nI (i + 1))), (1, .int (nI ((takR r i) + ((r_ma r i) + 1)))), (0, .ref (b 0))]) hx hb dX2_taken_23 hl (k := 2) rfl (nI_add i 1) (by decide) rfl (fun ls hl => ?_)
        refine lv_goto (tgt := 4) hx hb dX2_taken_26 (by decide) ?_
        exact ih4 (i + 1) _ _ _ (by omega) (by omega) hP hD hS (lv_sub hl [2, 1, 0] rfl)
  exact loop (r_rc r + 1) 0 _ _ _ (by omega) (by omega) hP hD hS (lv_sub hl [2, 1, 0] rfl)
theorem in_X2_X2_covered : ∀ w ∈ wsX20, w ∈ wsX2_covered := fun w h => List.mem_cons_of_mem _ (List.mem_append_right _ (h))
set_option maxHeartbeats 400000 in
set_option maxRecDepth 100000 in
theorem mX2_covered (l : Launch) (y : Nat → ClassId) (t : va_W) (b : Nat → Nat) (r : RS) (k : Nat) (hk : k < 32) (hz : r_rc r ≤ 20) (hf : ∀ q, q < r_rc r → r_fi r q + r_ma r q ≤ 32) : MGi l yX2_covered wsX2_covered 0 0 [.ref (b 0), .int (nI k)] (tyA y) (wR b y r t) (bI (covR r k)) (wR b y r t) := by
  refine MGi.of (cc := cX2_covered) (maxL := 4) (by decide) rfl (Nat.le_of_ble_eq_true rfl) ?_
  intro D p e s m below meth c0 A ls hx hb hr hml hown hlocks hts hK hP hD hA hN hl hS
  have hl : lv_has ls 4 [(0, .ref (b 0)), (1, .int (nI k))] := hl
  have hinX2 : ∀ w ∈ u_ws RX2 TX2 19, w ∈ wsX2_covered := in_X2_X2_covered
  refine lv_iconst (v := nI 0) hx hb dX2_covered_0 (by decide) ?_
  refine lv_istore_n (lv' := [(2, .int (nI 0)), (0, .ref (b 0)), (1, .int (nI k))]) hx hb dX2_covered_1 rfl hl (by decide) rfl (fun ls hl => ?_)
  refine lv_iconst (v := nI 0) hx hb dX2_covered_2 (by decide) ?_
  refine lv_istore_n (lv' := [(3, .int (nI 0)), (2, .int (nI 0)), (0, .ref (b 0)), (1, .int (nI k))]) hx hb dX2_covered_3 rfl hl (by decide) rfl (fun ls hl => ?_)
  have loop : ∀ (n4 : Nat) (i : Nat) (H : Heap) (locs : List Loc) (ls : Array Slot), (i ≤ r_rc r) → (r_rc r + 1 ≤ i + n4) → va_P D vwCl (wR b y r t) H → va_D A (wR b y r t) → va_S A s.heap H locs → lv_has ls 4 [(0, .ref (b 0)), (1, .int (nI k)), (2, .int (bI (anyTo (covQ r k) i))), (3, .int (nI i))] → W p l e ({ frames := 0, cells := 0, slots := 0, locals := 0 }) s m [.ref (b 0), .int (nI k)].toArray below meth c0 H locs 0 0 (GQi below D (tyA y) A (bI (covR r k)) (wR b y r t) [.ref (b 0), .int (nI k)].toArray s) (F0 m 4 ls []) := by
    intro n4
    induction n4 with
    | zero =>
      intro i H locs ls hi hn hP hD hS hl
      omega
    | succ n4 ih4 =>
      intro i H locs ls hi hn hP hD hS hl
      refine lv_iload_n hx hb dX2_covered_4 rfl (lv_at hl 3 rfl) ?_
      refine lv_aload_n hx hb dX2_covered_5 rfl (lv_at hl 0 rfl) ?_
      refine rg_rc hx hb hts hinX2 hown hK hP (hts (.fieldLink RX2 52 "FencedWordsModel" "records" "I") (List.mem_of_getElem? (i := 1) rfl)) dX2_covered_6 ?_
      refine q_icmp_ge (tgt := 55) hx hb (show i < 2 ^ 31 by omega) (show (r_rc r) < 2 ^ 31 by omega) dX2_covered_9 (by decide) (fun (h9 : (r_rc r) ≤ i) => ?_) (fun (h9 : i < (r_rc r)) => ?_)
      · refine lv_iload_n hx hb dX2_covered_55 rfl (lv_at hl 2 rfl) ?_
        exact retGz hx hb hr hlocks hK hP hD hS dX2_covered_56 (by rw [show i = r_rc r by omega]; rfl) rfl
      · have hfi := hf i h9
        refine lv_iload_n hx hb dX2_covered_12 rfl (lv_at hl 2 rfl) ?_
        refine q_ifb_ne (tgt := 43) hx hb dX2_covered_13 (by decide) (fun (h13 : (anyTo (covQ r k) i) = true) => ?_) (fun (h13 : (anyTo (covQ r k) i) = false) => ?_)
        · refine lv_iconst (v := nI 1) hx hb dX2_covered_43 (by decide) ?_
          refine lv_goto (tgt := 48) hx hb dX2_covered_44 (by decide) ?_
          refine lv_istore_n (lv' := [(2, .int (nI 1)), (0, .ref (b 0)), (1, .int (nI k)), (3, .int (nI i))]) hx hb dX2_covered_48 rfl hl (by decide) rfl (fun ls hl => ?_)
          refine lv_iinc (v := nI (i + 1)) (lv' := [(3, .int (nI (i + 1))), (2, .int (nI 1)), (0, .ref (b 0)), (1, .int (nI k))]) hx hb dX2_covered_49 hl (k := 3) rfl (nI_add i 1) (by decide) rfl (fun ls hl => ?_)
          refine lv_goto (tgt := 4) hx hb dX2_covered_52 (by decide) ?_
          have eb : anyTo (covQ r k) (i + 1) = true := (by simp [anyTo, h13])
          have eq : nI 1 = bI (anyTo (covQ r k) (i + 1)) := (by rw [eb]; rfl)
          rw [eq] at hl
          exact ih4 (i + 1) _ _ _ (by omega) (by omega) hP hD hS (lv_sub hl [2, 3, 1, 0] rfl)
        · refine lv_iload_n hx hb dX2_covered_16 rfl (lv_at hl 1 rfl) ?_
          refine lv_aload_n hx hb dX2_covered_17 rfl (lv_at hl 0 rfl) ?_
          refine rg_r4 hx hb hts hinX2 hown hK hP (hts (.fieldLink RX2 20 "FencedWordsModel" "first" "[I") (List.mem_of_getElem? (i := 2) rfl)) dX2_covered_18 ?_
          refine lv_iload_n hx hb dX2_covered_21 rfl (lv_at hl 3 rfl) ?_
          refine rl_fi hx hb hK hP (show i < 20 by omega) dX2_covered_22 ?_
          refine q_icmp_lt (tgt := 47) hx hb (show k < 2 ^ 31 by omega) (show (r_fi r i) < 2 ^ 31 by omega) dX2_covered_23 (by decide) (fun (h23 : k < (r_fi r i)) => ?_) (fun (h23 : (r_fi r i) ≤ k) => ?_)
          · refine lv_iconst (v := nI 0) hx hb dX2_covered_47 (by decide) ?_
            refine lv_istore_n (lv' := [(2, .int (nI 0)), (0, .ref (b 0)), (1, .int (nI k)), (3, .int (nI i))]) hx hb dX2_covered_48 rfl hl (by decide) rfl (fun ls hl => ?_)
            refine lv_iinc (v := nI (i + 1)) (lv' := [(3, .int (nI (i + 1))), (2, .int (nI 0)), (0, .ref (b 0)), (1, .int (nI k))]) hx hb dX2_covered_49 hl (k := 3) rfl (nI_add i 1) (by decide) rfl (fun ls hl => ?_)
            refine lv_goto (tgt := 4) hx hb dX2_covered_52 (by decide) ?_
            have eb : anyTo (covQ r k) (i + 1) = false := (by have q : covQ r k i = false := (by simp [covQ]; omega); simp [anyTo, h13, q])
            have eq : nI 0 = bI (anyTo (covQ r k) (i + 1)) := (by rw [eb]; rfl)
            rw [eq] at hl
            exact ih4 (i + 1) _ _ _ (by omega) (by omega) hP hD hS (lv_sub hl [2, 3, 1, 0] rfl)
          · refine lv_iload_n hx hb dX2_covered_26 rfl (lv_at hl 1 rfl) ?_
            refine lv_aload_n hx hb dX2_covered_27 rfl (lv_at hl 0 rfl) ?_
            refine rg_r4 hx hb hts hinX2 hown hK hP (hts (.fieldLink RX2 20 "FencedWordsModel" "first" "[I") (List.mem_of_getElem? (i := 2) rfl)) dX2_covered_28 ?_
            refine lv_iload_n hx hb dX2_covered_31 rfl (lv_at hl 3 rfl) ?_
            refine rl_fi hx hb hK hP (show i < 20 by omega) dX2_covered_32 ?_
            refine lv_aload_n hx hb dX2_covered_33 rfl (lv_at hl 0 rfl) ?_
            refine rg_r5 hx hb hts hinX2 hown hK hP (hts (.fieldLink RX2 24 "FencedWordsModel" "many" "[I") (List.mem_of_getElem? (i := 3) rfl)) dX2_covered_34 ?_
            refine lv_iload_n hx hb dX2_covered_37 rfl (lv_at hl 3 rfl) ?_
            refine rl_ma hx hb hK hP (show i < 20 by omega) dX2_covered_38 ?_
            refine q_iadd hx hb dX2_covered_39 ?_
            refine q_icmp_ge (tgt := 47) hx hb (show k < 2 ^ 31 by omega) (show ((r_fi r i) + (r_ma r i)) < 2 ^ 31 by omega) dX2_covered_40 (by decide) (fun (h40 : ((r_fi r i) + (r_ma r i)) ≤ k) => ?_) (fun (h40 : k < ((r_fi r i) + (r_ma r i))) => ?_)
            · refine lv_iconst (v := nI 0) hx hb dX2_covered_47 (by decide) ?_
              refine lv_istore_n (lv' := [(2, .int (nI 0)), (0, .ref (b 0)), (1, .int (nI k)), (3, .int (nI i))]) hx hb dX2_covered_48 rfl hl (by decide) rfl (fun ls hl => ?_)
              refine lv_iinc (v := nI (i + 1)) (lv' := [(3, .int (nI (i + 1))), (2, .int (nI 0)), (0, .ref (b 0)), (1, .int (nI k))]) hx hb dX2_covered_49 hl (k := 3) rfl (nI_add i 1) (by decide) rfl (fun ls hl => ?_)
              refine lv_goto (tgt := 4) hx hb dX2_covered_52 (by decide) ?_
              have eb : anyTo (covQ r k) (i + 1) = false := (by have q : covQ r k i = false := (by simp [covQ]; omega); simp [anyTo, h13, q])
              have eq : nI 0 = bI (anyTo (covQ r k) (i + 1)) := (by rw [eb]; rfl)
              rw [eq] at hl
              exact ih4 (i + 1) _ _ _ (by omega) (by omega) hP hD hS (lv_sub hl [2, 3, 1, 0] rfl)
            · refine lv_iconst (v := nI 1) hx hb dX2_covered_43 (by decide) ?_
              refine lv_goto (tgt := 48) hx hb dX2_covered_44 (by decide) ?_
              refine lv_istore_n (lv' := [(2, .int (nI 1)), (0, .ref (b 0)), (1, .int (nI k)), (3, .int (nI i))]) hx hb dX2_covered_48 rfl hl (by decide) rfl (fun ls hl => ?_)
              refine lv_iinc (v := nI (i + 1)) (lv' := [(3, .int (nI (i + 1))), (2, .int (nI 1)), (0, .ref (b 0)), (1, .int (nI k))]) hx hb dX2_covered_49 hl (k := 3) rfl (nI_add i 1) (by decide) rfl (fun ls hl => ?_)
              refine lv_goto (tgt := 4) hx hb dX2_covered_52 (by decide) ?_
              have eb : anyTo (covQ r k) (i + 1) = true := (by have q : covQ r k i = true := (by simp [covQ]; omega); simp [anyTo, q])
              have eq : nI 1 = bI (anyTo (covQ r k) (i + 1)) := (by rw [eb]; rfl)
              rw [eq] at hl
              exact ih4 (i + 1) _ _ _ (by omega) (by omega) hP hD hS (lv_sub hl [2, 3, 1, 0] rfl)
  have hl : lv_has ls 4 [(3, .int (nI 0)), (2, .int (bI (anyTo (covQ r k) 0))), (0, .ref (b 0)), (1, .int (nI k))] := hl
  exact loop (r_rc r + 1) 0 _ _ _ (by omega) (by omega) hP hD hS (lv_sub hl [2, 3, 1, 0] rfl)
end
section
theorem in_X2_X2_listClearing : ∀ w ∈ wsX20, w ∈ wsX2_listClearing := fun w h => List.mem_cons_of_mem _ (List.mem_append_right _ (h))
set_option maxHeartbeats 400000 in
set_option maxRecDepth 100000 in
theorem mX2_listClearing (l : Launch) (y : Nat → ClassId) (t : va_W) (b : Nat → Nat) (r : RS) (hac3 : r_ac r + 3 ≤ 64) (hz : r_rc r ≤ 20) : MGv l yX2_listClearing wsX2_listClearing 1 24 [.ref (b 0)] (tyA y) (wR b y r t) (wR b y (listAll (clrL r) r) t) := by
  refine MGv.of (cc := cX2_listClearing) (maxL := 1) (by decide) rfl (Nat.le_of_ble_eq_true rfl) ?_
  intro D p e s m below meth c0 A ls hx hb hr hml hown hlocks hts hK hP hD hA hN hl hS
  have hl : lv_has ls 1 [(0, .ref (b 0))] := hl
  have hinX2 : ∀ w ∈ u_ws RX2 TX2 19, w ∈ wsX2_listClearing := in_X2_X2_listClearing
  refine lv_aload_n hx hb dX2_listClearing_0 rfl (lv_at hl 0 rfl) ?_
  refine rg_rc hx hb hts hinX2 hown hK hP (hts (.fieldLink RX2 52 "FencedWordsModel" "records" "I") (List.mem_of_getElem? (i := 1) rfl)) dX2_listClearing_1 ?_
  refine q_if_ne (tgt := 8) hx hb (show (r_rc r) < 2 ^ 31 by omega) dX2_listClearing_4 (by decide) (fun (h4 : ¬ (r_rc r) = 0) => ?_) (fun (h4 : (r_rc r) = 0) => ?_)
  · refine lv_aload_n hx hb dX2_listClearing_8 rfl (lv_at hl 0 rfl) ?_
    refine lv_bipush (v := nI 6) hx hb dX2_listClearing_9 (by decide) ?_
    refine lv_iconst (v := nI 0) hx hb dX2_listClearing_11 (by decide) ?_
    refine lv_lconst (v := 0) hx hb dX2_listClearing_12 (by decide) ?_
    refine callVv (rest := []) ⟨hx, hb, hml, hown, hts⟩ (mX2_list l y t b r 6 0 0 (by first | assumption | omega)) (cwV 3 hts gX2_listClearing_X2_list rfl rfl rfl (by decide +kernel) ⟨Nat.le_of_ble_eq_true rfl, Nat.le_of_ble_eq_true rfl⟩) (va_recv hK hP (ci := 2) (q0 := 0) rfl rfl) hK hP hD hS hA hN rfl hl.1 rfl (Nat.le_of_ble_eq_true rfl) dX2_listClearing_13 ⟨Nat.le_of_ble_eq_true rfl, Nat.le_of_ble_eq_true rfl⟩ (fun H locs hP hD hS => ?_)
    have hac : r_ac (listA 6 0 0 r) < 64 := (by simp only [listA, rx_ac_ac]; omega)
    refine lv_aload_n hx hb dX2_listClearing_16 rfl (lv_at hl 0 rfl) ?_
    refine lv_iconst (v := nI 0) hx hb dX2_listClearing_17 (by decide) ?_
    refine lv_iconst (v := nI 0) hx hb dX2_listClearing_18 (by decide) ?_
    refine lv_lconst (v := 0) hx hb dX2_listClearing_19 (by decide) ?_
    refine callVv (rest := []) ⟨hx, hb, hml, hown, hts⟩ (mX2_list l y t b (listA 6 0 0 r) 0 0 0 (by first | assumption | omega)) (cwV 3 hts gX2_listClearing_X2_list rfl rfl rfl (by decide +kernel) ⟨Nat.le_of_ble_eq_true rfl, Nat.le_of_ble_eq_true rfl⟩) (va_recv hK hP (ci := 2) (q0 := 0) rfl rfl) hK hP hD hS hA hN rfl hl.1 rfl (Nat.le_of_ble_eq_true rfl) dX2_listClearing_20 ⟨Nat.le_of_ble_eq_true rfl, Nat.le_of_ble_eq_true rfl⟩ (fun H locs hP hD hS => ?_)
    have hac : r_ac (listA 0 0 0 (listA 6 0 0 r)) < 64 := (by simp only [listA, rx_ac_ac]; omega)
    refine lv_aload_n hx hb dX2_listClearing_23 rfl (lv_at hl 0 rfl) ?_
    refine lv_bipush (v := nI 7) hx hb dX2_listClearing_24 (by decide) ?_
    refine lv_iconst (v := nI 0) hx hb dX2_listClearing_26 (by decide) ?_
    refine lv_lconst (v := 0) hx hb dX2_listClearing_27 (by decide) ?_
    refine callVv (rest := []) ⟨hx, hb, hml, hown, hts⟩ (mX2_list l y t b (listA 0 0 0 (listA 6 0 0 r)) 7 0 0 (by first | assumption | omega)) (cwV 3 hts gX2_listClearing_X2_list rfl rfl rfl (by decide +kernel) ⟨Nat.le_of_ble_eq_true rfl, Nat.le_of_ble_eq_true rfl⟩) (va_recv hK hP (ci := 2) (q0 := 0) rfl rfl) hK hP hD hS hA hN rfl hl.1 rfl (Nat.le_of_ble_eq_true rfl) dX2_listClearing_28 ⟨Nat.le_of_ble_eq_true rfl, Nat.le_of_ble_eq_true rfl⟩ (fun H locs hP hD hS => ?_)
    exact retGv hx hb hr hlocks hK hP hD hS dX2_listClearing_31 (by unfold clrL; rw [if_neg h4]; rfl)
  · exact retGv hx hb hr hlocks hK hP hD hS dX2_listClearing_7 (by unfold clrL; rw [if_pos h4]; rfl)
theorem in_X2_X2_arm : ∀ w ∈ wsX20, w ∈ wsX2_arm := fun w h => List.mem_cons_of_mem _ (List.mem_append_right _ (h))
set_option maxHeartbeats 400000 in
set_option maxRecDepth 100000 in
theorem mX2_arm (l : Launch) (y : Nat → ClassId) (t : va_W) (b : Nat → Nat) (r : RS) (n : Int32) (v : Int64)  : MGi l yX2_arm wsX2_arm 0 0 [.ref (b 0), .int n, .long v] (tyA y) (wR b y r t) (bI ((armR n v r).1)) (wR b y ((armR n v r).2) t) := by
  refine MGi.of (cc := cX2_arm) (maxL := 4) (by decide) rfl (Nat.le_of_ble_eq_true rfl) ?_
  intro D p e s m below meth c0 A ls hx hb hr hml hown hlocks hts hK hP hD hA hN hl hS
  have hl : lv_has ls 4 [(0, .ref (b 0)), (1, .int n), (2, .long v)] := hl
  have hinX2 : ∀ w ∈ u_ws RX2 TX2 19, w ∈ wsX2_arm := in_X2_X2_arm
  refine lv_iload_n hx hb dX2_arm_0 rfl (lv_at hl 1 rfl) ?_
  refine lv_if_lt (tgt := 11) hx hb dX2_arm_1 (by decide) (fun (h1 : n < 0) => ?_) (fun (h1 : ¬ n < 0) => ?_)
  · refine lv_iconst (v := nI 0) hx hb dX2_arm_11 (by decide) ?_
    exact retGz hx hb hr hlocks hK hP hD hS dX2_arm_12 (by unfold armR; rw [if_pos h1]; rfl) (by unfold armR; rw [if_pos h1])
  · refine lv_iload_n hx hb dX2_arm_4 rfl (lv_at hl 1 rfl) ?_
    refine lv_sipush (v := nI 500) hx hb dX2_arm_5 (by decide) ?_
    refine lv_icmp_le (tgt := 13) hx hb dX2_arm_8 (by decide) (fun (h8 : n ≤ (nI 500)) => ?_) (fun (h8 : ¬ n ≤ (nI 500)) => ?_)
    · have g8 : ¬ nI 500 < n := (by rw [Int32.lt_iff_toInt_lt]; rw [Int32.le_iff_toInt_le] at h8; omega)
      obtain ⟨k, rfl, hk0⟩ := arm_nat h1 g8
      refine lv_aload_n hx hb dX2_arm_13 rfl (lv_at hl 0 rfl) ?_
      refine lv_iload_n hx hb dX2_arm_14 rfl (lv_at hl 1 rfl) ?_
      refine rp_ar (v := k) hx hb hts hinX2 hown hK hP hD hS (hts (.fieldLink RX2 68 "FencedWordsModel" "armed" "I") (List.mem_of_getElem? (i := 1) rfl)) dX2_arm_15 (fun H locs hP hD hS => ?_)
      refine lv_aload_n hx hb dX2_arm_18 rfl (lv_at hl 0 rfl) ?_
      refine lv_lload_n hx hb dX2_arm_19 rfl (lv_at hl 2 rfl) ?_
      refine rp_mk (v := v) hx hb hts hinX2 hown hK hP hD hS (hts (.fieldLink RX2 74 "FencedWordsModel" "mask" "J") (List.mem_of_getElem? (i := 2) rfl)) dX2_arm_20 (fun H locs hP hD hS => ?_)
      refine lv_iconst (v := nI 1) hx hb dX2_arm_23 (by decide) ?_
      exact retGz hx hb hr hlocks hK hP hD hS dX2_arm_24 (by unfold armR; rw [if_neg h1, if_neg g8]; rfl) (by unfold armR; rw [if_neg h1, if_neg g8, nI_clamp (by omega)])
    · refine lv_iconst (v := nI 0) hx hb dX2_arm_11 (by decide) ?_
      exact retGz hx hb hr hlocks hK hP hD hS dX2_arm_12 (by unfold armR; rw [if_neg h1, if_pos (by rw [Int32.lt_iff_toInt_lt]; rw [Int32.le_iff_toInt_le] at h8; omega)]; rfl) (by unfold armR; rw [if_neg h1, if_pos (by rw [Int32.lt_iff_toInt_lt]; rw [Int32.le_iff_toInt_le] at h8; omega)])
theorem in_X2_X2_begin : ∀ w ∈ wsX20, w ∈ wsX2_begin := fun w h => List.mem_cons_of_mem _ (List.mem_append_right _ (h))
set_option maxHeartbeats 400000 in
set_option maxRecDepth 100000 in
theorem mX2_begin (l : Launch) (y : Nat → ClassId) (t : va_W) (b : Nat → Nat) (r : RS)  : MGi l yX2_begin wsX2_begin 0 0 [.ref (b 0)] (tyA y) (wR b y r t) ((beginR r).1) (wR b y ((beginR r).2) t) := by
  refine MGi.of (cc := cX2_begin) (maxL := 2) (by decide) rfl (Nat.le_of_ble_eq_true rfl) ?_
  intro D p e s m below meth c0 A ls hx hb hr hml hown hlocks hts hK hP hD hA hN hl hS
  have hl : lv_has ls 2 [(0, .ref (b 0))] := hl
  have hinX2 : ∀ w ∈ u_ws RX2 TX2 19, w ∈ wsX2_begin := in_X2_X2_begin
  refine lv_aload_n hx hb dX2_begin_0 rfl (lv_at hl 0 rfl) ?_
  refine rg_of hx hb hts hinX2 hown hK hP (hts (.fieldLink RX2 82 "FencedWordsModel" "off" "Z") (List.mem_of_getElem? (i := 1) rfl)) dX2_begin_1 ?_
  refine q_ifb_ne (tgt := 14) hx hb dX2_begin_4 (by decide) (fun (h4 : (r_of r) = true) => ?_) (fun (h4 : (r_of r) = false) => ?_)
  · refine lv_iconst (v := (-1)) hx hb dX2_begin_14 (by decide) ?_
    exact retGi hx hb hr hlocks hK hP hD hS dX2_begin_15 (by unfold beginR; rw [if_pos h4]) (by unfold beginR; rw [if_pos h4])
  · refine lv_aload_n hx hb dX2_begin_7 rfl (lv_at hl 0 rfl) ?_
    refine rg_op hx hb hts hinX2 hown hK hP (hts (.fieldLink RX2 86 "FencedWordsModel" "open" "Z") (List.mem_of_getElem? (i := 2) rfl)) dX2_begin_8 ?_
    refine q_ifb_eq (tgt := 16) hx hb dX2_begin_11 (by decide) (fun (h11 : (r_op r) = false) => ?_) (fun (h11 : (r_op r) = true) => ?_)
    · refine lv_aload_n hx hb dX2_begin_16 rfl (lv_at hl 0 rfl) ?_
      refine lv_iconst (v := nI 1) hx hb dX2_begin_17 (by decide) ?_
      refine rp_op (v := true) hx hb hts hinX2 hown hK hP hD hS (hts (.fieldLink RX2 86 "FencedWordsModel" "open" "Z") (List.mem_of_getElem? (i := 2) rfl)) dX2_begin_18 (fun H locs hP hD hS => ?_)
      refine lv_iconst (v := nI 0) hx hb dX2_begin_21 (by decide) ?_
      refine lv_istore_n (lv' := [(1, .int (nI 0)), (0, .ref (b 0))]) hx hb dX2_begin_22 rfl hl (by decide) rfl (fun ls hl => ?_)
      have loop : ∀ (n23 : Nat) (i : Nat) (H : Heap) (locs : List Loc) (ls : Array Slot), (i ≤ 4) → (5 ≤ i + n23) → va_P D vwCl (wR b y (rs_to (rs_op r true) (clrB (r_to r) i)) t) H → va_D A (wR b y (rs_to (rs_op r true) (clrB (r_to r) i)) t) → va_S A s.heap H locs → lv_has ls 2 [(0, .ref (b 0)), (1, .int (nI i))] → W p l e ({ frames := 0, cells := 0, slots := 0, locals := 0 }) s m [.ref (b 0)].toArray below meth c0 H locs 0 0 (GQi below D (tyA y) A ((beginR r).1) (wR b y ((beginR r).2) t) [.ref (b 0)].toArray s) (F0 m 23 ls []) := by
        intro n23
        induction n23 with
        | zero =>
          intro i H locs ls hi hn hP hD hS hl
          omega
        | succ n23 ih23 =>
          intro i H locs ls hi hn hP hD hS hl
          refine lv_iload_n hx hb dX2_begin_23 rfl (lv_at hl 1 rfl) ?_
          refine lv_iconst (v := nI 4) hx hb dX2_begin_24 (by decide) ?_
          refine q_icmp_ge (tgt := 41) hx hb (show i < 2 ^ 31 by omega) (show 4 < 2 ^ 31 by omega) dX2_begin_25 (by decide) (fun (h25 : 4 ≤ i) => ?_) (fun (h25 : i < 4) => ?_)
          · have e4 : i = 4 := by omega
            subst e4
            refine lv_iconst (v := nI 0) hx hb dX2_begin_41 (by decide) ?_
            exact retGi hx hb hr hlocks hK hP hD hS dX2_begin_42 (by unfold beginR; rw [if_neg (by rw [h4]; decide), if_neg (by rw [h11]; decide)]) (by unfold beginR; rw [if_neg (by rw [h4]; decide), if_neg (by rw [h11]; decide)])
          · refine lv_aload_n hx hb dX2_begin_28 rfl (lv_at hl 0 rfl) ?_
            refine rg_r9 hx hb hts hinX2 hown hK hP (hts (.fieldLink RX2 36 "FencedWordsModel" "touched" "[Z") (List.mem_of_getElem? (i := 3) rfl)) dX2_begin_29 ?_
            refine lv_iload_n hx hb dX2_begin_32 rfl (lv_at hl 1 rfl) ?_
            refine lv_iconst (v := nI 0) hx hb dX2_begin_33 (by decide) ?_
            refine rt_to (v := false) hx hb hK hP hD hS (show i < 4 by omega) dX2_begin_34 (fun H locs hP hD hS => ?_)
            refine lv_iinc (v := nI (i + 1)) (lv' := [(1, .int (nI (i + 1))), (0, .ref (b 0))]) hx hb dX2_begin_35 hl (k := 1) rfl (nI_add i 1) (by decide) rfl (fun ls hl => ?_)
            refine lv_goto (tgt := 23) hx hb dX2_begin_38 (by decide) ?_
            have hP : va_P D vwCl (wR b y (rs_to (rs_to (rs_op r true) (clrB (r_to r) i)) (upB (clrB (r_to r) i) i false)) t) H := hP
            have hD : va_D A (wR b y (rs_to (rs_to (rs_op r true) (clrB (r_to r) i)) (upB (clrB (r_to r) i) i false)) t) := hD
            rw [rss_to, clrB_s] at hP hD
            exact ih23 (i + 1) _ _ _ (by omega) (by omega) hP hD hS (lv_sub hl [1, 0] rfl)
      have e0 : rs_op r true = rs_to (rs_op r true) (clrB (r_to r) 0) := (by rw [clrB_0]; rfl)
      rw [e0] at hP hD
      exact loop 5 0 _ _ _ (by omega) (by omega) hP hD hS (lv_sub hl [1, 0] rfl)
    · refine lv_iconst (v := (-1)) hx hb dX2_begin_14 (by decide) ?_
      exact retGi hx hb hr hlocks hK hP hD hS dX2_begin_15 (by unfold beginR; rw [if_neg (by rw [h4]; decide), if_pos h11]) (by unfold beginR; rw [if_neg (by rw [h4]; decide), if_pos h11])
theorem in_X2_X2_snapshot : ∀ w ∈ wsX20, w ∈ wsX2_snapshot := fun w h => List.mem_cons_of_mem _ (List.mem_append_right _ (h))
set_option maxHeartbeats 400000 in
set_option maxRecDepth 100000 in
theorem mX2_snapshot (l : Launch) (y : Nat → ClassId) (t : va_W) (b : Nat → Nat) (r : RS) (x n : Int32) (hI : RI r) : MGi l yX2_snapshot wsX2_snapshot 3 65 [.ref (b 0), .int x, .int n] (tyA y) (wR b y r t) ((snapX x n r).1) (wR b y ((snapX x n r).2) t) := by
  refine MGi.of (cc := cX2_snapshot) (maxL := 5) (by decide) rfl (Nat.le_of_ble_eq_true rfl) ?_
  intro D p e s m below meth c0 A ls hx hb hr hml hown hlocks hts hK hP hD hA hN hl hS
  have hl : lv_has ls 5 [(0, .ref (b 0)), (1, .int x), (2, .int n)] := hl
  have hinX2 : ∀ w ∈ u_ws RX2 TX2 19, w ∈ wsX2_snapshot := in_X2_X2_snapshot
  have hz := hI.1
  refine lv_aload_n hx hb dX2_snapshot_0 rfl (lv_at hl 0 rfl) ?_
  refine rg_op hx hb hts hinX2 hown hK hP (hts (.fieldLink RX2 86 "FencedWordsModel" "open" "Z") (List.mem_of_getElem? (i := 1) rfl)) dX2_snapshot_1 ?_
  refine q_ifb_eq (tgt := 49) hx hb dX2_snapshot_4 (by decide) (fun (h4 : (r_op r) = false) => ?_) (fun (h4 : (r_op r) = true) => ?_)
  · refine lv_iconst (v := (-1)) hx hb dX2_snapshot_49 (by decide) ?_
    exact retGi hx hb hr hlocks hK hP hD hS dX2_snapshot_50 (by unfold snapX; rw [if_pos h4]) (by unfold snapX; rw [if_pos h4])
  · refine lv_iload_n hx hb dX2_snapshot_7 rfl (lv_at hl 2 rfl) ?_
    refine lv_iconst (v := nI 1) hx hb dX2_snapshot_8 (by decide) ?_
    refine lv_icmp_lt (tgt := 49) hx hb dX2_snapshot_9 (by decide) (fun (h9 : n < (nI 1)) => ?_) (fun (h9 : ¬ n < (nI 1)) => ?_)
    · refine lv_iconst (v := (-1)) hx hb dX2_snapshot_49 (by decide) ?_
      exact retGi hx hb hr hlocks hK hP hD hS dX2_snapshot_50 (by unfold snapX; rw [if_neg (by rw [h4]; decide), if_pos h9]) (by unfold snapX; rw [if_neg (by rw [h4]; decide), if_pos h9])
    · refine lv_iload_n hx hb dX2_snapshot_12 rfl (lv_at hl 2 rfl) ?_
      refine lv_bipush (v := nI 8) hx hb dX2_snapshot_13 (by decide) ?_
      refine lv_icmp_gt (tgt := 49) hx hb dX2_snapshot_15 (by decide) (fun (h15 : (nI 8) < n) => ?_) (fun (h15 : ¬ (nI 8) < n) => ?_)
      · refine lv_iconst (v := (-1)) hx hb dX2_snapshot_49 (by decide) ?_
        exact retGi hx hb hr hlocks hK hP hD hS dX2_snapshot_50 (by unfold snapX; rw [if_neg (by rw [h4]; decide), if_neg h9, if_pos h15]) (by unfold snapX; rw [if_neg (by rw [h4]; decide), if_neg h9, if_pos h15])
      · refine lv_iload_n hx hb dX2_snapshot_18 rfl (lv_at hl 1 rfl) ?_
        refine callSi (rest := []) ⟨hx, hb, hml, hown, hts⟩ (mX2_word l y _ x) (va_cwS 1 hts gX2_snapshot_X2_word rfl rfl rfl (by decide +kernel) ⟨Nat.le_of_ble_eq_true rfl, Nat.le_of_ble_eq_true rfl⟩) hK hP hD hS hA hN rfl hl.1 rfl (Nat.le_of_ble_eq_true rfl) dX2_snapshot_19 ⟨Nat.le_of_ble_eq_true rfl, Nat.le_of_ble_eq_true rfl⟩ (fun H locs hP hD hS => ?_)
        refine q_ifb_eq (tgt := 49) hx hb dX2_snapshot_22 (by decide) (fun (h22 : (isV x) = false) => ?_) (fun (h22 : (isV x) = true) => ?_)
        · refine lv_iconst (v := (-1)) hx hb dX2_snapshot_49 (by decide) ?_
          exact retGi hx hb hr hlocks hK hP hD hS dX2_snapshot_50 (by unfold snapX; rw [if_neg (by rw [h4]; decide), if_neg h9, if_neg h15, if_pos h22]) (by unfold snapX; rw [if_neg (by rw [h4]; decide), if_neg h9, if_neg h15, if_pos h22])
        · obtain ⟨ka, ex, q1⟩ := isV_nat h22
          have n0 : ¬ n < 0 := (by intro q; apply h9; rw [Int32.lt_iff_toInt_lt] at q ⊢; have z : (0 : Int32).toInt = 0 := rfl; have z1 : (nI 1).toInt = 1 := rfl; omega)
          obtain ⟨kn, hkn, en⟩ := nI_of n0
          rw [en] at h9 h15
          rw [ex, en] at hl
          have q2 : 1 ≤ kn := Nat.not_lt.mp (fun q => h9 ((nI_ltI hkn (by decide)).mpr q))
          have q3 : kn ≤ 8 := Nat.not_lt.mp (fun q => h15 ((nI_ltI (by decide) hkn).mpr q))
          have e33 : x + n - nI 1 = nI (ka + kn - 1) := (by rw [ex, en, nI_add, pk_sub (by omega)])
          refine lv_iload_n hx hb dX2_snapshot_25 rfl (lv_at hl 1 rfl) ?_
          refine lv_iload_n hx hb dX2_snapshot_26 rfl (lv_at hl 2 rfl) ?_
          refine q_iadd hx hb dX2_snapshot_27 ?_
          refine lv_iconst (v := nI 1) hx hb dX2_snapshot_28 (by decide) ?_
          refine q_isub hx hb (show 1 ≤ (ka + kn) by omega) dX2_snapshot_29 ?_
          refine callSi (rest := []) ⟨hx, hb, hml, hown, hts⟩ (mX2_word l y _ (nI ((ka + kn) - 1))) (va_cwS 1 hts gX2_snapshot_X2_word rfl rfl rfl (by decide +kernel) ⟨Nat.le_of_ble_eq_true rfl, Nat.le_of_ble_eq_true rfl⟩) hK hP hD hS hA hN rfl hl.1 rfl (Nat.le_of_ble_eq_true rfl) dX2_snapshot_30 ⟨Nat.le_of_ble_eq_true rfl, Nat.le_of_ble_eq_true rfl⟩ (fun H locs hP hD hS => ?_)
          refine q_ifb_eq (tgt := 49) hx hb dX2_snapshot_33 (by decide) (fun (h33 : (isV (nI ((ka + kn) - 1))) = false) => ?_) (fun (h33 : (isV (nI ((ka + kn) - 1))) = true) => ?_)
          · refine lv_iconst (v := (-1)) hx hb dX2_snapshot_49 (by decide) ?_
            exact retGi hx hb hr hlocks hK hP hD hS dX2_snapshot_50 (by unfold snapX; rw [if_neg (by rw [h4]; decide), if_neg (by rw [en]; exact h9), if_neg (by rw [en]; exact h15), if_neg (by rw [h22]; decide), e33, if_pos h33]) (by unfold snapX; rw [if_neg (by rw [h4]; decide), if_neg (by rw [en]; exact h9), if_neg (by rw [en]; exact h15), if_neg (by rw [h22]; decide), e33, if_pos h33])
          · have q4 : ka + kn ≤ 32 := (by obtain ⟨z, e, hz0⟩ := isV_nat h33; have := (nI_eq (by omega) (by omega)).mp e; omega)
            obtain ⟨i1, i2, i3, i4, i5, i6⟩ := id hI
            refine lv_aload_n hx hb dX2_snapshot_36 rfl (lv_at hl 0 rfl) ?_
            refine callVi (rest := []) ⟨hx, hb, hml, hown, hts⟩ (mX2_taken l y t b r (by first | assumption | omega)) (cwV 0 hts gX2_snapshot_X2_taken rfl rfl rfl (by decide +kernel) ⟨Nat.le_of_ble_eq_true rfl, Nat.le_of_ble_eq_true rfl⟩) (va_recv hK hP (ci := 2) (q0 := 0) rfl rfl) hK hP hD hS hA hN rfl hl.1 rfl (Nat.le_of_ble_eq_true rfl) dX2_snapshot_37 ⟨Nat.le_of_ble_eq_true rfl, Nat.le_of_ble_eq_true rfl⟩ (fun H locs hP hD hS => ?_)
            refine lv_iload_n hx hb dX2_snapshot_40 rfl (lv_at hl 2 rfl) ?_
            refine q_iadd hx hb dX2_snapshot_41 ?_
            refine lv_iconst (v := nI 1) hx hb dX2_snapshot_42 (by decide) ?_
            refine q_iadd hx hb dX2_snapshot_43 ?_
            refine lv_bipush (v := nI 40) hx hb dX2_snapshot_44 (by decide) ?_
            refine q_icmp_le (tgt := 51) hx hb (show (((takR r (r_rc r)) + kn) + 1) < 2 ^ 31 by omega) (show 40 < 2 ^ 31 by omega) dX2_snapshot_46 (by decide) (fun (h46 : (((takR r (r_rc r)) + kn) + 1) ≤ 40) => ?_) (fun (h46 : 40 < (((takR r (r_rc r)) + kn) + 1)) => ?_)
            · have q5 : r_rc r < 20 := (by omega)
              refine lv_aload_n hx hb dX2_snapshot_51 rfl (lv_at hl 0 rfl) ?_
              refine callVi (rest := []) ⟨hx, hb, hml, hown, hts⟩ (mX2_taken l y t b r (by first | assumption | omega)) (cwV 0 hts gX2_snapshot_X2_taken rfl rfl rfl (by decide +kernel) ⟨Nat.le_of_ble_eq_true rfl, Nat.le_of_ble_eq_true rfl⟩) (va_recv hK hP (ci := 2) (q0 := 0) rfl rfl) hK hP hD hS hA hN rfl hl.1 rfl (Nat.le_of_ble_eq_true rfl) dX2_snapshot_52 ⟨Nat.le_of_ble_eq_true rfl, Nat.le_of_ble_eq_true rfl⟩ (fun H locs hP hD hS => ?_)
              refine lv_aload_n hx hb dX2_snapshot_55 rfl (lv_at hl 0 rfl) ?_
              refine rg_rc hx hb hts hinX2 hown hK hP (hts (.fieldLink RX2 52 "FencedWordsModel" "records" "I") (List.mem_of_getElem? (i := 2) rfl)) dX2_snapshot_56 ?_
              refine q_isub hx hb (show (r_rc r) ≤ (takR r (r_rc r)) by omega) dX2_snapshot_59 ?_
              refine lv_istore_n (lv' := [(3, .int (nI ((takR r (r_rc r)) - (r_rc r)))), (0, .ref (b 0)), (1, .int (nI ka)), (2, .int (nI kn))]) hx hb dX2_snapshot_60 rfl hl (by decide) rfl (fun ls hl => ?_)
              refine lv_aload_n hx hb dX2_snapshot_61 rfl (lv_at hl 1 rfl) ?_
              refine rg_r4 hx hb hts hinX2 hown hK hP (hts (.fieldLink RX2 20 "FencedWordsModel" "first" "[I") (List.mem_of_getElem? (i := 3) rfl)) dX2_snapshot_62 ?_
              refine lv_aload_n hx hb dX2_snapshot_65 rfl (lv_at hl 1 rfl) ?_
              refine rg_rc hx hb hts hinX2 hown hK hP (hts (.fieldLink RX2 52 "FencedWordsModel" "records" "I") (List.mem_of_getElem? (i := 2) rfl)) dX2_snapshot_66 ?_
              refine lv_iload_n hx hb dX2_snapshot_69 rfl (lv_at hl 2 rfl) ?_
              refine rt_fi (v := ka) hx hb hK hP hD hS (show (r_rc r) < 20 by omega) dX2_snapshot_70 (fun H locs hP hD hS => ?_)
              refine lv_aload_n hx hb dX2_snapshot_71 rfl (lv_at hl 1 rfl) ?_
              refine rg_r5 hx hb hts hinX2 hown hK hP (hts (.fieldLink RX2 24 "FencedWordsModel" "many" "[I") (List.mem_of_getElem? (i := 4) rfl)) dX2_snapshot_72 ?_
              refine lv_aload_n hx hb dX2_snapshot_75 rfl (lv_at hl 1 rfl) ?_
              refine rg_rc hx hb hts hinX2 hown hK hP (hts (.fieldLink RX2 52 "FencedWordsModel" "records" "I") (List.mem_of_getElem? (i := 2) rfl)) dX2_snapshot_76 ?_
              refine lv_iload_n hx hb dX2_snapshot_79 rfl (lv_at hl 3 rfl) ?_
              refine rt_ma (v := kn) hx hb hK hP hD hS (show (r_rc r) < 20 by omega) dX2_snapshot_80 (fun H locs hP hD hS => ?_)
              refine lv_aload_n hx hb dX2_snapshot_81 rfl (lv_at hl 1 rfl) ?_
              refine rg_r6 hx hb hts hinX2 hown hK hP (hts (.fieldLink RX2 27 "FencedWordsModel" "from" "[I") (List.mem_of_getElem? (i := 5) rfl)) dX2_snapshot_82 ?_
              refine lv_aload_n hx hb dX2_snapshot_85 rfl (lv_at hl 1 rfl) ?_
              refine rg_rc hx hb hts hinX2 hown hK hP (hts (.fieldLink RX2 52 "FencedWordsModel" "records" "I") (List.mem_of_getElem? (i := 2) rfl)) dX2_snapshot_86 ?_
              refine lv_iload_n hx hb dX2_snapshot_89 rfl (lv_at hl 0 rfl) ?_
              refine rt_fr (v := (takR r (r_rc r)) - (r_rc r)) hx hb hK hP hD hS (show (r_rc r) < 20 by omega) dX2_snapshot_90 (fun H locs hP hD hS => ?_)
              refine lv_aload_n hx hb dX2_snapshot_91 rfl (lv_at hl 1 rfl) ?_
              refine rg_r7 hx hb hts hinX2 hown hK hP (hts (.fieldLink RX2 30 "FencedWordsModel" "stands" "[I") (List.mem_of_getElem? (i := 6) rfl)) dX2_snapshot_92 ?_
              refine lv_aload_n hx hb dX2_snapshot_95 rfl (lv_at hl 1 rfl) ?_
              refine rg_rc hx hb hts hinX2 hown hK hP (hts (.fieldLink RX2 52 "FencedWordsModel" "records" "I") (List.mem_of_getElem? (i := 2) rfl)) dX2_snapshot_96 ?_
              refine lv_iconst (v := nI 0) hx hb dX2_snapshot_99 (by decide) ?_
              refine rt_st (v := 0) hx hb hK hP hD hS (show (r_rc r) < 20 by omega) dX2_snapshot_100 (fun H locs hP hD hS => ?_)
              have hP : va_P D vwCl (wR b y (snHd ka kn r) t) H := hP
              have hD : va_D A (wR b y (snHd ka kn r) t) := hD
              have eS := hd_S ka kn r
              have erc := hd_rc ka kn r
              generalize hr1 : snHd ka kn r = r1 at hP hD eS erc
              have hP : va_P D vwCl (wR b y (r1) t) H := hP
              have hD : va_D A (wR b y (r1) t) := hD
              refine lv_iconst (v := nI 0) hx hb dX2_snapshot_101 (by decide) ?_
              refine lv_istore (lv' := [(4, .int (nI 0)), (3, .int (nI ((takR r (r_rc r)) - (r_rc r)))), (0, .ref (b 0)), (1, .int (nI ka)), (2, .int (nI kn))]) hx hb dX2_snapshot_102 hl (by decide) rfl (fun ls hl => ?_)
              have loop : ∀ (n104 : Nat) (i : Nat) (H : Heap) (locs : List Loc) (ls : Array Slot), (i ≤ kn) → (kn + 1 ≤ i + n104) → va_P D vwCl (wR b y (rs_ol r1 (va_cpy (r_S r1) (r_ol r1) ka (takR r (r_rc r) - r_rc r) i)) t) H → va_D A (wR b y (rs_ol r1 (va_cpy (r_S r1) (r_ol r1) ka (takR r (r_rc r) - r_rc r) i)) t) → va_S A s.heap H locs → lv_has ls 5 [(0, .ref (b 0)), (1, .int (nI ka)), (2, .int (nI kn)), (3, .int (nI (takR r (r_rc r) - r_rc r))), (4, .int (nI i))] → W p l e ({ frames := 3, cells := 0, slots := 0, locals := 65 }) s m [.ref (b 0), .int x, .int n].toArray below meth c0 H locs 0 0 (GQi below D (tyA y) A ((snapX x n r).1) (wR b y ((snapX x n r).2) t) [.ref (b 0), .int x, .int n].toArray s) (F0 m 104 ls []) := by
                intro n104
                induction n104 with
                | zero =>
                  intro i H locs ls hi hn hP hD hS hl
                  omega
                | succ n104 ih104 =>
                  intro i H locs ls hi hn hP hD hS hl
                  refine lv_iload hx hb dX2_snapshot_104 (lv_at hl 4 rfl) ?_
                  refine lv_iload_n hx hb dX2_snapshot_106 rfl (lv_at hl 2 rfl) ?_
                  refine q_icmp_ge (tgt := 134) hx hb (show i < 2 ^ 31 by omega) (show kn < 2 ^ 31 by omega) dX2_snapshot_107 (by decide) (fun (h107 : kn ≤ i) => ?_) (fun (h107 : i < kn) => ?_)
                  · have ei : i = kn := by omega
                    rw [ei] at hP hD
                    refine lv_aload_n hx hb dX2_snapshot_134 rfl (lv_at hl 0 rfl) ?_
                    refine lv_dup hx hb dX2_snapshot_135 rfl ?_
                    refine rg_rc hx hb hts hinX2 hown hK hP (hts (.fieldLink RX2 52 "FencedWordsModel" "records" "I") (List.mem_of_getElem? (i := 2) rfl)) dX2_snapshot_136 ?_
                    refine lv_iconst (v := nI 1) hx hb dX2_snapshot_139 (by decide) ?_
                    refine q_iadd hx hb dX2_snapshot_140 ?_
                    refine rp_rc (v := (r_rc r1) + 1) hx hb hts hinX2 hown hK hP hD hS (hts (.fieldLink RX2 52 "FencedWordsModel" "records" "I") (List.mem_of_getElem? (i := 2) rfl)) dX2_snapshot_141 (fun H locs hP hD hS => ?_)
                    refine lv_aload_n hx hb dX2_snapshot_144 rfl (lv_at hl 0 rfl) ?_
                    refine lv_iconst (v := nI 0) hx hb dX2_snapshot_145 (by decide) ?_
                    refine rp_ac (v := 0) hx hb hts hinX2 hown hK hP hD hS (hts (.fieldLink RX2 48 "FencedWordsModel" "acts" "I") (List.mem_of_getElem? (i := 9) rfl)) dX2_snapshot_146 (fun H locs hP hD hS => ?_)
                    have hP : va_P D vwCl (wR b y (rs_ac (rs_rc (rs_ol r1 (va_cpy (r_S r1) (r_ol r1) ka (takR r (r_rc r) - r_rc r) kn)) (r_rc r1 + 1)) 0) t) H := hP
                    have hD : va_D A (wR b y (rs_ac (rs_rc (rs_ol r1 (va_cpy (r_S r1) (r_ol r1) ka (takR r (r_rc r) - r_rc r) kn)) (r_rc r1 + 1)) 0) t) := hD
                    have hr4 : snX ka kn r = rs_ac (rs_rc (rs_ol r1 (va_cpy (r_S r1) (r_ol r1) ka (takR r (r_rc r) - r_rc r) kn)) (r_rc r1 + 1)) 0 := (by unfold snX; rw [hr1])
                    rw [← hr4] at hP hD
                    have eac := sx_ac ka kn r
                    have hO : AOK (listAll (snL kn (kn + 4)) (snX ka kn r)) := AOK_sn hI q3 q5
                    refine lv_iconst (v := nI 1) hx hb dX2_snapshot_149 (by decide) ?_
                    refine lv_istore (lv' := [(4, .int (nI 1)), (0, .ref (b 0)), (1, .int (nI ka)), (2, .int (nI kn)), (3, .int (nI (takR r (r_rc r) - r_rc r)))]) hx hb dX2_snapshot_150 hl (by decide) rfl (fun ls hl => ?_)
                    have loop2 : ∀ (n152 : Nat) (j : Nat) (H : Heap) (locs : List Loc) (ls : Array Slot), (j ≤ kn + 4) → (kn + 5 ≤ j + n152) → va_P D vwCl (wR b y (listAll (snL kn j) (snX ka kn r)) t) H → va_D A (wR b y (listAll (snL kn j) (snX ka kn r)) t) → va_S A s.heap H locs → lv_has ls 5 [(0, .ref (b 0)), (2, .int (nI kn)), (4, .int (nI (j + 1)))] → W p l e ({ frames := 3, cells := 0, slots := 0, locals := 65 }) s m [.ref (b 0), .int x, .int n].toArray below meth c0 H locs 0 0 (GQi below D (tyA y) A ((snapX x n r).1) (wR b y ((snapX x n r).2) t) [.ref (b 0), .int x, .int n].toArray s) (F0 m 152 ls []) := by
                      intro n152
                      induction n152 with
                      | zero =>
                        intro j H locs ls hj hm hP hD hS hl
                        omega
                      | succ n152 ih152 =>
                        intro j H locs ls hj hm hP hD hS hl
                        refine lv_iload hx hb dX2_snapshot_152 (lv_at hl 2 rfl) ?_
                        refine lv_iload_n hx hb dX2_snapshot_154 rfl (lv_at hl 1 rfl) ?_
                        refine lv_iconst (v := nI 4) hx hb dX2_snapshot_155 (by decide) ?_
                        refine q_iadd hx hb dX2_snapshot_156 ?_
                        refine q_icmp_gt (tgt := 197) hx hb (show (j + 1) < 2 ^ 31 by omega) (show (kn + 4) < 2 ^ 31 by omega) dX2_snapshot_157 (by decide) (fun (h157 : (kn + 4) < (j + 1)) => ?_) (fun (h157 : (j + 1) ≤ (kn + 4)) => ?_)
                        · have ej : j = kn + 4 := by omega
                          subst ej
                          refine lv_aload_n hx hb dX2_snapshot_197 rfl (lv_at hl 0 rfl) ?_
                          refine callVi (rest := []) ⟨hx, hb, hml, hown, hts⟩ (mX2_go l y t b (listAll (snL kn (kn + 4)) (snX ka kn r)) hO) (cwV 0 hts gX2_snapshot_X2_go rfl rfl rfl (by decide +kernel) ⟨Nat.le_of_ble_eq_true rfl, Nat.le_of_ble_eq_true rfl⟩) (va_recv hK hP (ci := 2) (q0 := 0) rfl rfl) hK hP hD hS hA hN rfl hl.1 rfl (Nat.le_of_ble_eq_true rfl) dX2_snapshot_198 ⟨Nat.le_of_ble_eq_true rfl, Nat.le_of_ble_eq_true rfl⟩ (fun H locs hP hD hS => ?_)
                          generalize hc1 : (goF (listAll (snL kn (kn + 4)) (snX ka kn r))).2 = c1 at hP hD
                          have hP : va_P D vwCl (wR b y c1 t) H := hP
                          have hD : va_D A (wR b y c1 t) := hD
                          exact retGi hx hb hr hlocks hK hP hD hS dX2_snapshot_201 (by unfold snapX; rw [if_neg (by rw [h4]; decide), if_neg (by rw [en]; exact h9), if_neg (by rw [en]; exact h15), if_neg (by rw [h22]; decide), e33, if_neg (by rw [h33]; decide), show n.toNatClampNeg = kn by rw [en]; exact nI_clamp (by omega), if_neg (by omega), show x.toNatClampNeg = ka by rw [ex]; exact nI_clamp (by omega)]; rfl) (by unfold snapX; rw [if_neg (by rw [h4]; decide), if_neg (by rw [en]; exact h9), if_neg (by rw [en]; exact h15), if_neg (by rw [h22]; decide), e33, if_neg (by rw [h33]; decide), show n.toNatClampNeg = kn by rw [en]; exact nI_clamp (by omega), if_neg (by omega), show x.toNatClampNeg = ka by rw [ex]; exact nI_clamp (by omega)]; show _ = wR b y (goF _).2 t; rw [hc1])
                        · have hac : r_ac (listAll (snL kn j) (snX ka kn r)) < 64 := (by rw [la_f_ac, eac, snL_len]; omega)
                          refine lv_aload_n hx hb dX2_snapshot_160 rfl (lv_at hl 0 rfl) ?_
                          refine lv_iload hx hb dX2_snapshot_161 (lv_at hl 2 rfl) ?_
                          refine lv_iload_n hx hb dX2_snapshot_163 rfl (lv_at hl 1 rfl) ?_
                          refine lv_iconst (v := nI 2) hx hb dX2_snapshot_164 (by decide) ?_
                          refine q_iadd hx hb dX2_snapshot_165 ?_
                          refine q_icmp_ne (tgt := 173) hx hb (show (j + 1) < 2 ^ 31 by omega) (show (kn + 2) < 2 ^ 31 by omega) dX2_snapshot_166 (by decide) (fun (h166 : ¬ (j + 1) = (kn + 2)) => ?_) (fun (h166 : (j + 1) = (kn + 2)) => ?_)
                          · refine lv_iload hx hb dX2_snapshot_173 (lv_at hl 2 rfl) ?_
                            refine lv_iload_n hx hb dX2_snapshot_175 rfl (lv_at hl 1 rfl) ?_
                            refine lv_iconst (v := nI 4) hx hb dX2_snapshot_176 (by decide) ?_
                            refine q_iadd hx hb dX2_snapshot_177 ?_
                            refine q_icmp_ne (tgt := 185) hx hb (show (j + 1) < 2 ^ 31 by omega) (show (kn + 4) < 2 ^ 31 by omega) dX2_snapshot_178 (by decide) (fun (h178 : ¬ (j + 1) = (kn + 4)) => ?_) (fun (h178 : (j + 1) = (kn + 4)) => ?_)
                            · refine lv_iconst (v := nI 0) hx hb dX2_snapshot_185 (by decide) ?_
                              refine lv_iconst (v := nI 0) hx hb dX2_snapshot_186 (by decide) ?_
                              refine lv_lconst (v := 0) hx hb dX2_snapshot_187 (by decide) ?_
                              refine callVv (rest := []) ⟨hx, hb, hml, hown, hts⟩ (mX2_list l y t b (listAll (snL kn j) (snX ka kn r)) 0 0 0 (by first | assumption | omega)) (cwV 3 hts gX2_snapshot_X2_list rfl rfl rfl (by decide +kernel) ⟨Nat.le_of_ble_eq_true rfl, Nat.le_of_ble_eq_true rfl⟩) (va_recv hK hP (ci := 2) (q0 := 0) rfl rfl) hK hP hD hS hA hN rfl hl.1 rfl (Nat.le_of_ble_eq_true rfl) dX2_snapshot_188 ⟨Nat.le_of_ble_eq_true rfl, Nat.le_of_ble_eq_true rfl⟩ (fun H locs hP hD hS => ?_)
                              refine lv_iinc (v := nI (j + 1 + 1)) (lv' := [(4, .int (nI (j + 1 + 1))), (0, .ref (b 0)), (2, .int (nI kn))]) hx hb dX2_snapshot_191 hl (k := 2) rfl (nI_add (j + 1) 1) (by decide) rfl (fun ls hl => ?_)
                              refine lv_goto (tgt := 152) hx hb dX2_snapshot_194 (by decide) ?_
                              have ec : snC kn (j + 1) = 0 := (by unfold snC; rw [if_neg h166, if_neg h178])
                              have e1 : listA 0 0 0 (listAll (snL kn j) (snX ka kn r)) = listAll (snL kn (j + 1)) (snX ka kn r) := (by rw [la_snoc]; show _ = listAll (snL kn j ++ [(snC kn (j + 1), 0, 0)]) _; rw [ec])
                              rw [e1] at hP hD
                              exact ih152 (j + 1) _ _ _ (by omega) (by omega) hP hD hS (lv_sub hl [1, 2, 0] rfl)
                            · refine lv_iconst (v := nI 5) hx hb dX2_snapshot_181 (by decide) ?_
                              refine lv_goto (tgt := 186) hx hb dX2_snapshot_182 (by decide) ?_
                              refine lv_iconst (v := nI 0) hx hb dX2_snapshot_186 (by decide) ?_
                              refine lv_lconst (v := 0) hx hb dX2_snapshot_187 (by decide) ?_
                              refine callVv (rest := []) ⟨hx, hb, hml, hown, hts⟩ (mX2_list l y t b (listAll (snL kn j) (snX ka kn r)) 5 0 0 (by first | assumption | omega)) (cwV 3 hts gX2_snapshot_X2_list rfl rfl rfl (by decide +kernel) ⟨Nat.le_of_ble_eq_true rfl, Nat.le_of_ble_eq_true rfl⟩) (va_recv hK hP (ci := 2) (q0 := 0) rfl rfl) hK hP hD hS hA hN rfl hl.1 rfl (Nat.le_of_ble_eq_true rfl) dX2_snapshot_188 ⟨Nat.le_of_ble_eq_true rfl, Nat.le_of_ble_eq_true rfl⟩ (fun H locs hP hD hS => ?_)
                              refine lv_iinc (v := nI (j + 1 + 1)) (lv' := [(4, .int (nI (j + 1 + 1))), (0, .ref (b 0)), (2, .int (nI kn))]) hx hb dX2_snapshot_191 hl (k := 2) rfl (nI_add (j + 1) 1) (by decide) rfl (fun ls hl => ?_)
                              refine lv_goto (tgt := 152) hx hb dX2_snapshot_194 (by decide) ?_
                              have ec : snC kn (j + 1) = 5 := (by unfold snC; rw [if_neg h166, if_pos h178])
                              have e1 : listA 5 0 0 (listAll (snL kn j) (snX ka kn r)) = listAll (snL kn (j + 1)) (snX ka kn r) := (by rw [la_snoc]; show _ = listAll (snL kn j ++ [(snC kn (j + 1), 0, 0)]) _; rw [ec])
                              rw [e1] at hP hD
                              exact ih152 (j + 1) _ _ _ (by omega) (by omega) hP hD hS (lv_sub hl [1, 2, 0] rfl)
                          · refine lv_iconst (v := nI 4) hx hb dX2_snapshot_169 (by decide) ?_
                            refine lv_goto (tgt := 186) hx hb dX2_snapshot_170 (by decide) ?_
                            refine lv_iconst (v := nI 0) hx hb dX2_snapshot_186 (by decide) ?_
                            refine lv_lconst (v := 0) hx hb dX2_snapshot_187 (by decide) ?_
                            refine callVv (rest := []) ⟨hx, hb, hml, hown, hts⟩ (mX2_list l y t b (listAll (snL kn j) (snX ka kn r)) 4 0 0 (by first | assumption | omega)) (cwV 3 hts gX2_snapshot_X2_list rfl rfl rfl (by decide +kernel) ⟨Nat.le_of_ble_eq_true rfl, Nat.le_of_ble_eq_true rfl⟩) (va_recv hK hP (ci := 2) (q0 := 0) rfl rfl) hK hP hD hS hA hN rfl hl.1 rfl (Nat.le_of_ble_eq_true rfl) dX2_snapshot_188 ⟨Nat.le_of_ble_eq_true rfl, Nat.le_of_ble_eq_true rfl⟩ (fun H locs hP hD hS => ?_)
                            refine lv_iinc (v := nI (j + 1 + 1)) (lv' := [(4, .int (nI (j + 1 + 1))), (0, .ref (b 0)), (2, .int (nI kn))]) hx hb dX2_snapshot_191 hl (k := 2) rfl (nI_add (j + 1) 1) (by decide) rfl (fun ls hl => ?_)
                            refine lv_goto (tgt := 152) hx hb dX2_snapshot_194 (by decide) ?_
                            have ec : snC kn (j + 1) = 4 := (by unfold snC; rw [if_pos h166])
                            have e1 : listA 4 0 0 (listAll (snL kn j) (snX ka kn r)) = listAll (snL kn (j + 1)) (snX ka kn r) := (by rw [la_snoc]; show _ = listAll (snL kn j ++ [(snC kn (j + 1), 0, 0)]) _; rw [ec])
                            rw [e1] at hP hD
                            exact ih152 (j + 1) _ _ _ (by omega) (by omega) hP hD hS (lv_sub hl [1, 2, 0] rfl)
                    have e0 : snX ka kn r = listAll (snL kn 0) (snX ka kn r) := rfl
                    rw [e0] at hP hD
                    exact loop2 (kn + 5) 0 _ _ _ (by omega) (by omega) hP hD hS (lv_sub hl [1, 3, 0] rfl)
                  · refine lv_aload_n hx hb dX2_snapshot_110 rfl (lv_at hl 0 rfl) ?_
                    refine rg_r8 hx hb hts hinX2 hown hK hP (hts (.fieldLink RX2 33 "FencedWordsModel" "old" "[J") (List.mem_of_getElem? (i := 7) rfl)) dX2_snapshot_111 ?_
                    refine lv_iload_n hx hb dX2_snapshot_114 rfl (lv_at hl 3 rfl) ?_
                    refine lv_iload hx hb dX2_snapshot_115 (lv_at hl 4 rfl) ?_
                    refine q_iadd hx hb dX2_snapshot_117 ?_
                    refine lv_aload_n hx hb dX2_snapshot_118 rfl (lv_at hl 0 rfl) ?_
                    refine rg_r1 hx hb hts hinX2 hown hK hP (hts (.fieldLink RX2 7 "FencedWordsModel" "seen" "[J") (List.mem_of_getElem? (i := 8) rfl)) dX2_snapshot_119 ?_
                    refine lv_iload_n hx hb dX2_snapshot_122 rfl (lv_at hl 1 rfl) ?_
                    refine lv_iload hx hb dX2_snapshot_123 (lv_at hl 4 rfl) ?_
                    refine q_iadd hx hb dX2_snapshot_125 ?_
                    refine rl_S hx hb hK hP (show (ka + i) < 32 by omega) dX2_snapshot_126 ?_
                    refine rt_ol (v := r_S r1 (ka + i)) hx hb hK hP hD hS (show ((takR r (r_rc r) - r_rc r) + i) < 40 by omega) dX2_snapshot_127 (fun H locs hP hD hS => ?_)
                    refine lv_iinc (v := nI (i + 1)) (lv' := [(4, .int (nI (i + 1))), (0, .ref (b 0)), (1, .int (nI ka)), (2, .int (nI kn)), (3, .int (nI (takR r (r_rc r) - r_rc r)))]) hx hb dX2_snapshot_128 hl (k := 4) rfl (nI_add i 1) (by decide) rfl (fun ls hl => ?_)
                    refine lv_goto (tgt := 104) hx hb dX2_snapshot_131 (by decide) ?_
                    have hP : va_P D vwCl (wR b y (rs_ol (rs_ol r1 (va_cpy (r_S r1) (r_ol r1) ka (takR r (r_rc r) - r_rc r) i)) (vp_updL (va_cpy (r_S r1) (r_ol r1) ka (takR r (r_rc r) - r_rc r) i) ((takR r (r_rc r) - r_rc r) + i) (r_S r1 (ka + i)))) t) H := hP
                    have hD : va_D A (wR b y (rs_ol (rs_ol r1 (va_cpy (r_S r1) (r_ol r1) ka (takR r (r_rc r) - r_rc r) i)) (vp_updL (va_cpy (r_S r1) (r_ol r1) ka (takR r (r_rc r) - r_rc r) i) ((takR r (r_rc r) - r_rc r) + i) (r_S r1 (ka + i)))) t) := hD
                    rw [rss_ol, cpy_s] at hP hD
                    exact ih104 (i + 1) _ _ _ (by omega) (by omega) hP hD hS (lv_sub hl [1, 2, 3, 4, 0] rfl)
              have e0 : r1 = rs_ol r1 (va_cpy (r_S r1) (r_ol r1) ka (takR r (r_rc r) - r_rc r) 0) := (by rw [cpy_0]; rfl)
              rw [e0] at hP hD
              exact loop (kn + 1) 0 _ _ _ (by omega) (by omega) hP hD hS (lv_sub hl [2, 3, 4, 1, 0] rfl)
            · refine lv_iconst (v := (-1)) hx hb dX2_snapshot_49 (by decide) ?_
              exact retGi hx hb hr hlocks hK hP hD hS dX2_snapshot_50 (by unfold snapX; rw [if_neg (by rw [h4]; decide), if_neg (by rw [en]; exact h9), if_neg (by rw [en]; exact h15), if_neg (by rw [h22]; decide), e33, if_neg (by rw [h33]; decide), show n.toNatClampNeg = kn by rw [en]; exact nI_clamp (by omega), if_pos h46]) (by unfold snapX; rw [if_neg (by rw [h4]; decide), if_neg (by rw [en]; exact h9), if_neg (by rw [en]; exact h15), if_neg (by rw [h22]; decide), e33, if_neg (by rw [h33]; decide), show n.toNatClampNeg = kn by rw [en]; exact nI_clamp (by omega), if_pos h46])
end
section
theorem takR_congr {r r' : RS} (h : r_ma r' = r_ma r) : ∀ n, takR r' n = takR r n := by
  intro n
  induction n with
  | zero => rfl
  | succ n ih => simp only [takR, ih, h]
theorem RI_rec {r : RS} (hI : RI r) : RI (recR r) := by
  obtain ⟨h1, h2, h3, h4, h5, h6⟩ := hI
  have e := takR_congr (r := r) (r' := recR r) rfl
  exact ⟨h1, h2, h3, by rw [e]; exact h4, by rw [e]; exact h5, h6⟩
end
section
theorem in_X2_X2_store : ∀ w ∈ wsX20, w ∈ wsX2_store := fun w h => List.mem_cons_of_mem _ (List.mem_append_right _ (h))
set_option maxHeartbeats 400000 in
set_option maxRecDepth 100000 in
theorem mX2_store (l : Launch) (y : Nat → ClassId) (t : va_W) (b : Nat → Nat) (r : RS) (x : Int32) (v : Int64) (hI : RI r) : MGi l yX2_store wsX2_store 3 65 [.ref (b 0), .int x, .long v] (tyA y) (wR b y r t) ((storeR x v r).1) (wR b y ((storeR x v r).2) t) := by
  refine MGi.of (cc := cX2_store) (maxL := 4) (by decide) rfl (Nat.le_of_ble_eq_true rfl) ?_
  intro D p e s m below meth c0 A ls hx hb hr hml hown hlocks hts hK hP hD hA hN hl hS
  have hl : lv_has ls 4 [(0, .ref (b 0)), (1, .int x), (2, .long v)] := hl
  have hinX2 : ∀ w ∈ u_ws RX2 TX2 19, w ∈ wsX2_store := in_X2_X2_store
  have hz := hI.1
  have hf : ∀ q, q < r_rc r → r_fi r q + r_ma r q ≤ 32 := fun q hq => (hI.2.2.2.2.2 q hq).2.2.1
  refine lv_aload_n hx hb dX2_store_0 rfl (lv_at hl 0 rfl) ?_
  refine rg_op hx hb hts hinX2 hown hK hP (hts (.fieldLink RX2 86 "FencedWordsModel" "open" "Z") (List.mem_of_getElem? (i := 1) rfl)) dX2_store_1 ?_
  refine q_ifb_eq (tgt := 22) hx hb dX2_store_4 (by decide) (fun (h4 : (r_op r) = false) => ?_) (fun (h4 : (r_op r) = true) => ?_)
  · refine lv_iconst (v := (-1)) hx hb dX2_store_22 (by decide) ?_
    exact retGi hx hb hr hlocks hK hP hD hS dX2_store_23 (by unfold storeR; rw [if_pos h4]) (by unfold storeR; rw [if_pos h4])
  · refine lv_iload_n hx hb dX2_store_7 rfl (lv_at hl 1 rfl) ?_
    refine callSi (rest := []) ⟨hx, hb, hml, hown, hts⟩ (mX2_word l y _ x) (va_cwS 1 hts gX2_store_X2_word rfl rfl rfl (by decide +kernel) ⟨Nat.le_of_ble_eq_true rfl, Nat.le_of_ble_eq_true rfl⟩) hK hP hD hS hA hN rfl hl.1 rfl (Nat.le_of_ble_eq_true rfl) dX2_store_8 ⟨Nat.le_of_ble_eq_true rfl, Nat.le_of_ble_eq_true rfl⟩ (fun H locs hP hD hS => ?_)
    refine q_ifb_eq (tgt := 22) hx hb dX2_store_11 (by decide) (fun (h11 : (isV x) = false) => ?_) (fun (h11 : (isV x) = true) => ?_)
    · refine lv_iconst (v := (-1)) hx hb dX2_store_22 (by decide) ?_
      exact retGi hx hb hr hlocks hK hP hD hS dX2_store_23 (by unfold storeR; rw [if_neg (by rw [h4]; decide), if_pos h11]) (by unfold storeR; rw [if_neg (by rw [h4]; decide), if_pos h11])
    · obtain ⟨k, rfl, q1⟩ := isV_nat h11
      refine lv_aload_n hx hb dX2_store_14 rfl (lv_at hl 0 rfl) ?_
      refine lv_iload_n hx hb dX2_store_15 rfl (lv_at hl 1 rfl) ?_
      refine callVi (rest := []) ⟨hx, hb, hml, hown, hts⟩ (mX2_covered l y t b r k (by omega) (by first | assumption | omega) (by assumption)) (cwV 1 hts gX2_store_X2_covered rfl rfl rfl (by decide +kernel) ⟨Nat.le_of_ble_eq_true rfl, Nat.le_of_ble_eq_true rfl⟩) (va_recv hK hP (ci := 2) (q0 := 0) rfl rfl) hK hP hD hS hA hN rfl hl.1 rfl (Nat.le_of_ble_eq_true rfl) dX2_store_16 ⟨Nat.le_of_ble_eq_true rfl, Nat.le_of_ble_eq_true rfl⟩ (fun H locs hP hD hS => ?_)
      refine q_ifb_ne (tgt := 24) hx hb dX2_store_19 (by decide) (fun (h19 : (covR r k) = true) => ?_) (fun (h19 : (covR r k) = false) => ?_)
      · refine lv_aload_n hx hb dX2_store_24 rfl (lv_at hl 0 rfl) ?_
        refine rg_r9 hx hb hts hinX2 hown hK hP (hts (.fieldLink RX2 36 "FencedWordsModel" "touched" "[Z") (List.mem_of_getElem? (i := 2) rfl)) dX2_store_25 ?_
        refine lv_iload_n hx hb dX2_store_28 rfl (lv_at hl 1 rfl) ?_
        refine lv_bipush (v := nI 8) hx hb dX2_store_29 (by decide) ?_
        refine q_idiv hx hb (show k < 2 ^ 31 by omega) (show 0 < 8 by omega) (show 8 < 2 ^ 31 by omega) dX2_store_31 ?_
        refine lv_iconst (v := nI 1) hx hb dX2_store_32 (by decide) ?_
        refine rt_to (v := true) hx hb hK hP hD hS (show (k / 8) < 4 by omega) dX2_store_33 (fun H locs hP hD hS => ?_)
        refine lv_aload_n hx hb dX2_store_34 rfl (lv_at hl 0 rfl) ?_
        refine lv_iconst (v := nI 0) hx hb dX2_store_35 (by decide) ?_
        refine rp_ac (v := 0) hx hb hts hinX2 hown hK hP hD hS (hts (.fieldLink RX2 48 "FencedWordsModel" "acts" "I") (List.mem_of_getElem? (i := 3) rfl)) dX2_store_36 (fun H locs hP hD hS => ?_)
        have hac : r_ac (rs_ac (rs_to r (upB (r_to r) (k / 8) true)) 0) < 64 := (by show 0 < 64; omega)
        refine lv_aload_n hx hb dX2_store_39 rfl (lv_at hl 0 rfl) ?_
        refine lv_iconst (v := nI 1) hx hb dX2_store_40 (by decide) ?_
        refine lv_iload_n hx hb dX2_store_41 rfl (lv_at hl 1 rfl) ?_
        refine lv_lload_n hx hb dX2_store_42 rfl (lv_at hl 2 rfl) ?_
        refine callVv (rest := []) ⟨hx, hb, hml, hown, hts⟩ (mX2_list l y t b (rs_ac (rs_to r (upB (r_to r) (k / 8) true)) 0) 1 k v (by first | assumption | omega)) (cwV 3 hts gX2_store_X2_list rfl rfl rfl (by decide +kernel) ⟨Nat.le_of_ble_eq_true rfl, Nat.le_of_ble_eq_true rfl⟩) (va_recv hK hP (ci := 2) (q0 := 0) rfl rfl) hK hP hD hS hA hN rfl hl.1 rfl (Nat.le_of_ble_eq_true rfl) dX2_store_43 ⟨Nat.le_of_ble_eq_true rfl, Nat.le_of_ble_eq_true rfl⟩ (fun H locs hP hD hS => ?_)
        have hP : va_P D vwCl (wR b y (stoR k v r) t) H := hP
        have hD : va_D A (wR b y (stoR k v r) t) := hD
        have hO : AOK (stoR k v r) := AOK_sto hI q1
        refine lv_aload_n hx hb dX2_store_46 rfl (lv_at hl 0 rfl) ?_
        refine callVi (rest := []) ⟨hx, hb, hml, hown, hts⟩ (mX2_go l y t b (stoR k v r) hO) (cwV 0 hts gX2_store_X2_go rfl rfl rfl (by decide +kernel) ⟨Nat.le_of_ble_eq_true rfl, Nat.le_of_ble_eq_true rfl⟩) (va_recv hK hP (ci := 2) (q0 := 0) rfl rfl) hK hP hD hS hA hN rfl hl.1 rfl (Nat.le_of_ble_eq_true rfl) dX2_store_47 ⟨Nat.le_of_ble_eq_true rfl, Nat.le_of_ble_eq_true rfl⟩ (fun H locs hP hD hS => ?_)
        generalize hc1 : (goF (stoR k v r)).2 = c1 at hP hD
        have hP : va_P D vwCl (wR b y c1 t) H := hP
        have hD : va_D A (wR b y c1 t) := hD
        exact retGi hx hb hr hlocks hK hP hD hS dX2_store_50 (by unfold storeR; rw [if_neg (by rw [h4]; decide), if_neg (by rw [h11]; decide), nI_clamp (n := k) (by omega), if_neg (by rw [h19]; decide)]; rfl) (by unfold storeR; rw [if_neg (by rw [h4]; decide), if_neg (by rw [h11]; decide), nI_clamp (n := k) (by omega), if_neg (by rw [h19]; decide)]; show _ = wR b y (goF _).2 t; rw [hc1])
      · refine lv_iconst (v := (-1)) hx hb dX2_store_22 (by decide) ?_
        exact retGi hx hb hr hlocks hK hP hD hS dX2_store_23 (by unfold storeR; rw [if_neg (by rw [h4]; decide), if_neg (by rw [h11]; decide), nI_clamp (n := k) (by omega), if_pos h19]) (by unfold storeR; rw [if_neg (by rw [h4]; decide), if_neg (by rw [h11]; decide), nI_clamp (n := k) (by omega), if_pos h19])
theorem in_X2_X2_commit : ∀ w ∈ wsX20, w ∈ wsX2_commit := fun w h => List.mem_cons_of_mem _ (List.mem_append_right _ (h))
set_option maxHeartbeats 400000 in
set_option maxRecDepth 100000 in
theorem mX2_commit (l : Launch) (y : Nat → ClassId) (t : va_W) (b : Nat → Nat) (r : RS) (hI : RI r) : MGi l yX2_commit wsX2_commit 3 65 [.ref (b 0)] (tyA y) (wR b y r t) ((commitR r).1) (wR b y ((commitR r).2) t) := by
  refine MGi.of (cc := cX2_commit) (maxL := 2) (by decide) rfl (Nat.le_of_ble_eq_true rfl) ?_
  intro D p e s m below meth c0 A ls hx hb hr hml hown hlocks hts hK hP hD hA hN hl hS
  have hl : lv_has ls 2 [(0, .ref (b 0))] := hl
  have hinX2 : ∀ w ∈ u_ws RX2 TX2 19, w ∈ wsX2_commit := in_X2_X2_commit
  have hz := hI.1
  refine lv_aload_n hx hb dX2_commit_0 rfl (lv_at hl 0 rfl) ?_
  refine rg_op hx hb hts hinX2 hown hK hP (hts (.fieldLink RX2 86 "FencedWordsModel" "open" "Z") (List.mem_of_getElem? (i := 1) rfl)) dX2_commit_1 ?_
  refine q_ifb_ne (tgt := 9) hx hb dX2_commit_4 (by decide) (fun (h4 : (r_op r) = true) => ?_) (fun (h4 : (r_op r) = false) => ?_)
  · refine lv_aload_n hx hb dX2_commit_9 rfl (lv_at hl 0 rfl) ?_
    refine lv_iconst (v := nI 0) hx hb dX2_commit_10 (by decide) ?_
    refine rp_ac (v := 0) hx hb hts hinX2 hown hK hP hD hS (hts (.fieldLink RX2 48 "FencedWordsModel" "acts" "I") (List.mem_of_getElem? (i := 2) rfl)) dX2_commit_11 (fun H locs hP hD hS => ?_)
    refine lv_iconst (v := nI 0) hx hb dX2_commit_14 (by decide) ?_
    refine lv_istore_n (lv' := [(1, .int (nI 0)), (0, .ref (b 0))]) hx hb dX2_commit_15 rfl hl (by decide) rfl (fun ls hl => ?_)
    have loop : ∀ (n16 : Nat) (i : Nat) (H : Heap) (locs : List Loc) (ls : Array Slot), (i ≤ 4) → (5 ≤ i + n16) → va_P D vwCl (wR b y (listAll (tlL (r_to r) i) (rs_ac r 0)) t) H → va_D A (wR b y (listAll (tlL (r_to r) i) (rs_ac r 0)) t) → va_S A s.heap H locs → lv_has ls 2 [(0, .ref (b 0)), (1, .int (nI i))] → W p l e ({ frames := 3, cells := 0, slots := 0, locals := 65 }) s m [.ref (b 0)].toArray below meth c0 H locs 0 0 (GQi below D (tyA y) A ((commitR r).1) (wR b y ((commitR r).2) t) [.ref (b 0)].toArray s) (F0 m 16 ls []) := by
      intro n16
      induction n16 with
      | zero =>
        intro i H locs ls hi hn hP hD hS hl
        omega
      | succ n16 ih16 =>
        intro i H locs ls hi hn hP hD hS hl
        refine lv_iload_n hx hb dX2_commit_16 rfl (lv_at hl 1 rfl) ?_
        refine lv_iconst (v := nI 4) hx hb dX2_commit_17 (by decide) ?_
        refine q_icmp_ge (tgt := 43) hx hb (show i < 2 ^ 31 by omega) (show 4 < 2 ^ 31 by omega) dX2_commit_18 (by decide) (fun (h18 : 4 ≤ i) => ?_) (fun (h18 : i < 4) => ?_)
        · have ei : i = 4 := by omega
          subst ei
          have l4 := tlL_len (r_to r) 4
          have ea : r_ac (listAll (tlL (r_to r) 4) (rs_ac r 0)) = (tlL (r_to r) 4).length := (by rw [la_f_ac]; show 0 + _ = _; omega)
          have hac : r_ac (listAll (tlL (r_to r) 4) (rs_ac r 0)) < 64 := (by omega)
          refine lv_aload_n hx hb dX2_commit_43 rfl (lv_at hl 0 rfl) ?_
          refine rg_ac hx hb hts hinX2 hown hK hP (hts (.fieldLink RX2 48 "FencedWordsModel" "acts" "I") (List.mem_of_getElem? (i := 2) rfl)) dX2_commit_44 ?_
          refine q_if_le (tgt := 57) hx hb (show (r_ac (listAll (tlL (r_to r) 4) (rs_ac r 0))) < 2 ^ 31 by omega) dX2_commit_47 (by decide) (fun (h47 : (r_ac (listAll (tlL (r_to r) 4) (rs_ac r 0))) = 0) => ?_) (fun (h47 : ¬ (r_ac (listAll (tlL (r_to r) 4) (rs_ac r 0))) = 0) => ?_)
          · have et : tlL (r_to r) 4 = [] := List.eq_nil_of_length_eq_zero (by omega)
            have ex2 : listAll (tlL (r_to r) 4) (rs_ac r 0) = listAll (tlL (r_to r) 4 ++ (if tlL (r_to r) 4 = [] then [] else [(3, 0, 0)])) (rs_ac r 0) := (by rw [if_pos et, List.append_nil])
            rw [ex2] at hP hD
            generalize ez : tlL (r_to r) 4 ++ (if tlL (r_to r) 4 = [] then [] else [(3, 0, 0)]) = zs at hP hD
            have lz : zs.length ≤ 5 := (by rw [← ez, List.length_append]; split; simp; omega; simp; omega)
            have hacl : r_ac (listAll zs (rs_ac r 0)) + 3 ≤ 64 := (by rw [la_f_ac]; show 0 + _ + 3 ≤ 64; omega)
            have hzl : r_rc (listAll zs (rs_ac r 0)) ≤ 20 := (by rw [la_f_rc]; exact hI.1)
            refine lv_aload_n hx hb dX2_commit_57 rfl (lv_at hl 0 rfl) ?_
            refine callVv (rest := []) ⟨hx, hb, hml, hown, hts⟩ (mX2_listClearing l y t b (listAll zs (rs_ac r 0)) hacl hzl) (cwV 0 hts gX2_commit_X2_listClearing rfl rfl rfl (by decide +kernel) ⟨Nat.le_of_ble_eq_true rfl, Nat.le_of_ble_eq_true rfl⟩) (va_recv hK hP (ci := 2) (q0 := 0) rfl rfl) hK hP hD hS hA hN rfl hl.1 rfl (Nat.le_of_ble_eq_true rfl) dX2_commit_58 ⟨Nat.le_of_ble_eq_true rfl, Nat.le_of_ble_eq_true rfl⟩ (fun H locs hP hD hS => ?_)
            have ec : listAll (clrL (listAll zs (rs_ac r 0))) (listAll zs (rs_ac r 0)) = listAll (comL r) (rs_ac r 0) := (by rw [la_clr, la_app, ← ez]; rfl)
            rw [ec] at hP hD
            have hO : AOK (rs_op (listAll (comL r) (rs_ac r 0)) false) := AOK_op (AOK_com hI) false
            refine lv_aload_n hx hb dX2_commit_61 rfl (lv_at hl 0 rfl) ?_
            refine lv_iconst (v := nI 0) hx hb dX2_commit_62 (by decide) ?_
            refine rp_op (v := false) hx hb hts hinX2 hown hK hP hD hS (hts (.fieldLink RX2 86 "FencedWordsModel" "open" "Z") (List.mem_of_getElem? (i := 1) rfl)) dX2_commit_63 (fun H locs hP hD hS => ?_)
            refine lv_aload_n hx hb dX2_commit_66 rfl (lv_at hl 0 rfl) ?_
            refine callVi (rest := []) ⟨hx, hb, hml, hown, hts⟩ (mX2_go l y t b (rs_op (listAll (comL r) (rs_ac r 0)) false) hO) (cwV 0 hts gX2_commit_X2_go rfl rfl rfl (by decide +kernel) ⟨Nat.le_of_ble_eq_true rfl, Nat.le_of_ble_eq_true rfl⟩) (va_recv hK hP (ci := 2) (q0 := 0) rfl rfl) hK hP hD hS hA hN rfl hl.1 rfl (Nat.le_of_ble_eq_true rfl) dX2_commit_67 ⟨Nat.le_of_ble_eq_true rfl, Nat.le_of_ble_eq_true rfl⟩ (fun H locs hP hD hS => ?_)
            generalize hc1 : (goF (rs_op (listAll (comL r) (rs_ac r 0)) false)).2 = c1 at hP hD
            have hP : va_P D vwCl (wR b y c1 t) H := hP
            have hD : va_D A (wR b y c1 t) := hD
            exact retGi hx hb hr hlocks hK hP hD hS dX2_commit_70 (by unfold commitR; rw [if_neg (by rw [h4]; decide)]; rfl) (by unfold commitR; rw [if_neg (by rw [h4]; decide)]; show _ = wR b y (goF _).2 t; rw [hc1])
          · refine lv_aload_n hx hb dX2_commit_50 rfl (lv_at hl 0 rfl) ?_
            refine lv_iconst (v := nI 3) hx hb dX2_commit_51 (by decide) ?_
            refine lv_iconst (v := nI 0) hx hb dX2_commit_52 (by decide) ?_
            refine lv_lconst (v := 0) hx hb dX2_commit_53 (by decide) ?_
            refine callVv (rest := []) ⟨hx, hb, hml, hown, hts⟩ (mX2_list l y t b (listAll (tlL (r_to r) 4) (rs_ac r 0)) 3 0 0 (by first | assumption | omega)) (cwV 3 hts gX2_commit_X2_list rfl rfl rfl (by decide +kernel) ⟨Nat.le_of_ble_eq_true rfl, Nat.le_of_ble_eq_true rfl⟩) (va_recv hK hP (ci := 2) (q0 := 0) rfl rfl) hK hP hD hS hA hN rfl hl.1 rfl (Nat.le_of_ble_eq_true rfl) dX2_commit_54 ⟨Nat.le_of_ble_eq_true rfl, Nat.le_of_ble_eq_true rfl⟩ (fun H locs hP hD hS => ?_)
            have et : ¬ tlL (r_to r) 4 = [] := (by intro q; rw [q] at ea; apply h47; rw [q]; rw [ea]; rfl)
            have ex2 : listA 3 0 0 (listAll (tlL (r_to r) 4) (rs_ac r 0)) = listAll (tlL (r_to r) 4 ++ (if tlL (r_to r) 4 = [] then [] else [(3, 0, 0)])) (rs_ac r 0) := (by rw [if_neg et, la_snoc])
            rw [ex2] at hP hD
            generalize ez : tlL (r_to r) 4 ++ (if tlL (r_to r) 4 = [] then [] else [(3, 0, 0)]) = zs at hP hD
            have lz : zs.length ≤ 5 := (by rw [← ez, List.length_append]; split; simp; omega; simp; omega)
            have hacl : r_ac (listAll zs (rs_ac r 0)) + 3 ≤ 64 := (by rw [la_f_ac]; show 0 + _ + 3 ≤ 64; omega)
            have hzl : r_rc (listAll zs (rs_ac r 0)) ≤ 20 := (by rw [la_f_rc]; exact hI.1)
            refine lv_aload_n hx hb dX2_commit_57 rfl (lv_at hl 0 rfl) ?_
            refine callVv (rest := []) ⟨hx, hb, hml, hown, hts⟩ (mX2_listClearing l y t b (listAll zs (rs_ac r 0)) hacl hzl) (cwV 0 hts gX2_commit_X2_listClearing rfl rfl rfl (by decide +kernel) ⟨Nat.le_of_ble_eq_true rfl, Nat.le_of_ble_eq_true rfl⟩) (va_recv hK hP (ci := 2) (q0 := 0) rfl rfl) hK hP hD hS hA hN rfl hl.1 rfl (Nat.le_of_ble_eq_true rfl) dX2_commit_58 ⟨Nat.le_of_ble_eq_true rfl, Nat.le_of_ble_eq_true rfl⟩ (fun H locs hP hD hS => ?_)
            have ec : listAll (clrL (listAll zs (rs_ac r 0))) (listAll zs (rs_ac r 0)) = listAll (comL r) (rs_ac r 0) := (by rw [la_clr, la_app, ← ez]; rfl)
            rw [ec] at hP hD
            have hO : AOK (rs_op (listAll (comL r) (rs_ac r 0)) false) := AOK_op (AOK_com hI) false
            refine lv_aload_n hx hb dX2_commit_61 rfl (lv_at hl 0 rfl) ?_
            refine lv_iconst (v := nI 0) hx hb dX2_commit_62 (by decide) ?_
            refine rp_op (v := false) hx hb hts hinX2 hown hK hP hD hS (hts (.fieldLink RX2 86 "FencedWordsModel" "open" "Z") (List.mem_of_getElem? (i := 1) rfl)) dX2_commit_63 (fun H locs hP hD hS => ?_)
            refine lv_aload_n hx hb dX2_commit_66 rfl (lv_at hl 0 rfl) ?_
            refine callVi (rest := []) ⟨hx, hb, hml, hown, hts⟩ (mX2_go l y t b (rs_op (listAll (comL r) (rs_ac r 0)) false) hO) (cwV 0 hts gX2_commit_X2_go rfl rfl rfl (by decide +kernel) ⟨Nat.le_of_ble_eq_true rfl, Nat.le_of_ble_eq_true rfl⟩) (va_recv hK hP (ci := 2) (q0 := 0) rfl rfl) hK hP hD hS hA hN rfl hl.1 rfl (Nat.le_of_ble_eq_true rfl) dX2_commit_67 ⟨Nat.le_of_ble_eq_true rfl, Nat.le_of_ble_eq_true rfl⟩ (fun H locs hP hD hS => ?_)
            generalize hc2 : (goF (rs_op (listAll (comL r) (rs_ac r 0)) false)).2 = c2 at hP hD
            have hP : va_P D vwCl (wR b y c2 t) H := hP
            have hD : va_D A (wR b y c2 t) := hD
            exact retGi hx hb hr hlocks hK hP hD hS dX2_commit_70 (by unfold commitR; rw [if_neg (by rw [h4]; decide)]; rfl) (by unfold commitR; rw [if_neg (by rw [h4]; decide)]; show _ = wR b y (goF _).2 t; rw [hc2])
        · have hac : r_ac (listAll (tlL (r_to r) i) (rs_ac r 0)) < 64 := (by rw [la_f_ac]; have := tlL_len (r_to r) i; show 0 + _ < 64; omega)
          refine lv_aload_n hx hb dX2_commit_21 rfl (lv_at hl 0 rfl) ?_
          refine rg_r9 hx hb hts hinX2 hown hK hP (hts (.fieldLink RX2 36 "FencedWordsModel" "touched" "[Z") (List.mem_of_getElem? (i := 3) rfl)) dX2_commit_22 ?_
          refine lv_iload_n hx hb dX2_commit_25 rfl (lv_at hl 1 rfl) ?_
          refine rl_to hx hb hK hP (show i < 4 by omega) dX2_commit_26 ?_
          rw [la_f_to]
          refine q_ifb_eq (tgt := 37) hx hb dX2_commit_27 (by decide) (fun (h27 : (r_to r i) = false) => ?_) (fun (h27 : (r_to r i) = true) => ?_)
          · refine lv_iinc (v := nI (i + 1)) (lv' := [(1, .int (nI (i + 1))), (0, .ref (b 0))]) hx hb dX2_commit_37 hl (k := 1) rfl (nI_add i 1) (by decide) rfl (fun ls hl => ?_)
            refine lv_goto (tgt := 16) hx hb dX2_commit_40 (by decide) ?_
            have e1 : listAll (tlL (r_to r) i) (rs_ac r 0) = listAll (tlL (r_to r) (i + 1)) (rs_ac r 0) := (by show _ = listAll (tlL (r_to r) i ++ (if r_to r i = true then [(2, i, 0)] else [])) _; rw [if_neg (by rw [h27]; decide), List.append_nil])
            rw [e1] at hP hD
            exact ih16 (i + 1) _ _ _ (by omega) (by omega) hP hD hS (lv_sub hl [1, 0] rfl)
          · refine lv_aload_n hx hb dX2_commit_30 rfl (lv_at hl 0 rfl) ?_
            refine lv_iconst (v := nI 2) hx hb dX2_commit_31 (by decide) ?_
            refine lv_iload_n hx hb dX2_commit_32 rfl (lv_at hl 1 rfl) ?_
            refine lv_lconst (v := 0) hx hb dX2_commit_33 (by decide) ?_
            refine callVv (rest := []) ⟨hx, hb, hml, hown, hts⟩ (mX2_list l y t b (listAll (tlL (r_to r) i) (rs_ac r 0)) 2 i 0 (by first | assumption | omega)) (cwV 3 hts gX2_commit_X2_list rfl rfl rfl (by decide +kernel) ⟨Nat.le_of_ble_eq_true rfl, Nat.le_of_ble_eq_true rfl⟩) (va_recv hK hP (ci := 2) (q0 := 0) rfl rfl) hK hP hD hS hA hN rfl hl.1 rfl (Nat.le_of_ble_eq_true rfl) dX2_commit_34 ⟨Nat.le_of_ble_eq_true rfl, Nat.le_of_ble_eq_true rfl⟩ (fun H locs hP hD hS => ?_)
            refine lv_iinc (v := nI (i + 1)) (lv' := [(1, .int (nI (i + 1))), (0, .ref (b 0))]) hx hb dX2_commit_37 hl (k := 1) rfl (nI_add i 1) (by decide) rfl (fun ls hl => ?_)
            refine lv_goto (tgt := 16) hx hb dX2_commit_40 (by decide) ?_
            have e1 : listA 2 i 0 (listAll (tlL (r_to r) i) (rs_ac r 0)) = listAll (tlL (r_to r) (i + 1)) (rs_ac r 0) := (by rw [la_snoc]; show _ = listAll (tlL (r_to r) i ++ (if r_to r i = true then [(2, i, 0)] else [])) _; rw [if_pos h27])
            rw [e1] at hP hD
            exact ih16 (i + 1) _ _ _ (by omega) (by omega) hP hD hS (lv_sub hl [1, 0] rfl)
    have e0 : rs_ac r 0 = listAll (tlL (r_to r) 0) (rs_ac r 0) := rfl
    rw [e0] at hP hD
    exact loop 5 0 _ _ _ (by omega) (by omega) hP hD hS (lv_sub hl [1, 0] rfl)
  · refine lv_iconst (v := (-1)) hx hb dX2_commit_7 (by decide) ?_
    exact retGi hx hb hr hlocks hK hP hD hS dX2_commit_8 (by unfold commitR; rw [if_pos h4]) (by unfold commitR; rw [if_pos h4])
theorem in_X2_X2_listUndoing : ∀ w ∈ wsX20, w ∈ wsX2_listUndoing := fun w h => List.mem_cons_of_mem _ (List.mem_append_right _ (h))
set_option maxHeartbeats 400000 in
set_option maxRecDepth 100000 in
theorem mX2_listUndoing (l : Launch) (y : Nat → ClassId) (t : va_W) (b : Nat → Nat) (r : RS) (hI : RI r) : MGv l yX2_listUndoing wsX2_listUndoing 2 44 [.ref (b 0)] (tyA y) (wR b y r t) (wR b y (undR r) t) := by
  refine MGv.of (cc := cX2_listUndoing) (maxL := 4) (by decide) rfl (Nat.le_of_ble_eq_true rfl) ?_
  intro D p e s m below meth c0 A ls hx hb hr hml hown hlocks hts hK hP hD hA hN hl hS
  have hl : lv_has ls 4 [(0, .ref (b 0))] := hl
  have hinX2 : ∀ w ∈ u_ws RX2 TX2 19, w ∈ wsX2_listUndoing := in_X2_X2_listUndoing
  obtain ⟨i1, i2, i3, i4, i5, i6⟩ := id hI
  refine lv_aload_n hx hb dX2_listUndoing_0 rfl (lv_at hl 0 rfl) ?_
  refine lv_iconst (v := nI 0) hx hb dX2_listUndoing_1 (by decide) ?_
  refine rp_ac (v := 0) hx hb hts hinX2 hown hK hP hD hS (hts (.fieldLink RX2 48 "FencedWordsModel" "acts" "I") (List.mem_of_getElem? (i := 1) rfl)) dX2_listUndoing_2 (fun H locs hP hD hS => ?_)
  refine lv_aload_n hx hb dX2_listUndoing_5 rfl (lv_at hl 0 rfl) ?_
  refine rg_rc hx hb hts hinX2 hown hK hP (hts (.fieldLink RX2 52 "FencedWordsModel" "records" "I") (List.mem_of_getElem? (i := 2) rfl)) dX2_listUndoing_6 ?_
  refine q_if_ne (tgt := 13) hx hb (show (r_rc r) < 2 ^ 31 by omega) dX2_listUndoing_9 (by decide) (fun (h9 : ¬ (r_rc r) = 0) => ?_) (fun (h9 : (r_rc r) = 0) => ?_)
  · refine lv_aload_n hx hb dX2_listUndoing_13 rfl (lv_at hl 0 rfl) ?_
    refine rg_rc hx hb hts hinX2 hown hK hP (hts (.fieldLink RX2 52 "FencedWordsModel" "records" "I") (List.mem_of_getElem? (i := 2) rfl)) dX2_listUndoing_14 ?_
    refine lv_iconst (v := nI 1) hx hb dX2_listUndoing_17 (by decide) ?_
    refine lv_isub hx hb dX2_listUndoing_18 ?_
    refine lv_istore_n (lv' := [(1, .int ((nI (r_rc r)) - (nI 1))), (0, .ref (b 0))]) hx hb dX2_listUndoing_19 rfl hl (by decide) rfl (fun ls hl => ?_)
    have loopR : ∀ (n20 : Nat) (k : Nat) (H : Heap) (locs : List Loc) (ls : Array Slot), (k ≤ r_rc r) → (k + 1 ≤ n20) → va_P D vwCl (wR b y (listAll (uoL r (r_rc r - k)) (rs_ac r 0)) t) H → va_D A (wR b y (listAll (uoL r (r_rc r - k)) (rs_ac r 0)) t) → va_S A s.heap H locs → lv_has ls 4 [(0, .ref (b 0)), (1, .int (nI k - nI 1))] → W p l e ({ frames := 2, cells := 0, slots := 0, locals := 44 }) s m [.ref (b 0)].toArray below meth c0 H locs 0 0 (GQv below D (tyA y) A (wR b y (undR r) t) [.ref (b 0)].toArray s) (F0 m 20 ls []) := by
      intro n20
      induction n20 with
      | zero =>
        intro k H locs ls hk hn hP hD hS hl
        omega
      | succ n20 ih20 =>
        intro k H locs ls hk hn hP hD hS hl
        refine lv_iload_n hx hb dX2_listUndoing_20 rfl (lv_at hl 1 rfl) ?_
        refine lv_if_lt (tgt := 74) hx hb dX2_listUndoing_21 (by decide) (fun (h21 : (nI k - nI 1) < 0) => ?_) (fun (h21 : ¬ (nI k - nI 1) < 0) => ?_)
        · have hk0 : k = 0 := (sub1_neg (by omega)).mp h21
          subst hk0
          rw [Nat.sub_zero] at hP hD
          refine lv_iconst (v := nI 0) hx hb dX2_listUndoing_74 (by decide) ?_
          refine lv_istore_n (lv' := [(1, .int (nI 0)), (0, .ref (b 0))]) hx hb dX2_listUndoing_75 rfl hl (by decide) rfl (fun ls hl => ?_)
          have loopL : ∀ (n76 : Nat) (q : Nat) (H : Heap) (locs : List Loc) (ls : Array Slot), (q ≤ 4) → (5 ≤ q + n76) → va_P D vwCl (wR b y (listAll (uoL r (r_rc r) ++ tlL (hasL r) q) (rs_ac r 0)) t) H → va_D A (wR b y (listAll (uoL r (r_rc r) ++ tlL (hasL r) q) (rs_ac r 0)) t) → va_S A s.heap H locs → lv_has ls 4 [(0, .ref (b 0)), (1, .int (nI q))] → W p l e ({ frames := 2, cells := 0, slots := 0, locals := 44 }) s m [.ref (b 0)].toArray below meth c0 H locs 0 0 (GQv below D (tyA y) A (wR b y (undR r) t) [.ref (b 0)].toArray s) (F0 m 76 ls []) := by
            intro n76
            induction n76 with
            | zero =>
              intro q H locs ls hq hn3 hP hD hS hl
              omega
            | succ n76 ih76 =>
              intro q H locs ls hq hn3 hP hD hS hl
              refine lv_iload_n hx hb dX2_listUndoing_76 rfl (lv_at hl 1 rfl) ?_
              refine lv_iconst (v := nI 4) hx hb dX2_listUndoing_77 (by decide) ?_
              refine q_icmp_ge (tgt := 140) hx hb (show q < 2 ^ 31 by omega) (show 4 < 2 ^ 31 by omega) dX2_listUndoing_78 (by decide) (fun (h78 : 4 ≤ q) => ?_) (fun (h78 : q < 4) => ?_)
              · have eq4 : q = 4 := by omega
                subst eq4
                have l1 := uoL_len r (r_rc r) (Nat.le_refl _)
                have l2 := tlL_len (hasL r) 4
                have hac : r_ac (listAll (uoL r (r_rc r) ++ tlL (hasL r) 4) (rs_ac r 0)) < 64 := (by rw [la_f_ac, List.length_append]; show 0 + _ < 64; omega)
                refine lv_aload_n hx hb dX2_listUndoing_140 rfl (lv_at hl 0 rfl) ?_
                refine lv_iconst (v := nI 3) hx hb dX2_listUndoing_141 (by decide) ?_
                refine lv_iconst (v := nI 0) hx hb dX2_listUndoing_142 (by decide) ?_
                refine lv_lconst (v := 0) hx hb dX2_listUndoing_143 (by decide) ?_
                refine callVv (rest := []) ⟨hx, hb, hml, hown, hts⟩ (mX2_list l y t b (listAll (uoL r (r_rc r) ++ tlL (hasL r) 4) (rs_ac r 0)) 3 0 0 (by first | assumption | omega)) (cwV 3 hts gX2_listUndoing_X2_list rfl rfl rfl (by decide +kernel) ⟨Nat.le_of_ble_eq_true rfl, Nat.le_of_ble_eq_true rfl⟩) (va_recv hK hP (ci := 2) (q0 := 0) rfl rfl) hK hP hD hS hA hN rfl hl.1 rfl (Nat.le_of_ble_eq_true rfl) dX2_listUndoing_144 ⟨Nat.le_of_ble_eq_true rfl, Nat.le_of_ble_eq_true rfl⟩ (fun H locs hP hD hS => ?_)
                rw [la_snoc] at hP hD
                have hacl : r_ac (listAll (uoL r (r_rc r) ++ tlL (hasL r) 4 ++ [(3, 0, 0)]) (rs_ac r 0)) + 3 ≤ 64 := (by rw [la_f_ac, List.length_append, List.length_append, List.length_singleton]; show 0 + _ + 3 ≤ 64; omega)
                have hzl : r_rc (listAll (uoL r (r_rc r) ++ tlL (hasL r) 4 ++ [(3, 0, 0)]) (rs_ac r 0)) ≤ 20 := (by rw [la_f_rc]; exact hI.1)
                refine lv_aload_n hx hb dX2_listUndoing_147 rfl (lv_at hl 0 rfl) ?_
                refine callVv (rest := []) ⟨hx, hb, hml, hown, hts⟩ (mX2_listClearing l y t b (listAll (uoL r (r_rc r) ++ tlL (hasL r) 4 ++ [(3, 0, 0)]) (rs_ac r 0)) hacl hzl) (cwV 0 hts gX2_listUndoing_X2_listClearing rfl rfl rfl (by decide +kernel) ⟨Nat.le_of_ble_eq_true rfl, Nat.le_of_ble_eq_true rfl⟩) (va_recv hK hP (ci := 2) (q0 := 0) rfl rfl) hK hP hD hS hA hN rfl hl.1 rfl (Nat.le_of_ble_eq_true rfl) dX2_listUndoing_148 ⟨Nat.le_of_ble_eq_true rfl, Nat.le_of_ble_eq_true rfl⟩ (fun H locs hP hD hS => ?_)
                exact retGv hx hb hr hlocks hK hP hD hS dX2_listUndoing_151 (by unfold undR undL; rw [if_neg h9, la_clr, la_app]; rfl)
              · have hzq : r_rc (listAll (uoL r (r_rc r) ++ tlL (hasL r) q) (rs_ac r 0)) ≤ 20 := (by rw [la_f_rc]; exact hI.1)
                have hfq : ∀ z, z < r_rc (listAll (uoL r (r_rc r) ++ tlL (hasL r) q) (rs_ac r 0)) → r_fi (listAll (uoL r (r_rc r) ++ tlL (hasL r) q) (rs_ac r 0)) z + r_ma (listAll (uoL r (r_rc r) ++ tlL (hasL r) q) (rs_ac r 0)) z ≤ 32 := (by rw [la_f_rc, la_f_fi, la_f_ma]; exact fun z hz => (hI.2.2.2.2.2 z hz).2.2.1)
                have hac : r_ac (listAll (uoL r (r_rc r) ++ tlL (hasL r) q) (rs_ac r 0)) < 64 := (by rw [la_f_ac, List.length_append]; have := uoL_len r (r_rc r) (Nat.le_refl _); have := tlL_len (hasL r) q; show 0 + _ < 64; omega)
                refine lv_iconst (v := nI 0) hx hb dX2_listUndoing_81 (by decide) ?_
                refine lv_istore_n (lv' := [(2, .int (nI 0)), (0, .ref (b 0)), (1, .int (nI q))]) hx hb dX2_listUndoing_82 rfl hl (by decide) rfl (fun ls hl => ?_)
                refine lv_bipush (v := nI 8) hx hb dX2_listUndoing_83 (by decide) ?_
                refine lv_iload_n hx hb dX2_listUndoing_85 rfl (lv_at hl 2 rfl) ?_
                refine q_imul hx hb dX2_listUndoing_86 ?_
                refine lv_istore_n (lv' := [(3, .int (nI (8 * q))), (2, .int (nI 0)), (0, .ref (b 0)), (1, .int (nI q))]) hx hb dX2_listUndoing_87 rfl hl (by decide) rfl (fun ls hl => ?_)
                have loopA : ∀ (n88 : Nat) (i : Nat) (H : Heap) (locs : List Loc) (ls : Array Slot), (i ≤ 8) → (9 ≤ i + n88) → va_P D vwCl (wR b y (listAll (uoL r (r_rc r) ++ tlL (hasL r) q) (rs_ac r 0)) t) H → va_D A (wR b y (listAll (uoL r (r_rc r) ++ tlL (hasL r) q) (rs_ac r 0)) t) → va_S A s.heap H locs → lv_has ls 4 [(0, .ref (b 0)), (1, .int (nI q)), (2, .int (bI (anyTo (fun z => covR r (8 * q + z)) i))), (3, .int (nI (8 * q + i)))] → W p l e ({ frames := 2, cells := 0, slots := 0, locals := 44 }) s m [.ref (b 0)].toArray below meth c0 H locs 0 0 (GQv below D (tyA y) A (wR b y (undR r) t) [.ref (b 0)].toArray s) (F0 m 88 ls []) := by
                  intro n88
                  induction n88 with
                  | zero =>
                    intro i H locs ls hi hn4 hP hD hS hl
                    omega
                  | succ n88 ih88 =>
                    intro i H locs ls hi hn4 hP hD hS hl
                    refine lv_iload_n hx hb dX2_listUndoing_88 rfl (lv_at hl 3 rfl) ?_
                    refine lv_bipush (v := nI 8) hx hb dX2_listUndoing_89 (by decide) ?_
                    refine lv_iload_n hx hb dX2_listUndoing_91 rfl (lv_at hl 1 rfl) ?_
                    refine q_imul hx hb dX2_listUndoing_92 ?_
                    refine lv_bipush (v := nI 8) hx hb dX2_listUndoing_93 (by decide) ?_
                    refine q_iadd hx hb dX2_listUndoing_95 ?_
                    refine q_icmp_ge (tgt := 123) hx hb (show (8 * q + i) < 2 ^ 31 by omega) (show ((8 * q) + 8) < 2 ^ 31 by omega) dX2_listUndoing_96 (by decide) (fun (h96 : ((8 * q) + 8) ≤ (8 * q + i)) => ?_) (fun (h96 : (8 * q + i) < ((8 * q) + 8)) => ?_)
                    · have ei : i = 8 := by omega
                      subst ei
                      have hl : lv_has ls 4 [(0, .ref (b 0)), (1, .int (nI q)), (2, .int (bI (hasL r q))), (3, .int (nI (8 * q + 8)))] := hl
                      refine lv_iload_n hx hb dX2_listUndoing_123 rfl (lv_at hl 2 rfl) ?_
                      refine q_ifb_eq (tgt := 134) hx hb dX2_listUndoing_124 (by decide) (fun (h124 : (hasL r q) = false) => ?_) (fun (h124 : (hasL r q) = true) => ?_)
                      · refine lv_iinc (v := nI (q + 1)) (lv' := [(1, .int (nI (q + 1))), (0, .ref (b 0)), (2, .int (bI (hasL r q))), (3, .int (nI (8 * q + 8)))]) hx hb dX2_listUndoing_134 hl (k := 1) rfl (nI_add q 1) (by decide) rfl (fun ls hl => ?_)
                        refine lv_goto (tgt := 76) hx hb dX2_listUndoing_137 (by decide) ?_
                        have e1 : listAll (uoL r (r_rc r) ++ tlL (hasL r) q) (rs_ac r 0) = listAll (uoL r (r_rc r) ++ tlL (hasL r) (q + 1)) (rs_ac r 0) := (by show _ = listAll (_ ++ (tlL (hasL r) q ++ (if hasL r q = true then [(2, q, 0)] else []))) _; rw [if_neg (by rw [h124]; decide), List.append_nil])
                        rw [e1] at hP hD
                        exact ih76 (q + 1) _ _ _ (by omega) (by omega) hP hD hS (lv_sub hl [1, 0] rfl)
                      · refine lv_aload_n hx hb dX2_listUndoing_127 rfl (lv_at hl 0 rfl) ?_
                        refine lv_iconst (v := nI 2) hx hb dX2_listUndoing_128 (by decide) ?_
                        refine lv_iload_n hx hb dX2_listUndoing_129 rfl (lv_at hl 1 rfl) ?_
                        refine lv_lconst (v := 0) hx hb dX2_listUndoing_130 (by decide) ?_
                        refine callVv (rest := []) ⟨hx, hb, hml, hown, hts⟩ (mX2_list l y t b (listAll (uoL r (r_rc r) ++ tlL (hasL r) q) (rs_ac r 0)) 2 q 0 (by first | assumption | omega)) (cwV 3 hts gX2_listUndoing_X2_list rfl rfl rfl (by decide +kernel) ⟨Nat.le_of_ble_eq_true rfl, Nat.le_of_ble_eq_true rfl⟩) (va_recv hK hP (ci := 2) (q0 := 0) rfl rfl) hK hP hD hS hA hN rfl hl.1 rfl (Nat.le_of_ble_eq_true rfl) dX2_listUndoing_131 ⟨Nat.le_of_ble_eq_true rfl, Nat.le_of_ble_eq_true rfl⟩ (fun H locs hP hD hS => ?_)
                        refine lv_iinc (v := nI (q + 1)) (lv' := [(1, .int (nI (q + 1))), (0, .ref (b 0)), (2, .int (bI (hasL r q))), (3, .int (nI (8 * q + 8)))]) hx hb dX2_listUndoing_134 hl (k := 1) rfl (nI_add q 1) (by decide) rfl (fun ls hl => ?_)
                        refine lv_goto (tgt := 76) hx hb dX2_listUndoing_137 (by decide) ?_
                        have e1 : listA 2 q 0 (listAll (uoL r (r_rc r) ++ tlL (hasL r) q) (rs_ac r 0)) = listAll (uoL r (r_rc r) ++ tlL (hasL r) (q + 1)) (rs_ac r 0) := (by rw [la_snoc]; show _ = listAll (_ ++ (tlL (hasL r) q ++ (if hasL r q = true then [(2, q, 0)] else []))) _; rw [if_pos h124, List.append_assoc])
                        rw [e1] at hP hD
                        exact ih76 (q + 1) _ _ _ (by omega) (by omega) hP hD hS (lv_sub hl [1, 0] rfl)
                    · refine lv_iload_n hx hb dX2_listUndoing_99 rfl (lv_at hl 2 rfl) ?_
                      refine q_ifb_ne (tgt := 111) hx hb dX2_listUndoing_100 (by decide) (fun (h100 : (anyTo (fun z => covR r (8 * q + z)) i) = true) => ?_) (fun (h100 : (anyTo (fun z => covR r (8 * q + z)) i) = false) => ?_)
                      · refine lv_iconst (v := nI 1) hx hb dX2_listUndoing_111 (by decide) ?_
                        refine lv_goto (tgt := 116) hx hb dX2_listUndoing_112 (by decide) ?_
                        refine lv_istore_n (lv' := [(2, .int (nI 1)), (0, .ref (b 0)), (1, .int (nI q)), (3, .int (nI (8 * q + i)))]) hx hb dX2_listUndoing_116 rfl hl (by decide) rfl (fun ls hl => ?_)
                        refine lv_iinc (v := nI (8 * q + i + 1)) (lv' := [(3, .int (nI (8 * q + i + 1))), (2, .int (nI 1)), (0, .ref (b 0)), (1, .int (nI q))]) hx hb dX2_listUndoing_117 hl (k := 3) rfl (nI_add (8 * q + i) 1) (by decide) rfl (fun ls hl => ?_)
                        refine lv_goto (tgt := 88) hx hb dX2_listUndoing_120 (by decide) ?_
                        have eb : anyTo (fun z => covR r (8 * q + z)) (i + 1) = true := (by simp [anyTo, h100])
                        have eq : nI 1 = bI (anyTo (fun z => covR r (8 * q + z)) (i + 1)) := (by rw [eb]; rfl)
                        rw [eq] at hl
                        exact ih88 (i + 1) _ _ _ (by omega) (by omega) hP hD hS (lv_sub hl [2, 3, 1, 0] rfl)
                      · refine lv_aload_n hx hb dX2_listUndoing_103 rfl (lv_at hl 0 rfl) ?_
                        refine lv_iload_n hx hb dX2_listUndoing_104 rfl (lv_at hl 3 rfl) ?_
                        refine callVi (rest := []) ⟨hx, hb, hml, hown, hts⟩ (mX2_covered l y t b (listAll (uoL r (r_rc r) ++ tlL (hasL r) q) (rs_ac r 0)) (8 * q + i) (by omega) (by first | assumption | omega) (by assumption)) (cwV 1 hts gX2_listUndoing_X2_covered rfl rfl rfl (by decide +kernel) ⟨Nat.le_of_ble_eq_true rfl, Nat.le_of_ble_eq_true rfl⟩) (va_recv hK hP (ci := 2) (q0 := 0) rfl rfl) hK hP hD hS hA hN rfl hl.1 rfl (Nat.le_of_ble_eq_true rfl) dX2_listUndoing_105 ⟨Nat.le_of_ble_eq_true rfl, Nat.le_of_ble_eq_true rfl⟩ (fun H locs hP hD hS => ?_)
                        rw [la_cov]
                        refine q_ifb_eq (tgt := 115) hx hb dX2_listUndoing_108 (by decide) (fun (h108 : (covR r (8 * q + i)) = false) => ?_) (fun (h108 : (covR r (8 * q + i)) = true) => ?_)
                        · refine lv_iconst (v := nI 0) hx hb dX2_listUndoing_115 (by decide) ?_
                          refine lv_istore_n (lv' := [(2, .int (nI 0)), (0, .ref (b 0)), (1, .int (nI q)), (3, .int (nI (8 * q + i)))]) hx hb dX2_listUndoing_116 rfl hl (by decide) rfl (fun ls hl => ?_)
                          refine lv_iinc (v := nI (8 * q + i + 1)) (lv' := [(3, .int (nI (8 * q + i + 1))), (2, .int (nI 0)), (0, .ref (b 0)), (1, .int (nI q))]) hx hb dX2_listUndoing_117 hl (k := 3) rfl (nI_add (8 * q + i) 1) (by decide) rfl (fun ls hl => ?_)
                          refine lv_goto (tgt := 88) hx hb dX2_listUndoing_120 (by decide) ?_
                          have eb : anyTo (fun z => covR r (8 * q + z)) (i + 1) = false := (by simp [anyTo, h100, h108])
                          have eq : nI 0 = bI (anyTo (fun z => covR r (8 * q + z)) (i + 1)) := (by rw [eb]; rfl)
                          rw [eq] at hl
                          exact ih88 (i + 1) _ _ _ (by omega) (by omega) hP hD hS (lv_sub hl [2, 3, 1, 0] rfl)
                        · refine lv_iconst (v := nI 1) hx hb dX2_listUndoing_111 (by decide) ?_
                          refine lv_goto (tgt := 116) hx hb dX2_listUndoing_112 (by decide) ?_
                          refine lv_istore_n (lv' := [(2, .int (nI 1)), (0, .ref (b 0)), (1, .int (nI q)), (3, .int (nI (8 * q + i)))]) hx hb dX2_listUndoing_116 rfl hl (by decide) rfl (fun ls hl => ?_)
                          refine lv_iinc (v := nI (8 * q + i + 1)) (lv' := [(3, .int (nI (8 * q + i + 1))), (2, .int (nI 1)), (0, .ref (b 0)), (1, .int (nI q))]) hx hb dX2_listUndoing_117 hl (k := 3) rfl (nI_add (8 * q + i) 1) (by decide) rfl (fun ls hl => ?_)
                          refine lv_goto (tgt := 88) hx hb dX2_listUndoing_120 (by decide) ?_
                          have eb : anyTo (fun z => covR r (8 * q + z)) (i + 1) = true := (by simp [anyTo, h108])
                          have eq : nI 1 = bI (anyTo (fun z => covR r (8 * q + z)) (i + 1)) := (by rw [eb]; rfl)
                          rw [eq] at hl
                          exact ih88 (i + 1) _ _ _ (by omega) (by omega) hP hD hS (lv_sub hl [2, 3, 1, 0] rfl)
                have hl := lv_sub hl [2, 3, 1, 0] rfl
                have hl : lv_has ls 4 [(0, .ref (b 0)), (1, .int (nI q)), (2, .int (bI (anyTo (fun z => covR r (8 * q + z)) 0))), (3, .int (nI (8 * q + 0)))] := hl
                exact loopA 9 0 _ _ _ (by omega) (by omega) hP hD hS (lv_sub hl [0, 1, 2, 3] rfl)
          have e0 : listAll (uoL r (r_rc r)) (rs_ac r 0) = listAll (uoL r (r_rc r) ++ tlL (hasL r) 0) (rs_ac r 0) := (by show _ = listAll (_ ++ []) _; rw [List.append_nil])
          rw [e0] at hP hD
          exact loopL 5 0 _ _ _ (by omega) (by omega) hP hD hS (lv_sub hl [1, 0] rfl)
        · obtain ⟨j, rfl⟩ : ∃ j, k = j + 1 := ⟨k - 1, by have q : k ≠ 0 := fun q => h21 ((sub1_neg (by omega)).mpr q); omega⟩
          rw [sub1_s j] at hl
          have hj := hI.2.2.2.2.2 j (by omega)
          refine lv_iconst (v := nI 0) hx hb dX2_listUndoing_24 (by decide) ?_
          refine lv_istore_n (lv' := [(2, .int (nI 0)), (0, .ref (b 0)), (1, .int (nI j))]) hx hb dX2_listUndoing_25 rfl hl (by decide) rfl (fun ls hl => ?_)
          have loopI : ∀ (n26 : Nat) (i : Nat) (H : Heap) (locs : List Loc) (ls : Array Slot), (i ≤ r_ma r j) → (r_ma r j + 1 ≤ i + n26) → va_P D vwCl (wR b y (listAll (uoL r (r_rc r - (j + 1)) ++ uiL r j i) (rs_ac r 0)) t) H → va_D A (wR b y (listAll (uoL r (r_rc r - (j + 1)) ++ uiL r j i) (rs_ac r 0)) t) → va_S A s.heap H locs → lv_has ls 4 [(0, .ref (b 0)), (1, .int (nI j)), (2, .int (nI i))] → W p l e ({ frames := 2, cells := 0, slots := 0, locals := 44 }) s m [.ref (b 0)].toArray below meth c0 H locs 0 0 (GQv below D (tyA y) A (wR b y (undR r) t) [.ref (b 0)].toArray s) (F0 m 26 ls []) := by
            intro n26
            induction n26 with
            | zero =>
              intro i H locs ls hi hn2 hP hD hS hl
              omega
            | succ n26 ih26 =>
              intro i H locs ls hi hn2 hP hD hS hl
              refine lv_iload_n hx hb dX2_listUndoing_26 rfl (lv_at hl 2 rfl) ?_
              refine lv_aload_n hx hb dX2_listUndoing_27 rfl (lv_at hl 0 rfl) ?_
              refine rg_r5 hx hb hts hinX2 hown hK hP (hts (.fieldLink RX2 24 "FencedWordsModel" "many" "[I") (List.mem_of_getElem? (i := 3) rfl)) dX2_listUndoing_28 ?_
              refine lv_iload_n hx hb dX2_listUndoing_31 rfl (lv_at hl 1 rfl) ?_
              refine rl_ma hx hb hK hP (show j < 20 by omega) dX2_listUndoing_32 ?_
              rw [la_f_ma]
              refine q_icmp_ge (tgt := 68) hx hb (show i < 2 ^ 31 by omega) (show (r_ma r j) < 2 ^ 31 by omega) dX2_listUndoing_33 (by decide) (fun (h33 : (r_ma r j) ≤ i) => ?_) (fun (h33 : i < (r_ma r j)) => ?_)
              · refine lv_iinc (v := nI j + (-1)) (lv' := [(1, .int (nI j + (-1))), (0, .ref (b 0)), (2, .int (nI i))]) hx hb dX2_listUndoing_68 hl (k := 1) rfl rfl (by decide) rfl (fun ls hl => ?_)
                refine lv_goto (tgt := 20) hx hb dX2_listUndoing_71 (by decide) ?_
                have ei : i = r_ma r j := (by omega)
                rw [ei] at hP hD
                have e1 : uoL r (r_rc r - (j + 1)) ++ uiL r j (r_ma r j) = uoL r (r_rc r - j) := (by rw [show r_rc r - j = (r_rc r - (j + 1)) + 1 by omega]; show _ = uoL r (r_rc r - (j + 1)) ++ uiL r (r_rc r - (r_rc r - (j + 1) + 1)) (r_ma r (r_rc r - (r_rc r - (j + 1) + 1))); rw [show r_rc r - (r_rc r - (j + 1) + 1) = j by omega])
                rw [e1] at hP hD
                rw [dec_s j] at hl
                exact ih20 j _ _ _ (by omega) (by omega) hP hD hS (lv_sub hl [1, 0] rfl)
              · have hac : r_ac (listAll (uoL r (r_rc r - (j + 1)) ++ uiL r j i) (rs_ac r 0)) < 64 := (by rw [la_f_ac, List.length_append, uiL_len]; have := uoL_len r (r_rc r - (j + 1)) (by omega); show 0 + _ < 64; omega)
                refine lv_aload_n hx hb dX2_listUndoing_36 rfl (lv_at hl 0 rfl) ?_
                refine lv_iconst (v := nI 1) hx hb dX2_listUndoing_37 (by decide) ?_
                refine lv_aload_n hx hb dX2_listUndoing_38 rfl (lv_at hl 0 rfl) ?_
                refine rg_r4 hx hb hts hinX2 hown hK hP (hts (.fieldLink RX2 20 "FencedWordsModel" "first" "[I") (List.mem_of_getElem? (i := 4) rfl)) dX2_listUndoing_39 ?_
                refine lv_iload_n hx hb dX2_listUndoing_42 rfl (lv_at hl 1 rfl) ?_
                refine rl_fi hx hb hK hP (show j < 20 by omega) dX2_listUndoing_43 ?_
                rw [la_f_fi]
                refine lv_iload_n hx hb dX2_listUndoing_44 rfl (lv_at hl 2 rfl) ?_
                refine q_iadd hx hb dX2_listUndoing_45 ?_
                refine lv_aload_n hx hb dX2_listUndoing_46 rfl (lv_at hl 0 rfl) ?_
                refine rg_r8 hx hb hts hinX2 hown hK hP (hts (.fieldLink RX2 33 "FencedWordsModel" "old" "[J") (List.mem_of_getElem? (i := 5) rfl)) dX2_listUndoing_47 ?_
                refine lv_aload_n hx hb dX2_listUndoing_50 rfl (lv_at hl 0 rfl) ?_
                refine rg_r6 hx hb hts hinX2 hown hK hP (hts (.fieldLink RX2 27 "FencedWordsModel" "from" "[I") (List.mem_of_getElem? (i := 6) rfl)) dX2_listUndoing_51 ?_
                refine lv_iload_n hx hb dX2_listUndoing_54 rfl (lv_at hl 1 rfl) ?_
                refine rl_fr hx hb hK hP (show j < 20 by omega) dX2_listUndoing_55 ?_
                rw [la_f_fr]
                refine lv_iload_n hx hb dX2_listUndoing_56 rfl (lv_at hl 2 rfl) ?_
                refine q_iadd hx hb dX2_listUndoing_57 ?_
                refine rl_ol hx hb hK hP (show ((r_fr r j) + i) < 40 by omega) dX2_listUndoing_58 ?_
                rw [la_f_ol]
                refine callVv (rest := []) ⟨hx, hb, hml, hown, hts⟩ (mX2_list l y t b (listAll (uoL r (r_rc r - (j + 1)) ++ uiL r j i) (rs_ac r 0)) 1 ((r_fi r j) + i) (r_ol r (r_fr r j + i)) (by first | assumption | omega)) (cwV 3 hts gX2_listUndoing_X2_list rfl rfl rfl (by decide +kernel) ⟨Nat.le_of_ble_eq_true rfl, Nat.le_of_ble_eq_true rfl⟩) (va_recv hK hP (ci := 2) (q0 := 0) rfl rfl) hK hP hD hS hA hN rfl hl.1 rfl (Nat.le_of_ble_eq_true rfl) dX2_listUndoing_59 ⟨Nat.le_of_ble_eq_true rfl, Nat.le_of_ble_eq_true rfl⟩ (fun H locs hP hD hS => ?_)
                refine lv_iinc (v := nI (i + 1)) (lv' := [(2, .int (nI (i + 1))), (0, .ref (b 0)), (1, .int (nI j))]) hx hb dX2_listUndoing_62 hl (k := 2) rfl (nI_add i 1) (by decide) rfl (fun ls hl => ?_)
                refine lv_goto (tgt := 26) hx hb dX2_listUndoing_65 (by decide) ?_
                have e1 : listA 1 (r_fi r j + i) (r_ol r (r_fr r j + i)) (listAll (uoL r (r_rc r - (j + 1)) ++ uiL r j i) (rs_ac r 0)) = listAll (uoL r (r_rc r - (j + 1)) ++ uiL r j (i + 1)) (rs_ac r 0) := (by rw [la_snoc, List.append_assoc]; rfl)
                rw [e1] at hP hD
                exact ih26 (i + 1) _ _ _ (by omega) (by omega) hP hD hS (lv_sub hl [1, 2, 0] rfl)
          have e0 : listAll (uoL r (r_rc r - (j + 1))) (rs_ac r 0) = listAll (uoL r (r_rc r - (j + 1)) ++ uiL r j 0) (rs_ac r 0) := (by show _ = listAll (_ ++ []) _; rw [List.append_nil])
          rw [e0] at hP hD
          exact loopI (r_ma r j + 1) 0 _ _ _ (by omega) (by omega) hP hD hS (lv_sub hl [1, 2, 0] rfl)
    have e0 : rs_ac r 0 = listAll (uoL r (r_rc r - r_rc r)) (rs_ac r 0) := (by rw [Nat.sub_self]; rfl)
    rw [e0] at hP hD
    exact loopR (r_rc r + 1) (r_rc r) _ _ _ (by omega) (by omega) hP hD hS (lv_sub hl [1, 0] rfl)
  · exact retGv hx hb hr hlocks hK hP hD hS dX2_listUndoing_12 (by unfold undR undL; rw [if_pos h9]; rfl)
theorem in_X2_X2_abort : ∀ w ∈ wsX20, w ∈ wsX2_abort := fun w h => List.mem_cons_of_mem _ (List.mem_append_right _ (h))
set_option maxHeartbeats 400000 in
set_option maxRecDepth 100000 in
theorem mX2_abort (l : Launch) (y : Nat → ClassId) (t : va_W) (b : Nat → Nat) (r : RS) (hI : RI r) : MGi l yX2_abort wsX2_abort 3 67 [.ref (b 0)] (tyA y) (wR b y r t) ((abortR r).1) (wR b y ((abortR r).2) t) := by
  refine MGi.of (cc := cX2_abort) (maxL := 1) (by decide) rfl (Nat.le_of_ble_eq_true rfl) ?_
  intro D p e s m below meth c0 A ls hx hb hr hml hown hlocks hts hK hP hD hA hN hl hS
  have hl : lv_has ls 1 [(0, .ref (b 0))] := hl
  have hinX2 : ∀ w ∈ u_ws RX2 TX2 19, w ∈ wsX2_abort := in_X2_X2_abort
  refine lv_aload_n hx hb dX2_abort_0 rfl (lv_at hl 0 rfl) ?_
  refine rg_op hx hb hts hinX2 hown hK hP (hts (.fieldLink RX2 86 "FencedWordsModel" "open" "Z") (List.mem_of_getElem? (i := 1) rfl)) dX2_abort_1 ?_
  refine q_ifb_ne (tgt := 9) hx hb dX2_abort_4 (by decide) (fun (h4 : (r_op r) = true) => ?_) (fun (h4 : (r_op r) = false) => ?_)
  · refine lv_aload_n hx hb dX2_abort_9 rfl (lv_at hl 0 rfl) ?_
    refine callVv (rest := []) ⟨hx, hb, hml, hown, hts⟩ (mX2_listUndoing l y t b r hI) (cwV 0 hts gX2_abort_X2_listUndoing rfl rfl rfl (by decide +kernel) ⟨Nat.le_of_ble_eq_true rfl, Nat.le_of_ble_eq_true rfl⟩) (va_recv hK hP (ci := 2) (q0 := 0) rfl rfl) hK hP hD hS hA hN rfl hl.1 rfl (Nat.le_of_ble_eq_true rfl) dX2_abort_10 ⟨Nat.le_of_ble_eq_true rfl, Nat.le_of_ble_eq_true rfl⟩ (fun H locs hP hD hS => ?_)
    have hO : AOK (rs_op (undR r) false) := AOK_op (AOK_und hI) false
    refine lv_aload_n hx hb dX2_abort_13 rfl (lv_at hl 0 rfl) ?_
    refine lv_iconst (v := nI 0) hx hb dX2_abort_14 (by decide) ?_
    refine rp_op (v := false) hx hb hts hinX2 hown hK hP hD hS (hts (.fieldLink RX2 86 "FencedWordsModel" "open" "Z") (List.mem_of_getElem? (i := 1) rfl)) dX2_abort_15 (fun H locs hP hD hS => ?_)
    refine lv_aload_n hx hb dX2_abort_18 rfl (lv_at hl 0 rfl) ?_
    refine callVi (rest := []) ⟨hx, hb, hml, hown, hts⟩ (mX2_go l y t b (rs_op (undR r) false) hO) (cwV 0 hts gX2_abort_X2_go rfl rfl rfl (by decide +kernel) ⟨Nat.le_of_ble_eq_true rfl, Nat.le_of_ble_eq_true rfl⟩) (va_recv hK hP (ci := 2) (q0 := 0) rfl rfl) hK hP hD hS hA hN rfl hl.1 rfl (Nat.le_of_ble_eq_true rfl) dX2_abort_19 ⟨Nat.le_of_ble_eq_true rfl, Nat.le_of_ble_eq_true rfl⟩ (fun H locs hP hD hS => ?_)
    generalize hc1 : (goF (rs_op (undR r) false)).2 = c1 at hP hD
    have hP : va_P D vwCl (wR b y c1 t) H := hP
    have hD : va_D A (wR b y c1 t) := hD
    exact retGi hx hb hr hlocks hK hP hD hS dX2_abort_22 (by unfold abortR; rw [if_neg (by rw [h4]; decide)]; rfl) (by unfold abortR; rw [if_neg (by rw [h4]; decide)]; show _ = wR b y (goF _).2 t; rw [hc1])
  · refine lv_iconst (v := (-1)) hx hb dX2_abort_7 (by decide) ?_
    exact retGi hx hb hr hlocks hK hP hD hS dX2_abort_8 (by unfold abortR; rw [if_pos h4]) (by unfold abortR; rw [if_pos h4])
theorem in_X2_X2_recover : ∀ w ∈ wsX20, w ∈ wsX2_recover := fun w h => List.mem_cons_of_mem _ (List.mem_append_right _ (h))
set_option maxHeartbeats 400000 in
set_option maxRecDepth 100000 in
theorem mX2_recover (l : Launch) (y : Nat → ClassId) (t : va_W) (b : Nat → Nat) (r : RS) (hI : RI r) : MGi l yX2_recover wsX2_recover 3 67 [.ref (b 0)] (tyA y) (wR b y r t) ((recoverR r).1) (wR b y ((recoverR r).2) t) := by
  refine MGi.of (cc := cX2_recover) (maxL := 2) (by decide) rfl (Nat.le_of_ble_eq_true rfl) ?_
  intro D p e s m below meth c0 A ls hx hb hr hml hown hlocks hts hK hP hD hA hN hl hS
  have hl : lv_has ls 2 [(0, .ref (b 0))] := hl
  have hinX2 : ∀ w ∈ u_ws RX2 TX2 19, w ∈ wsX2_recover := in_X2_X2_recover
  refine lv_aload_n hx hb dX2_recover_0 rfl (lv_at hl 0 rfl) ?_
  refine rg_of hx hb hts hinX2 hown hK hP (hts (.fieldLink RX2 82 "FencedWordsModel" "off" "Z") (List.mem_of_getElem? (i := 1) rfl)) dX2_recover_1 ?_
  refine q_ifb_ne (tgt := 9) hx hb dX2_recover_4 (by decide) (fun (h4 : (r_of r) = true) => ?_) (fun (h4 : (r_of r) = false) => ?_)
  · refine lv_aload_n hx hb dX2_recover_9 rfl (lv_at hl 0 rfl) ?_
    refine lv_iconst (v := nI 0) hx hb dX2_recover_10 (by decide) ?_
    refine rp_of (v := false) hx hb hts hinX2 hown hK hP hD hS (hts (.fieldLink RX2 82 "FencedWordsModel" "off" "Z") (List.mem_of_getElem? (i := 1) rfl)) dX2_recover_11 (fun H locs hP hD hS => ?_)
    refine lv_iconst (v := nI 0) hx hb dX2_recover_14 (by decide) ?_
    refine lv_istore_n (lv' := [(1, .int (nI 0)), (0, .ref (b 0))]) hx hb dX2_recover_15 rfl hl (by decide) rfl (fun ls hl => ?_)
    have loop : ∀ (n16 : Nat) (i : Nat) (H : Heap) (locs : List Loc) (ls : Array Slot), (i ≤ 32) → (33 ≤ i + n16) → va_P D vwCl (wR b y (rs_S (rs_of r false) (va_cpy (r_K r) (r_S r) 0 0 i)) t) H → va_D A (wR b y (rs_S (rs_of r false) (va_cpy (r_K r) (r_S r) 0 0 i)) t) → va_S A s.heap H locs → lv_has ls 2 [(0, .ref (b 0)), (1, .int (nI i))] → W p l e ({ frames := 3, cells := 0, slots := 0, locals := 67 }) s m [.ref (b 0)].toArray below meth c0 H locs 0 0 (GQi below D (tyA y) A ((recoverR r).1) (wR b y ((recoverR r).2) t) [.ref (b 0)].toArray s) (F0 m 16 ls []) := by
      intro n16
      induction n16 with
      | zero =>
        intro i H locs ls hi hn hP hD hS hl
        omega
      | succ n16 ih16 =>
        intro i H locs ls hi hn hP hD hS hl
        refine lv_iload_n hx hb dX2_recover_16 rfl (lv_at hl 1 rfl) ?_
        refine lv_bipush (v := nI 32) hx hb dX2_recover_17 (by decide) ?_
        refine q_icmp_ge (tgt := 40) hx hb (show i < 2 ^ 31 by omega) (show 32 < 2 ^ 31 by omega) dX2_recover_19 (by decide) (fun (h19 : 32 ≤ i) => ?_) (fun (h19 : i < 32) => ?_)
        · have ei : i = 32 := by omega
          subst ei
          have hP : va_P D vwCl (wR b y (recR r) t) H := hP
          have hD : va_D A (wR b y (recR r) t) := hD
          have hI : RI (recR r) := RI_rec hI
          refine lv_aload_n hx hb dX2_recover_40 rfl (lv_at hl 0 rfl) ?_
          refine callVv (rest := []) ⟨hx, hb, hml, hown, hts⟩ (mX2_listUndoing l y t b (recR r) hI) (cwV 0 hts gX2_recover_X2_listUndoing rfl rfl rfl (by decide +kernel) ⟨Nat.le_of_ble_eq_true rfl, Nat.le_of_ble_eq_true rfl⟩) (va_recv hK hP (ci := 2) (q0 := 0) rfl rfl) hK hP hD hS hA hN rfl hl.1 rfl (Nat.le_of_ble_eq_true rfl) dX2_recover_41 ⟨Nat.le_of_ble_eq_true rfl, Nat.le_of_ble_eq_true rfl⟩ (fun H locs hP hD hS => ?_)
          have hO : AOK (undR (recR r)) := AOK_und hI
          refine lv_aload_n hx hb dX2_recover_44 rfl (lv_at hl 0 rfl) ?_
          refine callVi (rest := []) ⟨hx, hb, hml, hown, hts⟩ (mX2_go l y t b (undR (recR r)) hO) (cwV 0 hts gX2_recover_X2_go rfl rfl rfl (by decide +kernel) ⟨Nat.le_of_ble_eq_true rfl, Nat.le_of_ble_eq_true rfl⟩) (va_recv hK hP (ci := 2) (q0 := 0) rfl rfl) hK hP hD hS hA hN rfl hl.1 rfl (Nat.le_of_ble_eq_true rfl) dX2_recover_45 ⟨Nat.le_of_ble_eq_true rfl, Nat.le_of_ble_eq_true rfl⟩ (fun H locs hP hD hS => ?_)
          generalize hc1 : (goF (undR (recR r))).2 = c1 at hP hD
          have hP : va_P D vwCl (wR b y c1 t) H := hP
          have hD : va_D A (wR b y c1 t) := hD
          exact retGi hx hb hr hlocks hK hP hD hS dX2_recover_48 (by unfold recoverR; rw [if_neg (by rw [h4]; decide)]; rfl) (by unfold recoverR; rw [if_neg (by rw [h4]; decide)]; show _ = wR b y (goF _).2 t; rw [hc1])
        · refine lv_aload_n hx hb dX2_recover_22 rfl (lv_at hl 0 rfl) ?_
          refine rg_r1 hx hb hts hinX2 hown hK hP (hts (.fieldLink RX2 7 "FencedWordsModel" "seen" "[J") (List.mem_of_getElem? (i := 2) rfl)) dX2_recover_23 ?_
          refine lv_iload_n hx hb dX2_recover_26 rfl (lv_at hl 1 rfl) ?_
          refine lv_aload_n hx hb dX2_recover_27 rfl (lv_at hl 0 rfl) ?_
          refine rg_r2 hx hb hts hinX2 hown hK hP (hts (.fieldLink RX2 13 "FencedWordsModel" "kept" "[J") (List.mem_of_getElem? (i := 3) rfl)) dX2_recover_28 ?_
          refine lv_iload_n hx hb dX2_recover_31 rfl (lv_at hl 1 rfl) ?_
          refine rl_K hx hb hK hP (show i < 32 by omega) dX2_recover_32 ?_
          refine rt_S (v := r_K r i) hx hb hK hP hD hS (show i < 32 by omega) dX2_recover_33 (fun H locs hP hD hS => ?_)
          refine lv_iinc (v := nI (i + 1)) (lv' := [(1, .int (nI (i + 1))), (0, .ref (b 0))]) hx hb dX2_recover_34 hl (k := 1) rfl (nI_add i 1) (by decide) rfl (fun ls hl => ?_)
          refine lv_goto (tgt := 16) hx hb dX2_recover_37 (by decide) ?_
          have hP : va_P D vwCl (wR b y (rs_S (rs_S (rs_of r false) (va_cpy (r_K r) (r_S r) 0 0 i)) (vp_updL (va_cpy (r_K r) (r_S r) 0 0 i) i (r_K r i))) t) H := hP
          have hD : va_D A (wR b y (rs_S (rs_S (rs_of r false) (va_cpy (r_K r) (r_S r) 0 0 i)) (vp_updL (va_cpy (r_K r) (r_S r) 0 0 i) i (r_K r i))) t) := hD
          have e1 : vp_updL (va_cpy (r_K r) (r_S r) 0 0 i) i (r_K r i) = va_cpy (r_K r) (r_S r) 0 0 (i + 1) := (by have q := cpy_s (r_K r) (r_S r) 0 0 i; rw [Nat.zero_add] at q; exact q)
          rw [rss_S, e1] at hP hD
          exact ih16 (i + 1) _ _ _ (by omega) (by omega) hP hD hS (lv_sub hl [1, 0] rfl)
    have e0 : rs_of r false = rs_S (rs_of r false) (va_cpy (r_K r) (r_S r) 0 0 0) := (by rw [cpy_0]; rfl)
    rw [e0] at hP hD
    exact loop 33 0 _ _ _ (by omega) (by omega) hP hD hS (lv_sub hl [1, 0] rfl)
  · refine lv_iconst (v := (-1)) hx hb dX2_recover_7 (by decide) ?_
    exact retGi hx hb hr hlocks hK hP hD hS dX2_recover_8 (by unfold recoverR; rw [if_pos h4]) (by unfold recoverR; rw [if_pos h4])
theorem in_X2_X2_on : ∀ w ∈ wsX20, w ∈ wsX2_on := fun w h => List.mem_cons_of_mem _ (List.mem_append_right _ (h))
set_option maxHeartbeats 400000 in
set_option maxRecDepth 100000 in
theorem mX2_on (l : Launch) (y : Nat → ClassId) (t : va_W) (b : Nat → Nat) (r : RS)  : MGi l yX2_on wsX2_on 0 0 [.ref (b 0)] (tyA y) (wR b y r t) (bI (!(r_of r))) (wR b y r t) := by
  refine MGi.of (cc := cX2_on) (maxL := 1) (by decide) rfl (Nat.le_of_ble_eq_true rfl) ?_
  intro D p e s m below meth c0 A ls hx hb hr hml hown hlocks hts hK hP hD hA hN hl hS
  have hl : lv_has ls 1 [(0, .ref (b 0))] := hl
  have hinX2 : ∀ w ∈ u_ws RX2 TX2 19, w ∈ wsX2_on := in_X2_X2_on
  refine lv_aload_n hx hb dX2_on_0 rfl (lv_at hl 0 rfl) ?_
  refine rg_of hx hb hts hinX2 hown hK hP (hts (.fieldLink RX2 82 "FencedWordsModel" "off" "Z") (List.mem_of_getElem? (i := 1) rfl)) dX2_on_1 ?_
  refine q_ifb_ne (tgt := 11) hx hb dX2_on_4 (by decide) (fun (h4 : (r_of r) = true) => ?_) (fun (h4 : (r_of r) = false) => ?_)
  · refine lv_iconst (v := nI 0) hx hb dX2_on_11 (by decide) ?_
    exact retGz hx hb hr hlocks hK hP hD hS dX2_on_12 (by rw [h4]; rfl) rfl
  · refine lv_iconst (v := nI 1) hx hb dX2_on_7 (by decide) ?_
    refine lv_goto (tgt := 12) hx hb dX2_on_8 (by decide) ?_
    exact retGz hx hb hr hlocks hK hP hD hS dX2_on_12 (by rw [h4]; rfl) rfl
theorem in_X2_X2_open : ∀ w ∈ wsX20, w ∈ wsX2_open := fun w h => List.mem_cons_of_mem _ (List.mem_append_right _ (h))
set_option maxHeartbeats 400000 in
set_option maxRecDepth 100000 in
theorem mX2_open (l : Launch) (y : Nat → ClassId) (t : va_W) (b : Nat → Nat) (r : RS)  : MGi l yX2_open wsX2_open 0 0 [.ref (b 0)] (tyA y) (wR b y r t) (bI (r_op r)) (wR b y r t) := by
  refine MGi.of (cc := cX2_open) (maxL := 1) (by decide) rfl (Nat.le_of_ble_eq_true rfl) ?_
  intro D p e s m below meth c0 A ls hx hb hr hml hown hlocks hts hK hP hD hA hN hl hS
  have hl : lv_has ls 1 [(0, .ref (b 0))] := hl
  have hinX2 : ∀ w ∈ u_ws RX2 TX2 19, w ∈ wsX2_open := in_X2_X2_open
  refine lv_aload_n hx hb dX2_open_0 rfl (lv_at hl 0 rfl) ?_
  refine rg_op hx hb hts hinX2 hown hK hP (hts (.fieldLink RX2 86 "FencedWordsModel" "open" "Z") (List.mem_of_getElem? (i := 1) rfl)) dX2_open_1 ?_
  exact retGz hx hb hr hlocks hK hP hD hS dX2_open_4 rfl rfl
theorem in_X2_X2_seen : ∀ w ∈ wsX20, w ∈ wsX2_seen := fun w h => List.mem_cons_of_mem _ (List.mem_append_right _ (h))
set_option maxHeartbeats 400000 in
set_option maxRecDepth 100000 in
theorem mX2_seen (l : Launch) (y : Nat → ClassId) (t : va_W) (b : Nat → Nat) (r : RS) (x : Int32)  : MGl l yX2_seen wsX2_seen 1 20 [.ref (b 0), .int x] (tyA y) (wR b y r t) (seenR x r) (wR b y r t) := by
  refine MGl.of (cc := cX2_seen) (maxL := 2) (by decide) rfl (Nat.le_of_ble_eq_true rfl) ?_
  intro D p e s m below meth c0 A ls hx hb hr hml hown hlocks hts hK hP hD hA hN hl hS
  have hl : lv_has ls 2 [(0, .ref (b 0)), (1, .int x)] := hl
  have hinX2 : ∀ w ∈ u_ws RX2 TX2 19, w ∈ wsX2_seen := in_X2_X2_seen
  refine lv_aload_n hx hb dX2_seen_0 rfl (lv_at hl 0 rfl) ?_
  refine rg_of hx hb hts hinX2 hown hK hP (hts (.fieldLink RX2 82 "FencedWordsModel" "off" "Z") (List.mem_of_getElem? (i := 1) rfl)) dX2_seen_1 ?_
  refine q_ifb_ne (tgt := 14) hx hb dX2_seen_4 (by decide) (fun (h4 : (r_of r) = true) => ?_) (fun (h4 : (r_of r) = false) => ?_)
  · refine lv_lconst (v := 0) hx hb dX2_seen_14 (by decide) ?_
    refine lv_goto (tgt := 24) hx hb dX2_seen_15 (by decide) ?_
    exact retGl hx hb hr hlocks hK hP hD hS dX2_seen_24 (by unfold seenR; rw [if_pos h4]) rfl
  · refine lv_iload_n hx hb dX2_seen_7 rfl (lv_at hl 1 rfl) ?_
    refine callSi (rest := []) ⟨hx, hb, hml, hown, hts⟩ (mX2_word l y _ x) (va_cwS 1 hts gX2_seen_X2_word rfl rfl rfl (by decide +kernel) ⟨Nat.le_of_ble_eq_true rfl, Nat.le_of_ble_eq_true rfl⟩) hK hP hD hS hA hN rfl hl.1 rfl (Nat.le_of_ble_eq_true rfl) dX2_seen_8 ⟨Nat.le_of_ble_eq_true rfl, Nat.le_of_ble_eq_true rfl⟩ (fun H locs hP hD hS => ?_)
    refine q_ifb_ne (tgt := 18) hx hb dX2_seen_11 (by decide) (fun (h11 : (isV x) = true) => ?_) (fun (h11 : (isV x) = false) => ?_)
    · obtain ⟨k, rfl, q1⟩ := isV_nat h11
      refine lv_aload_n hx hb dX2_seen_18 rfl (lv_at hl 0 rfl) ?_
      refine rg_r1 hx hb hts hinX2 hown hK hP (hts (.fieldLink RX2 7 "FencedWordsModel" "seen" "[J") (List.mem_of_getElem? (i := 2) rfl)) dX2_seen_19 ?_
      refine lv_iload_n hx hb dX2_seen_22 rfl (lv_at hl 1 rfl) ?_
      refine rl_S hx hb hK hP (show k < 32 by omega) dX2_seen_23 ?_
      exact retGl hx hb hr hlocks hK hP hD hS dX2_seen_24 (by unfold seenR; rw [if_neg (by rw [h4]; decide), if_neg (by rw [h11]; decide), nI_clamp (by omega)]) rfl
    · refine lv_lconst (v := 0) hx hb dX2_seen_14 (by decide) ?_
      refine lv_goto (tgt := 24) hx hb dX2_seen_15 (by decide) ?_
      exact retGl hx hb hr hlocks hK hP hD hS dX2_seen_24 (by unfold seenR; rw [if_neg (by rw [h4]; decide), if_pos h11]) rfl
theorem in_X2_X2_kept : ∀ w ∈ wsX20, w ∈ wsX2_kept := fun w h => List.mem_cons_of_mem _ (List.mem_append_right _ (h))
set_option maxHeartbeats 400000 in
set_option maxRecDepth 100000 in
theorem mX2_kept (l : Launch) (y : Nat → ClassId) (t : va_W) (b : Nat → Nat) (r : RS) (x : Int32)  : MGl l yX2_kept wsX2_kept 1 20 [.ref (b 0), .int x] (tyA y) (wR b y r t) (keptR x r) (wR b y r t) := by
  refine MGl.of (cc := cX2_kept) (maxL := 2) (by decide) rfl (Nat.le_of_ble_eq_true rfl) ?_
  intro D p e s m below meth c0 A ls hx hb hr hml hown hlocks hts hK hP hD hA hN hl hS
  have hl : lv_has ls 2 [(0, .ref (b 0)), (1, .int x)] := hl
  have hinX2 : ∀ w ∈ u_ws RX2 TX2 19, w ∈ wsX2_kept := in_X2_X2_kept
  refine lv_iload_n hx hb dX2_kept_0 rfl (lv_at hl 1 rfl) ?_
  refine callSi (rest := []) ⟨hx, hb, hml, hown, hts⟩ (mX2_word l y _ x) (va_cwS 1 hts gX2_kept_X2_word rfl rfl rfl (by decide +kernel) ⟨Nat.le_of_ble_eq_true rfl, Nat.le_of_ble_eq_true rfl⟩) hK hP hD hS hA hN rfl hl.1 rfl (Nat.le_of_ble_eq_true rfl) dX2_kept_1 ⟨Nat.le_of_ble_eq_true rfl, Nat.le_of_ble_eq_true rfl⟩ (fun H locs hP hD hS => ?_)
  refine q_ifb_eq (tgt := 16) hx hb dX2_kept_4 (by decide) (fun (h4 : (isV x) = false) => ?_) (fun (h4 : (isV x) = true) => ?_)
  · refine lv_lconst (v := 0) hx hb dX2_kept_16 (by decide) ?_
    exact retGl hx hb hr hlocks hK hP hD hS dX2_kept_17 (by unfold keptR; rw [if_pos h4]) rfl
  · obtain ⟨k, rfl, q1⟩ := isV_nat h4
    refine lv_aload_n hx hb dX2_kept_7 rfl (lv_at hl 0 rfl) ?_
    refine rg_r2 hx hb hts hinX2 hown hK hP (hts (.fieldLink RX2 13 "FencedWordsModel" "kept" "[J") (List.mem_of_getElem? (i := 1) rfl)) dX2_kept_8 ?_
    refine lv_iload_n hx hb dX2_kept_11 rfl (lv_at hl 1 rfl) ?_
    refine rl_K hx hb hK hP (show k < 32 by omega) dX2_kept_12 ?_
    refine lv_goto (tgt := 17) hx hb dX2_kept_13 (by decide) ?_
    exact retGl hx hb hr hlocks hK hP hD hS dX2_kept_17 (by unfold keptR; rw [if_neg (by rw [h4]; decide), nI_clamp (by omega)]) rfl
theorem in_X2_X2_records : ∀ w ∈ wsX20, w ∈ wsX2_records := fun w h => List.mem_cons_of_mem _ (List.mem_append_right _ (h))
set_option maxHeartbeats 400000 in
set_option maxRecDepth 100000 in
theorem mX2_records (l : Launch) (y : Nat → ClassId) (t : va_W) (b : Nat → Nat) (r : RS)  : MGi l yX2_records wsX2_records 0 0 [.ref (b 0)] (tyA y) (wR b y r t) (nI (r_rc r)) (wR b y r t) := by
  refine MGi.of (cc := cX2_records) (maxL := 1) (by decide) rfl (Nat.le_of_ble_eq_true rfl) ?_
  intro D p e s m below meth c0 A ls hx hb hr hml hown hlocks hts hK hP hD hA hN hl hS
  have hl : lv_has ls 1 [(0, .ref (b 0))] := hl
  have hinX2 : ∀ w ∈ u_ws RX2 TX2 19, w ∈ wsX2_records := in_X2_X2_records
  refine lv_aload_n hx hb dX2_records_0 rfl (lv_at hl 0 rfl) ?_
  refine rg_rc hx hb hts hinX2 hown hK hP (hts (.fieldLink RX2 52 "FencedWordsModel" "records" "I") (List.mem_of_getElem? (i := 1) rfl)) dX2_records_1 ?_
  exact retGi hx hb hr hlocks hK hP hD hS dX2_records_4 rfl rfl
theorem in_X2_X2_meter : ∀ w ∈ wsX20, w ∈ wsX2_meter := fun w h => List.mem_cons_of_mem _ (List.mem_append_right _ (h))
set_option maxHeartbeats 400000 in
set_option maxRecDepth 100000 in
theorem mX2_meter (l : Launch) (y : Nat → ClassId) (t : va_W) (b : Nat → Nat) (r : RS)  : MGi l yX2_meter wsX2_meter 0 0 [.ref (b 0)] (tyA y) (wR b y r t) (r_me r) (wR b y r t) := by
  refine MGi.of (cc := cX2_meter) (maxL := 1) (by decide) rfl (Nat.le_of_ble_eq_true rfl) ?_
  intro D p e s m below meth c0 A ls hx hb hr hml hown hlocks hts hK hP hD hA hN hl hS
  have hl : lv_has ls 1 [(0, .ref (b 0))] := hl
  have hinX2 : ∀ w ∈ u_ws RX2 TX2 19, w ∈ wsX2_meter := in_X2_X2_meter
  refine lv_aload_n hx hb dX2_meter_0 rfl (lv_at hl 0 rfl) ?_
  refine rg_me hx hb hts hinX2 hown hK hP (hts (.fieldLink RX2 55 "FencedWordsModel" "meter" "I") (List.mem_of_getElem? (i := 1) rfl)) dX2_meter_1 ?_
  exact retGi hx hb hr hlocks hK hP hD hS dX2_meter_4 rfl rfl
end
section
theorem se_S (c : CS) (w x : Bool) : c_S (settleF c w x) = c_S c := by
  simp only [settleF, cx_S_xo, cx_S_nk]
  repeat' split
  all_goals first | rfl | simp only [cx_S_tk, cx_S_sz]
theorem se_K (c : CS) (w x : Bool) : c_K (settleF c w x) = c_K c := by
  simp only [settleF, cx_K_xo, cx_K_nk]
  repeat' split
  all_goals first | rfl | simp only [cx_K_tk, cx_K_sz]
theorem se_on (c : CS) (w x : Bool) : c_on (settleF c w x) = c_on c := by
  simp only [settleF, cx_on_xo, cx_on_nk]
  repeat' split
  all_goals first | rfl | simp only [cx_on_tk, cx_on_sz]
theorem se_op (c : CS) (w x : Bool) : c_op (settleF c w x) = c_op c := by
  simp only [settleF, cx_op_xo, cx_op_nk]
  repeat' split
  all_goals first | rfl | simp only [cx_op_tk, cx_op_sz]
theorem se_fl (c : CS) (w x : Bool) : c_fl (settleF c w x) = c_fl c := by
  simp only [settleF, cx_fl_xo, cx_fl_nk]
  repeat' split
  all_goals first | rfl | simp only [cx_fl_tk, cx_fl_sz]
theorem se_sl (c : CS) (w x : Bool) : c_sl (settleF c w x) = c_sl c := by
  simp only [settleF, cx_sl_xo, cx_sl_nk]
  repeat' split
  all_goals first | rfl | simp only [cx_sl_tk, cx_sl_sz]
theorem se_au (c : CS) (w x : Bool) : c_au (settleF c w x) = c_au c := by
  simp only [settleF, cx_au_xo, cx_au_nk]
  repeat' split
  all_goals first | rfl | simp only [cx_au_tk, cx_au_sz]
theorem se_mk (c : CS) (w x : Bool) : c_mk (settleF c w x) = c_mk c := by
  simp only [settleF, cx_mk_xo, cx_mk_nk]
  repeat' split
  all_goals first | rfl | simp only [cx_mk_tk, cx_mk_sz]
theorem se_ad (c : CS) (w x : Bool) : c_ad (settleF c w x) = c_ad c := by
  simp only [settleF, cx_ad_xo, cx_ad_nk]
  repeat' split
  all_goals first | rfl | simp only [cx_ad_tk, cx_ad_sz]
theorem se_fi (c : CS) (w x : Bool) : c_fi (settleF c w x) = c_fi c := by
  simp only [settleF, cx_fi_xo, cx_fi_nk]
  repeat' split
  all_goals first | rfl | simp only [cx_fi_tk, cx_fi_sz]
theorem se_co (c : CS) (w x : Bool) : c_co (settleF c w x) = c_co c := by
  simp only [settleF, cx_co_xo, cx_co_nk]
  repeat' split
  all_goals first | rfl | simp only [cx_co_tk, cx_co_sz]
theorem se_sc (c : CS) (w x : Bool) : c_sc (settleF c w x) = c_sc c := by
  simp only [settleF, cx_sc_xo, cx_sc_nk]
  repeat' split
  all_goals first | rfl | simp only [cx_sc_tk, cx_sc_sz]
theorem se_ce (c : CS) (w x : Bool) : c_ce (settleF c w x) = c_ce c := by
  simp only [settleF, cx_ce_xo, cx_ce_nk]
  repeat' split
  all_goals first | rfl | simp only [cx_ce_tk, cx_ce_sz]
theorem se_nk (c : CS) (w x : Bool) : c_nk (settleF c w x) = false := by simp only [settleF, cx_nk_xo, cx_nk_nk]
theorem se_xo (c : CS) (w x : Bool) : c_xo (settleF c w x) = false := by simp only [settleF, cx_xo_xo, cx_xo_nk]
theorem se_sz (c : CS) (w x : Bool) : c_sz (settleF c w x) = if c_xo c = true ∧ x = true then 0 else if c_nk c = true ∧ w = false then c_sz c - 1 else c_sz c := by
  simp only [settleF, cx_sz_xo, cx_sz_nk]
  by_cases h1 : c_nk c = true ∧ w = false <;> by_cases h2 : c_xo c = true ∧ x = true <;> simp only [h1, h2, if_true, if_false, cx_sz_tk, cx_sz_sz, and_self]
theorem se_tk (c : CS) (w x : Bool) : c_tk (settleF c w x) = if c_xo c = true ∧ x = true then 0 else if c_nk c = true ∧ w = false then c_sc c (c_sz c - 1) else c_tk c := by
  simp only [settleF, cx_tk_xo, cx_tk_nk]
  by_cases h1 : c_nk c = true ∧ w = false <;> by_cases h2 : c_xo c = true ∧ x = true <;> simp only [h1, h2, if_true, if_false, cx_tk_tk, and_self]
theorem lo_S (c : CS) : c_S (loseF c) = c_S c := by simp only [loseF, cx_S_fl, cx_S_op, cx_S_on, se_S, cx_S_K]
theorem lo_K (c : CS) : c_K (loseF c) = keepM c 32 := by simp only [loseF, cx_K_fl, cx_K_op, cx_K_on, se_K, cx_K_K]
theorem lo_on (c : CS) : c_on (loseF c) = false := by simp only [loseF, cx_on_fl, cx_on_op, cx_on_on]
theorem lo_op (c : CS) : c_op (loseF c) = false := by simp only [loseF, cx_op_fl, cx_op_op]
theorem lo_fl (c : CS) : c_fl (loseF c) = nI 0 := by simp only [loseF, cx_fl_fl]
theorem lo_sl (c : CS) : c_sl (loseF c) = c_sl c := by simp only [loseF, cx_sl_fl, cx_sl_op, cx_sl_on, se_sl, cx_sl_K]
theorem lo_au (c : CS) : c_au (loseF c) = c_au c := by simp only [loseF, cx_au_fl, cx_au_op, cx_au_on, se_au, cx_au_K]
theorem lo_mk (c : CS) : c_mk (loseF c) = c_mk c := by simp only [loseF, cx_mk_fl, cx_mk_op, cx_mk_on, se_mk, cx_mk_K]
theorem lo_ad (c : CS) : c_ad (loseF c) = c_ad c := by simp only [loseF, cx_ad_fl, cx_ad_op, cx_ad_on, se_ad, cx_ad_K]
theorem lo_fi (c : CS) : c_fi (loseF c) = c_fi c := by simp only [loseF, cx_fi_fl, cx_fi_op, cx_fi_on, se_fi, cx_fi_K]
theorem lo_co (c : CS) : c_co (loseF c) = c_co c := by simp only [loseF, cx_co_fl, cx_co_op, cx_co_on, se_co, cx_co_K]
theorem lo_sc (c : CS) : c_sc (loseF c) = c_sc c := by simp only [loseF, cx_sc_fl, cx_sc_op, cx_sc_on, se_sc, cx_sc_K]
theorem lo_ce (c : CS) : c_ce (loseF c) = c_ce c := by simp only [loseF, cx_ce_fl, cx_ce_op, cx_ce_on, se_ce, cx_ce_K]
theorem lo_sz (c : CS) : c_sz (loseF c) = if c_xo c = true ∧ hbL (c_mk c) 33 = true then 0 else if c_nk c = true ∧ hbL (c_mk c) 32 = false then c_sz c - 1 else c_sz c := by rw [loseF, cx_sz_fl, cx_sz_op, cx_sz_on, se_sz]; rfl
theorem lo_tk (c : CS) : c_tk (loseF c) = if c_xo c = true ∧ hbL (c_mk c) 33 = true then 0 else if c_nk c = true ∧ hbL (c_mk c) 32 = false then c_sc c (c_sz c - 1) else c_tk c := by rw [loseF, cx_tk_fl, cx_tk_op, cx_tk_on, se_tk]; rfl
theorem lo_nk (c : CS) : c_nk (loseF c) = false := by simp only [loseF, cx_nk_fl, cx_nk_op, cx_nk_on, se_nk]
theorem lo_xo (c : CS) : c_xo (loseF c) = false := by simp only [loseF, cx_xo_fl, cx_xo_op, cx_xo_on, se_xo]
theorem rr_S (r : RS) : r_S (recsR r) = r_S r := by
  unfold recsR
  repeat' split
  all_goals first | rfl | simp only [rx_S_rc]
theorem rr_K (r : RS) : r_K (recsR r) = r_K r := by
  unfold recsR
  repeat' split
  all_goals first | rfl | simp only [rx_K_rc]
theorem rr_fl (r : RS) : r_fl (recsR r) = r_fl r := by
  unfold recsR
  repeat' split
  all_goals first | rfl | simp only [rx_fl_rc]
theorem rr_fi (r : RS) : r_fi (recsR r) = r_fi r := by
  unfold recsR
  repeat' split
  all_goals first | rfl | simp only [rx_fi_rc]
theorem rr_ma (r : RS) : r_ma (recsR r) = r_ma r := by
  unfold recsR
  repeat' split
  all_goals first | rfl | simp only [rx_ma_rc]
theorem rr_fr (r : RS) : r_fr (recsR r) = r_fr r := by
  unfold recsR
  repeat' split
  all_goals first | rfl | simp only [rx_fr_rc]
theorem rr_st (r : RS) : r_st (recsR r) = r_st r := by
  unfold recsR
  repeat' split
  all_goals first | rfl | simp only [rx_st_rc]
theorem rr_ol (r : RS) : r_ol (recsR r) = r_ol r := by
  unfold recsR
  repeat' split
  all_goals first | rfl | simp only [rx_ol_rc]
theorem rr_of (r : RS) : r_of (recsR r) = r_of r := by
  unfold recsR
  repeat' split
  all_goals first | rfl | simp only [rx_of_rc]
theorem rr_op (r : RS) : r_op (recsR r) = r_op r := by
  unfold recsR
  repeat' split
  all_goals first | rfl | simp only [rx_op_rc]
theorem rr_to (r : RS) : r_to (recsR r) = r_to r := by
  unfold recsR
  repeat' split
  all_goals first | rfl | simp only [rx_to_rc]
theorem rr_ar (r : RS) : r_ar (recsR r) = r_ar r := by
  unfold recsR
  repeat' split
  all_goals first | rfl | simp only [rx_ar_rc]
theorem rr_mk (r : RS) : r_mk (recsR r) = r_mk r := by
  unfold recsR
  repeat' split
  all_goals first | rfl | simp only [rx_mk_rc]
theorem rr_me (r : RS) : r_me (recsR r) = r_me r := by
  unfold recsR
  repeat' split
  all_goals first | rfl | simp only [rx_me_rc]
theorem rr_ac (r : RS) : r_ac (recsR r) = r_ac r := by
  unfold recsR
  repeat' split
  all_goals first | rfl | simp only [rx_ac_rc]
theorem rr_an (r : RS) : r_an (recsR r) = r_an r := by
  unfold recsR
  repeat' split
  all_goals first | rfl | simp only [rx_an_rc]
theorem rr_on (r : RS) : r_on (recsR r) = r_on r := by
  unfold recsR
  repeat' split
  all_goals first | rfl | simp only [rx_on_rc]
theorem rr_wi (r : RS) : r_wi (recsR r) = r_wi r := by
  unfold recsR
  repeat' split
  all_goals first | rfl | simp only [rx_wi_rc]
theorem rr_rc (r : RS) : r_rc (recsR r) = if ¬ r_rc r = 0 ∧ (r_st r (r_rc r - 1) = 0 ∨ (r_st r (r_rc r - 1) = 1 ∧ hbL (r_mk r) 32 = false)) then (if ¬ r_rc r - 1 = 0 ∧ r_st r 0 = 3 ∧ hbL (r_mk r) 33 = true then 0 else r_rc r - 1) else (if ¬ r_rc r = 0 ∧ r_st r 0 = 3 ∧ hbL (r_mk r) 33 = true then 0 else r_rc r) := by
  unfold recsR
  repeat' split
  all_goals first | rfl | simp only [rx_rc_rc]
theorem fa_S (r : RS) : r_S (failR r) = r_S r := by simp only [failR, failB, rx_S_fl, rx_S_op, rx_S_of, standR, rx_S_st, rr_S, rx_S_K]
theorem fa_K (r : RS) : r_K (failR r) = keepF r 32 := by simp only [failR, failB, rx_K_fl, rx_K_op, rx_K_of, standR, rx_K_st, rr_K, rx_K_K]
theorem fa_fl (r : RS) : r_fl (failR r) = clrB (r_fl r) 4 := by simp only [failR, failB, rx_fl_fl, standR, rx_fl_st, rr_fl, rx_fl_K]
theorem fa_rc (r : RS) : r_rc (failR r) = r_rc (recsR (rs_K r (keepF r 32))) := by simp only [failR, failB, rx_rc_fl, rx_rc_op, rx_rc_of, standR, rx_rc_st]
theorem fa_fi (r : RS) : r_fi (failR r) = r_fi r := by simp only [failR, failB, rx_fi_fl, rx_fi_op, rx_fi_of, standR, rx_fi_st, rr_fi, rx_fi_K]
theorem fa_ma (r : RS) : r_ma (failR r) = r_ma r := by simp only [failR, failB, rx_ma_fl, rx_ma_op, rx_ma_of, standR, rx_ma_st, rr_ma, rx_ma_K]
theorem fa_fr (r : RS) : r_fr (failR r) = r_fr r := by simp only [failR, failB, rx_fr_fl, rx_fr_op, rx_fr_of, standR, rx_fr_st, rr_fr, rx_fr_K]
theorem fa_st (r : RS) : r_st (failR r) = setTo (r_st r) (r_rc (recsR (rs_K r (keepF r 32)))) 2 := by simp only [failR, failB, rx_st_fl, rx_st_op, rx_st_of, standR, rx_st_st, rr_st, rx_st_K]
theorem fa_ol (r : RS) : r_ol (failR r) = r_ol r := by simp only [failR, failB, rx_ol_fl, rx_ol_op, rx_ol_of, standR, rx_ol_st, rr_ol, rx_ol_K]
theorem fa_of (r : RS) : r_of (failR r) = true := by simp only [failR, failB, rx_of_fl, rx_of_op, rx_of_of]
theorem fa_op (r : RS) : r_op (failR r) = false := by simp only [failR, failB, rx_op_fl, rx_op_op]
theorem fa_to (r : RS) : r_to (failR r) = r_to r := by simp only [failR, failB, rx_to_fl, rx_to_op, rx_to_of, standR, rx_to_st, rr_to, rx_to_K]
theorem fa_ar (r : RS) : r_ar (failR r) = r_ar r := by simp only [failR, failB, rx_ar_fl, rx_ar_op, rx_ar_of, standR, rx_ar_st, rr_ar, rx_ar_K]
theorem fa_mk (r : RS) : r_mk (failR r) = r_mk r := by simp only [failR, failB, rx_mk_fl, rx_mk_op, rx_mk_of, standR, rx_mk_st, rr_mk, rx_mk_K]
theorem fa_me (r : RS) : r_me (failR r) = r_me r := by simp only [failR, failB, rx_me_fl, rx_me_op, rx_me_of, standR, rx_me_st, rr_me, rx_me_K]
theorem fa_ac (r : RS) : r_ac (failR r) = r_ac r := by simp only [failR, failB, rx_ac_fl, rx_ac_op, rx_ac_of, standR, rx_ac_st, rr_ac, rx_ac_K]
theorem fa_an (r : RS) : r_an (failR r) = r_an r := by simp only [failR, failB, rx_an_fl, rx_an_op, rx_an_of, standR, rx_an_st, rr_an, rx_an_K]
theorem fa_on (r : RS) : r_on (failR r) = r_on r := by simp only [failR, failB, rx_on_fl, rx_on_op, rx_on_of, standR, rx_on_st, rr_on, rx_on_K]
theorem fa_wi (r : RS) : r_wi (failR r) = r_wi r := by simp only [failR, failB, rx_wi_fl, rx_wi_op, rx_wi_of, standR, rx_wi_st, rr_wi, rx_wi_K]
end
section
/-! ===== both states say the same ===== -/
/-- values, power, lines, counters -/
def RC (m : Int32) (c : CS) (r : RS) : Prop := (∀ j, j < 32 → c_S c j = r_S r j) ∧ (∀ j, j < 32 → c_K c j = r_K r j) ∧ c_on c = !(r_of r) ∧ (∀ k, k < 4 → hbL (c_fl c).toInt64 k = r_fl r k) ∧ (∀ k, k < 4 → hbL (c_sl c).toInt64 k = r_to r k) ∧ (∀ k, 4 ≤ k → k < 64 → hbL (c_sl c).toInt64 k = false) ∧ c_au c = r_ar r ∧ c_au c ≤ 500 ∧ c_mk c = r_mk r ∧ c_ad c + m = r_me r
/-- a record: the same in both -/
def LQ (c : CS) (r : RS) (q : Nat) : Prop := c_fi c q = r_fi r q ∧ c_co c q = r_ma r q ∧ c_sc c q = takR r q ∧ r_fr r q = takR r q - q ∧ 1 ≤ r_ma r q ∧ r_ma r q ≤ 8 ∧ r_fi r q + r_ma r q ≤ 32 ∧ ∀ i, i < r_ma r q → c_ce c (takR r q + 1 + i) = r_ol r (takR r q - q + i)
def LG (n : Nat) (c : CS) (r : RS) : Prop := (∀ q, q < n → LQ c r q) ∧ n ≤ 20 ∧ takR r n ≤ 40
theorem takR_mono (r : RS) {a b : Nat} (h : a ≤ b) : takR r a ≤ takR r b := by
  induction b with
  | zero => have : a = 0 := by omega
            subst this; exact Nat.le_refl _
  | succ b ih =>
    by_cases e : a = b + 1
    · subst e; exact Nat.le_refl _
    · have := ih (by omega)
      simp only [takR]; omega
theorem takR_two {r : RS} {n : Nat} (h : ∀ q, q < n → 1 ≤ r_ma r q) : 2 * n ≤ takR r n := by
  induction n with
  | zero => exact Nat.le_refl _
  | succ n ih =>
    have := ih (fun q hq => h q (by omega))
    have := h n (by omega)
    simp only [takR]; omega
theorem LQ_congr {c c' : CS} {r r' : RS} (h1 : c_fi c' = c_fi c) (h2 : c_co c' = c_co c) (h3 : c_sc c' = c_sc c) (h4 : c_ce c' = c_ce c) (g1 : r_fi r' = r_fi r) (g2 : r_ma r' = r_ma r) (g3 : r_fr r' = r_fr r) (g4 : r_ol r' = r_ol r) {q : Nat} (h : LQ c r q) : LQ c' r' q := by
  unfold LQ
  rw [takR_congr g2, h1, h2, h3, h4, g1, g2, g3, g4]
  exact h
theorem LG_congr {n : Nat} {c c' : CS} {r r' : RS} (h1 : c_fi c' = c_fi c) (h2 : c_co c' = c_co c) (h3 : c_sc c' = c_sc c) (h4 : c_ce c' = c_ce c) (g1 : r_fi r' = r_fi r) (g2 : r_ma r' = r_ma r) (g3 : r_fr r' = r_fr r) (g4 : r_ol r' = r_ol r) (h : LG n c r) : LG n c' r' :=
  ⟨fun q hq => LQ_congr h1 h2 h3 h4 g1 g2 g3 g4 (h.1 q hq), h.2.1, by rw [takR_congr g2]; exact h.2.2⟩
theorem LG_less {n k : Nat} {c : CS} {r : RS} (hk : k ≤ n) (h : LG n c r) : LG k c r := ⟨fun q hq => h.1 q (by omega), by have := h.2.1; omega, Nat.le_trans (takR_mono r hk) h.2.2⟩
/-- the four ways in which the two logs stand beside each other -/
def RN (m : Int32) (c : CS) (r : RS) : Prop := RC m c r ∧ LG (r_rc r) c r ∧ c_sz c = r_rc r ∧ c_tk c = takR r (r_rc r) ∧ c_nk c = false ∧ c_xo c = false ∧ (∀ q, q < r_rc r → r_st r q = 2) ∧ ∀ j, r_st r j ≤ 3
def RX (m : Int32) (c : CS) (r : RS) : Prop := RC m c r ∧ LG (r_rc r) c r ∧ c_sz c = r_rc r ∧ c_tk c = takR r (r_rc r) ∧ c_nk c = false ∧ c_xo c = true ∧ (1 ≤ r_rc r ∧ ∀ q, q < r_rc r → r_st r q = 3) ∧ ∀ j, r_st r j ≤ 3
def RW (m : Int32) (c : CS) (r : RS) : Prop := RC m c r ∧ LG (r_rc r) c r ∧ c_sz c = r_rc r ∧ c_tk c = takR r (r_rc r) ∧ c_nk c = true ∧ c_xo c = false ∧ (1 ≤ r_rc r ∧ r_st r (r_rc r - 1) = 1 ∧ ∀ q, q < r_rc r - 1 → r_st r q = 2) ∧ ∀ j, r_st r j ≤ 3
def RQ (k n : Nat) (m : Int32) (c : CS) (r : RS) : Prop := RC m c r ∧ LG (c_sz c) c r ∧ r_rc r = c_sz c + 1 ∧ c_tk c = takR r (c_sz c) ∧ c_nk c = false ∧ c_xo c = false ∧ (r_st r (c_sz c) = 0 ∧ ∀ q, q < c_sz c → r_st r q = 2) ∧ (∀ j, r_st r j ≤ 3) ∧ (r_fi r (c_sz c) = k ∧ r_ma r (c_sz c) = n ∧ r_fr r (c_sz c) = takR r (c_sz c) - c_sz c) ∧ (1 ≤ n ∧ n ≤ 8 ∧ k + n ≤ 32 ∧ takR r (c_sz c) + n + 1 ≤ 40 ∧ c_sz c < 20) ∧ ∀ i, i < n → r_ol r (takR r (c_sz c) - c_sz c + i) = r_S r (k + i)
/-! what a loss of power leaves -/
theorem hb_0 (k : Nat) : hbL (nI 0).toInt64 k = false := by
  unfold hbL
  have e : (nI 0).toInt64 = 0 := by decide
  rw [e]
  show (0#64).getLsbD k = false
  simp
theorem RC_lose {m : Int32} {c : CS} {r : RS} (h : RC m c r) : RC m (loseF c) (failR r) := by
  obtain ⟨h1, h2, h3, h4, h5, h6, h7, h8, h9, h10⟩ := h
  refine ⟨?_, ?_, ?_, ?_, ?_, ?_, ?_, ?_, ?_, ?_⟩
  · rw [lo_S, fa_S]; exact h1
  · intro j hj
    rw [lo_K, fa_K]
    simp only [keepM, keepF, h9, h1 j hj, h2 j hj]
  · rw [lo_on, fa_of]; rfl
  · intro k hk
    rw [lo_fl, fa_fl, hb_0]
    simp [clrB, hk]
  · rw [lo_sl, fa_to]; exact h5
  · rw [lo_sl]; exact h6
  · rw [lo_au, fa_ar]; exact h7
  · rw [lo_au]; exact h8
  · rw [lo_mk, fa_mk]; exact h9
  · rw [lo_ad, fa_me]; exact h10
theorem LG_lose {n : Nat} {c : CS} {r : RS} (h : LG n c r) : LG n (loseF c) (failR r) :=
  LG_congr (lo_fi c) (lo_co c) (lo_sc c) (lo_ce c) (fa_fi r) (fa_ma r) (fa_fr r) (fa_ol r) h
theorem fa_st2 {r : RS} {q : Nat} (h : q < r_rc (failR r)) : r_st (failR r) q = 2 := by
  rw [fa_rc] at h
  rw [fa_st]
  simp [setTo, h]
theorem fa_st3 {r : RS} (h : ∀ j, r_st r j ≤ 3) (j : Nat) : r_st (failR r) j ≤ 3 := by
  rw [fa_st]
  unfold setTo
  split
  · omega
  · exact h j
/-- from what is left of the counts the rest follows -/
theorem RN_lose {m : Int32} {c : CS} {r : RS} {n : Nat} (hC : RC m c r) (hL : LG n c r) (e1 : r_rc (failR r) = n) (e2 : c_sz (loseF c) = n) (e3 : c_tk (loseF c) = takR r n) (h3 : ∀ j, r_st r j ≤ 3) : RN m (loseF c) (failR r) := by
  refine ⟨RC_lose hC, ?_, by rw [e1, e2], ?_, lo_nk c, lo_xo c, fun q hq => fa_st2 hq, fa_st3 h3⟩
  · rw [e1]; exact LG_lose hL
  · rw [e1, e3, takR_congr (fa_ma r)]
theorem rr_rcK (r : RS) : r_rc (failR r) = if ¬ r_rc r = 0 ∧ (r_st r (r_rc r - 1) = 0 ∨ (r_st r (r_rc r - 1) = 1 ∧ hbL (r_mk r) 32 = false)) then (if ¬ r_rc r - 1 = 0 ∧ r_st r 0 = 3 ∧ hbL (r_mk r) 33 = true then 0 else r_rc r - 1) else (if ¬ r_rc r = 0 ∧ r_st r 0 = 3 ∧ hbL (r_mk r) 33 = true then 0 else r_rc r) := by
  rw [fa_rc, rr_rc]; rfl
theorem lose_N {m : Int32} {c : CS} {r : RS} (h : RN m c r) : RN m (loseF c) (failR r) := by
  obtain ⟨hC, hL, h1, h2, h3, h4, h5, h6⟩ := h
  refine RN_lose (n := r_rc r) hC hL ?_ ?_ ?_ h6
  · rw [rr_rcK]
    by_cases z : r_rc r = 0
    · rw [if_neg (fun q => q.1 z), if_neg (fun q => q.1 z)]
    · have s1 := h5 (r_rc r - 1) (by omega)
      have s0 := h5 0 (by omega)
      rw [if_neg (fun q => by omega), if_neg (fun q => by omega)]
  · rw [lo_sz, if_neg (fun q => by rw [h4] at q; cases q.1), if_neg (fun q => by rw [h3] at q; cases q.1)]; exact h1
  · rw [lo_tk, if_neg (fun q => by rw [h4] at q; cases q.1), if_neg (fun q => by rw [h3] at q; cases q.1)]; exact h2
theorem lose_X {m : Int32} {c : CS} {r : RS} (h : RX m c r) : RN m (loseF c) (failR r) := by
  obtain ⟨hC, hL, h1, h2, h3, h4, ⟨h5, h5b⟩, h6⟩ := h
  have s1 := h5b (r_rc r - 1) (by omega)
  have s0 := h5b 0 (by omega)
  have hmk : c_mk c = r_mk r := hC.2.2.2.2.2.2.2.2.1
  by_cases b : hbL (r_mk r) 33 = true
  · refine RN_lose (n := 0) hC (LG_less (Nat.zero_le _) hL) ?_ ?_ ?_ h6
    · rw [rr_rcK, if_neg (fun q => by omega), if_pos ⟨by omega, s0, b⟩]
    · rw [lo_sz, hmk, if_pos ⟨h4, b⟩]
    · rw [lo_tk, hmk, if_pos ⟨h4, b⟩]; rfl
  · refine RN_lose (n := r_rc r) hC hL ?_ ?_ ?_ h6
    · rw [rr_rcK, if_neg (fun q => by omega), if_neg (fun q => b q.2.2)]
    · rw [lo_sz, hmk, if_neg (fun q => b q.2), if_neg (fun q => by rw [h3] at q; cases q.1)]; exact h1
    · rw [lo_tk, hmk, if_neg (fun q => b q.2), if_neg (fun q => by rw [h3] at q; cases q.1)]; exact h2
theorem lose_W {m : Int32} {c : CS} {r : RS} (h : RW m c r) : RN m (loseF c) (failR r) := by
  obtain ⟨hC, hL, h1, h2, h3, h4, ⟨h5, h5b, h5c⟩, h6⟩ := h
  have hmk : c_mk c = r_mk r := hC.2.2.2.2.2.2.2.2.1
  by_cases b : hbL (r_mk r) 32 = false
  · refine RN_lose (n := r_rc r - 1) hC (LG_less (by omega) hL) ?_ ?_ ?_ h6
    · rw [rr_rcK, if_pos ⟨by omega, Or.inr ⟨h5b, b⟩⟩, if_neg (fun q => ?_)]
      have s0 := h5c 0 (by omega)
      omega
    · rw [lo_sz, hmk, if_neg (fun q => by rw [h4] at q; cases q.1), if_pos ⟨h3, b⟩, h1]
    · rw [lo_tk, hmk, if_neg (fun q => by rw [h4] at q; cases q.1), if_pos ⟨h3, b⟩, h1]
      exact (hL.1 (r_rc r - 1) (by omega)).2.2.1
  · refine RN_lose (n := r_rc r) hC hL ?_ ?_ ?_ h6
    · rw [rr_rcK, if_neg (fun q => q.2.elim (fun z => by omega) (fun z => b z.2)), if_neg (fun q => ?_)]
      by_cases z : r_rc r - 1 = 0
      · rw [z] at h5b; omega
      · have s0 := h5c 0 (by omega)
        omega
    · rw [lo_sz, hmk, if_neg (fun q => by rw [h4] at q; cases q.1), if_neg (fun q => b q.2)]; exact h1
    · rw [lo_tk, hmk, if_neg (fun q => by rw [h4] at q; cases q.1), if_neg (fun q => b q.2)]; exact h2
theorem lose_Q {k n : Nat} {m : Int32} {c : CS} {r : RS} (h : RQ k n m c r) : RN m (loseF c) (failR r) := by
  obtain ⟨hC, hL, h1, h2, h3, h4, ⟨h5, h5b⟩, h6, -⟩ := h
  refine RN_lose (n := c_sz c) hC hL ?_ ?_ ?_ h6
  · rw [rr_rcK, h1]
    rw [if_pos ⟨by omega, Or.inl (by rw [show c_sz c + 1 - 1 = c_sz c by omega]; exact h5)⟩, if_neg (fun q => ?_)]
    · omega
    · have s0 := h5b 0 (by omega)
      omega
  · rw [lo_sz, if_neg (fun q => by rw [h4] at q; cases q.1), if_neg (fun q => by rw [h3] at q; cases q.1)]
  · rw [lo_tk, if_neg (fun q => by rw [h4] at q; cases q.1), if_neg (fun q => by rw [h3] at q; cases q.1)]; exact h2
/-! an act's end -/
theorem RC_ad {c : CS} {r : RS} {v : Nat} (h : RC (nI 1) c r) (hv : v ≤ 500) : RC (nI 0) (cs_au (cs_ad c (c_ad c + nI 1)) v) (rs_ar r v) := by
  obtain ⟨h1, h2, h3, h4, h5, h6, h7, h8, h9, h10⟩ := h
  exact ⟨h1, h2, h3, h4, h5, h6, rfl, hv, h9, by show c_ad c + nI 1 + nI 0 = r_me r; rw [h10, nI_0, Int32.add_zero]⟩
theorem LG_ad {n v : Nat} {x : Int32} {c : CS} {r : RS} (h : LG n c r) : LG n (cs_au (cs_ad c x) v) (rs_ar r v) := LG_congr (c := c) (c' := cs_au (cs_ad c x) v) (r := r) (r' := rs_ar r v) rfl rfl rfl rfl rfl rfl rfl rfl h
theorem tak_ar (r : RS) (v n : Nat) : takR (rs_ar r v) n = takR r n := takR_congr (r := r) (r' := rs_ar r v) rfl n
theorem end_gen {P : Int32 → CS → RS → Prop} (hP : ∀ m c r, P m c r → RC m c r) (step : ∀ c r v, P (nI 1) c r → v ≤ 500 → P (nI 0) (cs_au (cs_ad c (c_ad c + nI 1)) v) (rs_ar r v)) (lose : ∀ c r, P (nI 0) c r → RN (nI 0) (loseF c) (failR r)) {c : CS} {r : RS} (h : P (nI 1) c r) :
    (endActF c).1 = (endR r).1 ∧ ((endActF c).1 = true → P (nI 0) (endActF c).2 (endR r).2) ∧ ((endActF c).1 = false → RN (nI 0) (endActF c).2 (endR r).2) := by
  have e := (hP _ _ _ h).2.2.2.2.2.2.1
  have e5 := (hP _ _ _ h).2.2.2.2.2.2.2.1
  by_cases z : c_au c = 0
  · have a1 : endActF c = (true, cs_ad c (c_ad c + nI 1)) := by unfold endActF; rw [if_pos z]
    have a2 : endR r = (true, r) := by unfold endR; rw [if_pos (e.symm.trans z)]
    rw [a1, a2]
    refine ⟨rfl, fun _ => ?_, fun q => (by cases q)⟩
    have q := step c r (c_au c) h e5
    have q2 : rs_ar r (c_au c) = r := by rw [e]; rfl
    rw [q2] at q
    exact q
  · have zr : ¬ r_ar r = 0 := fun q => z (e.trans q)
    by_cases z1 : c_au c - 1 = 0
    · have a1 : endActF c = (false, loseF (cs_au (cs_ad c (c_ad c + nI 1)) (c_au c - 1))) := by unfold endActF; rw [if_neg z, if_pos z1]
      have a2 : endR r = (false, failR (rs_ar r (c_au c - 1))) := by unfold endR; rw [if_neg zr, ← e, if_pos z1]
      rw [a1, a2]
      exact ⟨rfl, fun q => (by cases q), fun _ => lose _ _ (step c r (c_au c - 1) h (by omega))⟩
    · have a1 : endActF c = (true, cs_au (cs_ad c (c_ad c + nI 1)) (c_au c - 1)) := by unfold endActF; rw [if_neg z, if_neg z1]
      have a2 : endR r = (true, rs_ar r (c_au c - 1)) := by unfold endR; rw [if_neg zr, ← e, if_neg z1]
      rw [a1, a2]
      exact ⟨rfl, fun _ => step c r (c_au c - 1) h (by omega), fun q => (by cases q)⟩
theorem end_N {c : CS} {r : RS} (h : RN (nI 1) c r) : (endActF c).1 = (endR r).1 ∧ RN (nI 0) (endActF c).2 (endR r).2 := by
  have q := end_gen (P := RN) (fun m c r h => h.1) (fun c r v h hv => ⟨RC_ad h.1 hv, LG_ad h.2.1, h.2.2.1, h.2.2.2.1.trans (tak_ar r v _).symm, h.2.2.2.2⟩) (fun c r h => lose_N h) h
  refine ⟨q.1, ?_⟩
  cases z : (endActF c).1 with
  | true => exact q.2.1 z
  | false => exact q.2.2 z
theorem end_X {c : CS} {r : RS} (h : RX (nI 1) c r) : (endActF c).1 = (endR r).1 ∧ ((endActF c).1 = true → RX (nI 0) (endActF c).2 (endR r).2) ∧ ((endActF c).1 = false → RN (nI 0) (endActF c).2 (endR r).2) :=
  end_gen (P := RX) (fun m c r h => h.1) (fun c r v h hv => ⟨RC_ad h.1 hv, LG_ad h.2.1, h.2.2.1, h.2.2.2.1.trans (tak_ar r v _).symm, h.2.2.2.2⟩) (fun c r h => lose_X h) h
theorem end_W {c : CS} {r : RS} (h : RW (nI 1) c r) : (endActF c).1 = (endR r).1 ∧ ((endActF c).1 = true → RW (nI 0) (endActF c).2 (endR r).2) ∧ ((endActF c).1 = false → RN (nI 0) (endActF c).2 (endR r).2) :=
  end_gen (P := RW) (fun m c r h => h.1) (fun c r v h hv => ⟨RC_ad h.1 hv, LG_ad h.2.1, h.2.2.1, h.2.2.2.1.trans (tak_ar r v _).symm, h.2.2.2.2⟩) (fun c r h => lose_W h) h
theorem end_Q {k n : Nat} {c : CS} {r : RS} (h : RQ k n (nI 1) c r) : (endActF c).1 = (endR r).1 ∧ ((endActF c).1 = true → RQ k n (nI 0) (endActF c).2 (endR r).2) ∧ ((endActF c).1 = false → RN (nI 0) (endActF c).2 (endR r).2) := by
  refine end_gen (P := RQ k n) (fun m c r h => h.1) (fun c r v h hv => ?_) (fun c r h => lose_Q h) h
  obtain ⟨hC, hL, h1, h2, h3, h4, h5, h6, h7, h8, h9⟩ := h
  have e := takR_congr (r := r) (r' := rs_ar r v) rfl
  refine ⟨RC_ad hC hv, LG_ad hL, h1, h2.trans (e _).symm, h3, h4, h5, h6, ⟨h7.1, h7.2.1, ?_⟩, ⟨h8.1, h8.2.1, h8.2.2.1, ?_, h8.2.2.2.2⟩, ?_⟩
  · rw [e]; exact h7.2.2
  · rw [e]; exact h8.2.2.2.1
  · intro i hi; rw [e]; exact h9 i hi
end
section
/-! ===== each act, in both states ===== -/
theorem one_me (w o : Nat) (v : Int64) (r : RS) : r_me (oneR w o v r) = r_me r + nI 1 := by
  unfold oneR
  repeat' split
  all_goals simp only [standR, fenceR, meR, rx_me_S, rx_me_fl, rx_me_K, rx_me_st, rx_me_rc, rx_me_me]
theorem one_st {w : Nat} (o : Nat) (v : Int64) (r : RS) (h4 : w ≠ 4) (h5 : w ≠ 5) (h6 : w ≠ 6) : r_st (oneR w o v r) = r_st r := by
  unfold oneR
  rw [if_neg h4, if_neg h5, if_neg h6]
  repeat' split
  all_goals simp only [fenceR, meR, rx_st_S, rx_st_fl, rx_st_K, rx_st_rc, rx_st_me]
theorem nf_sh4 : ∀ k, k < 4 → ((nI 1) <<< (nI k &&& 31)).toBitVec = BitVec.twoPow 32 k := by decide +kernel
theorem hb_or {x : Int32} {k j : Nat} (hk : k < 4) (hj : j < 64) : hbL (x ||| (nI 1 <<< (nI k &&& 31))).toInt64 j = (hbL x.toInt64 j || decide (j = k)) := by
  unfold hbL
  rw [Int32.toBitVec_toInt64, Int32.toBitVec_toInt64, Int32.toBitVec_or, nf_sh4 k hk]
  have m : (BitVec.twoPow 32 k).msb = false := by
    rw [BitVec.msb_eq_getLsbD_last, BitVec.getLsbD_twoPow]
    have : ¬ k = 31 := by omega
    simp [this]
  rw [BitVec.getLsbD_signExtend, BitVec.getLsbD_signExtend, BitVec.getLsbD_or, BitVec.msb_or, m, BitVec.getLsbD_twoPow]
  by_cases h : j < 32
  · simp only [h, hj, decide_true, Bool.true_and, if_true]
    have e : (decide (k < 32) && decide (k = j)) = decide (j = k) := by
      have : k < 32 := by omega
      simp only [this, decide_true, Bool.true_and]
      by_cases q : j = k
      · simp [q]
      · have : ¬ k = j := fun z => q z.symm
        simp [q, this]
    rw [e]
  · have q : ¬ j = k := by omega
    simp [h, q]
theorem hb_zero {x : Int32} (h : ∀ j, j < 64 → hbL x.toInt64 j = false) : x = 0 := by
  apply Int32.toBitVec_inj.mp
  apply BitVec.eq_of_getLsbD_eq
  intro i hi
  have q := h i (by omega)
  unfold hbL at q
  rw [Int32.toBitVec_toInt64, BitVec.getLsbD_signExtend] at q
  have h64 : i < 64 := by omega
  simp only [hi, h64, decide_true, Bool.true_and, if_true] at q
  rw [q]
  show false = (0#32).getLsbD i
  simp
theorem RC_act {w o : Nat} {v : Int64} {c c' : CS} {r : RS} (h : RC (nI 0) c r) (a1 : c_on c' = c_on c) (a2 : c_sl c' = c_sl c) (a3 : c_au c' = c_au c) (a4 : c_mk c' = c_mk c) (a5 : c_ad c' = c_ad c) (hS : ∀ j, j < 32 → c_S c' j = r_S (oneR w o v r) j) (hK : ∀ j, j < 32 → c_K c' j = r_K (oneR w o v r) j) (hf : ∀ k, k < 4 → hbL (c_fl c').toInt64 k = r_fl (oneR w o v r) k) : RC (nI 1) c' (oneR w o v r) := by
  obtain ⟨h1, h2, h3, h4, h5, h6, h7, h8, h9, h10⟩ := h
  refine ⟨hS, hK, ?_, hf, ?_, ?_, ?_, ?_, ?_, ?_⟩
  · rw [a1, one_of]; exact h3
  · rw [a2, one_to]; exact h5
  · rw [a2]; exact h6
  · rw [a3, one_ar]; exact h7
  · rw [a3]; exact h8
  · rw [a4, one_mk]; exact h9
  · rw [a5, one_me, ← h10, nI_0, Int32.add_zero]
theorem RC_plain {o : Nat} {v : Int64} {c : CS} {r : RS} (h : RC (nI 0) c r) : RC (nI 1) c (oneR 0 o v r) :=
  RC_act h rfl rfl rfl rfl rfl (fun j hj => h.1 j hj) (fun j hj => h.2.1 j hj) (fun k hk => h.2.2.2.1 k hk)
theorem RC_store {o : Nat} {v : Int64} {c : CS} {r : RS} (h : RC (nI 0) c r) : RC (nI 1) (storeA o v c) (oneR 1 o v r) := by
  refine RC_act h rfl rfl rfl rfl rfl (fun j hj => ?_) (fun j hj => h.2.1 j hj) (fun k hk => h.2.2.2.1 k hk)
  show vp_updL (c_S c) o v j = vp_updL (r_S r) o v j
  unfold vp_updL
  split
  · rfl
  · exact h.1 j hj
theorem RC_flush {k : Nat} (hk : k < 4) {c : CS} {r : RS} (h : RC (nI 0) c r) : RC (nI 1) (flushA k c) (oneR 2 k 0 r) := by
  refine RC_act h rfl rfl rfl rfl rfl (fun j hj => h.1 j hj) (fun j hj => h.2.1 j hj) (fun j hj => ?_)
  show hbL (c_fl c ||| (nI 1 <<< (nI k &&& 31))).toInt64 j = upB (r_fl r) k true j
  rw [hb_or hk (by omega), h.2.2.2.1 j hj]
  unfold upB
  by_cases e : j = k
  · simp [e]
  · simp [e]
/-- a fence, in any act that is one -/
theorem RC_fence {w : Nat} (hw : w = 3 ∨ w = 5 ∨ w = 7) {c c1 : CS} {r : RS} (h : RC (nI 0) c r) (a0 : c_S c1 = c_S c) (b0 : c_K c1 = c_K c) (a1 : c_on c1 = c_on c) (a2 : c_sl c1 = c_sl c) (a3 : c_au c1 = c_au c) (a4 : c_mk c1 = c_mk c) (a5 : c_ad c1 = c_ad c) (a6 : c_fl c1 = c_fl c) : RC (nI 1) (fenceA c1) (oneR w 0 0 r) := by
  have eS : r_S (oneR w 0 0 r) = r_S r := by rcases hw with rfl | rfl | rfl <;> rfl
  have eK : r_K (oneR w 0 0 r) = keepR r 32 := by rcases hw with rfl | rfl | rfl <;> rfl
  have ef : r_fl (oneR w 0 0 r) = clrB (r_fl r) 4 := by rcases hw with rfl | rfl | rfl <;> rfl
  refine RC_act h a1 a2 a3 a4 a5 (fun j hj => ?_) (fun j hj => ?_) (fun k hk => ?_)
  · rw [eS]; show c_S c1 j = _; rw [a0]; exact h.1 j hj
  · rw [eK]
    show keepL c1 32 j = _
    unfold keepL keepR
    rw [a0, b0, a6, h.2.2.2.1 (j / 8) (by omega), h.1 j hj, h.2.1 j hj]
  · rw [ef]
    show hbL (nI 0).toInt64 k = _
    rw [hb_0]
    simp [clrB, hk]
theorem LG_act {n w o : Nat} {v : Int64} {c c' : CS} {r : RS} (h : LG n c r) (h1 : c_fi c' = c_fi c) (h2 : c_co c' = c_co c) (h3 : c_sc c' = c_sc c) (h4 : c_ce c' = c_ce c) : LG n c' (oneR w o v r) := LG_congr h1 h2 h3 h4 (one_fi w o v r) (one_ma w o v r) (one_fr w o v r) (one_ol w o v r) h
theorem tak_one (w o : Nat) (v : Int64) (r : RS) (n : Nat) : takR (oneR w o v r) n = takR r n := takR_congr (one_ma w o v r) n
/-- an act that leaves the log alone -/
theorem RN_act {w o : Nat} {v : Int64} {c c' : CS} {r : RS} (h : RN (nI 0) c r) (hC : RC (nI 1) c' (oneR w o v r)) (h4 : w ≠ 4) (h5 : w ≠ 5) (h6 : w ≠ 6) (h7 : w ≠ 7) (a1 : c_fi c' = c_fi c) (a2 : c_co c' = c_co c) (a3 : c_sc c' = c_sc c) (a4 : c_ce c' = c_ce c) (a5 : c_sz c' = c_sz c) (a6 : c_tk c' = c_tk c) (a7 : c_nk c' = c_nk c) (a8 : c_xo c' = c_xo c) : RN (nI 1) c' (oneR w o v r) := by
  obtain ⟨-, hL, g1, g2, g3, g4, g5, g6⟩ := h
  have erc : r_rc (oneR w o v r) = r_rc r := by rw [one_rc, if_neg h7]
  have est := one_st o v r h4 h5 h6
  refine ⟨hC, ?_, ?_, ?_, a7.trans g3, a8.trans g4, ?_, ?_⟩
  · rw [erc]; exact LG_act hL a1 a2 a3 a4
  · rw [erc, a5]; exact g1
  · rw [erc, a6, tak_one]; exact g2
  · rw [erc, est]; exact g5
  · rw [est]; exact g6
theorem m_plain {o : Nat} {v : Int64} {c : CS} {r : RS} (h : RN (nI 0) c r) : RN (nI 1) c (oneR 0 o v r) := RN_act h (RC_plain h.1) (by decide) (by decide) (by decide) (by decide) rfl rfl rfl rfl rfl rfl rfl rfl
theorem m_store {o : Nat} {v : Int64} {c : CS} {r : RS} (h : RN (nI 0) c r) : RN (nI 1) (storeA o v c) (oneR 1 o v r) := RN_act h (RC_store h.1) (by decide) (by decide) (by decide) (by decide) rfl rfl rfl rfl rfl rfl rfl rfl
theorem m_flush {k : Nat} (hk : k < 4) {c : CS} {r : RS} (h : RN (nI 0) c r) : RN (nI 1) (flushA k c) (oneR 2 k 0 r) := RN_act h (RC_flush hk h.1) (by decide) (by decide) (by decide) (by decide) rfl rfl rfl rfl rfl rfl rfl rfl
theorem m_fence {c : CS} {r : RS} (h : RN (nI 0) c r) : RN (nI 1) (fenceA c) (oneR 3 0 0 r) := RN_act h (RC_fence (Or.inl rfl) h.1 rfl rfl rfl rfl rfl rfl rfl rfl) (by decide) (by decide) (by decide) (by decide) rfl rfl rfl rfl rfl rfl rfl rfl
/-! the log's clearing -/
theorem m_cross {c : CS} {r : RS} (h : RN (nI 0) c r) (h1 : 1 ≤ r_rc r) : RX (nI 1) (crossA c) (oneR 6 0 0 r) := by
  obtain ⟨hC, hL, g1, g2, g3, g4, g5, g6⟩ := h
  have erc : r_rc (oneR 6 0 0 r) = r_rc r := one_rc 6 0 0 r
  have est : r_st (oneR 6 0 0 r) = setTo (r_st r) (r_rc r) 3 := rfl
  refine ⟨RC_act hC rfl rfl rfl rfl rfl (fun j hj => hC.1 j hj) (fun j hj => hC.2.1 j hj) (fun k hk => hC.2.2.2.1 k hk), ?_, ?_, ?_, g3, rfl, ⟨?_, ?_⟩, ?_⟩
  · rw [erc]; exact LG_act hL rfl rfl rfl rfl
  · rw [erc]; exact g1
  · rw [erc, tak_one]; exact g2
  · rw [erc]; exact h1
  · intro q hq
    rw [erc] at hq
    rw [est]
    simp [setTo, hq]
  · intro j
    rw [est]
    unfold setTo
    split
    · omega
    · exact g6 j
theorem m_plainX {c : CS} {r : RS} (h : RX (nI 0) c r) : RX (nI 1) c (oneR 0 0 0 r) := by
  obtain ⟨hC, hL, g1, g2, g3, g4, g5, g6⟩ := h
  exact ⟨RC_plain hC, LG_act hL rfl rfl rfl rfl, g1, g2.trans (tak_one 0 0 0 r _).symm, g3, g4, g5, g6⟩
theorem m_gone {c : CS} {r : RS} (h : RX (nI 0) c r) : RN (nI 1) (fenceA (dropA c)) (oneR 7 0 0 r) := by
  obtain ⟨hC, hL, g1, g2, g3, g4, g5, g6⟩ := h
  have erc : r_rc (oneR 7 0 0 r) = 0 := one_rc 7 0 0 r
  have est : r_st (oneR 7 0 0 r) = r_st r := one_st 0 0 r (by decide) (by decide) (by decide)
  refine ⟨RC_fence (c1 := dropA c) (Or.inr (Or.inr rfl)) hC rfl rfl rfl rfl rfl rfl rfl rfl, ?_, ?_, ?_, g3, rfl, ?_, ?_⟩
  · rw [erc]; exact ⟨fun q hq => absurd hq (Nat.not_lt_zero q), Nat.zero_le _, Nat.zero_le _⟩
  · rw [erc]; rfl
  · rw [erc]; rfl
  · rw [erc]; intro q hq; exact absurd hq (Nat.not_lt_zero q)
  · rw [est]; exact g6
/-! a record's appending -/
theorem m_plainQ {k n : Nat} {c : CS} {r : RS} (h : RQ k n (nI 0) c r) : RQ k n (nI 1) c (oneR 0 0 0 r) := by
  obtain ⟨hC, hL, h1, h2, h3, h4, h5, h6, h7, h8, h9⟩ := h
  have e := tak_one 0 0 0 r
  refine ⟨RC_plain hC, LG_act hL rfl rfl rfl rfl, h1, h2.trans (e _).symm, h3, h4, h5, h6, ⟨h7.1, h7.2.1, ?_⟩, ⟨h8.1, h8.2.1, h8.2.2.1, ?_, h8.2.2.2.2⟩, ?_⟩
  · rw [e]; exact h7.2.2
  · rw [e]; exact h8.2.2.2.1
  · intro i hi; rw [e]; exact h9 i hi
theorem m_plainW {c : CS} {r : RS} (h : RW (nI 0) c r) : RW (nI 1) c (oneR 0 0 0 r) := by
  obtain ⟨hC, hL, g1, g2, g3, g4, g5, g6⟩ := h
  exact ⟨RC_plain hC, LG_act hL rfl rfl rfl rfl, g1, g2.trans (tak_one 0 0 0 r _).symm, g3, g4, g5, g6⟩
theorem m_write {k n : Nat} {c : CS} {r : RS} (h : RQ k n (nI 0) c r) : RW (nI 1) (writeA k n c) (oneR 4 0 0 r) := by
  obtain ⟨hC, hL, h1, h2, h3, h4, ⟨h5, h5b⟩, h6, ⟨h7, h7b, h7c⟩, ⟨h8, h8b, h8c, h8d, h8e⟩, h9⟩ := h
  have erc : r_rc (oneR 4 0 0 r) = c_sz c + 1 := (one_rc 4 0 0 r).trans h1
  have est : r_st (oneR 4 0 0 r) = upN (r_st r) (r_rc r - 1) 1 := rfl
  have et : takR r (c_sz c + 1) = takR r (c_sz c) + (n + 1) := by simp only [takR, h7b]
  refine ⟨?_, ?_, ?_, ?_, wx_nk k n c, by rw [wx_xo]; exact h4, ⟨?_, ?_, ?_⟩, ?_⟩
  · refine RC_act hC (wx_on k n c) (wx_sl k n c) (wx_au k n c) (wx_mk k n c) (wx_ad k n c) (fun j hj => ?_) (fun j hj => ?_) (fun i hi => ?_)
    · rw [wx_S]; exact hC.1 j hj
    · rw [wx_K]; exact hC.2.1 j hj
    · rw [wx_fl]; exact hC.2.2.2.1 i hi
  · rw [erc]
    refine ⟨fun q hq => ?_, by omega, by rw [tak_one, et]; omega⟩
    unfold LQ
    rw [tak_one, one_fi, one_ma, one_fr, one_ol, wx_fi, wx_co, wx_sc, wx_ce]
    by_cases e : q = c_sz c
    · subst e
      rw [upN_s, upN_s, upN_s, h2]
      refine ⟨h7.symm, h7b.symm, rfl, h7c, by omega, by omega, by omega, fun i hi => ?_⟩
      rw [h7b] at hi
      rw [pk_cpy_in (by omega) (by omega), show k + (takR r (c_sz c) + 1 + i - (takR r (c_sz c) + 1)) = k + i by omega, hC.1 (k + i) (by omega)]
      exact (h9 i hi).symm
    · have hq2 : q < c_sz c := by omega
      obtain ⟨p1, p2, p3, p4, p5, p6, p7, p8⟩ := hL.1 q hq2
      rw [upN_n _ _ e, upN_n _ _ e, upN_n _ _ e]
      refine ⟨p1, p2, p3, p4, p5, p6, p7, fun i hi => ?_⟩
      have mo := takR_mono r (show q + 1 ≤ c_sz c by omega)
      simp only [takR] at mo
      rw [pk_cpy_out (Or.inl (by rw [h2]; omega))]
      exact p8 i hi
  · rw [erc, wx_sz]
  · rw [erc, wx_tk, tak_one, et, h2]
  · rw [erc]; omega
  · rw [erc, est, h1]; exact upN_s _ _ _
  · intro q hq
    rw [erc] at hq
    rw [est, h1, upN_n _ _ (by omega)]
    exact h5b q (by omega)
  · intro j
    rw [est]
    unfold upN
    split
    · omega
    · exact h6 j
theorem m_keep {c : CS} {r : RS} (h : RW (nI 0) c r) : RN (nI 1) (fenceA (keepN c)) (oneR 5 0 0 r) := by
  obtain ⟨hC, hL, g1, g2, g3, g4, ⟨g5, g5b, g5c⟩, g6⟩ := h
  have erc : r_rc (oneR 5 0 0 r) = r_rc r := one_rc 5 0 0 r
  have est : r_st (oneR 5 0 0 r) = upN (r_st r) (r_rc r - 1) 2 := rfl
  refine ⟨RC_fence (c1 := keepN c) (Or.inr (Or.inl rfl)) hC rfl rfl rfl rfl rfl rfl rfl rfl, ?_, ?_, ?_, rfl, g4, ?_, ?_⟩
  · rw [erc]; exact LG_act hL rfl rfl rfl rfl
  · rw [erc]; exact g1
  · rw [erc, tak_one]; exact g2
  · intro q hq
    rw [erc] at hq
    rw [est]
    by_cases e : q = r_rc r - 1
    · rw [e]; exact upN_s _ _ _
    · rw [upN_n _ _ e]; exact g5c q (by omega)
  · intro j
    rw [est]
    unfold upN
    split
    · omega
    · exact g6 j
end
section
/-! ===== runs of acts, in both states ===== -/
def goL : List Act → RS → Bool × RS
  | [], r => (true, r)
  | x :: xs, r => if (endR (oneR x.1 x.2.1 x.2.2 r)).1 = true then goL xs (endR (oneR x.1 x.2.1 x.2.2 r)).2 else (false, (endR (oneR x.1 x.2.1 x.2.2 r)).2)
theorem goL_t {x : Act} {xs : List Act} {r : RS} (h : (endR (oneR x.1 x.2.1 x.2.2 r)).1 = true) : goL (x :: xs) r = goL xs (endR (oneR x.1 x.2.1 x.2.2 r)).2 := by
  show (if (endR (oneR x.1 x.2.1 x.2.2 r)).1 = true then _ else _) = _
  rw [if_pos h]
theorem goL_f {x : Act} {xs : List Act} {r : RS} (h : (endR (oneR x.1 x.2.1 x.2.2 r)).1 = false) : goL (x :: xs) r = (false, (endR (oneR x.1 x.2.1 x.2.2 r)).2) := by
  show (if (endR (oneR x.1 x.2.1 x.2.2 r)).1 = true then _ else _) = _
  rw [if_neg (by rw [h]; decide)]
theorem goL_app (xs ys : List Act) : ∀ r : RS, goL (xs ++ ys) r = if (goL xs r).1 = true then goL ys (goL xs r).2 else (false, (goL xs r).2) := by
  induction xs with
  | nil => intro r; rfl
  | cons x xs ih =>
    intro r
    rw [List.cons_append]
    cases h : (endR (oneR x.1 x.2.1 x.2.2 r)).1 with
    | true => rw [goL_t h, goL_t h, ih]
    | false => rw [goL_f h, goL_f h]; rfl
theorem endR_ok {r : RS} (h : (endR r).1 = true) : ∃ v, (endR r).2 = rs_ar r v := by
  unfold endR at h ⊢
  by_cases z : r_ar r = 0
  · rw [if_pos z]; exact ⟨r_ar r, rfl⟩
  · rw [if_neg z] at h ⊢
    by_cases z1 : r_ar r - 1 = 0
    · rw [if_pos z1] at h; cases h
    · rw [if_neg z1]; exact ⟨_, rfl⟩
theorem go_list : ∀ (xs : List Act) (k : Nat) (r : RS), (∀ i x, xs[i]? = some x → r_an r (k + i) = x.1 ∧ r_on r (k + i) = x.2.1 ∧ r_wi r (k + i) = x.2.2) → goR xs.length k r = goL xs r := by
  intro xs
  induction xs with
  | nil => intro k r _; rfl
  | cons x xs ih =>
    intro k r h
    obtain ⟨e1, e2, e3⟩ := h 0 x rfl
    have es : stepR k r = endR (oneR x.1 x.2.1 x.2.2 r) := by
      unfold stepR
      rw [Nat.add_zero] at e1 e2 e3
      rw [e1, e2, e3]
    show goR (xs.length + 1) k r = _
    cases hz : (endR (oneR x.1 x.2.1 x.2.2 r)).1 with
    | false => rw [goR_f (by omega) (by rw [es]; exact hz), goL_f hz, es]
    | true =>
      rw [goR_t (by omega) (by rw [es]; exact hz), goL_t hz, es]
      show goR xs.length (k + 1) _ = _
      apply ih
      obtain ⟨v, ev⟩ := endR_ok hz
      intro i z hi
      rw [ev]
      have q := h (i + 1) z (by simpa using hi)
      rw [show k + (i + 1) = k + 1 + i by omega] at q
      refine ⟨?_, ?_, ?_⟩
      · rw [rx_an_ar, one_an]; exact q.1
      · rw [rx_on_ar, one_on]; exact q.2.1
      · rw [rx_wi_ar, one_wi]; exact q.2.2
theorem goF_of {xs : List Act} {r : RS} (hac : r_ac r = xs.length) (h : ∀ i x, xs[i]? = some x → r_an r i = x.1 ∧ r_on r i = x.2.1 ∧ r_wi r i = x.2.2) : goF r = goL xs r := by
  unfold goF
  rw [hac]
  exact go_list xs 0 r (fun i x hi => by rw [Nat.zero_add]; exact h i x hi)
theorem goF_la {xs : List Act} {r : RS} (h0 : r_ac r = 0) : goF (listAll xs r) = goL xs (listAll xs r) := by
  refine goF_of (by rw [la_f_ac, h0, Nat.zero_add]) (fun i x hi => ?_)
  have q := la_at xs r i x hi
  rw [h0, Nat.zero_add] at q
  exact q
theorem goF_laop {xs : List Act} {r : RS} (h0 : r_ac r = 0) (b : Bool) : goF (rs_op (listAll xs r) b) = goL xs (rs_op (listAll xs r) b) := by
  refine goF_of (by rw [rx_ac_op, la_f_ac, h0, Nat.zero_add]) (fun i x hi => ?_)
  have q := la_at xs r i x hi
  rw [h0, Nat.zero_add] at q
  rw [rx_an_op, rx_on_op, rx_wi_op]
  exact q
/-- the reference's state may differ in what it lists, and in 'open' -/
theorem RN_r {m : Int32} {c : CS} {r r' : RS} (h : RN m c r) (e1 : r_S r' = r_S r) (e2 : r_K r' = r_K r) (e3 : r_fl r' = r_fl r) (e4 : r_rc r' = r_rc r) (e5 : r_fi r' = r_fi r) (e6 : r_ma r' = r_ma r) (e7 : r_fr r' = r_fr r) (e8 : r_st r' = r_st r) (e9 : r_ol r' = r_ol r) (e10 : r_of r' = r_of r) (e11 : r_to r' = r_to r) (e12 : r_ar r' = r_ar r) (e13 : r_mk r' = r_mk r) (e14 : r_me r' = r_me r) : RN m c r' := by
  obtain ⟨hC, hL, g1, g2, g3, g4, g5, g6⟩ := h
  refine ⟨?_, ?_, ?_, ?_, g3, g4, ?_, ?_⟩
  · unfold RC; rw [e1, e2, e3, e10, e11, e12, e13, e14]; exact hC
  · rw [e4]; exact LG_congr rfl rfl rfl rfl e5 e6 e7 e9 hL
  · rw [e4]; exact g1
  · rw [e4, takR_congr e6]; exact g2
  · rw [e4, e8]; exact g5
  · rw [e8]; exact g6
theorem RN_la {m : Int32} {c : CS} {r : RS} (xs : List Act) (h : RN m c r) : RN m c (listAll xs (rs_ac r 0)) :=
  RN_r (r := rs_ac r 0) (RN_r (r := r) (r' := rs_ac r 0) h rfl rfl rfl rfl rfl rfl rfl rfl rfl rfl rfl rfl rfl rfl) (la_f_S xs _) (la_f_K xs _) (la_f_fl xs _) (la_f_rc xs _) (la_f_fi xs _) (la_f_ma xs _) (la_f_fr xs _) (la_f_st xs _) (la_f_ol xs _) (la_f_of xs _) (la_f_to xs _) (la_f_ar xs _) (la_f_mk xs _) (la_f_me xs _)
theorem RN_op {m : Int32} {c : CS} {r : RS} (b : Bool) (h : RN m c r) : RN m c (rs_op r b) := RN_r (r := r) (r' := rs_op r b) h rfl rfl rfl rfl rfl rfl rfl rfl rfl rfl rfl rfl rfl rfl
theorem RN_cop {m : Int32} {c : CS} {r : RS} (b : Bool) (h : RN m c r) : RN m (cs_op c b) r := by
  obtain ⟨hC, hL, g1, g2, g3, g4, g5, g6⟩ := h
  exact ⟨hC, LG_congr (c := c) (c' := cs_op c b) (r := r) (r' := r) rfl rfl rfl rfl rfl rfl rfl rfl hL, g1, g2, g3, g4, g5, g6⟩
/-- matched runs -/
def Mt : List (CS → CS) → List Act → Prop
  | [], [] => True
  | f :: fs, x :: xs => (∀ c r, RN (nI 0) c r → RN (nI 1) (f c) (oneR x.1 x.2.1 x.2.2 r)) ∧ Mt fs xs
  | _, _ => False
def Sm (u : Bool × CS) (w : Bool × RS) : Prop := u.1 = w.1 ∧ RN (nI 0) u.2 w.2
theorem sim_N : ∀ (fs : List (CS → CS)) (xs : List Act), Mt fs xs → ∀ c r, RN (nI 0) c r → Sm (runF fs c) (goL xs r) := by
  intro fs
  induction fs with
  | nil =>
    intro xs h c r hr
    cases xs with
    | nil => exact ⟨rfl, hr⟩
    | cons x xs => exact absurd h id
  | cons f fs ih =>
    intro xs h c r hr
    cases xs with
    | nil => exact absurd h id
    | cons x xs =>
      obtain ⟨h1, h2⟩ := h
      obtain ⟨q1, q2⟩ := end_N (h1 c r hr)
      cases z : (endActF (f c)).1 with
      | true => rw [runF_t z, goL_t (by rw [← q1]; exact z)]; exact ih xs h2 _ _ q2
      | false => rw [runF_f z, goL_f (by rw [← q1]; exact z)]; exact ⟨rfl, q2⟩
theorem Mt_app : ∀ (fs : List (CS → CS)) (xs : List Act) {gs : List (CS → CS)} {ys : List Act}, Mt fs xs → Mt gs ys → Mt (fs ++ gs) (xs ++ ys) := by
  intro fs
  induction fs with
  | nil =>
    intro xs gs ys h hg
    cases xs with
    | nil => exact hg
    | cons x xs => exact absurd h id
  | cons f fs ih =>
    intro xs gs ys h hg
    cases xs with
    | nil => exact absurd h id
    | cons x xs => exact ⟨h.1, ih xs h.2 hg⟩
/-- one run behind another -/
theorem Sm_seq {u : Bool × CS} {w : Bool × RS} {f : CS → Bool × CS} {g : RS → Bool × RS} (h : Sm u w) (k : u.1 = true → Sm (f u.2) (g w.2)) : Sm (if u.1 = true then f u.2 else (false, u.2)) (if w.1 = true then g w.2 else (false, w.2)) := by
  cases z : u.1 with
  | true =>
    have z2 : w.1 = true := h.1.symm.trans z
    rw [if_pos rfl, z2, if_pos rfl]; exact k z
  | false =>
    have z2 : w.1 = false := h.1.symm.trans z
    rw [if_neg (by decide), z2, if_neg (by decide)]; exact ⟨rfl, h.2⟩
theorem goL_one (x : Act) (r : RS) : goL [x] r = endR (oneR x.1 x.2.1 x.2.2 r) := by
  show (if (endR (oneR x.1 x.2.1 x.2.2 r)).1 = true then (true, (endR (oneR x.1 x.2.1 x.2.2 r)).2) else (false, (endR (oneR x.1 x.2.1 x.2.2 r)).2)) = _
  generalize endR (oneR x.1 x.2.1 x.2.2 r) = u
  obtain ⟨b, v⟩ := u
  cases b <;> rfl
/-! clearing -/
theorem sim_clr3 {c : CS} {r : RS} (h : RN (nI 0) c r) (h1 : 1 ≤ r_rc r) : Sm (runF [crossA, fun c => c, fun c => fenceA (dropA c)] c) (goL [(6, 0, 0), (0, 0, 0), (7, 0, 0)] r) := by
  obtain ⟨a1, a2, a3⟩ := end_X (m_cross h h1)
  cases z : (endActF (crossA c)).1 with
  | false => rw [runF_f z, goL_f (x := (6, 0, 0)) (by rw [← a1]; exact z)]; exact ⟨rfl, a3 z⟩
  | true =>
    rw [runF_t z, goL_t (x := (6, 0, 0)) (by rw [← a1]; exact z)]
    have hx := a2 z
    generalize (endActF (crossA c)).2 = c1 at hx ⊢
    have er : (endR (oneR ((6, 0, 0) : Act).1 ((6, 0, 0) : Act).2.1 ((6, 0, 0) : Act).2.2 r)).2 = (endR (oneR 6 0 0 r)).2 := rfl
    rw [er]
    generalize (endR (oneR 6 0 0 r)).2 = r1 at hx ⊢
    obtain ⟨b1, b2, b3⟩ := end_X (m_plainX hx)
    cases z2 : (endActF c1).1 with
    | false => rw [runF_f (f := fun c => c) z2, goL_f (x := (0, 0, 0)) (by rw [← b1]; exact z2)]; exact ⟨rfl, b3 z2⟩
    | true =>
      rw [runF_t (f := fun c => c) z2, goL_t (x := (0, 0, 0)) (by rw [← b1]; exact z2)]
      have er2 : (endR (oneR ((0, 0, 0) : Act).1 ((0, 0, 0) : Act).2.1 ((0, 0, 0) : Act).2.2 r1)).2 = (endR (oneR 0 0 0 r1)).2 := rfl
      have hx2 := b2 z2
      rw [er2, runF_one, goL_one]
      exact end_N (m_gone hx2)
end
section
theorem sim_clr {c : CS} {r : RS} (h : RN (nI 0) c r) : Sm (clearF c) (goL (clrL r) r) := by
  unfold clearF clrL
  by_cases z : r_rc r = 0
  · rw [if_pos (h.2.2.1.trans z), if_pos z]; exact ⟨rfl, h⟩
  · rw [if_neg (fun q => z (h.2.2.1.symm.trans q)), if_neg z, twoF_eq]
    exact sim_clr3 h (by omega)
/-! appending -/
theorem sim_Qp {k n : Nat} : ∀ (j : Nat) (c : CS) (r : RS), RQ k n (nI 0) c r → (runF (plainL j) c).1 = (goL (List.replicate j (0, 0, 0)) r).1 ∧ ((runF (plainL j) c).1 = true → RQ k n (nI 0) (runF (plainL j) c).2 (goL (List.replicate j (0, 0, 0)) r).2) ∧ ((runF (plainL j) c).1 = false → RN (nI 0) (runF (plainL j) c).2 (goL (List.replicate j (0, 0, 0)) r).2) := by
  intro j
  induction j with
  | zero => intro c r h; exact ⟨rfl, fun _ => h, fun q => (by cases q)⟩
  | succ j ih =>
    intro c r h
    have e1 : plainL (j + 1) = (fun c => c) :: plainL j := rfl
    have e2 : List.replicate (j + 1) ((0, 0, 0) : Act) = (0, 0, 0) :: List.replicate j (0, 0, 0) := rfl
    rw [e1, e2]
    obtain ⟨a1, a2, a3⟩ := end_Q (m_plainQ h)
    cases z : (endActF c).1 with
    | false =>
      rw [runF_f (f := fun c => c) z, goL_f (x := (0, 0, 0)) (by rw [← a1]; exact z)]
      exact ⟨rfl, fun q => (by cases q), fun _ => a3 z⟩
    | true =>
      rw [runF_t (f := fun c => c) z, goL_t (x := (0, 0, 0)) (by rw [← a1]; exact z)]
      exact ih _ _ (a2 z)
theorem sim_W3 {k n : Nat} {c : CS} {r : RS} (h : RQ k n (nI 0) c r) : Sm (runF [writeA k n, fun c => c, fun c => fenceA (keepN c)] c) (goL [(4, 0, 0), (0, 0, 0), (5, 0, 0)] r) := by
  obtain ⟨a1, a2, a3⟩ := end_W (m_write h)
  cases z : (endActF (writeA k n c)).1 with
  | false => rw [runF_f z, goL_f (x := (4, 0, 0)) (by rw [← a1]; exact z)]; exact ⟨rfl, a3 z⟩
  | true =>
    rw [runF_t z, goL_t (x := (4, 0, 0)) (by rw [← a1]; exact z)]
    have hx := a2 z
    have er : (endR (oneR ((4, 0, 0) : Act).1 ((4, 0, 0) : Act).2.1 ((4, 0, 0) : Act).2.2 r)).2 = (endR (oneR 4 0 0 r)).2 := rfl
    rw [er]
    generalize (endActF (writeA k n c)).2 = c1 at hx ⊢
    generalize (endR (oneR 4 0 0 r)).2 = r1 at hx ⊢
    obtain ⟨b1, b2, b3⟩ := end_W (m_plainW hx)
    cases z2 : (endActF c1).1 with
    | false => rw [runF_f (f := fun c => c) z2, goL_f (x := (0, 0, 0)) (by rw [← b1]; exact z2)]; exact ⟨rfl, b3 z2⟩
    | true =>
      rw [runF_t (f := fun c => c) z2, goL_t (x := (0, 0, 0)) (by rw [← b1]; exact z2)]
      have er2 : (endR (oneR ((0, 0, 0) : Act).1 ((0, 0, 0) : Act).2.1 ((0, 0, 0) : Act).2.2 r1)).2 = (endR (oneR 0 0 0 r1)).2 := rfl
      have hx2 := b2 z2
      rw [er2, runF_one, goL_one]
      exact end_N (m_keep hx2)
theorem snL_plain (n : Nat) : ∀ i, i ≤ n + 1 → snL n i = List.replicate i (0, 0, 0) := by
  intro i
  induction i with
  | zero => intro _; rfl
  | succ i ih =>
    intro hi
    have e : snC n (i + 1) = 0 := by unfold snC; rw [if_neg (by omega), if_neg (by omega)]
    show snL n i ++ [(snC n (i + 1), 0, 0)] = _
    rw [ih (by omega), e, List.replicate_succ']
theorem snL_all (n : Nat) : snL n (n + 4) = List.replicate (n + 1) (0, 0, 0) ++ [(4, 0, 0), (0, 0, 0), (5, 0, 0)] := by
  have e2 : snC n (n + 1 + 1) = 4 := by unfold snC; rw [if_pos (by omega)]
  have e3 : snC n (n + 2 + 1) = 0 := by unfold snC; rw [if_neg (by omega), if_neg (by omega)]
  have e4 : snC n (n + 3 + 1) = 5 := by unfold snC; rw [if_neg (by omega), if_pos (by omega)]
  show ((snL n (n + 1) ++ [(snC n (n + 1 + 1), 0, 0)]) ++ [(snC n (n + 2 + 1), 0, 0)]) ++ [(snC n (n + 3 + 1), 0, 0)] = _
  rw [e2, e3, e4, snL_plain n (n + 1) (Nat.le_refl _), List.append_assoc, List.append_assoc]
  rfl
theorem sim_app {k n : Nat} {c : CS} {r : RS} (h : RQ k n (nI 0) c r) : Sm (appendF k n c) (goL (snL n (n + 4)) r) := by
  rw [snL_all, goL_app]
  unfold appendF
  obtain ⟨a1, a2, a3⟩ := sim_Qp (n + 1) c r h
  cases z : (runF (plainL (n + 1)) c).1 with
  | true =>
    rw [if_pos rfl, if_pos (by rw [← a1]; exact z), twoF_eq]
    exact sim_W3 (a2 z)
  | false =>
    rw [if_neg (by decide), if_neg (by rw [← a1, z]; decide)]
    exact ⟨rfl, a3 z⟩
/-! lines -/
def tlD (f : Nat → Bool) : Nat → List Act
  | 0 => []
  | k + 1 => (if f (4 - (k + 1)) = true then [(2, 4 - (k + 1), 0)] else []) ++ tlD f k
theorem tlD_eq (f : Nat → Bool) : tlL f 4 = tlD f 4 := by
  simp only [tlL, tlD, List.nil_append, List.append_nil, List.append_assoc]
theorem Mt_lines {x : Int32} {f : Nat → Bool} (h : ∀ k, k < 4 → hbL x.toInt64 k = f k) : ∀ k, k ≤ 4 → Mt (linesL x k) (tlD f k ++ [(3, 0, 0)]) := by
  intro k
  induction k with
  | zero => intro _; exact ⟨fun c r hr => m_fence hr, trivial⟩
  | succ k ih =>
    intro hk
    have e := h (4 - (k + 1)) (by omega)
    unfold linesL tlD
    rw [e]
    by_cases z : f (4 - (k + 1)) = true
    · rw [if_pos z, if_pos z]
      exact ⟨fun c r hr => m_flush (by omega) hr, ih (by omega)⟩
    · rw [if_neg z, if_neg z]
      exact ih (by omega)
theorem tlL_none {f : Nat → Bool} (h : ∀ k, k < 4 → f k = false) : tlL f 4 = [] := by
  simp [tlL, h 0 (by omega), h 1 (by omega), h 2 (by omega), h 3 (by omega)]
theorem tlL_some {f : Nat → Bool} {k : Nat} (hk : k < 4) (h : f k = true) : ∀ i, k < i → tlL f i ≠ [] := by
  intro i
  induction i with
  | zero => intro z; omega
  | succ i ih =>
    intro z e
    have e2 := List.append_eq_nil_iff.mp e
    by_cases q : k = i
    · subst q
      rw [if_pos h] at e2
      exact absurd e2.2 (by simp)
    · exact ih (by omega) e2.1
theorem sim_keep {x : Int32} {f : Nat → Bool} {c : CS} {r : RS} (h : RN (nI 0) c r) (h1 : ∀ k, k < 4 → hbL x.toInt64 k = f k) (h2 : ∀ k, 4 ≤ k → k < 64 → hbL x.toInt64 k = false) : Sm (keepLinesF x c) (goL (tlL f 4 ++ (if tlL f 4 = [] then [] else [(3, 0, 0)])) r) := by
  unfold keepLinesF
  by_cases z : x = 0
  · have e : tlL f 4 = [] := tlL_none (fun k hk => by rw [← h1 k hk, z]; have q := hb_0 k; rw [nI_0] at q; exact q)
    rw [if_pos z, e, if_pos rfl]
    exact ⟨rfl, h⟩
  · have e : ¬ tlL f 4 = [] := by
      intro q
      apply z
      apply hb_zero
      intro j hj
      by_cases l : j < 4
      · cases w : f j with
        | false => rw [h1 j l, w]
        | true => exact absurd q (tlL_some l w 4 (by omega))
      · exact h2 j (by omega) hj
    rw [if_neg z, if_neg e, tlD_eq]
    exact sim_N _ _ (Mt_lines h1 4 (Nat.le_refl _)) c r h
/-! storing the old values -/
def downL (r : RS) : Nat → List Act
  | 0 => []
  | k + 1 => uiL r k (r_ma r k) ++ downL r k
theorem uoL_down (r : RS) : ∀ p, p ≤ r_rc r → uoL r p ++ downL r (r_rc r - p) = downL r (r_rc r) := by
  intro p
  induction p with
  | zero => intro _; rfl
  | succ p ih =>
    intro hp
    rw [← ih (by omega), show r_rc r - p = (r_rc r - (p + 1)) + 1 by omega]
    show (uoL r p ++ uiL r (r_rc r - (p + 1)) (r_ma r (r_rc r - (p + 1)))) ++ downL r (r_rc r - (p + 1)) = uoL r p ++ (uiL r (r_rc r - (p + 1)) (r_ma r (r_rc r - (p + 1))) ++ downL r (r_rc r - (p + 1)))
    rw [List.append_assoc]
theorem uoL_all (r : RS) : uoL r (r_rc r) = downL r (r_rc r) := by
  have q := uoL_down r (r_rc r) (Nat.le_refl _)
  rw [Nat.sub_self] at q
  rw [← q]
  show _ = _ ++ []
  rw [List.append_nil]
theorem uiL_map (r : RS) (q : Nat) : ∀ n, uiL r q n = (List.range' 0 n).map (fun i => (1, r_fi r q + i, r_ol r (r_fr r q + i))) := by
  intro n
  induction n with
  | zero => rfl
  | succ n ih =>
    show uiL r q n ++ [_] = _
    rw [ih, List.range'_concat]
    simp
theorem soI_map (c : CS) (q : Nat) : ∀ k, k ≤ c_co c q → soI c q k = (List.range' (c_co c q - k) k).map (fun i => storeA (c_fi c q + i) (c_ce c (c_sc c q + 1 + i))) := by
  intro k
  induction k with
  | zero => intro _; rfl
  | succ k ih =>
    intro hk
    show _ :: soI c q k = _
    rw [ih (by omega), List.range'_succ, List.map_cons, show c_co c q - (k + 1) + 1 = c_co c q - k by omega]
theorem Mt_map {g : Nat → CS → CS} {h : Nat → Act} : ∀ l : List Nat, (∀ i ∈ l, ∀ c r, RN (nI 0) c r → RN (nI 1) (g i c) (oneR (h i).1 (h i).2.1 (h i).2.2 r)) → Mt (l.map g) (l.map h) := by
  intro l
  induction l with
  | nil => intro _; trivial
  | cons a l ih => intro z; exact ⟨z a List.mem_cons_self, ih (fun i hi => z i (List.mem_cons_of_mem _ hi))⟩
theorem Mt_rec {c : CS} {r : RS} {q : Nat} (h : LQ c r q) : Mt (soI c q (c_co c q)) (uiL r q (r_ma r q)) := by
  obtain ⟨p1, p2, p3, p4, p5, p6, p7, p8⟩ := h
  rw [soI_map c q _ (Nat.le_refl _), uiL_map, Nat.sub_self, p2]
  refine Mt_map _ (fun i hi c' r' hr => ?_)
  have hi2 : i < r_ma r q := by
    have := (List.mem_range'_1.mp hi).2
    omega
  rw [p1, p3, p8 i hi2, p4]
  exact m_store hr
theorem Mt_down {c : CS} {r : RS} : ∀ n, (∀ q, q < n → LQ c r q) → Mt (soR c n) (downL r n) := by
  intro n
  induction n with
  | zero => intro _; trivial
  | succ n ih => intro h; exact Mt_app _ _ (Mt_rec (h n (by omega))) (ih (fun q hq => h q (by omega)))
theorem sim_old {c : CS} {r : RS} (h : RN (nI 0) c r) : Sm (stOldF c) (goL (uoL r (r_rc r)) r) := by
  unfold stOldF
  rw [uoL_all, h.2.2.1]
  exact sim_N _ _ (Mt_down _ h.2.1.1) c r h
/-! the lines of the records -/
theorem anyTo_iff {p : Nat → Bool} {n : Nat} : anyTo p n = true ↔ ∃ q, q < n ∧ p q = true := by
  constructor
  · intro h
    induction n with
    | zero => cases h
    | succ n ih =>
      unfold anyTo at h
      rcases Bool.or_eq_true_iff.mp h with z | z
      · obtain ⟨q, a, b⟩ := ih z; exact ⟨q, by omega, b⟩
      · exact ⟨n, by omega, z⟩
  · rintro ⟨q, a, b⟩; exact anyTo_mono a b
def lnP (c : CS) (l q : Nat) : Bool := decide (l = c_fi c q / 8) || decide (l = (c_fi c q + c_co c q - 1) / 8)
theorem cov_bits {c : CS} : ∀ n, (∀ q, q < n → 1 ≤ c_co c q ∧ c_fi c q + c_co c q ≤ 32) → ∀ j, j < 64 → hbL (covL c n).toInt64 j = anyTo (lnP c j) n := by
  intro n
  induction n with
  | zero => intro _ j _; exact hb_0 j
  | succ n ih =>
    intro h j hj
    have b := h n (by omega)
    show hbL ((covL c n ||| (nI 1 <<< (nI (c_fi c n / 8) &&& 31))) ||| (nI 1 <<< (nI ((c_fi c n + c_co c n - 1) / 8) &&& 31))).toInt64 j = (anyTo (lnP c j) n || lnP c j n)
    rw [hb_or (by omega) hj, hb_or (by omega) hj, ih (fun q hq => h q (by omega)) j hj, Bool.or_assoc]
    rfl
theorem cov_has {c : CS} {r : RS} (h : RN (nI 0) c r) : (∀ k, k < 4 → hbL (covL c (c_sz c)).toInt64 k = hasL r k) ∧ (∀ k, 4 ≤ k → k < 64 → hbL (covL c (c_sz c)).toInt64 k = false) := by
  have hb := cov_bits (c := c) (c_sz c) (fun q hq => by
    rw [h.2.2.1] at hq
    obtain ⟨p1, p2, p3, p4, p5, p6, p7, p8⟩ := h.2.1.1 q hq
    rw [p1, p2]; exact ⟨p5, p7⟩)
  refine ⟨fun k hk => ?_, fun k hk hk2 => ?_⟩
  · rw [hb k (by omega)]
    apply Bool.eq_iff_iff.mpr
    rw [anyTo_iff]
    unfold hasL covR
    rw [anyTo_iff, h.2.2.1]
    constructor
    · rintro ⟨q, hq, e⟩
      obtain ⟨p1, p2, p3, p4, p5, p6, p7, p8⟩ := h.2.1.1 q hq
      unfold lnP at e
      rw [p1, p2] at e
      simp only [Bool.or_eq_true, decide_eq_true_eq] at e
      by_cases z : k = r_fi r q / 8
      · refine ⟨r_fi r q - 8 * k, by omega, anyTo_iff.mpr ⟨q, hq, ?_⟩⟩
        unfold covQ
        simp only [Bool.and_eq_true, decide_eq_true_eq]
        omega
      · have z2 : k = (r_fi r q + r_ma r q - 1) / 8 := by omega
        refine ⟨r_fi r q + r_ma r q - 1 - 8 * k, by omega, anyTo_iff.mpr ⟨q, hq, ?_⟩⟩
        unfold covQ
        simp only [Bool.and_eq_true, decide_eq_true_eq]
        omega
    · rintro ⟨b, hb2, e⟩
      obtain ⟨q, hq, e2⟩ := anyTo_iff.mp e
      obtain ⟨p1, p2, p3, p4, p5, p6, p7, p8⟩ := h.2.1.1 q hq
      unfold covQ at e2
      simp only [Bool.and_eq_true, decide_eq_true_eq] at e2
      refine ⟨q, hq, ?_⟩
      unfold lnP
      rw [p1, p2]
      simp only [Bool.or_eq_true, decide_eq_true_eq]
      omega
  · rw [hb k hk2]
    cases w : anyTo (lnP c k) (c_sz c) with
    | false => rfl
    | true =>
      obtain ⟨q, hq, e⟩ := anyTo_iff.mp w
      rw [h.2.2.1] at hq
      obtain ⟨p1, p2, p3, p4, p5, p6, p7, p8⟩ := h.2.1.1 q hq
      unfold lnP at e
      rw [p1, p2] at e
      simp only [Bool.or_eq_true, decide_eq_true_eq] at e
      omega
theorem has_some {c : CS} {r : RS} (h : RN (nI 0) c r) (h1 : 1 ≤ r_rc r) : tlL (hasL r) 4 ≠ [] := by
  obtain ⟨p1, p2, p3, p4, p5, p6, p7, p8⟩ := h.2.1.1 0 (by omega)
  refine tlL_some (k := r_fi r 0 / 8) (by omega) ?_ 4 (by omega)
  unfold hasL
  refine anyTo_iff.mpr ⟨r_fi r 0 - 8 * (r_fi r 0 / 8), by omega, ?_⟩
  unfold covR
  refine anyTo_iff.mpr ⟨0, by omega, ?_⟩
  unfold covQ
  simp only [Bool.and_eq_true, decide_eq_true_eq]
  omega
end
section
/-! ===== undoing; the public methods, in both states ===== -/
theorem log_run {c : CS} : ∀ fs : List (CS → CS), (∀ f ∈ fs, ∀ d, c_fi (f d) = c_fi d ∧ c_co (f d) = c_co d ∧ c_sz (f d) = c_sz d) → (runF fs c).1 = true → c_fi (runF fs c).2 = c_fi c ∧ c_co (runF fs c).2 = c_co c ∧ c_sz (runF fs c).2 = c_sz c := by
  intro fs hf ok
  refine run_inv (fun d => c_fi d = c_fi c ∧ c_co d = c_co c ∧ c_sz d = c_sz c) (fun d hd h => ?_) fs (fun f hm d hd => ?_) c ⟨rfl, rfl, rfl⟩ ok
  · obtain ⟨v, e, -⟩ := endAct_ok h
    rw [e]
    exact hd
  · have q := hf f hm d
    exact ⟨q.1.trans hd.1, q.2.1.trans hd.2.1, q.2.2.trans hd.2.2⟩
theorem log_old {c : CS} (ok : (stOldF c).1 = true) : c_fi (stOldF c).2 = c_fi c ∧ c_co (stOldF c).2 = c_co c ∧ c_sz (stOldF c).2 = c_sz c := by
  refine log_run _ (fun f hf d => ?_) ok
  obtain ⟨j, v, rfl⟩ := soR_mem hf
  exact ⟨rfl, rfl, rfl⟩
theorem log_keep {x : Int32} {c : CS} (ok : (keepLinesF x c).1 = true) : c_sz (keepLinesF x c).2 = c_sz c := by
  unfold keepLinesF at ok ⊢
  by_cases q : x = 0
  · rw [if_pos q]
  · rw [if_neg q] at ok ⊢
    refine (log_run _ (fun f hf d => ?_) ok).2.2
    rcases linesL_mem hf with rfl | ⟨j, rfl⟩
    · exact ⟨rfl, rfl, rfl⟩
    · exact ⟨rfl, rfl, rfl⟩
theorem covL_congr {c d : CS} (h1 : c_fi d = c_fi c) (h2 : c_co d = c_co c) : ∀ n, covL d n = covL c n := by
  intro n
  induction n with
  | zero => rfl
  | succ n ih => simp only [covL, ih, h1, h2]
theorem sim_undo {c : CS} {r : RS} (h : RN (nI 0) c r) : Sm (undoF c) (goL (undL r) r) := by
  by_cases z : r_rc r = 0
  · have s1 : stOldF c = (true, c) := by unfold stOldF; rw [h.2.2.1, z]; rfl
    have s2 : keepLinesF (covL c (c_sz c)) c = (true, c) := by rw [h.2.2.1, z]; unfold keepLinesF; rw [if_pos (show covL c 0 = 0 from nI_0)]
    have s3 : clearF c = (true, c) := by unfold clearF; rw [if_pos (h.2.2.1.trans z)]
    have e : undoF c = (true, c) := by unfold undoF; rw [s1, if_pos rfl, s2, if_pos rfl, s3]
    have e2 : undL r = [] := by unfold undL; rw [if_pos z]
    rw [e, e2]
    exact ⟨rfl, h⟩
  · have e2 : undL r = uoL r (r_rc r) ++ ((tlL (hasL r) 4 ++ [(3, 0, 0)]) ++ clrL r) := by
      unfold undL
      rw [if_neg z]
      simp only [List.append_assoc]
    rw [e2, goL_app]
    have ho := sim_old h
    refine Sm_seq (u := stOldF c) (f := fun d => if (keepLinesF (covL d (c_sz d)) d).1 = true then clearF (keepLinesF (covL d (c_sz d)) d).2 else (false, (keepLinesF (covL d (c_sz d)) d).2)) (g := goL ((tlL (hasL r) 4 ++ [(3, 0, 0)]) ++ clrL r)) ho (fun ok => ?_)
    obtain ⟨l1, l2, l3⟩ := log_old ok
    have hr1 := ho.2
    generalize (stOldF c).2 = c1 at hr1 l1 l2 l3 ⊢
    generalize (goL (uoL r (r_rc r)) r).2 = r1 at hr1 ⊢
    rw [goL_app]
    have ec : covL c1 (c_sz c1) = covL c (c_sz c) := by rw [l3]; exact covL_congr l1 l2 _
    have hb := cov_has h
    have hk := sim_keep (x := covL c1 (c_sz c1)) (f := hasL r) hr1 (by rw [ec]; exact hb.1) (by rw [ec]; exact hb.2)
    rw [if_neg (has_some h (by omega))] at hk
    refine Sm_seq (u := keepLinesF (covL c1 (c_sz c1)) c1) (f := clearF) (g := goL (clrL r)) hk (fun ok2 => ?_)
    have l4 := log_keep ok2
    have hr2 := hk.2
    generalize (keepLinesF (covL c1 (c_sz c1)) c1).2 = c2 at hr2 l4 ⊢
    generalize (goL (tlL (hasL r) 4 ++ [(3, 0, 0)]) r1).2 = r2 at hr2 ⊢
    have e3 : clrL r = clrL r2 := by
      have q : r_rc r2 = r_rc r := by rw [← hr2.2.2.1, l4, l3, h.2.2.1]
      unfold clrL
      rw [q]
    rw [e3]
    exact sim_clr hr2
/-! 'open' through a run -/
def OpF (u : Bool × CS) (c : CS) : Prop := (u.1 = true → c_op u.2 = c_op c) ∧ (u.1 = false → c_op u.2 = false)
def OpG (u : Bool × RS) (r : RS) : Prop := (u.1 = true → r_op u.2 = r_op r) ∧ (u.1 = false → r_op u.2 = false)
theorem end_op (c : CS) : OpF (endActF c) c := by
  refine ⟨fun h => ?_, fun h => ?_⟩
  · obtain ⟨v, e, -⟩ := endAct_ok h
    rw [e]; rfl
  · unfold endActF at h ⊢
    by_cases h1 : c_au c = 0
    · rw [if_pos h1] at h; cases h
    · rw [if_neg h1] at h ⊢
      by_cases h2 : c_au c - 1 = 0
      · rw [if_pos h2]; exact lo_op _
      · rw [if_neg h2] at h; cases h
theorem run_op : ∀ (fs : List (CS → CS)), (∀ f ∈ fs, ∀ d, c_op (f d) = c_op d) → ∀ c, OpF (runF fs c) c := by
  intro fs
  induction fs with
  | nil => intro _ c; exact ⟨fun _ => rfl, fun h => (by cases h)⟩
  | cons f fs ih =>
    intro hf c
    have q := end_op (f c)
    have e := hf f List.mem_cons_self c
    cases z : (endActF (f c)).1 with
    | true =>
      rw [runF_t z]
      have i2 := ih (fun g hg => hf g (List.mem_cons_of_mem _ hg)) (endActF (f c)).2
      exact ⟨fun h => (i2.1 h).trans ((q.1 z).trans e), i2.2⟩
    | false => rw [runF_f z]; exact ⟨fun h => (by cases h), fun _ => q.2 z⟩
theorem OpF_seq {u : Bool × CS} {c : CS} {f : CS → Bool × CS} (h : OpF u c) (k : ∀ d, OpF (f d) d) : OpF (if u.1 = true then f u.2 else (false, u.2)) c := by
  cases z : u.1 with
  | true =>
    rw [if_pos rfl]
    have q := k u.2
    exact ⟨fun e => (q.1 e).trans (h.1 z), q.2⟩
  | false => rw [if_neg (by decide)]; exact ⟨fun e => (by cases e), fun _ => h.2 z⟩
theorem keep_op (x : Int32) (c : CS) : OpF (keepLinesF x c) c := by
  unfold keepLinesF
  by_cases q : x = 0
  · rw [if_pos q]; exact ⟨fun _ => rfl, fun h => (by cases h)⟩
  · rw [if_neg q]
    refine run_op _ (fun f hf d => ?_) c
    rcases linesL_mem hf with rfl | ⟨j, rfl⟩ <;> rfl
theorem old_op (c : CS) : OpF (stOldF c) c := by
  refine run_op _ (fun f hf d => ?_) c
  obtain ⟨j, v, rfl⟩ := soR_mem hf
  rfl
theorem clr_op (c : CS) : OpF (clearF c) c := by
  unfold clearF
  by_cases q : c_sz c = 0
  · rw [if_pos q]; exact ⟨fun _ => rfl, fun h => (by cases h)⟩
  · rw [if_neg q, twoF_eq]
    refine run_op _ (fun f hf d => ?_) c
    simp only [List.mem_cons, List.not_mem_nil, or_false] at hf
    rcases hf with rfl | rfl | rfl <;> rfl
theorem app_op (k n : Nat) (c : CS) : OpF (appendF k n c) c := by
  refine OpF_seq (u := runF (plainL (n + 1)) c) (f := twoF (writeA k n) (fun c => fenceA (keepN c))) (run_op _ (fun f hf d => ?_) c) (fun d => ?_)
  · rw [List.eq_of_mem_replicate hf]
  · rw [twoF_eq]
    refine run_op _ (fun f hf e => ?_) d
    simp only [List.mem_cons, List.not_mem_nil, or_false] at hf
    rcases hf with rfl | rfl | rfl
    · exact wx_op k n e
    · rfl
    · rfl
theorem undo_op (c : CS) : OpF (undoF c) c :=
  OpF_seq (u := stOldF c) (f := fun d => if (keepLinesF (covL d (c_sz d)) d).1 = true then clearF (keepLinesF (covL d (c_sz d)) d).2 else (false, (keepLinesF (covL d (c_sz d)) d).2)) (old_op c) (fun d => OpF_seq (u := keepLinesF (covL d (c_sz d)) d) (f := clearF) (keep_op _ d) clr_op)
theorem go_op : ∀ (xs : List Act) (r : RS), OpG (goL xs r) r := by
  intro xs
  induction xs with
  | nil => intro r; exact ⟨fun _ => rfl, fun h => (by cases h)⟩
  | cons x xs ih =>
    intro r
    cases z : (endR (oneR x.1 x.2.1 x.2.2 r)).1 with
    | true =>
      rw [goL_t z]
      obtain ⟨v, e⟩ := endR_ok z
      have i2 := ih (endR (oneR x.1 x.2.1 x.2.2 r)).2
      refine ⟨fun h => (i2.1 h).trans ?_, i2.2⟩
      rw [e, rx_op_ar, one_op]
    | false =>
      rw [goL_f z]
      refine ⟨fun h => (by cases h), fun _ => ?_⟩
      show r_op (endR (oneR x.1 x.2.1 x.2.2 r)).2 = false
      generalize oneR x.1 x.2.1 x.2.2 r = u at z ⊢
      unfold endR at z ⊢
      by_cases h1 : r_ar u = 0
      · rw [if_pos h1] at z; cases z
      · rw [if_neg h1] at z ⊢
        by_cases h2 : r_ar u - 1 = 0
        · rw [if_pos h2]; exact fa_op _
        · rw [if_neg h2] at z; cases z
/-! the states between calls -/
def RA (c : CS) (r : RS) : Prop := RN (nI 0) c r ∧ c_op c = r_op r
theorem RN_SF {c : CS} {r : RS} (h : RN (nI 0) c r) : SF c ∧ c_nk c = false ∧ c_tk c ≤ 40 ∧ 2 * c_sz c ≤ c_tk c ∧ RI r := by
  obtain ⟨hC, hL, g1, g2, g3, g4, g5, g6⟩ := h
  have h2 := takR_two (r := r) (n := r_rc r) (fun q hq => (hL.1 q hq).2.2.2.2.1)
  have fits : ∀ q, q < r_rc r → takR r q + (r_ma r q + 1) ≤ 40 := fun q hq => by
    have m := takR_mono r (show q + 1 ≤ r_rc r by omega)
    simp only [takR] at m
    have := hL.2.2
    omega
  have au : c_au c ≤ 500 := hC.2.2.2.2.2.2.2.1
  have ar : c_au c = r_ar r := hC.2.2.2.2.2.2.1
  refine ⟨⟨⟨by rw [g1]; exact hL.2.1, fun q => (by rw [g3] at q; cases q), au⟩, fun q hq => ?_⟩, g3, by rw [g2]; exact hL.2.2, by rw [g1, g2]; exact h2, hL.2.1, by rw [← ar]; exact au, g6, hL.2.2, h2, fun q hq => ?_⟩
  · rw [g1] at hq
    obtain ⟨p1, p2, p3, p4, p5, p6, p7, p8⟩ := hL.1 q hq
    have := fits q hq
    rw [p1, p2, p3]
    exact ⟨p5, p6, p7, by omega⟩
  · obtain ⟨p1, p2, p3, p4, p5, p6, p7, p8⟩ := hL.1 q hq
    have := fits q hq
    rw [p4]
    exact ⟨p5, p6, p7, by omega⟩
theorem bRes_eq {a b : Bool} (h : a = b) : bRes a = bRes b := by rw [h]
theorem f_arm {c : CS} {r : RS} (n : Int32) (v : Int64) (h : RA c r) : (armF n v c).1 = (armR n v r).1 ∧ RA (armF n v c).2 (armR n v r).2 := by
  unfold armF armR
  by_cases z : n < 0
  · rw [if_pos z, if_pos z]; exact ⟨rfl, h⟩
  · rw [if_neg z, if_neg z]
    by_cases z2 : nI 500 < n
    · rw [if_pos z2, if_pos z2]; exact ⟨rfl, h⟩
    · rw [if_neg z2, if_neg z2]
      obtain ⟨k, rfl, hk⟩ := arm_nat z z2
      rw [nI_clamp (by omega)]
      obtain ⟨⟨hC, hL, g⟩, ho⟩ := h
      obtain ⟨h1, h2, h3, h4, h5, h6, h7, h8, h9, h10⟩ := hC
      have e := takR_congr (r := r) (r' := rs_mk (rs_ar r k) v) rfl
      exact ⟨rfl, ⟨⟨h1, h2, h3, h4, h5, h6, rfl, hk, rfl, h10⟩, LG_congr (c := c) (c' := cs_mk (cs_au c k) v) (r := r) (r' := rs_mk (rs_ar r k) v) rfl rfl rfl rfl rfl rfl rfl rfl hL, g.1, g.2.1.trans (e _).symm, g.2.2⟩, ho⟩
theorem f_begin {c : CS} {r : RS} (h : RA c r) : (beginF c).1 = (beginR r).1 ∧ RA (beginF c).2 (beginR r).2 := by
  obtain ⟨⟨hC, hL, g⟩, ho⟩ := h
  have hon : c_on c = !(r_of r) := hC.2.2.1
  unfold beginF beginR
  by_cases z : r_of r = true
  · rw [if_pos (by rw [hon, z]; rfl), if_pos z]; exact ⟨rfl, ⟨hC, hL, g⟩, ho⟩
  · rw [if_neg (by rw [hon, ts_nt z]; decide), if_neg z]
    by_cases z2 : r_op r = true
    · rw [if_pos (ho.trans z2), if_pos z2]; exact ⟨rfl, ⟨hC, hL, g⟩, ho⟩
    · rw [if_neg (fun q => z2 (ho.symm.trans q)), if_neg z2]
      obtain ⟨h1, h2, h3, h4, h5, h6, h7⟩ := hC
      have e := takR_congr (r := r) (r' := rs_to (rs_op r true) (clrB (r_to r) 4)) rfl
      refine ⟨rfl, ⟨⟨h1, h2, h3, h4, fun k hk => ?_, fun k _ _ => hb_0 k, h7⟩, LG_congr (c := c) (c' := cs_sl (cs_op c true) (nI 0)) (r := r) (r' := rs_to (rs_op r true) (clrB (r_to r) 4)) rfl rfl rfl rfl rfl rfl rfl rfl hL, g.1, g.2.1.trans (e _).symm, g.2.2⟩, rfl⟩
      show hbL (nI 0).toInt64 k = clrB (r_to r) 4 k
      rw [hb_0]
      simp [clrB, hk]
theorem isW_isV (a : Int32) : isW a = isV a := by
  have e : (nI 32 ≤ a) ↔ (nI 31 < a) := by
    rw [Int32.le_iff_toInt_le, Int32.lt_iff_toInt_lt]
    have z1 : (nI 32).toInt = 32 := rfl
    have z2 : (nI 31).toInt = 31 := rfl
    omega
  unfold isW isV
  rw [decide_eq_decide.mpr e]
theorem anyTo_congr {p q : Nat → Bool} : ∀ n, (∀ k, k < n → p k = q k) → anyTo p n = anyTo q n := by
  intro n
  induction n with
  | zero => intro _; rfl
  | succ n ih => intro h; simp only [anyTo, ih (fun k hk => h k (by omega)), h n (by omega)]
theorem cov_eq {c : CS} {r : RS} (h : RN (nI 0) c r) (k : Nat) : coversF c k = covR r k := by
  unfold coversF covR
  rw [h.2.2.1]
  refine anyTo_congr _ (fun q hq => ?_)
  obtain ⟨p1, p2, -⟩ := h.2.1.1 q hq
  unfold covP covQ
  rw [p1, p2]
theorem f_seen {c : CS} {r : RS} (a : Int32) (h : RA c r) : seenF a c = seenR a r := by
  have hon : c_on c = !(r_of r) := h.1.1.2.2.1
  unfold seenF seenR
  by_cases z : r_of r = true
  · rw [if_pos (by rw [hon, z]; rfl), if_pos z]
  · rw [if_neg (by rw [hon, ts_nt z]; decide), if_neg z, isW_isV]
    by_cases z2 : isV a = false
    · rw [if_pos z2, if_pos z2]
    · rw [if_neg z2, if_neg z2]
      obtain ⟨k, rfl, hk⟩ := isV_nat (ts_nf z2)
      rw [nI_clamp (by omega)]
      exact h.1.1.1 k hk
theorem f_kept {c : CS} {r : RS} (a : Int32) (h : RA c r) : keptF a c = keptR a r := by
  unfold keptF keptR
  rw [isW_isV]
  by_cases z2 : isV a = false
  · rw [if_pos z2, if_pos z2]
  · rw [if_neg z2, if_neg z2]
    obtain ⟨k, rfl, hk⟩ := isV_nat (ts_nf z2)
    rw [nI_clamp (by omega)]
    exact h.1.1.2.1 k hk
end
section
theorem f_store {c : CS} {r : RS} (a : Int32) (v : Int64) (h : RA c r) : (storeF a v c).1 = (storeR a v r).1 ∧ RA (storeF a v c).2 (storeR a v r).2 := by
  obtain ⟨hN, ho⟩ := h
  unfold storeF storeR
  rw [isW_isV, ho]
  by_cases z : r_op r = false
  · rw [if_pos z, if_pos z]; exact ⟨rfl, hN, ho⟩
  · rw [if_neg z, if_neg z]
    by_cases z2 : isV a = false
    · rw [if_pos z2, if_pos z2]; exact ⟨rfl, hN, ho⟩
    · rw [if_neg z2, if_neg z2]
      obtain ⟨k, rfl, hk⟩ := isV_nat (ts_nf z2)
      rw [nI_clamp (by omega), cov_eq hN]
      by_cases z3 : covR r k = false
      · rw [if_pos z3, if_pos z3]; exact ⟨rfl, hN, ho⟩
      · rw [if_neg z3, if_neg z3]
        have e0 : stoR k v r = listAll [(1, k, v)] (rs_ac (rs_to r (upB (r_to r) (k / 8) true)) 0) := rfl
        have e1 : goF (stoR k v r) = endR (oneR 1 k v (stoR k v r)) := by
          rw [e0, goF_la rfl, goL_one]
        have hX : RN (nI 0) (slA k c) (rs_to r (upB (r_to r) (k / 8) true)) := by
          obtain ⟨⟨h1, h2, h3, h4, h5, h6, h7⟩, hL, g⟩ := hN
          have e := takR_congr (r := r) (r' := rs_to r (upB (r_to r) (k / 8) true)) rfl
          refine ⟨⟨h1, h2, h3, h4, fun j hj => ?_, fun j hj hj2 => ?_, h7⟩, LG_congr (c := c) (c' := slA k c) (r := r) (r' := rs_to r (upB (r_to r) (k / 8) true)) rfl rfl rfl rfl rfl rfl rfl rfl hL, g.1, g.2.1.trans (e _).symm, g.2.2⟩
          · show hbL (c_sl c ||| (nI 1 <<< (nI (k / 8) &&& 31))).toInt64 j = upB (r_to r) (k / 8) true j
            rw [hb_or (by omega) (by omega), h5 j hj]
            unfold upB
            by_cases e : j = k / 8
            · simp [e]
            · simp [e]
          · show hbL (c_sl c ||| (nI 1 <<< (nI (k / 8) &&& 31))).toInt64 j = false
            rw [hb_or (by omega) hj2, h6 j hj hj2]
            have : ¬ j = k / 8 := by omega
            simp [this]
        have hY : RN (nI 0) (slA k c) (stoR k v r) := RN_la [(1, k, v)] hX
        obtain ⟨q1, q2⟩ := end_N (m_store (o := k) (v := v) hY)
        unfold goI
        rw [e1]
        refine ⟨bRes_eq q1, q2, ?_⟩
        have o1 := end_op (storeA k v (slA k c))
        have o2 := go_op [(1, k, v)] (stoR k v r)
        rw [goL_one] at o2
        cases w : (endActF (storeA k v (slA k c))).1 with
        | true =>
          rw [o1.1 w]
          exact Eq.trans ho (o2.1 (q1.symm.trans w)).symm
        | false => rw [o1.2 w]; exact (o2.2 (q1.symm.trans w)).symm
theorem areW_iff (x n : Int32) : areW x n = true ↔ (¬ n < nI 1 ∧ ¬ nI 8 < n ∧ isV x = true ∧ isV (x + n - nI 1) = true) := by
  have isVn : ∀ k : Nat, k < 2 ^ 31 → (isV (nI k) = true ↔ k < 32) := by
    intro k hk
    constructor
    · intro h
      obtain ⟨j, e, hj⟩ := isV_nat h
      have := (nI_eq hk (by omega)).mp e
      omega
    · intro h
      unfold isV
      rw [decide_eq_false (nI_pos hk), decide_eq_false (fun q => by have := (nI_ltI (by decide) hk).mp q; omega)]
      rfl
  constructor
  · intro h
    obtain ⟨ka, kn, rfl, rfl, q1, q2, q3⟩ := areW_nat h
    refine ⟨fun q => by have := (nI_ltI (by omega) (by decide)).mp q; omega, fun q => by have := (nI_ltI (by decide) (by omega)).mp q; omega, (isVn ka (by omega)).mpr (by omega), ?_⟩
    rw [nI_add, pk_sub (by omega)]
    exact (isVn _ (by omega)).mpr (by omega)
  · rintro ⟨h1, h2, h3, h4⟩
    obtain ⟨ka, rfl, hka⟩ := isV_nat h3
    have n0 : ¬ n < 0 := by
      intro q
      apply h1
      rw [Int32.lt_iff_toInt_lt] at q ⊢
      have z : (0 : Int32).toInt = 0 := rfl
      have z1 : (nI 1).toInt = 1 := rfl
      omega
    obtain ⟨kn, hkn, rfl⟩ := nI_of n0
    have q2 : 1 ≤ kn := Nat.not_lt.mp (fun q => h1 ((nI_ltI hkn (by decide)).mpr q))
    have q3 : kn ≤ 8 := Nat.not_lt.mp (fun q => h2 ((nI_ltI (by decide) hkn).mpr q))
    rw [nI_add, pk_sub (by omega)] at h4
    have q4 := (isVn _ (by omega)).mp h4
    unfold areW
    rw [pk_sub (by omega), decide_eq_false h1, decide_eq_false h2, decide_eq_false (nI_pos (by omega)), decide_eq_false (fun q => by have := (nI_ltI (by omega) (by omega)).mp q; omega)]
    rfl
theorem f_snap {c : CS} {r : RS} (x n : Int32) (h : RA c r) : (snapF x n c).1 = (snapX x n r).1 ∧ RA (snapF x n c).2 (snapX x n r).2 := by
  obtain ⟨hN, ho⟩ := h
  unfold snapF snapX
  rw [ho]
  by_cases z : r_op r = false
  · rw [if_pos z, if_pos z]; exact ⟨rfl, hN, ho⟩
  · rw [if_neg z, if_neg z]
    by_cases zw : areW x n = true
    · obtain ⟨w1, w2, w3, w4⟩ := (areW_iff x n).mp zw
      obtain ⟨ka, kn, rfl, rfl, q1, q2, q3⟩ := areW_nat zw
      rw [if_neg (show ¬ areW (nI ka) (nI kn) = false by rw [zw]; decide), if_neg w1, if_neg w2, if_neg (show ¬ isV (nI ka) = false by rw [w3]; decide), if_neg (show ¬ isV (nI ka + nI kn - nI 1) = false by rw [w4]; decide), nI_clamp (n := kn) (by omega), nI_clamp (n := ka) (by omega)]
      obtain ⟨hF, hnk, ht, h2z, hI⟩ := RN_SF hN
      have htk : c_tk c = takR r (r_rc r) := hN.2.2.2.1
      by_cases zr : 40 < takR r (r_rc r) + kn + 1
      · rw [if_pos (show roomF c kn = false by unfold roomF; exact decide_eq_false (by omega)), if_pos zr]; exact ⟨rfl, hN, ho⟩
      · rw [if_neg (show ¬ roomF c kn = false by unfold roomF; rw [decide_eq_true (by omega)]; decide), if_neg zr]
        have hrc : r_rc r < 20 := by
          have := hN.2.2.1
          omega
        have hac := sx_ac ka kn r
        unfold goI
        rw [goF_la hac]
        have hQ : RQ ka kn (nI 0) c (listAll (snL kn (kn + 4)) (snX ka kn r)) := by
          obtain ⟨⟨h1, h2, h3, h4, h5, h6, h7, h8, h9, h10⟩, hL, g1, g2, g3, g4, g5, g6⟩ := hN
          have em : ∀ q, q < r_rc r → upN (r_ma r) (r_rc r) kn q = r_ma r q := fun q hq => upN_n _ _ (by omega)
          have et : ∀ q, q ≤ r_rc r → takR (listAll (snL kn (kn + 4)) (snX ka kn r)) q = takR r q := by
            intro q
            induction q with
            | zero => intro _; rfl
            | succ q ih =>
              intro hq
              simp only [takR]
              rw [ih (by omega), la_f_ma, sx_ma, em q (by omega)]
          unfold RQ
          rw [g1]
          refine ⟨⟨?_, ?_, ?_, ?_, ?_, h6, ?_, h8, ?_, ?_⟩, ⟨?_, hL.2.1, ?_⟩, ?_, ?_, g3, g4, ⟨?_, ?_⟩, ?_, ⟨?_, ?_, ?_⟩, ⟨q1, q2, q3, ?_, hrc⟩, ?_⟩
          · rw [la_f_S, sx_S]; exact h1
          · rw [la_f_K, sx_K]; exact h2
          · rw [la_f_of, sx_of]; exact h3
          · rw [la_f_fl, sx_fl]; exact h4
          · rw [la_f_to, sx_to]; exact h5
          · rw [la_f_ar, sx_ar]; exact h7
          · rw [la_f_mk, sx_mk]; exact h9
          · rw [la_f_me, sx_me]; exact h10
          · intro q hq
            obtain ⟨p1, p2, p3, p4, p5, p6, p7, p8⟩ := hL.1 q hq
            have mo := takR_mono r (show q + 1 ≤ r_rc r by omega)
            simp only [takR] at mo
            unfold LQ
            rw [et q (by omega), la_f_fi, la_f_ma, la_f_fr, la_f_ol, sx_fi, sx_ma, sx_fr, sx_ol, upN_n _ _ (by omega), upN_n _ _ (by omega), upN_n _ _ (by omega)]
            refine ⟨p1, p2, p3, p4, p5, p6, p7, fun i hi => ?_⟩
            have h2r := takR_two (r := r) (n := r_rc r) (fun q hq => (hL.1 q hq).2.2.2.2.1)
            have h2q := takR_two (r := r) (n := q) (fun z hz => (hL.1 z (by omega)).2.2.2.2.1)
            have lo : takR r q - q + r_ma r q ≤ takR r (r_rc r) - r_rc r := by
              have q5 : ∀ b, q + 1 ≤ b → b ≤ r_rc r → takR r (q + 1) + (b - (q + 1)) ≤ takR r b := by
                intro b
                induction b with
                | zero => intro z; omega
                | succ b ih =>
                  intro z1 z2
                  by_cases e : q + 1 = b + 1
                  · rw [← e]; omega
                  · have := ih (by omega) (by omega)
                    simp only [takR] at this ⊢
                    omega
              have := q5 (r_rc r) (by omega) (Nat.le_refl _)
              simp only [takR] at this
              omega
            rw [pk_cpy_out (Or.inl (by omega))]
            exact p8 i hi
          · rw [et _ (Nat.le_refl _)]; exact hL.2.2
          · rw [la_f_rc, sx_rc]
          · rw [et _ (Nat.le_refl _)]; exact g2
          · rw [la_f_st, sx_st, upN_s]
          · intro q hq
            rw [la_f_st, sx_st, upN_n _ _ (by omega)]
            exact g5 q hq
          · intro j
            rw [la_f_st, sx_st]
            unfold upN
            split
            · omega
            · exact g6 j
          · rw [la_f_fi, sx_fi, upN_s]
          · rw [la_f_ma, sx_ma, upN_s]
          · rw [et _ (Nat.le_refl _), la_f_fr, sx_fr, upN_s]
          · rw [et _ (Nat.le_refl _)]; omega
          · intro i hi
            rw [et _ (Nat.le_refl _), la_f_ol, sx_ol, la_f_S, sx_S, pk_cpy_in (by omega) (by omega)]
            congr 1
            omega
        obtain ⟨e1, e2⟩ := sim_app hQ
        refine ⟨bRes_eq e1, e2, ?_⟩
        have o1 := app_op ka kn c
        have o2 := go_op (snL kn (kn + 4)) (listAll (snL kn (kn + 4)) (snX ka kn r))
        cases w : (appendF ka kn c).1 with
        | true =>
          rw [o1.1 w, o2.1 (e1.symm.trans w), la_f_op, sx_op]
          exact ho
        | false => rw [o1.2 w, o2.2 (e1.symm.trans w)]
    · rw [if_pos (ts_nt zw)]
      by_cases w1 : n < nI 1
      · rw [if_pos w1]; exact ⟨rfl, hN, ho⟩
      · rw [if_neg w1]
        by_cases w2 : nI 8 < n
        · rw [if_pos w2]; exact ⟨rfl, hN, ho⟩
        · rw [if_neg w2]
          by_cases w3 : isV x = false
          · rw [if_pos w3]; exact ⟨rfl, hN, ho⟩
          · rw [if_neg w3]
            by_cases w4 : isV (x + n - nI 1) = false
            · rw [if_pos w4]; exact ⟨rfl, hN, ho⟩
            · exact absurd ((areW_iff x n).mpr ⟨w1, w2, ts_nf w3, ts_nf w4⟩) zw
end
section
theorem undL_congr {r r' : RS} (e1 : r_rc r' = r_rc r) (e2 : r_fi r' = r_fi r) (e3 : r_ma r' = r_ma r) (e4 : r_fr r' = r_fr r) (e5 : r_ol r' = r_ol r) : undL r' = undL r := by
  have a : ∀ q n, uiL r' q n = uiL r q n := by
    intro q n
    induction n with
    | zero => rfl
    | succ n ih => simp only [uiL, ih, e2, e4, e5]
  have b : ∀ p, uoL r' p = uoL r p := by
    intro p
    induction p with
    | zero => rfl
    | succ p ih => simp only [uoL, ih, a, e1, e3]
  have d : hasL r' = hasL r := by
    funext l
    unfold hasL covR
    rw [e1]
    congr 1
    funext z
    congr 1
    funext q
    unfold covQ
    rw [e2, e3]
  unfold undL clrL
  rw [e1, b, d]
theorem f_abort {c : CS} {r : RS} (h : RA c r) : (abortF c).1 = (abortR r).1 ∧ RA (abortF c).2 (abortR r).2 := by
  obtain ⟨hN, ho⟩ := h
  unfold abortF abortR
  rw [ho]
  by_cases z : r_op r = false
  · rw [if_pos z, if_pos z]; exact ⟨rfl, hN, ho⟩
  · rw [if_neg z, if_neg z]
    unfold goI undR
    rw [goF_laop rfl]
    have hR := RN_op false (RN_la (undL r) hN)
    have o2 := go_op (undL r) (rs_op (listAll (undL r) (rs_ac r 0)) false)
    have e0 : r_op (rs_op (listAll (undL r) (rs_ac r 0)) false) = false := rx_op_op _ _
    unfold OpG at o2
    rw [e0] at o2
    have eu : undL (rs_op (listAll (undL r) (rs_ac r 0)) false) = undL r := undL_congr (by rw [rx_rc_op, la_f_rc]; rfl) (by rw [rx_fi_op, la_f_fi]; rfl) (by rw [rx_ma_op, la_f_ma]; rfl) (by rw [rx_fr_op, la_f_fr]; rfl) (by rw [rx_ol_op, la_f_ol]; rfl)
    have hs := sim_undo hR
    rw [eu] at hs
    generalize rs_op (listAll (undL r) (rs_ac r 0)) false = r0 at hs o2 ⊢
    have opw : r_op (goL (undL r) r0).2 = false := by
      cases w : (goL (undL r) r0).1 with
      | true => exact o2.1 w
      | false => exact o2.2 w
    cases w1 : (undoF c).1 with
    | false =>
      rw [if_pos rfl]
      refine ⟨?_, hs.2, ?_⟩
      · show (-2 : Int32) = bRes (goL (undL r) r0).1
        rw [← hs.1, w1]; rfl
      · rw [opw]; exact (undo_op c).2 w1
    | true =>
      rw [if_neg (by decide)]
      refine ⟨?_, RN_cop false hs.2, ?_⟩
      · show nI 0 = bRes (goL (undL r) r0).1
        rw [← hs.1, w1]; rfl
      · rw [opw]; exact cx_op_op _ _
end
section
theorem RN_recover {c : CS} {r : RS} (h : RN (nI 0) c r) : RN (nI 0) (recA c) (recR r) := by
  obtain ⟨⟨h1, h2, h3, h4, h5, h6, h7⟩, hL, g⟩ := h
  have e := takR_congr (r := r) (r' := recR r) rfl
  refine ⟨⟨fun j hj => ?_, h2, rfl, h4, h5, h6, h7⟩, LG_congr (c := c) (c' := recA c) (r := r) (r' := recR r) rfl rfl rfl rfl rfl rfl rfl rfl hL, g.1, g.2.1.trans (e _).symm, g.2.2⟩
  show va_cpy (c_K c) (c_S c) 0 0 32 j = va_cpy (r_K r) (r_S r) 0 0 32 j
  rw [pk_cpy_in (by omega) (by omega), pk_cpy_in (by omega) (by omega)]
  exact h2 _ (by omega)
theorem f_recover {c : CS} {r : RS} (h : RA c r) : (recoverF c).1 = (recoverR r).1 ∧ RA (recoverF c).2 (recoverR r).2 := by
  obtain ⟨hN, ho⟩ := h
  have hon : c_on c = !(r_of r) := hN.1.2.2.1
  unfold recoverF recoverR
  by_cases z : r_of r = false
  · rw [if_pos (by rw [hon, z]; rfl), if_pos z]; exact ⟨rfl, hN, ho⟩
  · rw [if_neg (by rw [hon, ts_nf z]; decide), if_neg z]
    have hX := RN_recover hN
    unfold goI undR
    rw [goF_la rfl]
    have hR := RN_la (undL (recR r)) hX
    have eu : undL (listAll (undL (recR r)) (rs_ac (recR r) 0)) = undL (recR r) := undL_congr (by rw [la_f_rc, rx_rc_ac]) (by rw [la_f_fi, rx_fi_ac]) (by rw [la_f_ma, rx_ma_ac]) (by rw [la_f_fr, rx_fr_ac]) (by rw [la_f_ol, rx_ol_ac])
    have o2 := go_op (undL (recR r)) (listAll (undL (recR r)) (rs_ac (recR r) 0))
    have e0 : r_op (listAll (undL (recR r)) (rs_ac (recR r) 0)) = r_op r := by rw [la_f_op, rx_op_ac]; rfl
    unfold OpG at o2
    rw [e0] at o2
    have hs := sim_undo hR
    rw [eu] at hs
    generalize listAll (undL (recR r)) (rs_ac (recR r) 0) = r0 at hs o2 ⊢
    have o1 := undo_op (recA c)
    have e1 : c_op (recA c) = c_op c := rfl
    unfold OpF at o1
    rw [e1] at o1
    refine ⟨bRes_eq hs.1, hs.2, ?_⟩
    cases w : (undoF (recA c)).1 with
    | true => rw [o1.1 w, o2.1 (hs.1.symm.trans w)]; exact ho
    | false => rw [o1.2 w, o2.2 (hs.1.symm.trans w)]
end
section
theorem f_commit {c : CS} {r : RS} (h : RA c r) : (commitF c).1 = (commitR r).1 ∧ RA (commitF c).2 (commitR r).2 := by
  obtain ⟨hN, ho⟩ := h
  unfold commitF commitR
  rw [ho]
  by_cases z : r_op r = false
  · rw [if_pos z, if_pos z]; exact ⟨rfl, hN, ho⟩
  · rw [if_neg z, if_neg z]
    unfold goI
    rw [goF_laop rfl]
    have hR := RN_op false (RN_la (comL r) hN)
    have o2 := go_op (comL r) (rs_op (listAll (comL r) (rs_ac r 0)) false)
    have e0 : r_op (rs_op (listAll (comL r) (rs_ac r 0)) false) = false := rx_op_op _ _
    unfold OpG at o2
    rw [e0] at o2
    generalize rs_op (listAll (comL r) (rs_ac r 0)) false = r0 at hR o2 ⊢
    have hs : Sm (if (keepLinesF (c_sl c) c).1 = true then clearF (keepLinesF (c_sl c) c).2 else (false, (keepLinesF (c_sl c) c).2)) (goL (comL r) r0) := by
      unfold comL
      rw [goL_app]
      have hk := sim_keep (x := c_sl c) (f := r_to r) hR hN.1.2.2.2.2.1 hN.1.2.2.2.2.2.1
      refine Sm_seq (u := keepLinesF (c_sl c) c) (f := clearF) (g := goL (clrL r)) hk (fun ok => ?_)
      have l4 := log_keep ok
      have hr2 := hk.2
      generalize (keepLinesF (c_sl c) c).2 = c2 at hr2 l4 ⊢
      generalize (goL (tlL (r_to r) 4 ++ (if tlL (r_to r) 4 = [] then [] else [(3, 0, 0)])) r0).2 = r2 at hr2 ⊢
      have e3 : clrL r = clrL r2 := by
        have q : r_rc r2 = r_rc r := by rw [← hr2.2.2.1, l4, hN.2.2.1]
        unfold clrL
        rw [q]
      rw [e3]
      exact sim_clr hr2
    have opw : r_op (goL (comL r) r0).2 = false := by
      cases w : (goL (comL r) r0).1 with
      | true => exact o2.1 w
      | false => exact o2.2 w
    cases w1 : (keepLinesF (c_sl c) c).1 with
    | false =>
      rw [w1, if_neg (by decide)] at hs
      rw [if_pos rfl]
      refine ⟨?_, hs.2, ?_⟩
      · show (-2 : Int32) = bRes (goL (comL r) r0).1
        rw [← hs.1]; rfl
      · rw [opw]; exact (keep_op (c_sl c) c).2 w1
    | true =>
      rw [w1, if_pos rfl] at hs
      rw [if_neg (by decide)]
      cases w2 : (clearF (keepLinesF (c_sl c) c).2).1 with
      | false =>
        rw [if_pos rfl]
        refine ⟨?_, hs.2, ?_⟩
        · show (-2 : Int32) = bRes (goL (comL r) r0).1
          rw [← hs.1, w2]; rfl
        · rw [opw]; exact (clr_op _).2 w2
      | true =>
        rw [if_neg (by decide)]
        refine ⟨?_, RN_cop false hs.2, ?_⟩
        · show nI 0 = bRes (goL (comL r) r0).1
          rw [← hs.1, w2]; rfl
        · rw [opw]; exact cx_op_op _ _
end
