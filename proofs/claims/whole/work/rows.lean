section
-- ===== PART A: goes FIRST, ahead of the names: the tables' words, and 'selects' of the private methods out of them =====
/-- a private method of a class that the tables say can be made, by its rows of tables_1 -/
def lw_okq (q : MethodName × Nat) : Prop := (q.1.cls ≠ "java/lang/invoke/MethodHandle" ∧ q.1.cls ≠ "java/lang/invoke/VarHandle") ∧ Cond.instantiable q.1.cls q.2 ∈ tables_1 ∧ Cond.privateMethod q.1 ∈ tables_1 ∧ Cond.instanceMethod q.1 ∈ tables_1
theorem lw_p0 : lw_okq (⟨"SideLinkTree", "pageInCharge", "(ILSideLinkTree$Entry;)LSideLinkTree$Page;"⟩, 11) := ⟨⟨by decide +kernel, by decide +kernel⟩, List.mem_of_getElem? (i := 8) (by decide +kernel), List.mem_of_getElem? (i := 120) (by decide +kernel), List.mem_of_getElem? (i := 121) (by decide +kernel)⟩
theorem lw_p1 : lw_okq (⟨"SideLinkTree", "pagesNeeded", "(LSideLinkTree$Entry;)I"⟩, 11) := ⟨⟨by decide +kernel, by decide +kernel⟩, List.mem_of_getElem? (i := 8) (by decide +kernel), List.mem_of_getElem? (i := 154) (by decide +kernel), List.mem_of_getElem? (i := 155) (by decide +kernel)⟩
theorem lw_p2 : lw_okq (⟨"SideLinkTree", "takePages", "(I)Z"⟩, 11) := ⟨⟨by decide +kernel, by decide +kernel⟩, List.mem_of_getElem? (i := 8) (by decide +kernel), List.mem_of_getElem? (i := 158) (by decide +kernel), List.mem_of_getElem? (i := 159) (by decide +kernel)⟩
theorem lw_p3 : lw_okq (⟨"SideLinkTree", "put", "(ILSideLinkTree$Entry;LSideLinkTree$Page;)Z"⟩, 11) := ⟨⟨by decide +kernel, by decide +kernel⟩, List.mem_of_getElem? (i := 8) (by decide +kernel), List.mem_of_getElem? (i := 162) (by decide +kernel), List.mem_of_getElem? (i := 163) (by decide +kernel)⟩
theorem lw_p4 : lw_okq (⟨"SideLinkTree", "splitRoot", "()Z"⟩, 11) := ⟨⟨by decide +kernel, by decide +kernel⟩, List.mem_of_getElem? (i := 8) (by decide +kernel), List.mem_of_getElem? (i := 166) (by decide +kernel), List.mem_of_getElem? (i := 167) (by decide +kernel)⟩
theorem lw_p5 : lw_okq (⟨"SideLinkTree", "useTakenPage", "(I)LSideLinkTree$Page;"⟩, 11) := ⟨⟨by decide +kernel, by decide +kernel⟩, List.mem_of_getElem? (i := 8) (by decide +kernel), List.mem_of_getElem? (i := 170) (by decide +kernel), List.mem_of_getElem? (i := 171) (by decide +kernel)⟩
theorem lw_p6 : lw_okq (⟨"SideLinkTree", "setWords", "(I)Z"⟩, 11) := ⟨⟨by decide +kernel, by decide +kernel⟩, List.mem_of_getElem? (i := 8) (by decide +kernel), List.mem_of_getElem? (i := 178) (by decide +kernel), List.mem_of_getElem? (i := 179) (by decide +kernel)⟩
theorem lw_p7 : lw_okq (⟨"SideLinkTree", "splitPage", "(LSideLinkTree$Page;)Z"⟩, 11) := ⟨⟨by decide +kernel, by decide +kernel⟩, List.mem_of_getElem? (i := 8) (by decide +kernel), List.mem_of_getElem? (i := 194) (by decide +kernel), List.mem_of_getElem? (i := 195) (by decide +kernel)⟩
theorem lw_p8 : lw_okq (⟨"SideLinkTree", "bringInto", "(LSideLinkTree$Page;LSideLinkTree$Entry;LSideLinkTree$Page;)Z"⟩, 11) := ⟨⟨by decide +kernel, by decide +kernel⟩, List.mem_of_getElem? (i := 8) (by decide +kernel), List.mem_of_getElem? (i := 198) (by decide +kernel), List.mem_of_getElem? (i := 199) (by decide +kernel)⟩
theorem lw_p9 : lw_okq (⟨"SideLinkTree", "moveCursor", "(LSideLinkTree$Entry;Z)V"⟩, 11) := ⟨⟨by decide +kernel, by decide +kernel⟩, List.mem_of_getElem? (i := 8) (by decide +kernel), List.mem_of_getElem? (i := 219) (by decide +kernel), List.mem_of_getElem? (i := 220) (by decide +kernel)⟩
theorem lw_p10 : lw_okq (⟨"SideLinkTree", "leftmostPage", "(I)LSideLinkTree$Page;"⟩, 11) := ⟨⟨by decide +kernel, by decide +kernel⟩, List.mem_of_getElem? (i := 8) (by decide +kernel), List.mem_of_getElem? (i := 240) (by decide +kernel), List.mem_of_getElem? (i := 241) (by decide +kernel)⟩
theorem lw_p11 : lw_okq (⟨"SideLinkTreeModel", "addPage", "(II)V"⟩, 23) := ⟨⟨by decide +kernel, by decide +kernel⟩, List.mem_of_getElem? (i := 269) (by decide +kernel), List.mem_of_getElem? (i := 279) (by decide +kernel), List.mem_of_getElem? (i := 280) (by decide +kernel)⟩
theorem lw_p12 : lw_okq (⟨"SideLinkTreeModel", "numbered", "(JJJJI)I"⟩, 23) := ⟨⟨by decide +kernel, by decide +kernel⟩, List.mem_of_getElem? (i := 269) (by decide +kernel), List.mem_of_getElem? (i := 368) (by decide +kernel), List.mem_of_getElem? (i := 369) (by decide +kernel)⟩
theorem lw_p13 : lw_okq (⟨"SideLinkTreeModel", "itemOf", "(I)I"⟩, 23) := ⟨⟨by decide +kernel, by decide +kernel⟩, List.mem_of_getElem? (i := 269) (by decide +kernel), List.mem_of_getElem? (i := 372) (by decide +kernel), List.mem_of_getElem? (i := 373) (by decide +kernel)⟩
theorem lw_p14 : lw_okq (⟨"SideLinkTreeModel", "order", "(II)I"⟩, 23) := ⟨⟨by decide +kernel, by decide +kernel⟩, List.mem_of_getElem? (i := 269) (by decide +kernel), List.mem_of_getElem? (i := 376) (by decide +kernel), List.mem_of_getElem? (i := 377) (by decide +kernel)⟩
theorem lw_p15 : lw_okq (⟨"SideLinkTreeModel", "plan", "(I)I"⟩, 23) := ⟨⟨by decide +kernel, by decide +kernel⟩, List.mem_of_getElem? (i := 269) (by decide +kernel), List.mem_of_getElem? (i := 384) (by decide +kernel), List.mem_of_getElem? (i := 385) (by decide +kernel)⟩
def lw_privs_1 : List (MethodName × Nat) := [(⟨"SideLinkTree", "pageInCharge", "(ILSideLinkTree$Entry;)LSideLinkTree$Page;"⟩, 11), (⟨"SideLinkTree", "pagesNeeded", "(LSideLinkTree$Entry;)I"⟩, 11), (⟨"SideLinkTree", "takePages", "(I)Z"⟩, 11), (⟨"SideLinkTree", "put", "(ILSideLinkTree$Entry;LSideLinkTree$Page;)Z"⟩, 11), (⟨"SideLinkTree", "splitRoot", "()Z"⟩, 11), (⟨"SideLinkTree", "useTakenPage", "(I)LSideLinkTree$Page;"⟩, 11), (⟨"SideLinkTree", "setWords", "(I)Z"⟩, 11), (⟨"SideLinkTree", "splitPage", "(LSideLinkTree$Page;)Z"⟩, 11), (⟨"SideLinkTree", "bringInto", "(LSideLinkTree$Page;LSideLinkTree$Entry;LSideLinkTree$Page;)Z"⟩, 11), (⟨"SideLinkTree", "moveCursor", "(LSideLinkTree$Entry;Z)V"⟩, 11), (⟨"SideLinkTree", "leftmostPage", "(I)LSideLinkTree$Page;"⟩, 11), (⟨"SideLinkTreeModel", "addPage", "(II)V"⟩, 23), (⟨"SideLinkTreeModel", "numbered", "(JJJJI)I"⟩, 23), (⟨"SideLinkTreeModel", "itemOf", "(I)I"⟩, 23), (⟨"SideLinkTreeModel", "order", "(II)I"⟩, 23), (⟨"SideLinkTreeModel", "plan", "(I)I"⟩, 23)]
theorem lw_r1 : ∀ q ∈ lw_privs_1, lw_okq q := List.forall_mem_cons.mpr ⟨lw_p0, List.forall_mem_cons.mpr ⟨lw_p1, List.forall_mem_cons.mpr ⟨lw_p2, List.forall_mem_cons.mpr ⟨lw_p3, List.forall_mem_cons.mpr ⟨lw_p4, List.forall_mem_cons.mpr ⟨lw_p5, List.forall_mem_cons.mpr ⟨lw_p6, List.forall_mem_cons.mpr ⟨lw_p7, List.forall_mem_cons.mpr ⟨lw_p8, List.forall_mem_cons.mpr ⟨lw_p9, List.forall_mem_cons.mpr ⟨lw_p10, List.forall_mem_cons.mpr ⟨lw_p11, List.forall_mem_cons.mpr ⟨lw_p12, List.forall_mem_cons.mpr ⟨lw_p13, List.forall_mem_cons.mpr ⟨lw_p14, List.forall_mem_cons.mpr ⟨lw_p15, fun _ h => absurd h List.not_mem_nil⟩⟩⟩⟩⟩⟩⟩⟩⟩⟩⟩⟩⟩⟩⟩⟩
theorem lw_p16 : lw_okq (⟨"SideLinkTreeModel", "inCharge", "(II)I"⟩, 23) := ⟨⟨by decide +kernel, by decide +kernel⟩, List.mem_of_getElem? (i := 269) (by decide +kernel), List.mem_of_getElem? (i := 388) (by decide +kernel), List.mem_of_getElem? (i := 389) (by decide +kernel)⟩
theorem lw_p17 : lw_okq (⟨"SideLinkTreeModel", "filled", "(I)I"⟩, 23) := ⟨⟨by decide +kernel, by decide +kernel⟩, List.mem_of_getElem? (i := 269) (by decide +kernel), List.mem_of_getElem? (i := 392) (by decide +kernel), List.mem_of_getElem? (i := 393) (by decide +kernel)⟩
theorem lw_p18 : lw_okq (⟨"SideLinkTreeModel", "sixth", "(I)I"⟩, 23) := ⟨⟨by decide +kernel, by decide +kernel⟩, List.mem_of_getElem? (i := 269) (by decide +kernel), List.mem_of_getElem? (i := 396) (by decide +kernel), List.mem_of_getElem? (i := 397) (by decide +kernel)⟩
theorem lw_p19 : lw_okq (⟨"SideLinkTreeModel", "perform", "(IZ)Z"⟩, 23) := ⟨⟨by decide +kernel, by decide +kernel⟩, List.mem_of_getElem? (i := 269) (by decide +kernel), List.mem_of_getElem? (i := 400) (by decide +kernel), List.mem_of_getElem? (i := 401) (by decide +kernel)⟩
theorem lw_p20 : lw_okq (⟨"SideLinkTreeModel", "split", "(III)Z"⟩, 23) := ⟨⟨by decide +kernel, by decide +kernel⟩, List.mem_of_getElem? (i := 269) (by decide +kernel), List.mem_of_getElem? (i := 404) (by decide +kernel), List.mem_of_getElem? (i := 405) (by decide +kernel)⟩
theorem lw_p21 : lw_okq (⟨"SideLinkTreeModel", "set", "(I)Z"⟩, 23) := ⟨⟨by decide +kernel, by decide +kernel⟩, List.mem_of_getElem? (i := 269) (by decide +kernel), List.mem_of_getElem? (i := 408) (by decide +kernel), List.mem_of_getElem? (i := 409) (by decide +kernel)⟩
theorem lw_p22 : lw_okq (⟨"SideLinkTreeModel", "addItem", "(II)V"⟩, 23) := ⟨⟨by decide +kernel, by decide +kernel⟩, List.mem_of_getElem? (i := 269) (by decide +kernel), List.mem_of_getElem? (i := 412) (by decide +kernel), List.mem_of_getElem? (i := 413) (by decide +kernel)⟩
theorem lw_p23 : lw_okq (⟨"SideLinkTreeModel", "enter", "(II)Z"⟩, 23) := ⟨⟨by decide +kernel, by decide +kernel⟩, List.mem_of_getElem? (i := 269) (by decide +kernel), List.mem_of_getElem? (i := 416) (by decide +kernel), List.mem_of_getElem? (i := 417) (by decide +kernel)⟩
theorem lw_p24 : lw_okq (⟨"SideLinkTreeModel", "stand", "(IZ)V"⟩, 23) := ⟨⟨by decide +kernel, by decide +kernel⟩, List.mem_of_getElem? (i := 269) (by decide +kernel), List.mem_of_getElem? (i := 433) (by decide +kernel), List.mem_of_getElem? (i := 434) (by decide +kernel)⟩
theorem lw_p25 : lw_okq (⟨"SideLinkTreeModel", "behind", "(I)Z"⟩, 23) := ⟨⟨by decide +kernel, by decide +kernel⟩, List.mem_of_getElem? (i := 269) (by decide +kernel), List.mem_of_getElem? (i := 446) (by decide +kernel), List.mem_of_getElem? (i := 447) (by decide +kernel)⟩
theorem lw_p26 : lw_okq (⟨"SideLinkTreeModel", "entriesOf", "(I)I"⟩, 23) := ⟨⟨by decide +kernel, by decide +kernel⟩, List.mem_of_getElem? (i := 269) (by decide +kernel), List.mem_of_getElem? (i := 466) (by decide +kernel), List.mem_of_getElem? (i := 467) (by decide +kernel)⟩
theorem lw_p27 : lw_okq (⟨"SideLinkTreeModel", "leftOf", "(I)I"⟩, 23) := ⟨⟨by decide +kernel, by decide +kernel⟩, List.mem_of_getElem? (i := 269) (by decide +kernel), List.mem_of_getElem? (i := 474) (by decide +kernel), List.mem_of_getElem? (i := 475) (by decide +kernel)⟩
def lw_privs_2 : List (MethodName × Nat) := [(⟨"SideLinkTreeModel", "inCharge", "(II)I"⟩, 23), (⟨"SideLinkTreeModel", "filled", "(I)I"⟩, 23), (⟨"SideLinkTreeModel", "sixth", "(I)I"⟩, 23), (⟨"SideLinkTreeModel", "perform", "(IZ)Z"⟩, 23), (⟨"SideLinkTreeModel", "split", "(III)Z"⟩, 23), (⟨"SideLinkTreeModel", "set", "(I)Z"⟩, 23), (⟨"SideLinkTreeModel", "addItem", "(II)V"⟩, 23), (⟨"SideLinkTreeModel", "enter", "(II)Z"⟩, 23), (⟨"SideLinkTreeModel", "stand", "(IZ)V"⟩, 23), (⟨"SideLinkTreeModel", "behind", "(I)Z"⟩, 23), (⟨"SideLinkTreeModel", "entriesOf", "(I)I"⟩, 23), (⟨"SideLinkTreeModel", "leftOf", "(I)I"⟩, 23)]
theorem lw_r2 : ∀ q ∈ lw_privs_2, lw_okq q := List.forall_mem_cons.mpr ⟨lw_p16, List.forall_mem_cons.mpr ⟨lw_p17, List.forall_mem_cons.mpr ⟨lw_p18, List.forall_mem_cons.mpr ⟨lw_p19, List.forall_mem_cons.mpr ⟨lw_p20, List.forall_mem_cons.mpr ⟨lw_p21, List.forall_mem_cons.mpr ⟨lw_p22, List.forall_mem_cons.mpr ⟨lw_p23, List.forall_mem_cons.mpr ⟨lw_p24, List.forall_mem_cons.mpr ⟨lw_p25, List.forall_mem_cons.mpr ⟨lw_p26, List.forall_mem_cons.mpr ⟨lw_p27, fun _ h => absurd h List.not_mem_nil⟩⟩⟩⟩⟩⟩⟩⟩⟩⟩⟩⟩
def lw_privs : List (MethodName × Nat) := lw_privs_1 ++ (lw_privs_2)
def lw_tbl : List Cond := k2_sels lw_privs ++ tables_1
theorem lw_privs_ok : ∀ q ∈ lw_privs, lw_okq q := by
  show ∀ q ∈ lw_privs_1 ++ (lw_privs_2), lw_okq q
  exact List.forall_mem_append.mpr ⟨lw_r1, lw_r2⟩
def RX0 : String := "SideLinkTree$Entry"
def TX0 : u_T := fun k => match k with
  | 0 => ("SideLinkTree$Entry", "a", "J", true)
  | 1 => ("SideLinkTree$Entry", "b", "J", true)
  | 2 => ("SideLinkTree$Entry", "c", "J", true)
  | 3 => ("SideLinkTree$Entry", "d", "J", true)
  | _ => ("SideLinkTree$Entry", "place", "I", true)
def tyX0 : Nat → FieldType := fun k => match k with
  | 0 => .long
  | 1 => .long
  | 2 => .long
  | 3 => .long
  | _ => .int
theorem nmX0 : ∀ a, a < 5 → ∀ b, b < 5 → a ≠ b → (TX0 a).2.1 ≠ (TX0 b).2.1 := by decide +kernel
theorem tyX0_ok : ∀ k, k < 5 → parseFieldDescriptor (TX0 k).2.2.1 = some (tyX0 k) := by decide +kernel
abbrev cX0_init : ByteArray := prog_2_method_1_code
def yX0_init : MethodName := ⟨RX0, "<init>", "(JJJJI)V"⟩
abbrev cX0_compareWith : ByteArray := prog_2_method_2_code
def yX0_compareWith : MethodName := ⟨RX0, "compareWith", "(LSideLinkTree$Entry;)I"⟩
def RX1 : String := "SideLinkTree$Page"
def TX1 : u_T := fun k => match k with
  | 0 => ("SideLinkTree$Page", "entries", "[LSideLinkTree$Entry;", true)
  | 1 => ("SideLinkTree$Page", "below", "[LSideLinkTree$Page;", true)
  | 2 => ("SideLinkTree$Page", "size", "I", false)
  | 3 => ("SideLinkTree$Page", "level", "I", false)
  | 4 => ("SideLinkTree$Page", "low", "LSideLinkTree$Entry;", false)
  | 5 => ("SideLinkTree$Page", "right", "LSideLinkTree$Page;", false)
  | _ => ("SideLinkTree$Page", "lacksWord", "Z", false)
def tyX1 : Nat → FieldType := fun k => match k with
  | 0 => .array (.object "SideLinkTree$Entry")
  | 1 => .array (.object "SideLinkTree$Page")
  | 2 => .int
  | 3 => .int
  | 4 => .object "SideLinkTree$Entry"
  | 5 => .object "SideLinkTree$Page"
  | _ => .boolean
theorem nmX1 : ∀ a, a < 7 → ∀ b, b < 7 → a ≠ b → (TX1 a).2.1 ≠ (TX1 b).2.1 := by decide +kernel
theorem tyX1_ok : ∀ k, k < 7 → parseFieldDescriptor (TX1 k).2.2.1 = some (tyX1 k) := by decide +kernel
abbrev cX1_init : ByteArray := prog_3_method_1_code
def yX1_init : MethodName := ⟨RX1, "<init>", "(LSideLinkTree$Entry;)V"⟩
abbrev cX1_reset : ByteArray := prog_3_method_2_code
def yX1_reset : MethodName := ⟨RX1, "reset", "(ILSideLinkTree$Entry;)V"⟩
abbrev cX1_entryAt : ByteArray := prog_3_method_3_code
def yX1_entryAt : MethodName := ⟨RX1, "entryAt", "(I)LSideLinkTree$Entry;"⟩
abbrev cX1_countPassed : ByteArray := prog_3_method_4_code
def yX1_countPassed : MethodName := ⟨RX1, "countPassed", "(LSideLinkTree$Entry;Z)I"⟩
abbrev cX1_holds : ByteArray := prog_3_method_5_code
def yX1_holds : MethodName := ⟨RX1, "holds", "(LSideLinkTree$Entry;)Z"⟩
abbrev cX1_pageBelow : ByteArray := prog_3_method_6_code
def yX1_pageBelow : MethodName := ⟨RX1, "pageBelow", "(LSideLinkTree$Entry;)LSideLinkTree$Page;"⟩
abbrev cX1_insert : ByteArray := prog_3_method_7_code
def yX1_insert : MethodName := ⟨RX1, "insert", "(LSideLinkTree$Entry;LSideLinkTree$Page;)V"⟩
abbrev cX1_drop : ByteArray := prog_3_method_8_code
def yX1_drop : MethodName := ⟨RX1, "drop", "(LSideLinkTree$Entry;)V"⟩
abbrev cX1_append : ByteArray := prog_3_method_9_code
def yX1_append : MethodName := ⟨RX1, "append", "(LSideLinkTree$Page;II)V"⟩
def RX2 : String := "SideLinkTree"
def TX2 : u_T := fun k => match k with
  | 0 => ("SideLinkTree", "lowOfAll", "LSideLinkTree$Entry;", true)
  | 1 => ("SideLinkTree", "highOfAll", "LSideLinkTree$Entry;", true)
  | 2 => ("SideLinkTree", "pages", "[LSideLinkTree$Page;", true)
  | 3 => ("SideLinkTree", "root", "LSideLinkTree$Page;", true)
  | 4 => ("SideLinkTree", "taken", "I", false)
  | 5 => ("SideLinkTree", "firstUnused", "I", false)
  | 6 => ("SideLinkTree", "wordsSet", "I", false)
  | 7 => ("SideLinkTree", "chargeLeft", "I", false)
  | 8 => ("SideLinkTree", "cursorEntry", "LSideLinkTree$Entry;", false)
  | 9 => ("SideLinkTree", "cursorBehind", "Z", false)
  | _ => ("SideLinkTree", "inHand", "LSideLinkTree$Entry;", false)
def tyX2 : Nat → FieldType := fun k => match k with
  | 0 => .object "SideLinkTree$Entry"
  | 1 => .object "SideLinkTree$Entry"
  | 2 => .array (.object "SideLinkTree$Page")
  | 3 => .object "SideLinkTree$Page"
  | 4 => .int
  | 5 => .int
  | 6 => .int
  | 7 => .int
  | 8 => .object "SideLinkTree$Entry"
  | 9 => .boolean
  | _ => .object "SideLinkTree$Entry"
theorem nmX2 : ∀ a, a < 11 → ∀ b, b < 11 → a ≠ b → (TX2 a).2.1 ≠ (TX2 b).2.1 := by decide +kernel
theorem tyX2_ok : ∀ k, k < 11 → parseFieldDescriptor (TX2 k).2.2.1 = some (tyX2 k) := by decide +kernel
abbrev cX2_init : ByteArray := prog_1_method_1_code
def yX2_init : MethodName := ⟨RX2, "<init>", "()V"⟩
abbrev cX2_add : ByteArray := prog_1_method_2_code
def yX2_add : MethodName := ⟨RX2, "add", "(JJJJI)I"⟩
abbrev cX2_remove : ByteArray := prog_1_method_3_code
def yX2_remove : MethodName := ⟨RX2, "remove", "(JJJJI)I"⟩
abbrev cX2_has : ByteArray := prog_1_method_4_code
def yX2_has : MethodName := ⟨RX2, "has", "(JJJJI)Z"⟩
abbrev cX2_seek : ByteArray := prog_1_method_5_code
def yX2_seek : MethodName := ⟨RX2, "seek", "(JJJJ)V"⟩
abbrev cX2_first : ByteArray := prog_1_method_6_code
def yX2_first : MethodName := ⟨RX2, "first", "()V"⟩
abbrev cX2_last : ByteArray := prog_1_method_7_code
def yX2_last : MethodName := ⟨RX2, "last", "()V"⟩
abbrev cX2_next : ByteArray := prog_1_method_8_code
def yX2_next : MethodName := ⟨RX2, "next", "()Z"⟩
abbrev cX2_back : ByteArray := prog_1_method_9_code
def yX2_back : MethodName := ⟨RX2, "back", "()Z"⟩
abbrev cX2_word : ByteArray := prog_1_method_10_code
def yX2_word : MethodName := ⟨RX2, "word", "(I)J"⟩
abbrev cX2_place : ByteArray := prog_1_method_11_code
def yX2_place : MethodName := ⟨RX2, "place", "()I"⟩
abbrev cX2_clear : ByteArray := prog_1_method_12_code
def yX2_clear : MethodName := ⟨RX2, "clear", "()V"⟩
abbrev cX2_charge : ByteArray := prog_1_method_13_code
def yX2_charge : MethodName := ⟨RX2, "charge", "(I)Z"⟩
abbrev cX2_count : ByteArray := prog_1_method_14_code
def yX2_count : MethodName := ⟨RX2, "count", "(I)I"⟩
abbrev cX2_level : ByteArray := prog_1_method_15_code
def yX2_level : MethodName := ⟨RX2, "level", "(II)I"⟩
abbrev cX2_moveCursor : ByteArray := prog_1_method_16_code
def yX2_moveCursor : MethodName := ⟨RX2, "moveCursor", "(LSideLinkTree$Entry;Z)V"⟩
abbrev cX2_setWords : ByteArray := prog_1_method_17_code
def yX2_setWords : MethodName := ⟨RX2, "setWords", "(I)Z"⟩
abbrev cX2_leftmostPage : ByteArray := prog_1_method_18_code
def yX2_leftmostPage : MethodName := ⟨RX2, "leftmostPage", "(I)LSideLinkTree$Page;"⟩
abbrev cX2_pageInCharge : ByteArray := prog_1_method_19_code
def yX2_pageInCharge : MethodName := ⟨RX2, "pageInCharge", "(ILSideLinkTree$Entry;)LSideLinkTree$Page;"⟩
abbrev cX2_goRight : ByteArray := prog_1_method_20_code
def yX2_goRight : MethodName := ⟨RX2, "goRight", "(LSideLinkTree$Page;LSideLinkTree$Entry;)LSideLinkTree$Page;"⟩
abbrev cX2_pagesNeeded : ByteArray := prog_1_method_21_code
def yX2_pagesNeeded : MethodName := ⟨RX2, "pagesNeeded", "(LSideLinkTree$Entry;)I"⟩
abbrev cX2_takePages : ByteArray := prog_1_method_22_code
def yX2_takePages : MethodName := ⟨RX2, "takePages", "(I)Z"⟩
abbrev cX2_useTakenPage : ByteArray := prog_1_method_23_code
def yX2_useTakenPage : MethodName := ⟨RX2, "useTakenPage", "(I)LSideLinkTree$Page;"⟩
abbrev cX2_put : ByteArray := prog_1_method_24_code
def yX2_put : MethodName := ⟨RX2, "put", "(ILSideLinkTree$Entry;LSideLinkTree$Page;)Z"⟩
abbrev cX2_bringInto : ByteArray := prog_1_method_25_code
def yX2_bringInto : MethodName := ⟨RX2, "bringInto", "(LSideLinkTree$Page;LSideLinkTree$Entry;LSideLinkTree$Page;)Z"⟩
abbrev cX2_splitRoot : ByteArray := prog_1_method_26_code
def yX2_splitRoot : MethodName := ⟨RX2, "splitRoot", "()Z"⟩
abbrev cX2_splitPage : ByteArray := prog_1_method_27_code
def yX2_splitPage : MethodName := ⟨RX2, "splitPage", "(LSideLinkTree$Page;)Z"⟩
def RX3 : String := "SideLinkTreeModel"
def TX3 : u_T := fun k => match k with
  | 0 => ("SideLinkTreeModel", "keyA", "[J", true)
  | 1 => ("SideLinkTreeModel", "keyB", "[J", true)
  | 2 => ("SideLinkTreeModel", "keyC", "[J", true)
  | 3 => ("SideLinkTreeModel", "keyD", "[J", true)
  | 4 => ("SideLinkTreeModel", "keyPlace", "[I", true)
  | 5 => ("SideLinkTreeModel", "keys", "I", false)
  | 6 => ("SideLinkTreeModel", "item", "[I", true)
  | 7 => ("SideLinkTreeModel", "itemLevel", "[I", true)
  | 8 => ("SideLinkTreeModel", "items", "I", false)
  | 9 => ("SideLinkTreeModel", "low", "[I", true)
  | 10 => ("SideLinkTreeModel", "lowLevel", "[I", true)
  | 11 => ("SideLinkTreeModel", "owing", "[Z", true)
  | 12 => ("SideLinkTreeModel", "lows", "I", false)
  | 13 => ("SideLinkTreeModel", "levels", "I", false)
  | 14 => ("SideLinkTreeModel", "taken", "I", false)
  | 15 => ("SideLinkTreeModel", "sets", "I", false)
  | 16 => ("SideLinkTreeModel", "left", "I", false)
  | 17 => ("SideLinkTreeModel", "unbounded", "Z", false)
  | 18 => ("SideLinkTreeModel", "comes", "[I", true)
  | 19 => ("SideLinkTreeModel", "cursorSide", "I", false)
  | 20 => ("SideLinkTreeModel", "cursorKey", "I", false)
  | 21 => ("SideLinkTreeModel", "cursorBehind", "Z", false)
  | _ => ("SideLinkTreeModel", "hand", "I", false)
def tyX3 : Nat → FieldType := fun k => match k with
  | 0 => .array .long
  | 1 => .array .long
  | 2 => .array .long
  | 3 => .array .long
  | 4 => .array .int
  | 5 => .int
  | 6 => .array .int
  | 7 => .array .int
  | 8 => .int
  | 9 => .array .int
  | 10 => .array .int
  | 11 => .array .boolean
  | 12 => .int
  | 13 => .int
  | 14 => .int
  | 15 => .int
  | 16 => .int
  | 17 => .boolean
  | 18 => .array .int
  | 19 => .int
  | 20 => .int
  | 21 => .boolean
  | _ => .int
theorem nmX3 : ∀ a, a < 23 → ∀ b, b < 23 → a ≠ b → (TX3 a).2.1 ≠ (TX3 b).2.1 := by decide +kernel
theorem tyX3_ok : ∀ k, k < 23 → parseFieldDescriptor (TX3 k).2.2.1 = some (tyX3 k) := by decide +kernel
abbrev cX3_init : ByteArray := prog_5_method_1_code
def yX3_init : MethodName := ⟨RX3, "<init>", "()V"⟩
abbrev cX3_unsigned : ByteArray := prog_5_method_2_code
def yX3_unsigned : MethodName := ⟨RX3, "unsigned", "(JJ)I"⟩
abbrev cX3_order : ByteArray := prog_5_method_3_code
def yX3_order : MethodName := ⟨RX3, "order", "(II)I"⟩
abbrev cX3_numbered : ByteArray := prog_5_method_4_code
def yX3_numbered : MethodName := ⟨RX3, "numbered", "(JJJJI)I"⟩
abbrev cX3_inCharge : ByteArray := prog_5_method_5_code
def yX3_inCharge : MethodName := ⟨RX3, "inCharge", "(II)I"⟩
abbrev cX3_filled : ByteArray := prog_5_method_6_code
def yX3_filled : MethodName := ⟨RX3, "filled", "(I)I"⟩
abbrev cX3_sixth : ByteArray := prog_5_method_7_code
def yX3_sixth : MethodName := ⟨RX3, "sixth", "(I)I"⟩
abbrev cX3_addPage : ByteArray := prog_5_method_8_code
def yX3_addPage : MethodName := ⟨RX3, "addPage", "(II)V"⟩
abbrev cX3_addItem : ByteArray := prog_5_method_9_code
def yX3_addItem : MethodName := ⟨RX3, "addItem", "(II)V"⟩
abbrev cX3_set : ByteArray := prog_5_method_10_code
def yX3_set : MethodName := ⟨RX3, "set", "(I)Z"⟩
abbrev cX3_charge : ByteArray := prog_5_method_11_code
def yX3_charge : MethodName := ⟨RX3, "charge", "(I)Z"⟩
abbrev cX3_plan : ByteArray := prog_5_method_12_code
def yX3_plan : MethodName := ⟨RX3, "plan", "(I)I"⟩
abbrev cX3_split : ByteArray := prog_5_method_13_code
def yX3_split : MethodName := ⟨RX3, "split", "(III)Z"⟩
abbrev cX3_enter : ByteArray := prog_5_method_14_code
def yX3_enter : MethodName := ⟨RX3, "enter", "(II)Z"⟩
abbrev cX3_perform : ByteArray := prog_5_method_15_code
def yX3_perform : MethodName := ⟨RX3, "perform", "(IZ)Z"⟩
abbrev cX3_add : ByteArray := prog_5_method_16_code
def yX3_add : MethodName := ⟨RX3, "add", "(JJJJI)I"⟩
abbrev cX3_itemOf : ByteArray := prog_5_method_17_code
def yX3_itemOf : MethodName := ⟨RX3, "itemOf", "(I)I"⟩
abbrev cX3_remove : ByteArray := prog_5_method_18_code
def yX3_remove : MethodName := ⟨RX3, "remove", "(JJJJI)I"⟩
abbrev cX3_has : ByteArray := prog_5_method_19_code
def yX3_has : MethodName := ⟨RX3, "has", "(JJJJI)Z"⟩
abbrev cX3_clear : ByteArray := prog_5_method_20_code
def yX3_clear : MethodName := ⟨RX3, "clear", "()V"⟩
abbrev cX3_seek : ByteArray := prog_5_method_21_code
def yX3_seek : MethodName := ⟨RX3, "seek", "(JJJJ)V"⟩
abbrev cX3_stand : ByteArray := prog_5_method_22_code
def yX3_stand : MethodName := ⟨RX3, "stand", "(IZ)V"⟩
abbrev cX3_first : ByteArray := prog_5_method_23_code
def yX3_first : MethodName := ⟨RX3, "first", "()V"⟩
abbrev cX3_last : ByteArray := prog_5_method_24_code
def yX3_last : MethodName := ⟨RX3, "last", "()V"⟩
abbrev cX3_behind : ByteArray := prog_5_method_25_code
def yX3_behind : MethodName := ⟨RX3, "behind", "(I)Z"⟩
abbrev cX3_next : ByteArray := prog_5_method_26_code
def yX3_next : MethodName := ⟨RX3, "next", "()Z"⟩
abbrev cX3_back : ByteArray := prog_5_method_27_code
def yX3_back : MethodName := ⟨RX3, "back", "()Z"⟩
abbrev cX3_word : ByteArray := prog_5_method_28_code
def yX3_word : MethodName := ⟨RX3, "word", "(I)J"⟩
abbrev cX3_place : ByteArray := prog_5_method_29_code
def yX3_place : MethodName := ⟨RX3, "place", "()I"⟩
abbrev cX3_entriesOf : ByteArray := prog_5_method_30_code
def yX3_entriesOf : MethodName := ⟨RX3, "entriesOf", "(I)I"⟩
abbrev cX3_count : ByteArray := prog_5_method_31_code
def yX3_count : MethodName := ⟨RX3, "count", "(I)I"⟩
abbrev cX3_leftOf : ByteArray := prog_5_method_32_code
def yX3_leftOf : MethodName := ⟨RX3, "leftOf", "(I)I"⟩
abbrev cX3_level : ByteArray := prog_5_method_33_code
def yX3_level : MethodName := ⟨RX3, "level", "(II)I"⟩
def RJ6 : String := "java/lang/Integer"
abbrev cJ6_compare_7cf53 : ByteArray := prog_6_method_40_code
def yJ6_compare_7cf53 : MethodName := ⟨RJ6, "compare", "(II)I"⟩
def RJ13 : String := "java/lang/Long"
abbrev cJ13_compare_74951 : ByteArray := prog_7_method_42_code
def yJ13_compare_74951 : MethodName := ⟨RJ13, "compare", "(JJ)I"⟩
abbrev cJ13_compareUnsigned_74951 : ByteArray := prog_7_method_43_code
def yJ13_compareUnsigned_74951 : MethodName := ⟨RJ13, "compareUnsigned", "(JJ)I"⟩
def RL : String := "SideLinkTreeLaw"
abbrev cL_law : ByteArray := code
def yL_law : MethodName := ⟨RL, "law", "([I)Z"⟩
abbrev vwCl : List vw_C := [(RX0, TX0, 5), (RX1, TX1, 7), (RX2, TX2, 11), (RX3, TX3, 23)]
end
section
theorem dX0_init_0 : decode cX0_init 0 = .ok (.aload_n 0, 1) := by decide +kernel
theorem dX0_init_1 : decode cX0_init 1 = .ok (.invokespecial 1, 3) := by decide +kernel
theorem dX0_init_4 : decode cX0_init 4 = .ok (.aload_n 0, 1) := by decide +kernel
theorem dX0_init_5 : decode cX0_init 5 = .ok (.lload_n 1, 1) := by decide +kernel
theorem dX0_init_6 : decode cX0_init 6 = .ok (.putfield 7, 3) := by decide +kernel
theorem dX0_init_9 : decode cX0_init 9 = .ok (.aload_n 0, 1) := by decide +kernel
theorem dX0_init_10 : decode cX0_init 10 = .ok (.lload_n 3, 1) := by decide +kernel
theorem dX0_init_11 : decode cX0_init 11 = .ok (.putfield 13, 3) := by decide +kernel
theorem dX0_init_14 : decode cX0_init 14 = .ok (.aload_n 0, 1) := by decide +kernel
theorem dX0_init_15 : decode cX0_init 15 = .ok (.lload 5, 2) := by decide +kernel
theorem dX0_init_17 : decode cX0_init 17 = .ok (.putfield 16, 3) := by decide +kernel
theorem dX0_init_20 : decode cX0_init 20 = .ok (.aload_n 0, 1) := by decide +kernel
theorem dX0_init_21 : decode cX0_init 21 = .ok (.lload 7, 2) := by decide +kernel
theorem dX0_init_23 : decode cX0_init 23 = .ok (.putfield 19, 3) := by decide +kernel
theorem dX0_init_26 : decode cX0_init 26 = .ok (.aload_n 0, 1) := by decide +kernel
theorem dX0_init_27 : decode cX0_init 27 = .ok (.iload 9, 2) := by decide +kernel
theorem dX0_init_29 : decode cX0_init 29 = .ok (.putfield 22, 3) := by decide +kernel
theorem dX0_init_32 : decode cX0_init 32 = .ok (.return_, 1) := by decide +kernel
theorem dX0_compareWith_0 : decode cX0_compareWith 0 = .ok (.aload_n 0, 1) := by decide +kernel
theorem dX0_compareWith_1 : decode cX0_compareWith 1 = .ok (.getfield 7, 3) := by decide +kernel
theorem dX0_compareWith_4 : decode cX0_compareWith 4 = .ok (.aload_n 1, 1) := by decide +kernel
theorem dX0_compareWith_5 : decode cX0_compareWith 5 = .ok (.getfield 7, 3) := by decide +kernel
theorem dX0_compareWith_8 : decode cX0_compareWith 8 = .ok (.invokestatic 26, 3) := by decide +kernel
theorem dX0_compareWith_11 : decode cX0_compareWith 11 = .ok (.istore_n 2, 1) := by decide +kernel
theorem dX0_compareWith_12 : decode cX0_compareWith 12 = .ok (.iload_n 2, 1) := by decide +kernel
theorem dX0_compareWith_13 : decode cX0_compareWith 13 = .ok (.ifCond .ne 15, 3) := by decide +kernel
theorem dX0_compareWith_16 : decode cX0_compareWith 16 = .ok (.aload_n 0, 1) := by decide +kernel
theorem dX0_compareWith_17 : decode cX0_compareWith 17 = .ok (.getfield 13, 3) := by decide +kernel
theorem dX0_compareWith_20 : decode cX0_compareWith 20 = .ok (.aload_n 1, 1) := by decide +kernel
theorem dX0_compareWith_21 : decode cX0_compareWith 21 = .ok (.getfield 13, 3) := by decide +kernel
theorem dX0_compareWith_24 : decode cX0_compareWith 24 = .ok (.invokestatic 26, 3) := by decide +kernel
theorem dX0_compareWith_27 : decode cX0_compareWith 27 = .ok (.istore_n 2, 1) := by decide +kernel
theorem dX0_compareWith_28 : decode cX0_compareWith 28 = .ok (.iload_n 2, 1) := by decide +kernel
theorem dX0_compareWith_29 : decode cX0_compareWith 29 = .ok (.ifCond .ne 15, 3) := by decide +kernel
theorem dX0_compareWith_32 : decode cX0_compareWith 32 = .ok (.aload_n 0, 1) := by decide +kernel
theorem dX0_compareWith_33 : decode cX0_compareWith 33 = .ok (.getfield 16, 3) := by decide +kernel
theorem dX0_compareWith_36 : decode cX0_compareWith 36 = .ok (.aload_n 1, 1) := by decide +kernel
theorem dX0_compareWith_37 : decode cX0_compareWith 37 = .ok (.getfield 16, 3) := by decide +kernel
theorem dX0_compareWith_40 : decode cX0_compareWith 40 = .ok (.invokestatic 26, 3) := by decide +kernel
theorem dX0_compareWith_43 : decode cX0_compareWith 43 = .ok (.istore_n 2, 1) := by decide +kernel
theorem dX0_compareWith_44 : decode cX0_compareWith 44 = .ok (.iload_n 2, 1) := by decide +kernel
theorem dX0_compareWith_45 : decode cX0_compareWith 45 = .ok (.ifCond .ne 15, 3) := by decide +kernel
theorem dX0_compareWith_48 : decode cX0_compareWith 48 = .ok (.aload_n 0, 1) := by decide +kernel
theorem dX0_compareWith_49 : decode cX0_compareWith 49 = .ok (.getfield 19, 3) := by decide +kernel
theorem dX0_compareWith_52 : decode cX0_compareWith 52 = .ok (.aload_n 1, 1) := by decide +kernel
theorem dX0_compareWith_53 : decode cX0_compareWith 53 = .ok (.getfield 19, 3) := by decide +kernel
theorem dX0_compareWith_56 : decode cX0_compareWith 56 = .ok (.invokestatic 26, 3) := by decide +kernel
theorem dX0_compareWith_59 : decode cX0_compareWith 59 = .ok (.istore_n 2, 1) := by decide +kernel
theorem dX0_compareWith_60 : decode cX0_compareWith 60 = .ok (.iload_n 2, 1) := by decide +kernel
theorem dX0_compareWith_61 : decode cX0_compareWith 61 = .ok (.ifCond .eq 7, 3) := by decide +kernel
theorem dX0_compareWith_64 : decode cX0_compareWith 64 = .ok (.iload_n 2, 1) := by decide +kernel
theorem dX0_compareWith_65 : decode cX0_compareWith 65 = .ok (.goto 14, 3) := by decide +kernel
theorem dX0_compareWith_68 : decode cX0_compareWith 68 = .ok (.aload_n 0, 1) := by decide +kernel
theorem dX0_compareWith_69 : decode cX0_compareWith 69 = .ok (.getfield 22, 3) := by decide +kernel
theorem dX0_compareWith_72 : decode cX0_compareWith 72 = .ok (.aload_n 1, 1) := by decide +kernel
theorem dX0_compareWith_73 : decode cX0_compareWith 73 = .ok (.getfield 22, 3) := by decide +kernel
theorem dX0_compareWith_76 : decode cX0_compareWith 76 = .ok (.invokestatic 32, 3) := by decide +kernel
theorem dX0_compareWith_79 : decode cX0_compareWith 79 = .ok (.ireturn, 1) := by decide +kernel
theorem dX1_init_0 : decode cX1_init 0 = .ok (.aload_n 0, 1) := by decide +kernel
theorem dX1_init_1 : decode cX1_init 1 = .ok (.invokespecial 3, 3) := by decide +kernel
theorem dX1_init_4 : decode cX1_init 4 = .ok (.aload_n 0, 1) := by decide +kernel
theorem dX1_init_5 : decode cX1_init 5 = .ok (.bipush 10, 2) := by decide +kernel
theorem dX1_init_7 : decode cX1_init 7 = .ok (.anewarray 9, 3) := by decide +kernel
theorem dX1_init_10 : decode cX1_init 10 = .ok (.putfield 11, 3) := by decide +kernel
theorem dX1_init_13 : decode cX1_init 13 = .ok (.aload_n 0, 1) := by decide +kernel
theorem dX1_init_14 : decode cX1_init 14 = .ok (.bipush 10, 2) := by decide +kernel
theorem dX1_init_16 : decode cX1_init 16 = .ok (.anewarray 12, 3) := by decide +kernel
theorem dX1_init_19 : decode cX1_init 19 = .ok (.putfield 17, 3) := by decide +kernel
theorem dX1_init_22 : decode cX1_init 22 = .ok (.iconst 0, 1) := by decide +kernel
theorem dX1_init_23 : decode cX1_init 23 = .ok (.istore_n 2, 1) := by decide +kernel
theorem dX1_init_24 : decode cX1_init 24 = .ok (.iload_n 2, 1) := by decide +kernel
theorem dX1_init_25 : decode cX1_init 25 = .ok (.bipush 10, 2) := by decide +kernel
theorem dX1_init_27 : decode cX1_init 27 = .ok (.if_icmp .ge 16, 3) := by decide +kernel
theorem dX1_init_30 : decode cX1_init 30 = .ok (.aload_n 0, 1) := by decide +kernel
theorem dX1_init_31 : decode cX1_init 31 = .ok (.getfield 11, 3) := by decide +kernel
theorem dX1_init_34 : decode cX1_init 34 = .ok (.iload_n 2, 1) := by decide +kernel
theorem dX1_init_35 : decode cX1_init 35 = .ok (.aload_n 1, 1) := by decide +kernel
theorem dX1_init_36 : decode cX1_init 36 = .ok (.aastore, 1) := by decide +kernel
theorem dX1_init_37 : decode cX1_init 37 = .ok (.iinc 2 1, 3) := by decide +kernel
theorem dX1_init_40 : decode cX1_init 40 = .ok (.goto (-16), 3) := by decide +kernel
theorem dX1_init_43 : decode cX1_init 43 = .ok (.aload_n 0, 1) := by decide +kernel
theorem dX1_init_44 : decode cX1_init 44 = .ok (.aload_n 1, 1) := by decide +kernel
theorem dX1_init_45 : decode cX1_init 45 = .ok (.putfield 21, 3) := by decide +kernel
theorem dX1_init_48 : decode cX1_init 48 = .ok (.return_, 1) := by decide +kernel
theorem dX1_reset_0 : decode cX1_reset 0 = .ok (.aload_n 0, 1) := by decide +kernel
theorem dX1_reset_1 : decode cX1_reset 1 = .ok (.iconst 0, 1) := by decide +kernel
theorem dX1_reset_2 : decode cX1_reset 2 = .ok (.putfield 25, 3) := by decide +kernel
theorem dX1_reset_5 : decode cX1_reset 5 = .ok (.aload_n 0, 1) := by decide +kernel
theorem dX1_reset_6 : decode cX1_reset 6 = .ok (.iload_n 1, 1) := by decide +kernel
theorem dX1_reset_7 : decode cX1_reset 7 = .ok (.putfield 29, 3) := by decide +kernel
theorem dX1_reset_10 : decode cX1_reset 10 = .ok (.aload_n 0, 1) := by decide +kernel
theorem dX1_reset_11 : decode cX1_reset 11 = .ok (.aload_n 2, 1) := by decide +kernel
theorem dX1_reset_12 : decode cX1_reset 12 = .ok (.putfield 21, 3) := by decide +kernel
theorem dX1_reset_15 : decode cX1_reset 15 = .ok (.aload_n 0, 1) := by decide +kernel
theorem dX1_reset_16 : decode cX1_reset 16 = .ok (.aconst_null, 1) := by decide +kernel
theorem dX1_reset_17 : decode cX1_reset 17 = .ok (.putfield 32, 3) := by decide +kernel
theorem dX1_reset_20 : decode cX1_reset 20 = .ok (.aload_n 0, 1) := by decide +kernel
theorem dX1_reset_21 : decode cX1_reset 21 = .ok (.iconst 0, 1) := by decide +kernel
theorem dX1_reset_22 : decode cX1_reset 22 = .ok (.putfield 36, 3) := by decide +kernel
theorem dX1_reset_25 : decode cX1_reset 25 = .ok (.return_, 1) := by decide +kernel
theorem dX1_entryAt_0 : decode cX1_entryAt 0 = .ok (.iload_n 1, 1) := by decide +kernel
theorem dX1_entryAt_1 : decode cX1_entryAt 1 = .ok (.ifCond .lt 21, 3) := by decide +kernel
theorem dX1_entryAt_4 : decode cX1_entryAt 4 = .ok (.iload_n 1, 1) := by decide +kernel
theorem dX1_entryAt_5 : decode cX1_entryAt 5 = .ok (.aload_n 0, 1) := by decide +kernel
theorem dX1_entryAt_6 : decode cX1_entryAt 6 = .ok (.getfield 11, 3) := by decide +kernel
theorem dX1_entryAt_9 : decode cX1_entryAt 9 = .ok (.arraylength, 1) := by decide +kernel
theorem dX1_entryAt_10 : decode cX1_entryAt 10 = .ok (.if_icmp .ge 12, 3) := by decide +kernel
theorem dX1_entryAt_13 : decode cX1_entryAt 13 = .ok (.aload_n 0, 1) := by decide +kernel
theorem dX1_entryAt_14 : decode cX1_entryAt 14 = .ok (.getfield 11, 3) := by decide +kernel
theorem dX1_entryAt_17 : decode cX1_entryAt 17 = .ok (.iload_n 1, 1) := by decide +kernel
theorem dX1_entryAt_18 : decode cX1_entryAt 18 = .ok (.aaload, 1) := by decide +kernel
theorem dX1_entryAt_19 : decode cX1_entryAt 19 = .ok (.goto 7, 3) := by decide +kernel
theorem dX1_entryAt_22 : decode cX1_entryAt 22 = .ok (.aload_n 0, 1) := by decide +kernel
theorem dX1_entryAt_23 : decode cX1_entryAt 23 = .ok (.getfield 21, 3) := by decide +kernel
theorem dX1_entryAt_26 : decode cX1_entryAt 26 = .ok (.areturn, 1) := by decide +kernel
theorem dX1_countPassed_0 : decode cX1_countPassed 0 = .ok (.iconst 0, 1) := by decide +kernel
theorem dX1_countPassed_1 : decode cX1_countPassed 1 = .ok (.istore_n 3, 1) := by decide +kernel
theorem dX1_countPassed_2 : decode cX1_countPassed 2 = .ok (.iload_n 3, 1) := by decide +kernel
theorem dX1_countPassed_3 : decode cX1_countPassed 3 = .ok (.aload_n 0, 1) := by decide +kernel
theorem dX1_countPassed_4 : decode cX1_countPassed 4 = .ok (.getfield 25, 3) := by decide +kernel
theorem dX1_countPassed_7 : decode cX1_countPassed 7 = .ok (.if_icmp .ge 46, 3) := by decide +kernel
theorem dX1_countPassed_10 : decode cX1_countPassed 10 = .ok (.iload_n 3, 1) := by decide +kernel
theorem dX1_countPassed_11 : decode cX1_countPassed 11 = .ok (.aload_n 0, 1) := by decide +kernel
theorem dX1_countPassed_12 : decode cX1_countPassed 12 = .ok (.getfield 11, 3) := by decide +kernel
theorem dX1_countPassed_15 : decode cX1_countPassed 15 = .ok (.arraylength, 1) := by decide +kernel
theorem dX1_countPassed_16 : decode cX1_countPassed 16 = .ok (.if_icmp .ge 37, 3) := by decide +kernel
theorem dX1_countPassed_19 : decode cX1_countPassed 19 = .ok (.aload_n 0, 1) := by decide +kernel
theorem dX1_countPassed_20 : decode cX1_countPassed 20 = .ok (.getfield 11, 3) := by decide +kernel
theorem dX1_countPassed_23 : decode cX1_countPassed 23 = .ok (.iload_n 3, 1) := by decide +kernel
theorem dX1_countPassed_24 : decode cX1_countPassed 24 = .ok (.aaload, 1) := by decide +kernel
theorem dX1_countPassed_25 : decode cX1_countPassed 25 = .ok (.aload_n 1, 1) := by decide +kernel
theorem dX1_countPassed_26 : decode cX1_countPassed 26 = .ok (.invokevirtual 40, 3) := by decide +kernel
theorem dX1_countPassed_29 : decode cX1_countPassed 29 = .ok (.istore 4, 2) := by decide +kernel
theorem dX1_countPassed_31 : decode cX1_countPassed 31 = .ok (.iload 4, 2) := by decide +kernel
theorem dX1_countPassed_33 : decode cX1_countPassed 33 = .ok (.ifCond .gt 12, 3) := by decide +kernel
theorem dX1_countPassed_36 : decode cX1_countPassed 36 = .ok (.iload 4, 2) := by decide +kernel
theorem dX1_countPassed_38 : decode cX1_countPassed 38 = .ok (.ifCond .ne 9, 3) := by decide +kernel
theorem dX1_countPassed_41 : decode cX1_countPassed 41 = .ok (.iload_n 2, 1) := by decide +kernel
theorem dX1_countPassed_42 : decode cX1_countPassed 42 = .ok (.ifCond .ne 5, 3) := by decide +kernel
theorem dX1_countPassed_45 : decode cX1_countPassed 45 = .ok (.iload_n 3, 1) := by decide +kernel
theorem dX1_countPassed_46 : decode cX1_countPassed 46 = .ok (.ireturn, 1) := by decide +kernel
theorem dX1_countPassed_47 : decode cX1_countPassed 47 = .ok (.iinc 3 1, 3) := by decide +kernel
theorem dX1_countPassed_50 : decode cX1_countPassed 50 = .ok (.goto (-48), 3) := by decide +kernel
theorem dX1_countPassed_53 : decode cX1_countPassed 53 = .ok (.iload_n 3, 1) := by decide +kernel
theorem dX1_countPassed_54 : decode cX1_countPassed 54 = .ok (.ireturn, 1) := by decide +kernel
theorem dX1_holds_0 : decode cX1_holds 0 = .ok (.aload_n 0, 1) := by decide +kernel
theorem dX1_holds_1 : decode cX1_holds 1 = .ok (.aload_n 1, 1) := by decide +kernel
theorem dX1_holds_2 : decode cX1_holds 2 = .ok (.iconst 1, 1) := by decide +kernel
theorem dX1_holds_3 : decode cX1_holds 3 = .ok (.invokevirtual 44, 3) := by decide +kernel
theorem dX1_holds_6 : decode cX1_holds 6 = .ok (.aload_n 0, 1) := by decide +kernel
theorem dX1_holds_7 : decode cX1_holds 7 = .ok (.aload_n 1, 1) := by decide +kernel
theorem dX1_holds_8 : decode cX1_holds 8 = .ok (.iconst 0, 1) := by decide +kernel
theorem dX1_holds_9 : decode cX1_holds 9 = .ok (.invokevirtual 44, 3) := by decide +kernel
theorem dX1_holds_12 : decode cX1_holds 12 = .ok (.if_icmp .le 7, 3) := by decide +kernel
theorem dX1_holds_15 : decode cX1_holds 15 = .ok (.iconst 1, 1) := by decide +kernel
theorem dX1_holds_16 : decode cX1_holds 16 = .ok (.goto 4, 3) := by decide +kernel
theorem dX1_holds_19 : decode cX1_holds 19 = .ok (.iconst 0, 1) := by decide +kernel
theorem dX1_holds_20 : decode cX1_holds 20 = .ok (.ireturn, 1) := by decide +kernel
theorem dX1_pageBelow_0 : decode cX1_pageBelow 0 = .ok (.aload_n 0, 1) := by decide +kernel
theorem dX1_pageBelow_1 : decode cX1_pageBelow 1 = .ok (.aload_n 1, 1) := by decide +kernel
theorem dX1_pageBelow_2 : decode cX1_pageBelow 2 = .ok (.iconst 1, 1) := by decide +kernel
theorem dX1_pageBelow_3 : decode cX1_pageBelow 3 = .ok (.invokevirtual 44, 3) := by decide +kernel
theorem dX1_pageBelow_6 : decode cX1_pageBelow 6 = .ok (.iconst 1, 1) := by decide +kernel
theorem dX1_pageBelow_7 : decode cX1_pageBelow 7 = .ok (.isub, 1) := by decide +kernel
theorem dX1_pageBelow_8 : decode cX1_pageBelow 8 = .ok (.istore_n 2, 1) := by decide +kernel
theorem dX1_pageBelow_9 : decode cX1_pageBelow 9 = .ok (.iload_n 2, 1) := by decide +kernel
theorem dX1_pageBelow_10 : decode cX1_pageBelow 10 = .ok (.ifCond .lt 21, 3) := by decide +kernel
theorem dX1_pageBelow_13 : decode cX1_pageBelow 13 = .ok (.iload_n 2, 1) := by decide +kernel
theorem dX1_pageBelow_14 : decode cX1_pageBelow 14 = .ok (.aload_n 0, 1) := by decide +kernel
theorem dX1_pageBelow_15 : decode cX1_pageBelow 15 = .ok (.getfield 17, 3) := by decide +kernel
theorem dX1_pageBelow_18 : decode cX1_pageBelow 18 = .ok (.arraylength, 1) := by decide +kernel
theorem dX1_pageBelow_19 : decode cX1_pageBelow 19 = .ok (.if_icmp .ge 12, 3) := by decide +kernel
theorem dX1_pageBelow_22 : decode cX1_pageBelow 22 = .ok (.aload_n 0, 1) := by decide +kernel
theorem dX1_pageBelow_23 : decode cX1_pageBelow 23 = .ok (.getfield 17, 3) := by decide +kernel
theorem dX1_pageBelow_26 : decode cX1_pageBelow 26 = .ok (.iload_n 2, 1) := by decide +kernel
theorem dX1_pageBelow_27 : decode cX1_pageBelow 27 = .ok (.aaload, 1) := by decide +kernel
theorem dX1_pageBelow_28 : decode cX1_pageBelow 28 = .ok (.goto 4, 3) := by decide +kernel
theorem dX1_pageBelow_31 : decode cX1_pageBelow 31 = .ok (.aconst_null, 1) := by decide +kernel
theorem dX1_pageBelow_32 : decode cX1_pageBelow 32 = .ok (.areturn, 1) := by decide +kernel
theorem dX1_insert_0 : decode cX1_insert 0 = .ok (.aload_n 0, 1) := by decide +kernel
theorem dX1_insert_1 : decode cX1_insert 1 = .ok (.getfield 25, 3) := by decide +kernel
theorem dX1_insert_4 : decode cX1_insert 4 = .ok (.ifCond .lt 12, 3) := by decide +kernel
theorem dX1_insert_7 : decode cX1_insert 7 = .ok (.aload_n 0, 1) := by decide +kernel
theorem dX1_insert_8 : decode cX1_insert 8 = .ok (.getfield 25, 3) := by decide +kernel
theorem dX1_insert_11 : decode cX1_insert 11 = .ok (.bipush 10, 2) := by decide +kernel
theorem dX1_insert_13 : decode cX1_insert 13 = .ok (.if_icmp .lt 4, 3) := by decide +kernel
theorem dX1_insert_16 : decode cX1_insert 16 = .ok (.return_, 1) := by decide +kernel
theorem dX1_insert_17 : decode cX1_insert 17 = .ok (.aload_n 0, 1) := by decide +kernel
theorem dX1_insert_18 : decode cX1_insert 18 = .ok (.aload_n 1, 1) := by decide +kernel
theorem dX1_insert_19 : decode cX1_insert 19 = .ok (.iconst 0, 1) := by decide +kernel
theorem dX1_insert_20 : decode cX1_insert 20 = .ok (.invokevirtual 44, 3) := by decide +kernel
theorem dX1_insert_23 : decode cX1_insert 23 = .ok (.istore_n 3, 1) := by decide +kernel
theorem dX1_insert_24 : decode cX1_insert 24 = .ok (.aload_n 0, 1) := by decide +kernel
theorem dX1_insert_25 : decode cX1_insert 25 = .ok (.getfield 25, 3) := by decide +kernel
theorem dX1_insert_28 : decode cX1_insert 28 = .ok (.istore 4, 2) := by decide +kernel
theorem dX1_insert_30 : decode cX1_insert 30 = .ok (.iload 4, 2) := by decide +kernel
theorem dX1_insert_32 : decode cX1_insert 32 = .ok (.iload_n 3, 1) := by decide +kernel
theorem dX1_insert_33 : decode cX1_insert 33 = .ok (.if_icmp .le 41, 3) := by decide +kernel
theorem dX1_insert_36 : decode cX1_insert 36 = .ok (.aload_n 0, 1) := by decide +kernel
theorem dX1_insert_37 : decode cX1_insert 37 = .ok (.getfield 11, 3) := by decide +kernel
theorem dX1_insert_40 : decode cX1_insert 40 = .ok (.iload 4, 2) := by decide +kernel
theorem dX1_insert_42 : decode cX1_insert 42 = .ok (.aload_n 0, 1) := by decide +kernel
theorem dX1_insert_43 : decode cX1_insert 43 = .ok (.getfield 11, 3) := by decide +kernel
theorem dX1_insert_46 : decode cX1_insert 46 = .ok (.iload 4, 2) := by decide +kernel
theorem dX1_insert_48 : decode cX1_insert 48 = .ok (.iconst 1, 1) := by decide +kernel
theorem dX1_insert_49 : decode cX1_insert 49 = .ok (.isub, 1) := by decide +kernel
theorem dX1_insert_50 : decode cX1_insert 50 = .ok (.aaload, 1) := by decide +kernel
theorem dX1_insert_51 : decode cX1_insert 51 = .ok (.aastore, 1) := by decide +kernel
theorem dX1_insert_52 : decode cX1_insert 52 = .ok (.aload_n 0, 1) := by decide +kernel
theorem dX1_insert_53 : decode cX1_insert 53 = .ok (.getfield 17, 3) := by decide +kernel
theorem dX1_insert_56 : decode cX1_insert 56 = .ok (.iload 4, 2) := by decide +kernel
theorem dX1_insert_58 : decode cX1_insert 58 = .ok (.aload_n 0, 1) := by decide +kernel
theorem dX1_insert_59 : decode cX1_insert 59 = .ok (.getfield 17, 3) := by decide +kernel
theorem dX1_insert_62 : decode cX1_insert 62 = .ok (.iload 4, 2) := by decide +kernel
theorem dX1_insert_64 : decode cX1_insert 64 = .ok (.iconst 1, 1) := by decide +kernel
theorem dX1_insert_65 : decode cX1_insert 65 = .ok (.isub, 1) := by decide +kernel
theorem dX1_insert_66 : decode cX1_insert 66 = .ok (.aaload, 1) := by decide +kernel
theorem dX1_insert_67 : decode cX1_insert 67 = .ok (.aastore, 1) := by decide +kernel
theorem dX1_insert_68 : decode cX1_insert 68 = .ok (.iinc 4 (-1), 3) := by decide +kernel
theorem dX1_insert_71 : decode cX1_insert 71 = .ok (.goto (-41), 3) := by decide +kernel
theorem dX1_insert_74 : decode cX1_insert 74 = .ok (.aload_n 0, 1) := by decide +kernel
theorem dX1_insert_75 : decode cX1_insert 75 = .ok (.getfield 11, 3) := by decide +kernel
theorem dX1_insert_78 : decode cX1_insert 78 = .ok (.iload_n 3, 1) := by decide +kernel
theorem dX1_insert_79 : decode cX1_insert 79 = .ok (.aload_n 1, 1) := by decide +kernel
theorem dX1_insert_80 : decode cX1_insert 80 = .ok (.aastore, 1) := by decide +kernel
theorem dX1_insert_81 : decode cX1_insert 81 = .ok (.aload_n 0, 1) := by decide +kernel
theorem dX1_insert_82 : decode cX1_insert 82 = .ok (.getfield 17, 3) := by decide +kernel
theorem dX1_insert_85 : decode cX1_insert 85 = .ok (.iload_n 3, 1) := by decide +kernel
theorem dX1_insert_86 : decode cX1_insert 86 = .ok (.aload_n 2, 1) := by decide +kernel
theorem dX1_insert_87 : decode cX1_insert 87 = .ok (.aastore, 1) := by decide +kernel
theorem dX1_insert_88 : decode cX1_insert 88 = .ok (.aload_n 0, 1) := by decide +kernel
theorem dX1_insert_89 : decode cX1_insert 89 = .ok (.dup, 1) := by decide +kernel
theorem dX1_insert_90 : decode cX1_insert 90 = .ok (.getfield 25, 3) := by decide +kernel
theorem dX1_insert_93 : decode cX1_insert 93 = .ok (.iconst 1, 1) := by decide +kernel
theorem dX1_insert_94 : decode cX1_insert 94 = .ok (.iadd, 1) := by decide +kernel
theorem dX1_insert_95 : decode cX1_insert 95 = .ok (.putfield 25, 3) := by decide +kernel
theorem dX1_insert_98 : decode cX1_insert 98 = .ok (.return_, 1) := by decide +kernel
theorem dX1_drop_0 : decode cX1_drop 0 = .ok (.aload_n 0, 1) := by decide +kernel
theorem dX1_drop_1 : decode cX1_drop 1 = .ok (.aload_n 1, 1) := by decide +kernel
theorem dX1_drop_2 : decode cX1_drop 2 = .ok (.invokevirtual 48, 3) := by decide +kernel
theorem dX1_drop_5 : decode cX1_drop 5 = .ok (.ifCond .ne 4, 3) := by decide +kernel
theorem dX1_drop_8 : decode cX1_drop 8 = .ok (.return_, 1) := by decide +kernel
theorem dX1_drop_9 : decode cX1_drop 9 = .ok (.aload_n 0, 1) := by decide +kernel
theorem dX1_drop_10 : decode cX1_drop 10 = .ok (.aload_n 1, 1) := by decide +kernel
theorem dX1_drop_11 : decode cX1_drop 11 = .ok (.iconst 0, 1) := by decide +kernel
theorem dX1_drop_12 : decode cX1_drop 12 = .ok (.invokevirtual 44, 3) := by decide +kernel
theorem dX1_drop_15 : decode cX1_drop 15 = .ok (.istore_n 2, 1) := by decide +kernel
theorem dX1_drop_16 : decode cX1_drop 16 = .ok (.iload_n 2, 1) := by decide +kernel
theorem dX1_drop_17 : decode cX1_drop 17 = .ok (.aload_n 0, 1) := by decide +kernel
theorem dX1_drop_18 : decode cX1_drop 18 = .ok (.getfield 25, 3) := by decide +kernel
theorem dX1_drop_21 : decode cX1_drop 21 = .ok (.iconst 1, 1) := by decide +kernel
theorem dX1_drop_22 : decode cX1_drop 22 = .ok (.isub, 1) := by decide +kernel
theorem dX1_drop_23 : decode cX1_drop 23 = .ok (.if_icmp .ge 37, 3) := by decide +kernel
theorem dX1_drop_26 : decode cX1_drop 26 = .ok (.aload_n 0, 1) := by decide +kernel
theorem dX1_drop_27 : decode cX1_drop 27 = .ok (.getfield 11, 3) := by decide +kernel
theorem dX1_drop_30 : decode cX1_drop 30 = .ok (.iload_n 2, 1) := by decide +kernel
theorem dX1_drop_31 : decode cX1_drop 31 = .ok (.aload_n 0, 1) := by decide +kernel
theorem dX1_drop_32 : decode cX1_drop 32 = .ok (.getfield 11, 3) := by decide +kernel
theorem dX1_drop_35 : decode cX1_drop 35 = .ok (.iload_n 2, 1) := by decide +kernel
theorem dX1_drop_36 : decode cX1_drop 36 = .ok (.iconst 1, 1) := by decide +kernel
theorem dX1_drop_37 : decode cX1_drop 37 = .ok (.iadd, 1) := by decide +kernel
theorem dX1_drop_38 : decode cX1_drop 38 = .ok (.aaload, 1) := by decide +kernel
theorem dX1_drop_39 : decode cX1_drop 39 = .ok (.aastore, 1) := by decide +kernel
theorem dX1_drop_40 : decode cX1_drop 40 = .ok (.aload_n 0, 1) := by decide +kernel
theorem dX1_drop_41 : decode cX1_drop 41 = .ok (.getfield 17, 3) := by decide +kernel
theorem dX1_drop_44 : decode cX1_drop 44 = .ok (.iload_n 2, 1) := by decide +kernel
theorem dX1_drop_45 : decode cX1_drop 45 = .ok (.aload_n 0, 1) := by decide +kernel
theorem dX1_drop_46 : decode cX1_drop 46 = .ok (.getfield 17, 3) := by decide +kernel
theorem dX1_drop_49 : decode cX1_drop 49 = .ok (.iload_n 2, 1) := by decide +kernel
theorem dX1_drop_50 : decode cX1_drop 50 = .ok (.iconst 1, 1) := by decide +kernel
theorem dX1_drop_51 : decode cX1_drop 51 = .ok (.iadd, 1) := by decide +kernel
theorem dX1_drop_52 : decode cX1_drop 52 = .ok (.aaload, 1) := by decide +kernel
theorem dX1_drop_53 : decode cX1_drop 53 = .ok (.aastore, 1) := by decide +kernel
theorem dX1_drop_54 : decode cX1_drop 54 = .ok (.iinc 2 1, 3) := by decide +kernel
theorem dX1_drop_57 : decode cX1_drop 57 = .ok (.goto (-41), 3) := by decide +kernel
theorem dX1_drop_60 : decode cX1_drop 60 = .ok (.aload_n 0, 1) := by decide +kernel
theorem dX1_drop_61 : decode cX1_drop 61 = .ok (.dup, 1) := by decide +kernel
theorem dX1_drop_62 : decode cX1_drop 62 = .ok (.getfield 25, 3) := by decide +kernel
theorem dX1_drop_65 : decode cX1_drop 65 = .ok (.iconst 1, 1) := by decide +kernel
theorem dX1_drop_66 : decode cX1_drop 66 = .ok (.isub, 1) := by decide +kernel
theorem dX1_drop_67 : decode cX1_drop 67 = .ok (.putfield 25, 3) := by decide +kernel
theorem dX1_drop_70 : decode cX1_drop 70 = .ok (.return_, 1) := by decide +kernel
theorem dX1_append_0 : decode cX1_append 0 = .ok (.iload_n 2, 1) := by decide +kernel
theorem dX1_append_1 : decode cX1_append 1 = .ok (.istore 4, 2) := by decide +kernel
theorem dX1_append_3 : decode cX1_append 3 = .ok (.iload 4, 2) := by decide +kernel
theorem dX1_append_5 : decode cX1_append 5 = .ok (.iload_n 3, 1) := by decide +kernel
theorem dX1_append_6 : decode cX1_append 6 = .ok (.if_icmp .ge 69, 3) := by decide +kernel
theorem dX1_append_9 : decode cX1_append 9 = .ok (.iload 4, 2) := by decide +kernel
theorem dX1_append_11 : decode cX1_append 11 = .ok (.aload_n 1, 1) := by decide +kernel
theorem dX1_append_12 : decode cX1_append 12 = .ok (.getfield 25, 3) := by decide +kernel
theorem dX1_append_15 : decode cX1_append 15 = .ok (.if_icmp .ge 60, 3) := by decide +kernel
theorem dX1_append_18 : decode cX1_append 18 = .ok (.aload_n 0, 1) := by decide +kernel
theorem dX1_append_19 : decode cX1_append 19 = .ok (.getfield 25, 3) := by decide +kernel
theorem dX1_append_22 : decode cX1_append 22 = .ok (.bipush 10, 2) := by decide +kernel
theorem dX1_append_24 : decode cX1_append 24 = .ok (.if_icmp .ge 51, 3) := by decide +kernel
theorem dX1_append_27 : decode cX1_append 27 = .ok (.aload_n 0, 1) := by decide +kernel
theorem dX1_append_28 : decode cX1_append 28 = .ok (.getfield 11, 3) := by decide +kernel
theorem dX1_append_31 : decode cX1_append 31 = .ok (.aload_n 0, 1) := by decide +kernel
theorem dX1_append_32 : decode cX1_append 32 = .ok (.getfield 25, 3) := by decide +kernel
theorem dX1_append_35 : decode cX1_append 35 = .ok (.aload_n 1, 1) := by decide +kernel
theorem dX1_append_36 : decode cX1_append 36 = .ok (.getfield 11, 3) := by decide +kernel
theorem dX1_append_39 : decode cX1_append 39 = .ok (.iload 4, 2) := by decide +kernel
theorem dX1_append_41 : decode cX1_append 41 = .ok (.aaload, 1) := by decide +kernel
theorem dX1_append_42 : decode cX1_append 42 = .ok (.aastore, 1) := by decide +kernel
theorem dX1_append_43 : decode cX1_append 43 = .ok (.aload_n 0, 1) := by decide +kernel
theorem dX1_append_44 : decode cX1_append 44 = .ok (.getfield 17, 3) := by decide +kernel
theorem dX1_append_47 : decode cX1_append 47 = .ok (.aload_n 0, 1) := by decide +kernel
theorem dX1_append_48 : decode cX1_append 48 = .ok (.getfield 25, 3) := by decide +kernel
theorem dX1_append_51 : decode cX1_append 51 = .ok (.aload_n 1, 1) := by decide +kernel
theorem dX1_append_52 : decode cX1_append 52 = .ok (.getfield 17, 3) := by decide +kernel
theorem dX1_append_55 : decode cX1_append 55 = .ok (.iload 4, 2) := by decide +kernel
theorem dX1_append_57 : decode cX1_append 57 = .ok (.aaload, 1) := by decide +kernel
theorem dX1_append_58 : decode cX1_append 58 = .ok (.aastore, 1) := by decide +kernel
theorem dX1_append_59 : decode cX1_append 59 = .ok (.aload_n 0, 1) := by decide +kernel
theorem dX1_append_60 : decode cX1_append 60 = .ok (.dup, 1) := by decide +kernel
theorem dX1_append_61 : decode cX1_append 61 = .ok (.getfield 25, 3) := by decide +kernel
theorem dX1_append_64 : decode cX1_append 64 = .ok (.iconst 1, 1) := by decide +kernel
theorem dX1_append_65 : decode cX1_append 65 = .ok (.iadd, 1) := by decide +kernel
theorem dX1_append_66 : decode cX1_append 66 = .ok (.putfield 25, 3) := by decide +kernel
theorem dX1_append_69 : decode cX1_append 69 = .ok (.iinc 4 1, 3) := by decide +kernel
theorem dX1_append_72 : decode cX1_append 72 = .ok (.goto (-69), 3) := by decide +kernel
theorem dX1_append_75 : decode cX1_append 75 = .ok (.return_, 1) := by decide +kernel
theorem dX2_init_0 : decode cX2_init 0 = .ok (.aload_n 0, 1) := by decide +kernel
theorem dX2_init_1 : decode cX2_init 1 = .ok (.invokespecial 1, 3) := by decide +kernel
theorem dX2_init_4 : decode cX2_init 4 = .ok (.aload_n 0, 1) := by decide +kernel
theorem dX2_init_5 : decode cX2_init 5 = .ok (.new 7, 3) := by decide +kernel
theorem dX2_init_8 : decode cX2_init 8 = .ok (.dup, 1) := by decide +kernel
theorem dX2_init_9 : decode cX2_init 9 = .ok (.lconst 0, 1) := by decide +kernel
theorem dX2_init_10 : decode cX2_init 10 = .ok (.lconst 0, 1) := by decide +kernel
theorem dX2_init_11 : decode cX2_init 11 = .ok (.lconst 0, 1) := by decide +kernel
theorem dX2_init_12 : decode cX2_init 12 = .ok (.lconst 0, 1) := by decide +kernel
theorem dX2_init_13 : decode cX2_init 13 = .ok (.iconst (-1), 1) := by decide +kernel
theorem dX2_init_14 : decode cX2_init 14 = .ok (.invokespecial 11, 3) := by decide +kernel
theorem dX2_init_17 : decode cX2_init 17 = .ok (.putfield 14, 3) := by decide +kernel
theorem dX2_init_20 : decode cX2_init 20 = .ok (.aload_n 0, 1) := by decide +kernel
theorem dX2_init_21 : decode cX2_init 21 = .ok (.new 7, 3) := by decide +kernel
theorem dX2_init_24 : decode cX2_init 24 = .ok (.dup, 1) := by decide +kernel
theorem dX2_init_25 : decode cX2_init 25 = .ok (.ldc2_w 18, 3) := by decide +kernel
theorem dX2_init_28 : decode cX2_init 28 = .ok (.ldc2_w 18, 3) := by decide +kernel
theorem dX2_init_31 : decode cX2_init 31 = .ok (.ldc2_w 18, 3) := by decide +kernel
theorem dX2_init_34 : decode cX2_init 34 = .ok (.ldc2_w 18, 3) := by decide +kernel
theorem dX2_init_37 : decode cX2_init 37 = .ok (.ldc 20, 2) := by decide +kernel
theorem dX2_init_39 : decode cX2_init 39 = .ok (.invokespecial 11, 3) := by decide +kernel
theorem dX2_init_42 : decode cX2_init 42 = .ok (.putfield 21, 3) := by decide +kernel
theorem dX2_init_45 : decode cX2_init 45 = .ok (.aload_n 0, 1) := by decide +kernel
theorem dX2_init_46 : decode cX2_init 46 = .ok (.new 24, 3) := by decide +kernel
theorem dX2_init_49 : decode cX2_init 49 = .ok (.dup, 1) := by decide +kernel
theorem dX2_init_50 : decode cX2_init 50 = .ok (.aload_n 0, 1) := by decide +kernel
theorem dX2_init_51 : decode cX2_init 51 = .ok (.getfield 14, 3) := by decide +kernel
theorem dX2_init_54 : decode cX2_init 54 = .ok (.invokespecial 26, 3) := by decide +kernel
theorem dX2_init_57 : decode cX2_init 57 = .ok (.putfield 29, 3) := by decide +kernel
theorem dX2_init_60 : decode cX2_init 60 = .ok (.aload_n 0, 1) := by decide +kernel
theorem dX2_init_61 : decode cX2_init 61 = .ok (.bipush 60, 2) := by decide +kernel
theorem dX2_init_63 : decode cX2_init 63 = .ok (.anewarray 24, 3) := by decide +kernel
theorem dX2_init_66 : decode cX2_init 66 = .ok (.putfield 33, 3) := by decide +kernel
theorem dX2_init_69 : decode cX2_init 69 = .ok (.aload_n 0, 1) := by decide +kernel
theorem dX2_init_70 : decode cX2_init 70 = .ok (.getfield 33, 3) := by decide +kernel
theorem dX2_init_73 : decode cX2_init 73 = .ok (.iconst 0, 1) := by decide +kernel
theorem dX2_init_74 : decode cX2_init 74 = .ok (.aload_n 0, 1) := by decide +kernel
theorem dX2_init_75 : decode cX2_init 75 = .ok (.getfield 29, 3) := by decide +kernel
theorem dX2_init_78 : decode cX2_init 78 = .ok (.aastore, 1) := by decide +kernel
theorem dX2_init_79 : decode cX2_init 79 = .ok (.iconst 1, 1) := by decide +kernel
theorem dX2_init_80 : decode cX2_init 80 = .ok (.istore_n 1, 1) := by decide +kernel
theorem dX2_init_81 : decode cX2_init 81 = .ok (.iload_n 1, 1) := by decide +kernel
theorem dX2_init_82 : decode cX2_init 82 = .ok (.bipush 60, 2) := by decide +kernel
theorem dX2_init_84 : decode cX2_init 84 = .ok (.if_icmp .ge 26, 3) := by decide +kernel
theorem dX2_init_87 : decode cX2_init 87 = .ok (.aload_n 0, 1) := by decide +kernel
theorem dX2_init_88 : decode cX2_init 88 = .ok (.getfield 33, 3) := by decide +kernel
theorem dX2_init_91 : decode cX2_init 91 = .ok (.iload_n 1, 1) := by decide +kernel
theorem dX2_init_92 : decode cX2_init 92 = .ok (.new 24, 3) := by decide +kernel
theorem dX2_init_95 : decode cX2_init 95 = .ok (.dup, 1) := by decide +kernel
theorem dX2_init_96 : decode cX2_init 96 = .ok (.aload_n 0, 1) := by decide +kernel
theorem dX2_init_97 : decode cX2_init 97 = .ok (.getfield 14, 3) := by decide +kernel
theorem dX2_init_100 : decode cX2_init 100 = .ok (.invokespecial 26, 3) := by decide +kernel
theorem dX2_init_103 : decode cX2_init 103 = .ok (.aastore, 1) := by decide +kernel
theorem dX2_init_104 : decode cX2_init 104 = .ok (.iinc 1 1, 3) := by decide +kernel
theorem dX2_init_107 : decode cX2_init 107 = .ok (.goto (-26), 3) := by decide +kernel
theorem dX2_init_110 : decode cX2_init 110 = .ok (.aload_n 0, 1) := by decide +kernel
theorem dX2_init_111 : decode cX2_init 111 = .ok (.iconst 1, 1) := by decide +kernel
theorem dX2_init_112 : decode cX2_init 112 = .ok (.putfield 37, 3) := by decide +kernel
theorem dX2_init_115 : decode cX2_init 115 = .ok (.aload_n 0, 1) := by decide +kernel
theorem dX2_init_116 : decode cX2_init 116 = .ok (.iconst 1, 1) := by decide +kernel
theorem dX2_init_117 : decode cX2_init 117 = .ok (.putfield 41, 3) := by decide +kernel
theorem dX2_init_120 : decode cX2_init 120 = .ok (.aload_n 0, 1) := by decide +kernel
theorem dX2_init_121 : decode cX2_init 121 = .ok (.iconst 3, 1) := by decide +kernel
theorem dX2_init_122 : decode cX2_init 122 = .ok (.putfield 44, 3) := by decide +kernel
theorem dX2_init_125 : decode cX2_init 125 = .ok (.aload_n 0, 1) := by decide +kernel
theorem dX2_init_126 : decode cX2_init 126 = .ok (.iconst (-1), 1) := by decide +kernel
theorem dX2_init_127 : decode cX2_init 127 = .ok (.putfield 47, 3) := by decide +kernel
theorem dX2_init_130 : decode cX2_init 130 = .ok (.aload_n 0, 1) := by decide +kernel
theorem dX2_init_131 : decode cX2_init 131 = .ok (.aload_n 0, 1) := by decide +kernel
theorem dX2_init_132 : decode cX2_init 132 = .ok (.getfield 14, 3) := by decide +kernel
theorem dX2_init_135 : decode cX2_init 135 = .ok (.putfield 50, 3) := by decide +kernel
theorem dX2_init_138 : decode cX2_init 138 = .ok (.aload_n 0, 1) := by decide +kernel
theorem dX2_init_139 : decode cX2_init 139 = .ok (.iconst 0, 1) := by decide +kernel
theorem dX2_init_140 : decode cX2_init 140 = .ok (.putfield 53, 3) := by decide +kernel
theorem dX2_init_143 : decode cX2_init 143 = .ok (.aload_n 0, 1) := by decide +kernel
theorem dX2_init_144 : decode cX2_init 144 = .ok (.new 7, 3) := by decide +kernel
theorem dX2_init_147 : decode cX2_init 147 = .ok (.dup, 1) := by decide +kernel
theorem dX2_init_148 : decode cX2_init 148 = .ok (.lconst 0, 1) := by decide +kernel
theorem dX2_init_149 : decode cX2_init 149 = .ok (.lconst 0, 1) := by decide +kernel
theorem dX2_init_150 : decode cX2_init 150 = .ok (.lconst 0, 1) := by decide +kernel
theorem dX2_init_151 : decode cX2_init 151 = .ok (.lconst 0, 1) := by decide +kernel
theorem dX2_init_152 : decode cX2_init 152 = .ok (.iconst 0, 1) := by decide +kernel
theorem dX2_init_153 : decode cX2_init 153 = .ok (.invokespecial 11, 3) := by decide +kernel
theorem dX2_init_156 : decode cX2_init 156 = .ok (.putfield 57, 3) := by decide +kernel
theorem dX2_init_159 : decode cX2_init 159 = .ok (.return_, 1) := by decide +kernel
theorem dX2_add_0 : decode cX2_add 0 = .ok (.iload 9, 2) := by decide +kernel
theorem dX2_add_2 : decode cX2_add 2 = .ok (.ifCond .ge 5, 3) := by decide +kernel
theorem dX2_add_5 : decode cX2_add 5 = .ok (.iconst (-1), 1) := by decide +kernel
theorem dX2_add_6 : decode cX2_add 6 = .ok (.ireturn, 1) := by decide +kernel
theorem dX2_add_7 : decode cX2_add 7 = .ok (.new 7, 3) := by decide +kernel
theorem dX2_add_10 : decode cX2_add 10 = .ok (.dup, 1) := by decide +kernel
theorem dX2_add_11 : decode cX2_add 11 = .ok (.lload_n 1, 1) := by decide +kernel
theorem dX2_add_12 : decode cX2_add 12 = .ok (.lload_n 3, 1) := by decide +kernel
theorem dX2_add_13 : decode cX2_add 13 = .ok (.lload 5, 2) := by decide +kernel
theorem dX2_add_15 : decode cX2_add 15 = .ok (.lload 7, 2) := by decide +kernel
theorem dX2_add_17 : decode cX2_add 17 = .ok (.iload 9, 2) := by decide +kernel
theorem dX2_add_19 : decode cX2_add 19 = .ok (.invokespecial 11, 3) := by decide +kernel
theorem dX2_add_22 : decode cX2_add 22 = .ok (.astore 10, 2) := by decide +kernel
theorem dX2_add_24 : decode cX2_add 24 = .ok (.aload_n 0, 1) := by decide +kernel
theorem dX2_add_25 : decode cX2_add 25 = .ok (.iconst 0, 1) := by decide +kernel
theorem dX2_add_26 : decode cX2_add 26 = .ok (.aload 10, 2) := by decide +kernel
theorem dX2_add_28 : decode cX2_add 28 = .ok (.invokevirtual 60, 3) := by decide +kernel
theorem dX2_add_31 : decode cX2_add 31 = .ok (.aload 10, 2) := by decide +kernel
theorem dX2_add_33 : decode cX2_add 33 = .ok (.invokevirtual 64, 3) := by decide +kernel
theorem dX2_add_36 : decode cX2_add 36 = .ok (.ifCond .eq 5, 3) := by decide +kernel
theorem dX2_add_39 : decode cX2_add 39 = .ok (.iconst 0, 1) := by decide +kernel
theorem dX2_add_40 : decode cX2_add 40 = .ok (.ireturn, 1) := by decide +kernel
theorem dX2_add_41 : decode cX2_add 41 = .ok (.aload_n 0, 1) := by decide +kernel
theorem dX2_add_42 : decode cX2_add 42 = .ok (.aload_n 0, 1) := by decide +kernel
theorem dX2_add_43 : decode cX2_add 43 = .ok (.aload 10, 2) := by decide +kernel
theorem dX2_add_45 : decode cX2_add 45 = .ok (.invokevirtual 68, 3) := by decide +kernel
theorem dX2_add_48 : decode cX2_add 48 = .ok (.invokevirtual 72, 3) := by decide +kernel
theorem dX2_add_51 : decode cX2_add 51 = .ok (.ifCond .ne 5, 3) := by decide +kernel
theorem dX2_add_54 : decode cX2_add 54 = .ok (.iconst (-1), 1) := by decide +kernel
theorem dX2_add_55 : decode cX2_add 55 = .ok (.ireturn, 1) := by decide +kernel
theorem dX2_add_56 : decode cX2_add 56 = .ok (.aload_n 0, 1) := by decide +kernel
theorem dX2_add_57 : decode cX2_add 57 = .ok (.iconst 0, 1) := by decide +kernel
theorem dX2_add_58 : decode cX2_add 58 = .ok (.aload 10, 2) := by decide +kernel
theorem dX2_add_60 : decode cX2_add 60 = .ok (.aconst_null, 1) := by decide +kernel
theorem dX2_add_61 : decode cX2_add 61 = .ok (.invokevirtual 76, 3) := by decide +kernel
theorem dX2_add_64 : decode cX2_add 64 = .ok (.ifCond .eq 7, 3) := by decide +kernel
theorem dX2_add_67 : decode cX2_add 67 = .ok (.iconst 1, 1) := by decide +kernel
theorem dX2_add_68 : decode cX2_add 68 = .ok (.goto 5, 3) := by decide +kernel
theorem dX2_add_71 : decode cX2_add 71 = .ok (.bipush (-2), 2) := by decide +kernel
theorem dX2_add_73 : decode cX2_add 73 = .ok (.ireturn, 1) := by decide +kernel
theorem dX2_remove_0 : decode cX2_remove 0 = .ok (.iload 9, 2) := by decide +kernel
theorem dX2_remove_2 : decode cX2_remove 2 = .ok (.ifCond .ge 5, 3) := by decide +kernel
theorem dX2_remove_5 : decode cX2_remove 5 = .ok (.iconst 0, 1) := by decide +kernel
theorem dX2_remove_6 : decode cX2_remove 6 = .ok (.ireturn, 1) := by decide +kernel
theorem dX2_remove_7 : decode cX2_remove 7 = .ok (.new 7, 3) := by decide +kernel
theorem dX2_remove_10 : decode cX2_remove 10 = .ok (.dup, 1) := by decide +kernel
theorem dX2_remove_11 : decode cX2_remove 11 = .ok (.lload_n 1, 1) := by decide +kernel
theorem dX2_remove_12 : decode cX2_remove 12 = .ok (.lload_n 3, 1) := by decide +kernel
theorem dX2_remove_13 : decode cX2_remove 13 = .ok (.lload 5, 2) := by decide +kernel
theorem dX2_remove_15 : decode cX2_remove 15 = .ok (.lload 7, 2) := by decide +kernel
theorem dX2_remove_17 : decode cX2_remove 17 = .ok (.iload 9, 2) := by decide +kernel
theorem dX2_remove_19 : decode cX2_remove 19 = .ok (.invokespecial 11, 3) := by decide +kernel
theorem dX2_remove_22 : decode cX2_remove 22 = .ok (.astore 10, 2) := by decide +kernel
theorem dX2_remove_24 : decode cX2_remove 24 = .ok (.aload_n 0, 1) := by decide +kernel
theorem dX2_remove_25 : decode cX2_remove 25 = .ok (.iconst 0, 1) := by decide +kernel
theorem dX2_remove_26 : decode cX2_remove 26 = .ok (.aload 10, 2) := by decide +kernel
theorem dX2_remove_28 : decode cX2_remove 28 = .ok (.invokevirtual 60, 3) := by decide +kernel
theorem dX2_remove_31 : decode cX2_remove 31 = .ok (.astore 11, 2) := by decide +kernel
theorem dX2_remove_33 : decode cX2_remove 33 = .ok (.aload 11, 2) := by decide +kernel
theorem dX2_remove_35 : decode cX2_remove 35 = .ok (.aload 10, 2) := by decide +kernel
theorem dX2_remove_37 : decode cX2_remove 37 = .ok (.invokevirtual 64, 3) := by decide +kernel
theorem dX2_remove_40 : decode cX2_remove 40 = .ok (.ifCond .ne 5, 3) := by decide +kernel
theorem dX2_remove_43 : decode cX2_remove 43 = .ok (.iconst 0, 1) := by decide +kernel
theorem dX2_remove_44 : decode cX2_remove 44 = .ok (.ireturn, 1) := by decide +kernel
theorem dX2_remove_45 : decode cX2_remove 45 = .ok (.aload_n 0, 1) := by decide +kernel
theorem dX2_remove_46 : decode cX2_remove 46 = .ok (.iconst 1, 1) := by decide +kernel
theorem dX2_remove_47 : decode cX2_remove 47 = .ok (.invokevirtual 80, 3) := by decide +kernel
theorem dX2_remove_50 : decode cX2_remove 50 = .ok (.ifCond .ne 6, 3) := by decide +kernel
theorem dX2_remove_53 : decode cX2_remove 53 = .ok (.bipush (-2), 2) := by decide +kernel
theorem dX2_remove_55 : decode cX2_remove 55 = .ok (.ireturn, 1) := by decide +kernel
theorem dX2_remove_56 : decode cX2_remove 56 = .ok (.aload 11, 2) := by decide +kernel
theorem dX2_remove_58 : decode cX2_remove 58 = .ok (.aload 10, 2) := by decide +kernel
theorem dX2_remove_60 : decode cX2_remove 60 = .ok (.invokevirtual 83, 3) := by decide +kernel
theorem dX2_remove_63 : decode cX2_remove 63 = .ok (.aload 11, 2) := by decide +kernel
theorem dX2_remove_65 : decode cX2_remove 65 = .ok (.iconst 0, 1) := by decide +kernel
theorem dX2_remove_66 : decode cX2_remove 66 = .ok (.putfield 86, 3) := by decide +kernel
theorem dX2_remove_69 : decode cX2_remove 69 = .ok (.iconst 1, 1) := by decide +kernel
theorem dX2_remove_70 : decode cX2_remove 70 = .ok (.ireturn, 1) := by decide +kernel
theorem dX2_has_0 : decode cX2_has 0 = .ok (.iload 9, 2) := by decide +kernel
theorem dX2_has_2 : decode cX2_has 2 = .ok (.ifCond .ge 5, 3) := by decide +kernel
theorem dX2_has_5 : decode cX2_has 5 = .ok (.iconst 0, 1) := by decide +kernel
theorem dX2_has_6 : decode cX2_has 6 = .ok (.ireturn, 1) := by decide +kernel
theorem dX2_has_7 : decode cX2_has 7 = .ok (.new 7, 3) := by decide +kernel
theorem dX2_has_10 : decode cX2_has 10 = .ok (.dup, 1) := by decide +kernel
theorem dX2_has_11 : decode cX2_has 11 = .ok (.lload_n 1, 1) := by decide +kernel
theorem dX2_has_12 : decode cX2_has 12 = .ok (.lload_n 3, 1) := by decide +kernel
theorem dX2_has_13 : decode cX2_has 13 = .ok (.lload 5, 2) := by decide +kernel
theorem dX2_has_15 : decode cX2_has 15 = .ok (.lload 7, 2) := by decide +kernel
theorem dX2_has_17 : decode cX2_has 17 = .ok (.iload 9, 2) := by decide +kernel
theorem dX2_has_19 : decode cX2_has 19 = .ok (.invokespecial 11, 3) := by decide +kernel
theorem dX2_has_22 : decode cX2_has 22 = .ok (.astore 10, 2) := by decide +kernel
theorem dX2_has_24 : decode cX2_has 24 = .ok (.aload_n 0, 1) := by decide +kernel
theorem dX2_has_25 : decode cX2_has 25 = .ok (.iconst 0, 1) := by decide +kernel
theorem dX2_has_26 : decode cX2_has 26 = .ok (.aload 10, 2) := by decide +kernel
theorem dX2_has_28 : decode cX2_has 28 = .ok (.invokevirtual 60, 3) := by decide +kernel
theorem dX2_has_31 : decode cX2_has 31 = .ok (.aload 10, 2) := by decide +kernel
theorem dX2_has_33 : decode cX2_has 33 = .ok (.invokevirtual 64, 3) := by decide +kernel
theorem dX2_has_36 : decode cX2_has 36 = .ok (.ireturn, 1) := by decide +kernel
theorem dX2_seek_0 : decode cX2_seek 0 = .ok (.aload_n 0, 1) := by decide +kernel
theorem dX2_seek_1 : decode cX2_seek 1 = .ok (.new 7, 3) := by decide +kernel
theorem dX2_seek_4 : decode cX2_seek 4 = .ok (.dup, 1) := by decide +kernel
theorem dX2_seek_5 : decode cX2_seek 5 = .ok (.lload_n 1, 1) := by decide +kernel
theorem dX2_seek_6 : decode cX2_seek 6 = .ok (.lload_n 3, 1) := by decide +kernel
theorem dX2_seek_7 : decode cX2_seek 7 = .ok (.lload 5, 2) := by decide +kernel
theorem dX2_seek_9 : decode cX2_seek 9 = .ok (.lload 7, 2) := by decide +kernel
theorem dX2_seek_11 : decode cX2_seek 11 = .ok (.iconst (-1), 1) := by decide +kernel
theorem dX2_seek_12 : decode cX2_seek 12 = .ok (.invokespecial 11, 3) := by decide +kernel
theorem dX2_seek_15 : decode cX2_seek 15 = .ok (.iconst 0, 1) := by decide +kernel
theorem dX2_seek_16 : decode cX2_seek 16 = .ok (.invokevirtual 89, 3) := by decide +kernel
theorem dX2_seek_19 : decode cX2_seek 19 = .ok (.return_, 1) := by decide +kernel
theorem dX2_first_0 : decode cX2_first 0 = .ok (.aload_n 0, 1) := by decide +kernel
theorem dX2_first_1 : decode cX2_first 1 = .ok (.aload_n 0, 1) := by decide +kernel
theorem dX2_first_2 : decode cX2_first 2 = .ok (.getfield 14, 3) := by decide +kernel
theorem dX2_first_5 : decode cX2_first 5 = .ok (.iconst 0, 1) := by decide +kernel
theorem dX2_first_6 : decode cX2_first 6 = .ok (.invokevirtual 89, 3) := by decide +kernel
theorem dX2_first_9 : decode cX2_first 9 = .ok (.return_, 1) := by decide +kernel
theorem dX2_last_0 : decode cX2_last 0 = .ok (.aload_n 0, 1) := by decide +kernel
theorem dX2_last_1 : decode cX2_last 1 = .ok (.aload_n 0, 1) := by decide +kernel
theorem dX2_last_2 : decode cX2_last 2 = .ok (.getfield 21, 3) := by decide +kernel
theorem dX2_last_5 : decode cX2_last 5 = .ok (.iconst 1, 1) := by decide +kernel
theorem dX2_last_6 : decode cX2_last 6 = .ok (.invokevirtual 89, 3) := by decide +kernel
theorem dX2_last_9 : decode cX2_last 9 = .ok (.return_, 1) := by decide +kernel
theorem dX2_next_0 : decode cX2_next 0 = .ok (.aload_n 0, 1) := by decide +kernel
theorem dX2_next_1 : decode cX2_next 1 = .ok (.iconst 0, 1) := by decide +kernel
theorem dX2_next_2 : decode cX2_next 2 = .ok (.aload_n 0, 1) := by decide +kernel
theorem dX2_next_3 : decode cX2_next 3 = .ok (.getfield 50, 3) := by decide +kernel
theorem dX2_next_6 : decode cX2_next 6 = .ok (.invokevirtual 60, 3) := by decide +kernel
theorem dX2_next_9 : decode cX2_next 9 = .ok (.astore_n 1, 1) := by decide +kernel
theorem dX2_next_10 : decode cX2_next 10 = .ok (.aload_n 1, 1) := by decide +kernel
theorem dX2_next_11 : decode cX2_next 11 = .ok (.aload_n 0, 1) := by decide +kernel
theorem dX2_next_12 : decode cX2_next 12 = .ok (.getfield 50, 3) := by decide +kernel
theorem dX2_next_15 : decode cX2_next 15 = .ok (.aload_n 0, 1) := by decide +kernel
theorem dX2_next_16 : decode cX2_next 16 = .ok (.getfield 53, 3) := by decide +kernel
theorem dX2_next_19 : decode cX2_next 19 = .ok (.invokevirtual 93, 3) := by decide +kernel
theorem dX2_next_22 : decode cX2_next 22 = .ok (.istore_n 2, 1) := by decide +kernel
theorem dX2_next_23 : decode cX2_next 23 = .ok (.iconst 0, 1) := by decide +kernel
theorem dX2_next_24 : decode cX2_next 24 = .ok (.istore_n 3, 1) := by decide +kernel
theorem dX2_next_25 : decode cX2_next 25 = .ok (.iload_n 3, 1) := by decide +kernel
theorem dX2_next_26 : decode cX2_next 26 = .ok (.bipush 60, 2) := by decide +kernel
theorem dX2_next_28 : decode cX2_next 28 = .ok (.if_icmp .ge 31, 3) := by decide +kernel
theorem dX2_next_31 : decode cX2_next 31 = .ok (.iload_n 2, 1) := by decide +kernel
theorem dX2_next_32 : decode cX2_next 32 = .ok (.aload_n 1, 1) := by decide +kernel
theorem dX2_next_33 : decode cX2_next 33 = .ok (.getfield 97, 3) := by decide +kernel
theorem dX2_next_36 : decode cX2_next 36 = .ok (.if_icmp .lt 23, 3) := by decide +kernel
theorem dX2_next_39 : decode cX2_next 39 = .ok (.aload_n 1, 1) := by decide +kernel
theorem dX2_next_40 : decode cX2_next 40 = .ok (.getfield 100, 3) := by decide +kernel
theorem dX2_next_43 : decode cX2_next 43 = .ok (.ifnull 16, 3) := by decide +kernel
theorem dX2_next_46 : decode cX2_next 46 = .ok (.aload_n 1, 1) := by decide +kernel
theorem dX2_next_47 : decode cX2_next 47 = .ok (.getfield 100, 3) := by decide +kernel
theorem dX2_next_50 : decode cX2_next 50 = .ok (.astore_n 1, 1) := by decide +kernel
theorem dX2_next_51 : decode cX2_next 51 = .ok (.iconst 0, 1) := by decide +kernel
theorem dX2_next_52 : decode cX2_next 52 = .ok (.istore_n 2, 1) := by decide +kernel
theorem dX2_next_53 : decode cX2_next 53 = .ok (.iinc 3 1, 3) := by decide +kernel
theorem dX2_next_56 : decode cX2_next 56 = .ok (.goto (-31), 3) := by decide +kernel
theorem dX2_next_59 : decode cX2_next 59 = .ok (.iload_n 2, 1) := by decide +kernel
theorem dX2_next_60 : decode cX2_next 60 = .ok (.aload_n 1, 1) := by decide +kernel
theorem dX2_next_61 : decode cX2_next 61 = .ok (.getfield 97, 3) := by decide +kernel
theorem dX2_next_64 : decode cX2_next 64 = .ok (.if_icmp .lt 5, 3) := by decide +kernel
theorem dX2_next_67 : decode cX2_next 67 = .ok (.iconst 0, 1) := by decide +kernel
theorem dX2_next_68 : decode cX2_next 68 = .ok (.ireturn, 1) := by decide +kernel
theorem dX2_next_69 : decode cX2_next 69 = .ok (.aload_n 0, 1) := by decide +kernel
theorem dX2_next_70 : decode cX2_next 70 = .ok (.aload_n 1, 1) := by decide +kernel
theorem dX2_next_71 : decode cX2_next 71 = .ok (.iload_n 2, 1) := by decide +kernel
theorem dX2_next_72 : decode cX2_next 72 = .ok (.invokevirtual 103, 3) := by decide +kernel
theorem dX2_next_75 : decode cX2_next 75 = .ok (.putfield 57, 3) := by decide +kernel
theorem dX2_next_78 : decode cX2_next 78 = .ok (.aload_n 0, 1) := by decide +kernel
theorem dX2_next_79 : decode cX2_next 79 = .ok (.aload_n 0, 1) := by decide +kernel
theorem dX2_next_80 : decode cX2_next 80 = .ok (.getfield 57, 3) := by decide +kernel
theorem dX2_next_83 : decode cX2_next 83 = .ok (.iconst 1, 1) := by decide +kernel
theorem dX2_next_84 : decode cX2_next 84 = .ok (.invokevirtual 89, 3) := by decide +kernel
theorem dX2_next_87 : decode cX2_next 87 = .ok (.iconst 1, 1) := by decide +kernel
theorem dX2_next_88 : decode cX2_next 88 = .ok (.ireturn, 1) := by decide +kernel
theorem dX2_back_0 : decode cX2_back 0 = .ok (.aconst_null, 1) := by decide +kernel
theorem dX2_back_1 : decode cX2_back 1 = .ok (.astore_n 1, 1) := by decide +kernel
theorem dX2_back_2 : decode cX2_back 2 = .ok (.aload_n 0, 1) := by decide +kernel
theorem dX2_back_3 : decode cX2_back 3 = .ok (.iconst 0, 1) := by decide +kernel
theorem dX2_back_4 : decode cX2_back 4 = .ok (.invokevirtual 107, 3) := by decide +kernel
theorem dX2_back_7 : decode cX2_back 7 = .ok (.astore_n 2, 1) := by decide +kernel
theorem dX2_back_8 : decode cX2_back 8 = .ok (.iconst 0, 1) := by decide +kernel
theorem dX2_back_9 : decode cX2_back 9 = .ok (.istore_n 3, 1) := by decide +kernel
theorem dX2_back_10 : decode cX2_back 10 = .ok (.iload_n 3, 1) := by decide +kernel
theorem dX2_back_11 : decode cX2_back 11 = .ok (.bipush 60, 2) := by decide +kernel
theorem dX2_back_13 : decode cX2_back 13 = .ok (.if_icmp .ge 46, 3) := by decide +kernel
theorem dX2_back_16 : decode cX2_back 16 = .ok (.aload_n 2, 1) := by decide +kernel
theorem dX2_back_17 : decode cX2_back 17 = .ok (.ifnull 42, 3) := by decide +kernel
theorem dX2_back_20 : decode cX2_back 20 = .ok (.aload_n 2, 1) := by decide +kernel
theorem dX2_back_21 : decode cX2_back 21 = .ok (.aload_n 0, 1) := by decide +kernel
theorem dX2_back_22 : decode cX2_back 22 = .ok (.getfield 50, 3) := by decide +kernel
theorem dX2_back_25 : decode cX2_back 25 = .ok (.aload_n 0, 1) := by decide +kernel
theorem dX2_back_26 : decode cX2_back 26 = .ok (.getfield 53, 3) := by decide +kernel
theorem dX2_back_29 : decode cX2_back 29 = .ok (.invokevirtual 93, 3) := by decide +kernel
theorem dX2_back_32 : decode cX2_back 32 = .ok (.istore 4, 2) := by decide +kernel
theorem dX2_back_34 : decode cX2_back 34 = .ok (.iload 4, 2) := by decide +kernel
theorem dX2_back_36 : decode cX2_back 36 = .ok (.ifCond .le 12, 3) := by decide +kernel
theorem dX2_back_39 : decode cX2_back 39 = .ok (.aload_n 2, 1) := by decide +kernel
theorem dX2_back_40 : decode cX2_back 40 = .ok (.iload 4, 2) := by decide +kernel
theorem dX2_back_42 : decode cX2_back 42 = .ok (.iconst 1, 1) := by decide +kernel
theorem dX2_back_43 : decode cX2_back 43 = .ok (.isub, 1) := by decide +kernel
theorem dX2_back_44 : decode cX2_back 44 = .ok (.invokevirtual 103, 3) := by decide +kernel
theorem dX2_back_47 : decode cX2_back 47 = .ok (.astore_n 1, 1) := by decide +kernel
theorem dX2_back_48 : decode cX2_back 48 = .ok (.aload_n 2, 1) := by decide +kernel
theorem dX2_back_49 : decode cX2_back 49 = .ok (.getfield 100, 3) := by decide +kernel
theorem dX2_back_52 : decode cX2_back 52 = .ok (.astore_n 2, 1) := by decide +kernel
theorem dX2_back_53 : decode cX2_back 53 = .ok (.iinc 3 1, 3) := by decide +kernel
theorem dX2_back_56 : decode cX2_back 56 = .ok (.goto (-46), 3) := by decide +kernel
theorem dX2_back_59 : decode cX2_back 59 = .ok (.aload_n 1, 1) := by decide +kernel
theorem dX2_back_60 : decode cX2_back 60 = .ok (.ifnonnull 5, 3) := by decide +kernel
theorem dX2_back_63 : decode cX2_back 63 = .ok (.iconst 0, 1) := by decide +kernel
theorem dX2_back_64 : decode cX2_back 64 = .ok (.ireturn, 1) := by decide +kernel
theorem dX2_back_65 : decode cX2_back 65 = .ok (.aload_n 0, 1) := by decide +kernel
theorem dX2_back_66 : decode cX2_back 66 = .ok (.aload_n 1, 1) := by decide +kernel
theorem dX2_back_67 : decode cX2_back 67 = .ok (.putfield 57, 3) := by decide +kernel
theorem dX2_back_70 : decode cX2_back 70 = .ok (.aload_n 0, 1) := by decide +kernel
theorem dX2_back_71 : decode cX2_back 71 = .ok (.aload_n 1, 1) := by decide +kernel
theorem dX2_back_72 : decode cX2_back 72 = .ok (.iconst 0, 1) := by decide +kernel
theorem dX2_back_73 : decode cX2_back 73 = .ok (.invokevirtual 89, 3) := by decide +kernel
theorem dX2_back_76 : decode cX2_back 76 = .ok (.iconst 1, 1) := by decide +kernel
theorem dX2_back_77 : decode cX2_back 77 = .ok (.ireturn, 1) := by decide +kernel
theorem dX2_word_0 : decode cX2_word 0 = .ok (.iload_n 1, 1) := by decide +kernel
theorem dX2_word_1 : decode cX2_word 1 = .ok (.tableswitch 63 0 3 #[31, 39, 47, 55], 31) := by decide +kernel
theorem dX2_word_32 : decode cX2_word 32 = .ok (.aload_n 0, 1) := by decide +kernel
theorem dX2_word_33 : decode cX2_word 33 = .ok (.getfield 57, 3) := by decide +kernel
theorem dX2_word_36 : decode cX2_word 36 = .ok (.getfield 111, 3) := by decide +kernel
theorem dX2_word_39 : decode cX2_word 39 = .ok (.lreturn, 1) := by decide +kernel
theorem dX2_word_40 : decode cX2_word 40 = .ok (.aload_n 0, 1) := by decide +kernel
theorem dX2_word_41 : decode cX2_word 41 = .ok (.getfield 57, 3) := by decide +kernel
theorem dX2_word_44 : decode cX2_word 44 = .ok (.getfield 115, 3) := by decide +kernel
theorem dX2_word_47 : decode cX2_word 47 = .ok (.lreturn, 1) := by decide +kernel
theorem dX2_word_48 : decode cX2_word 48 = .ok (.aload_n 0, 1) := by decide +kernel
theorem dX2_word_49 : decode cX2_word 49 = .ok (.getfield 57, 3) := by decide +kernel
theorem dX2_word_52 : decode cX2_word 52 = .ok (.getfield 118, 3) := by decide +kernel
theorem dX2_word_55 : decode cX2_word 55 = .ok (.lreturn, 1) := by decide +kernel
theorem dX2_word_56 : decode cX2_word 56 = .ok (.aload_n 0, 1) := by decide +kernel
theorem dX2_word_57 : decode cX2_word 57 = .ok (.getfield 57, 3) := by decide +kernel
theorem dX2_word_60 : decode cX2_word 60 = .ok (.getfield 121, 3) := by decide +kernel
theorem dX2_word_63 : decode cX2_word 63 = .ok (.lreturn, 1) := by decide +kernel
theorem dX2_word_64 : decode cX2_word 64 = .ok (.lconst 0, 1) := by decide +kernel
theorem dX2_word_65 : decode cX2_word 65 = .ok (.lreturn, 1) := by decide +kernel
theorem dX2_place_0 : decode cX2_place 0 = .ok (.aload_n 0, 1) := by decide +kernel
theorem dX2_place_1 : decode cX2_place 1 = .ok (.getfield 57, 3) := by decide +kernel
theorem dX2_place_4 : decode cX2_place 4 = .ok (.getfield 124, 3) := by decide +kernel
theorem dX2_place_7 : decode cX2_place 7 = .ok (.ireturn, 1) := by decide +kernel
theorem dX2_clear_0 : decode cX2_clear 0 = .ok (.aload_n 0, 1) := by decide +kernel
theorem dX2_clear_1 : decode cX2_clear 1 = .ok (.getfield 29, 3) := by decide +kernel
theorem dX2_clear_4 : decode cX2_clear 4 = .ok (.iconst 0, 1) := by decide +kernel
theorem dX2_clear_5 : decode cX2_clear 5 = .ok (.aload_n 0, 1) := by decide +kernel
theorem dX2_clear_6 : decode cX2_clear 6 = .ok (.getfield 14, 3) := by decide +kernel
theorem dX2_clear_9 : decode cX2_clear 9 = .ok (.invokevirtual 127, 3) := by decide +kernel
theorem dX2_clear_12 : decode cX2_clear 12 = .ok (.aload_n 0, 1) := by decide +kernel
theorem dX2_clear_13 : decode cX2_clear 13 = .ok (.iconst 1, 1) := by decide +kernel
theorem dX2_clear_14 : decode cX2_clear 14 = .ok (.putfield 37, 3) := by decide +kernel
theorem dX2_clear_17 : decode cX2_clear 17 = .ok (.aload_n 0, 1) := by decide +kernel
theorem dX2_clear_18 : decode cX2_clear 18 = .ok (.iconst 1, 1) := by decide +kernel
theorem dX2_clear_19 : decode cX2_clear 19 = .ok (.putfield 41, 3) := by decide +kernel
theorem dX2_clear_22 : decode cX2_clear 22 = .ok (.aload_n 0, 1) := by decide +kernel
theorem dX2_clear_23 : decode cX2_clear 23 = .ok (.dup, 1) := by decide +kernel
theorem dX2_clear_24 : decode cX2_clear 24 = .ok (.getfield 44, 3) := by decide +kernel
theorem dX2_clear_27 : decode cX2_clear 27 = .ok (.iconst 3, 1) := by decide +kernel
theorem dX2_clear_28 : decode cX2_clear 28 = .ok (.iadd, 1) := by decide +kernel
theorem dX2_clear_29 : decode cX2_clear 29 = .ok (.putfield 44, 3) := by decide +kernel
theorem dX2_clear_32 : decode cX2_clear 32 = .ok (.aload_n 0, 1) := by decide +kernel
theorem dX2_clear_33 : decode cX2_clear 33 = .ok (.aload_n 0, 1) := by decide +kernel
theorem dX2_clear_34 : decode cX2_clear 34 = .ok (.getfield 14, 3) := by decide +kernel
theorem dX2_clear_37 : decode cX2_clear 37 = .ok (.iconst 0, 1) := by decide +kernel
theorem dX2_clear_38 : decode cX2_clear 38 = .ok (.invokevirtual 89, 3) := by decide +kernel
theorem dX2_clear_41 : decode cX2_clear 41 = .ok (.return_, 1) := by decide +kernel
theorem dX2_charge_0 : decode cX2_charge 0 = .ok (.iload_n 1, 1) := by decide +kernel
theorem dX2_charge_1 : decode cX2_charge 1 = .ok (.ifCond .lt 10, 3) := by decide +kernel
theorem dX2_charge_4 : decode cX2_charge 4 = .ok (.iload_n 1, 1) := by decide +kernel
theorem dX2_charge_5 : decode cX2_charge 5 = .ok (.sipush 999, 3) := by decide +kernel
theorem dX2_charge_8 : decode cX2_charge 8 = .ok (.if_icmp .le 5, 3) := by decide +kernel
theorem dX2_charge_11 : decode cX2_charge 11 = .ok (.iconst 0, 1) := by decide +kernel
theorem dX2_charge_12 : decode cX2_charge 12 = .ok (.ireturn, 1) := by decide +kernel
theorem dX2_charge_13 : decode cX2_charge 13 = .ok (.aload_n 0, 1) := by decide +kernel
theorem dX2_charge_14 : decode cX2_charge 14 = .ok (.iload_n 1, 1) := by decide +kernel
theorem dX2_charge_15 : decode cX2_charge 15 = .ok (.putfield 47, 3) := by decide +kernel
theorem dX2_charge_18 : decode cX2_charge 18 = .ok (.iconst 1, 1) := by decide +kernel
theorem dX2_charge_19 : decode cX2_charge 19 = .ok (.ireturn, 1) := by decide +kernel
theorem dX2_count_0 : decode cX2_count 0 = .ok (.iload_n 1, 1) := by decide +kernel
theorem dX2_count_1 : decode cX2_count 1 = .ok (.tableswitch 58 0 3 #[31, 41, 46, 51], 31) := by decide +kernel
theorem dX2_count_32 : decode cX2_count 32 = .ok (.aload_n 0, 1) := by decide +kernel
theorem dX2_count_33 : decode cX2_count 33 = .ok (.getfield 29, 3) := by decide +kernel
theorem dX2_count_36 : decode cX2_count 36 = .ok (.getfield 131, 3) := by decide +kernel
theorem dX2_count_39 : decode cX2_count 39 = .ok (.iconst 1, 1) := by decide +kernel
theorem dX2_count_40 : decode cX2_count 40 = .ok (.iadd, 1) := by decide +kernel
theorem dX2_count_41 : decode cX2_count 41 = .ok (.ireturn, 1) := by decide +kernel
theorem dX2_count_42 : decode cX2_count 42 = .ok (.aload_n 0, 1) := by decide +kernel
theorem dX2_count_43 : decode cX2_count 43 = .ok (.getfield 37, 3) := by decide +kernel
theorem dX2_count_46 : decode cX2_count 46 = .ok (.ireturn, 1) := by decide +kernel
theorem dX2_count_47 : decode cX2_count 47 = .ok (.aload_n 0, 1) := by decide +kernel
theorem dX2_count_48 : decode cX2_count 48 = .ok (.getfield 44, 3) := by decide +kernel
theorem dX2_count_51 : decode cX2_count 51 = .ok (.ireturn, 1) := by decide +kernel
theorem dX2_count_52 : decode cX2_count 52 = .ok (.aload_n 0, 1) := by decide +kernel
theorem dX2_count_53 : decode cX2_count 53 = .ok (.iconst 0, 1) := by decide +kernel
theorem dX2_count_54 : decode cX2_count 54 = .ok (.iconst 1, 1) := by decide +kernel
theorem dX2_count_55 : decode cX2_count 55 = .ok (.invokevirtual 134, 3) := by decide +kernel
theorem dX2_count_58 : decode cX2_count 58 = .ok (.ireturn, 1) := by decide +kernel
theorem dX2_count_59 : decode cX2_count 59 = .ok (.iconst (-1), 1) := by decide +kernel
theorem dX2_count_60 : decode cX2_count 60 = .ok (.ireturn, 1) := by decide +kernel
theorem dX2_level_0 : decode cX2_level 0 = .ok (.iload_n 1, 1) := by decide +kernel
theorem dX2_level_1 : decode cX2_level 1 = .ok (.ifCond .lt 18, 3) := by decide +kernel
theorem dX2_level_4 : decode cX2_level 4 = .ok (.iload_n 1, 1) := by decide +kernel
theorem dX2_level_5 : decode cX2_level 5 = .ok (.aload_n 0, 1) := by decide +kernel
theorem dX2_level_6 : decode cX2_level 6 = .ok (.getfield 29, 3) := by decide +kernel
theorem dX2_level_9 : decode cX2_level 9 = .ok (.getfield 131, 3) := by decide +kernel
theorem dX2_level_12 : decode cX2_level 12 = .ok (.if_icmp .gt 7, 3) := by decide +kernel
theorem dX2_level_15 : decode cX2_level 15 = .ok (.iload_n 2, 1) := by decide +kernel
theorem dX2_level_16 : decode cX2_level 16 = .ok (.ifCond .ge 5, 3) := by decide +kernel
theorem dX2_level_19 : decode cX2_level 19 = .ok (.iconst (-1), 1) := by decide +kernel
theorem dX2_level_20 : decode cX2_level 20 = .ok (.ireturn, 1) := by decide +kernel
theorem dX2_level_21 : decode cX2_level 21 = .ok (.iconst 0, 1) := by decide +kernel
theorem dX2_level_22 : decode cX2_level 22 = .ok (.istore_n 3, 1) := by decide +kernel
theorem dX2_level_23 : decode cX2_level 23 = .ok (.iconst 0, 1) := by decide +kernel
theorem dX2_level_24 : decode cX2_level 24 = .ok (.istore 4, 2) := by decide +kernel
theorem dX2_level_26 : decode cX2_level 26 = .ok (.aload_n 0, 1) := by decide +kernel
theorem dX2_level_27 : decode cX2_level 27 = .ok (.iload_n 1, 1) := by decide +kernel
theorem dX2_level_28 : decode cX2_level 28 = .ok (.invokevirtual 107, 3) := by decide +kernel
theorem dX2_level_31 : decode cX2_level 31 = .ok (.astore 5, 2) := by decide +kernel
theorem dX2_level_33 : decode cX2_level 33 = .ok (.iload_n 3, 1) := by decide +kernel
theorem dX2_level_34 : decode cX2_level 34 = .ok (.bipush 60, 2) := by decide +kernel
theorem dX2_level_36 : decode cX2_level 36 = .ok (.if_icmp .ge 44, 3) := by decide +kernel
theorem dX2_level_39 : decode cX2_level 39 = .ok (.aload 5, 2) := by decide +kernel
theorem dX2_level_41 : decode cX2_level 41 = .ok (.ifnull 39, 3) := by decide +kernel
theorem dX2_level_44 : decode cX2_level 44 = .ok (.iload_n 3, 1) := by decide +kernel
theorem dX2_level_45 : decode cX2_level 45 = .ok (.iload_n 2, 1) := by decide +kernel
theorem dX2_level_46 : decode cX2_level 46 = .ok (.iconst 2, 1) := by decide +kernel
theorem dX2_level_47 : decode cX2_level 47 = .ok (.isub, 1) := by decide +kernel
theorem dX2_level_48 : decode cX2_level 48 = .ok (.if_icmp .ne 9, 3) := by decide +kernel
theorem dX2_level_51 : decode cX2_level 51 = .ok (.aload 5, 2) := by decide +kernel
theorem dX2_level_53 : decode cX2_level 53 = .ok (.getfield 97, 3) := by decide +kernel
theorem dX2_level_56 : decode cX2_level 56 = .ok (.ireturn, 1) := by decide +kernel
theorem dX2_level_57 : decode cX2_level 57 = .ok (.iinc 3 1, 3) := by decide +kernel
theorem dX2_level_60 : decode cX2_level 60 = .ok (.iload 4, 2) := by decide +kernel
theorem dX2_level_62 : decode cX2_level 62 = .ok (.aload 5, 2) := by decide +kernel
theorem dX2_level_64 : decode cX2_level 64 = .ok (.getfield 97, 3) := by decide +kernel
theorem dX2_level_67 : decode cX2_level 67 = .ok (.iadd, 1) := by decide +kernel
theorem dX2_level_68 : decode cX2_level 68 = .ok (.istore 4, 2) := by decide +kernel
theorem dX2_level_70 : decode cX2_level 70 = .ok (.aload 5, 2) := by decide +kernel
theorem dX2_level_72 : decode cX2_level 72 = .ok (.getfield 100, 3) := by decide +kernel
theorem dX2_level_75 : decode cX2_level 75 = .ok (.astore 5, 2) := by decide +kernel
theorem dX2_level_77 : decode cX2_level 77 = .ok (.goto (-44), 3) := by decide +kernel
theorem dX2_level_80 : decode cX2_level 80 = .ok (.iload_n 2, 1) := by decide +kernel
theorem dX2_level_81 : decode cX2_level 81 = .ok (.ifCond .ne 5, 3) := by decide +kernel
theorem dX2_level_84 : decode cX2_level 84 = .ok (.iload_n 3, 1) := by decide +kernel
theorem dX2_level_85 : decode cX2_level 85 = .ok (.ireturn, 1) := by decide +kernel
theorem dX2_level_86 : decode cX2_level 86 = .ok (.iload_n 2, 1) := by decide +kernel
theorem dX2_level_87 : decode cX2_level 87 = .ok (.iconst 1, 1) := by decide +kernel
theorem dX2_level_88 : decode cX2_level 88 = .ok (.if_icmp .ne 8, 3) := by decide +kernel
theorem dX2_level_91 : decode cX2_level 91 = .ok (.iload 4, 2) := by decide +kernel
theorem dX2_level_93 : decode cX2_level 93 = .ok (.goto 4, 3) := by decide +kernel
theorem dX2_level_96 : decode cX2_level 96 = .ok (.iconst (-1), 1) := by decide +kernel
theorem dX2_level_97 : decode cX2_level 97 = .ok (.ireturn, 1) := by decide +kernel
theorem dX2_moveCursor_0 : decode cX2_moveCursor 0 = .ok (.aload_n 0, 1) := by decide +kernel
theorem dX2_moveCursor_1 : decode cX2_moveCursor 1 = .ok (.aload_n 1, 1) := by decide +kernel
theorem dX2_moveCursor_2 : decode cX2_moveCursor 2 = .ok (.putfield 50, 3) := by decide +kernel
theorem dX2_moveCursor_5 : decode cX2_moveCursor 5 = .ok (.aload_n 0, 1) := by decide +kernel
theorem dX2_moveCursor_6 : decode cX2_moveCursor 6 = .ok (.iload_n 2, 1) := by decide +kernel
theorem dX2_moveCursor_7 : decode cX2_moveCursor 7 = .ok (.putfield 53, 3) := by decide +kernel
theorem dX2_moveCursor_10 : decode cX2_moveCursor 10 = .ok (.return_, 1) := by decide +kernel
theorem dX2_setWords_0 : decode cX2_setWords 0 = .ok (.aload_n 0, 1) := by decide +kernel
theorem dX2_setWords_1 : decode cX2_setWords 1 = .ok (.getfield 47, 3) := by decide +kernel
theorem dX2_setWords_4 : decode cX2_setWords 4 = .ok (.iconst (-1), 1) := by decide +kernel
theorem dX2_setWords_5 : decode cX2_setWords 5 = .ok (.if_icmp .ne 15, 3) := by decide +kernel
theorem dX2_setWords_8 : decode cX2_setWords 8 = .ok (.aload_n 0, 1) := by decide +kernel
theorem dX2_setWords_9 : decode cX2_setWords 9 = .ok (.dup, 1) := by decide +kernel
theorem dX2_setWords_10 : decode cX2_setWords 10 = .ok (.getfield 44, 3) := by decide +kernel
theorem dX2_setWords_13 : decode cX2_setWords 13 = .ok (.iload_n 1, 1) := by decide +kernel
theorem dX2_setWords_14 : decode cX2_setWords 14 = .ok (.iadd, 1) := by decide +kernel
theorem dX2_setWords_15 : decode cX2_setWords 15 = .ok (.putfield 44, 3) := by decide +kernel
theorem dX2_setWords_18 : decode cX2_setWords 18 = .ok (.iconst 1, 1) := by decide +kernel
theorem dX2_setWords_19 : decode cX2_setWords 19 = .ok (.ireturn, 1) := by decide +kernel
theorem dX2_setWords_20 : decode cX2_setWords 20 = .ok (.aload_n 0, 1) := by decide +kernel
theorem dX2_setWords_21 : decode cX2_setWords 21 = .ok (.getfield 47, 3) := by decide +kernel
theorem dX2_setWords_24 : decode cX2_setWords 24 = .ok (.iload_n 1, 1) := by decide +kernel
theorem dX2_setWords_25 : decode cX2_setWords 25 = .ok (.if_icmp .ge 23, 3) := by decide +kernel
theorem dX2_setWords_28 : decode cX2_setWords 28 = .ok (.aload_n 0, 1) := by decide +kernel
theorem dX2_setWords_29 : decode cX2_setWords 29 = .ok (.dup, 1) := by decide +kernel
theorem dX2_setWords_30 : decode cX2_setWords 30 = .ok (.getfield 44, 3) := by decide +kernel
theorem dX2_setWords_33 : decode cX2_setWords 33 = .ok (.aload_n 0, 1) := by decide +kernel
theorem dX2_setWords_34 : decode cX2_setWords 34 = .ok (.getfield 47, 3) := by decide +kernel
theorem dX2_setWords_37 : decode cX2_setWords 37 = .ok (.iadd, 1) := by decide +kernel
theorem dX2_setWords_38 : decode cX2_setWords 38 = .ok (.putfield 44, 3) := by decide +kernel
theorem dX2_setWords_41 : decode cX2_setWords 41 = .ok (.aload_n 0, 1) := by decide +kernel
theorem dX2_setWords_42 : decode cX2_setWords 42 = .ok (.iconst (-1), 1) := by decide +kernel
theorem dX2_setWords_43 : decode cX2_setWords 43 = .ok (.putfield 47, 3) := by decide +kernel
theorem dX2_setWords_46 : decode cX2_setWords 46 = .ok (.iconst 0, 1) := by decide +kernel
theorem dX2_setWords_47 : decode cX2_setWords 47 = .ok (.ireturn, 1) := by decide +kernel
theorem dX2_setWords_48 : decode cX2_setWords 48 = .ok (.aload_n 0, 1) := by decide +kernel
theorem dX2_setWords_49 : decode cX2_setWords 49 = .ok (.dup, 1) := by decide +kernel
theorem dX2_setWords_50 : decode cX2_setWords 50 = .ok (.getfield 44, 3) := by decide +kernel
theorem dX2_setWords_53 : decode cX2_setWords 53 = .ok (.iload_n 1, 1) := by decide +kernel
theorem dX2_setWords_54 : decode cX2_setWords 54 = .ok (.iadd, 1) := by decide +kernel
theorem dX2_setWords_55 : decode cX2_setWords 55 = .ok (.putfield 44, 3) := by decide +kernel
theorem dX2_setWords_58 : decode cX2_setWords 58 = .ok (.aload_n 0, 1) := by decide +kernel
theorem dX2_setWords_59 : decode cX2_setWords 59 = .ok (.dup, 1) := by decide +kernel
theorem dX2_setWords_60 : decode cX2_setWords 60 = .ok (.getfield 47, 3) := by decide +kernel
theorem dX2_setWords_63 : decode cX2_setWords 63 = .ok (.iload_n 1, 1) := by decide +kernel
theorem dX2_setWords_64 : decode cX2_setWords 64 = .ok (.isub, 1) := by decide +kernel
theorem dX2_setWords_65 : decode cX2_setWords 65 = .ok (.putfield 47, 3) := by decide +kernel
theorem dX2_setWords_68 : decode cX2_setWords 68 = .ok (.iconst 1, 1) := by decide +kernel
theorem dX2_setWords_69 : decode cX2_setWords 69 = .ok (.ireturn, 1) := by decide +kernel
theorem dX2_leftmostPage_0 : decode cX2_leftmostPage 0 = .ok (.aload_n 0, 1) := by decide +kernel
theorem dX2_leftmostPage_1 : decode cX2_leftmostPage 1 = .ok (.iload_n 1, 1) := by decide +kernel
theorem dX2_leftmostPage_2 : decode cX2_leftmostPage 2 = .ok (.aload_n 0, 1) := by decide +kernel
theorem dX2_leftmostPage_3 : decode cX2_leftmostPage 3 = .ok (.getfield 14, 3) := by decide +kernel
theorem dX2_leftmostPage_6 : decode cX2_leftmostPage 6 = .ok (.invokevirtual 60, 3) := by decide +kernel
theorem dX2_leftmostPage_9 : decode cX2_leftmostPage 9 = .ok (.areturn, 1) := by decide +kernel
theorem dX2_pageInCharge_0 : decode cX2_pageInCharge 0 = .ok (.aload_n 0, 1) := by decide +kernel
theorem dX2_pageInCharge_1 : decode cX2_pageInCharge 1 = .ok (.getfield 29, 3) := by decide +kernel
theorem dX2_pageInCharge_4 : decode cX2_pageInCharge 4 = .ok (.astore_n 3, 1) := by decide +kernel
theorem dX2_pageInCharge_5 : decode cX2_pageInCharge 5 = .ok (.aload_n 0, 1) := by decide +kernel
theorem dX2_pageInCharge_6 : decode cX2_pageInCharge 6 = .ok (.getfield 29, 3) := by decide +kernel
theorem dX2_pageInCharge_9 : decode cX2_pageInCharge 9 = .ok (.getfield 131, 3) := by decide +kernel
theorem dX2_pageInCharge_12 : decode cX2_pageInCharge 12 = .ok (.istore 4, 2) := by decide +kernel
theorem dX2_pageInCharge_14 : decode cX2_pageInCharge 14 = .ok (.iload 4, 2) := by decide +kernel
theorem dX2_pageInCharge_16 : decode cX2_pageInCharge 16 = .ok (.iload_n 1, 1) := by decide +kernel
theorem dX2_pageInCharge_17 : decode cX2_pageInCharge 17 = .ok (.if_icmp .le 30, 3) := by decide +kernel
theorem dX2_pageInCharge_20 : decode cX2_pageInCharge 20 = .ok (.aload_n 3, 1) := by decide +kernel
theorem dX2_pageInCharge_21 : decode cX2_pageInCharge 21 = .ok (.aload_n 2, 1) := by decide +kernel
theorem dX2_pageInCharge_22 : decode cX2_pageInCharge 22 = .ok (.invokevirtual 137, 3) := by decide +kernel
theorem dX2_pageInCharge_25 : decode cX2_pageInCharge 25 = .ok (.astore 5, 2) := by decide +kernel
theorem dX2_pageInCharge_27 : decode cX2_pageInCharge 27 = .ok (.aload 5, 2) := by decide +kernel
theorem dX2_pageInCharge_29 : decode cX2_pageInCharge 29 = .ok (.ifnonnull 5, 3) := by decide +kernel
theorem dX2_pageInCharge_32 : decode cX2_pageInCharge 32 = .ok (.aload_n 3, 1) := by decide +kernel
theorem dX2_pageInCharge_33 : decode cX2_pageInCharge 33 = .ok (.areturn, 1) := by decide +kernel
theorem dX2_pageInCharge_34 : decode cX2_pageInCharge 34 = .ok (.aload 5, 2) := by decide +kernel
theorem dX2_pageInCharge_36 : decode cX2_pageInCharge 36 = .ok (.aload_n 2, 1) := by decide +kernel
theorem dX2_pageInCharge_37 : decode cX2_pageInCharge 37 = .ok (.invokestatic 141, 3) := by decide +kernel
theorem dX2_pageInCharge_40 : decode cX2_pageInCharge 40 = .ok (.astore_n 3, 1) := by decide +kernel
theorem dX2_pageInCharge_41 : decode cX2_pageInCharge 41 = .ok (.iinc 4 (-1), 3) := by decide +kernel
theorem dX2_pageInCharge_44 : decode cX2_pageInCharge 44 = .ok (.goto (-30), 3) := by decide +kernel
theorem dX2_pageInCharge_47 : decode cX2_pageInCharge 47 = .ok (.aload_n 3, 1) := by decide +kernel
theorem dX2_pageInCharge_48 : decode cX2_pageInCharge 48 = .ok (.areturn, 1) := by decide +kernel
theorem dX2_goRight_0 : decode cX2_goRight 0 = .ok (.aload_n 0, 1) := by decide +kernel
theorem dX2_goRight_1 : decode cX2_goRight 1 = .ok (.astore_n 2, 1) := by decide +kernel
theorem dX2_goRight_2 : decode cX2_goRight 2 = .ok (.iconst 0, 1) := by decide +kernel
theorem dX2_goRight_3 : decode cX2_goRight 3 = .ok (.istore_n 3, 1) := by decide +kernel
theorem dX2_goRight_4 : decode cX2_goRight 4 = .ok (.iload_n 3, 1) := by decide +kernel
theorem dX2_goRight_5 : decode cX2_goRight 5 = .ok (.bipush 60, 2) := by decide +kernel
theorem dX2_goRight_7 : decode cX2_goRight 7 = .ok (.if_icmp .ge 37, 3) := by decide +kernel
theorem dX2_goRight_10 : decode cX2_goRight 10 = .ok (.aload_n 2, 1) := by decide +kernel
theorem dX2_goRight_11 : decode cX2_goRight 11 = .ok (.getfield 100, 3) := by decide +kernel
theorem dX2_goRight_14 : decode cX2_goRight 14 = .ok (.ifnull 30, 3) := by decide +kernel
theorem dX2_goRight_17 : decode cX2_goRight 17 = .ok (.aload_n 1, 1) := by decide +kernel
theorem dX2_goRight_18 : decode cX2_goRight 18 = .ok (.aload_n 2, 1) := by decide +kernel
theorem dX2_goRight_19 : decode cX2_goRight 19 = .ok (.getfield 100, 3) := by decide +kernel
theorem dX2_goRight_22 : decode cX2_goRight 22 = .ok (.getfield 145, 3) := by decide +kernel
theorem dX2_goRight_25 : decode cX2_goRight 25 = .ok (.invokevirtual 148, 3) := by decide +kernel
theorem dX2_goRight_28 : decode cX2_goRight 28 = .ok (.ifCond .ge 5, 3) := by decide +kernel
theorem dX2_goRight_31 : decode cX2_goRight 31 = .ok (.aload_n 2, 1) := by decide +kernel
theorem dX2_goRight_32 : decode cX2_goRight 32 = .ok (.areturn, 1) := by decide +kernel
theorem dX2_goRight_33 : decode cX2_goRight 33 = .ok (.aload_n 2, 1) := by decide +kernel
theorem dX2_goRight_34 : decode cX2_goRight 34 = .ok (.getfield 100, 3) := by decide +kernel
theorem dX2_goRight_37 : decode cX2_goRight 37 = .ok (.astore_n 2, 1) := by decide +kernel
theorem dX2_goRight_38 : decode cX2_goRight 38 = .ok (.iinc 3 1, 3) := by decide +kernel
theorem dX2_goRight_41 : decode cX2_goRight 41 = .ok (.goto (-37), 3) := by decide +kernel
theorem dX2_goRight_44 : decode cX2_goRight 44 = .ok (.aload_n 2, 1) := by decide +kernel
theorem dX2_goRight_45 : decode cX2_goRight 45 = .ok (.areturn, 1) := by decide +kernel
theorem dX2_pagesNeeded_0 : decode cX2_pagesNeeded 0 = .ok (.iconst 0, 1) := by decide +kernel
theorem dX2_pagesNeeded_1 : decode cX2_pagesNeeded 1 = .ok (.istore_n 2, 1) := by decide +kernel
theorem dX2_pagesNeeded_2 : decode cX2_pagesNeeded 2 = .ok (.iconst 0, 1) := by decide +kernel
theorem dX2_pagesNeeded_3 : decode cX2_pagesNeeded 3 = .ok (.istore_n 3, 1) := by decide +kernel
theorem dX2_pagesNeeded_4 : decode cX2_pagesNeeded 4 = .ok (.iload_n 3, 1) := by decide +kernel
theorem dX2_pagesNeeded_5 : decode cX2_pagesNeeded 5 = .ok (.aload_n 0, 1) := by decide +kernel
theorem dX2_pagesNeeded_6 : decode cX2_pagesNeeded 6 = .ok (.getfield 29, 3) := by decide +kernel
theorem dX2_pagesNeeded_9 : decode cX2_pagesNeeded 9 = .ok (.getfield 131, 3) := by decide +kernel
theorem dX2_pagesNeeded_12 : decode cX2_pagesNeeded 12 = .ok (.if_icmp .gt 46, 3) := by decide +kernel
theorem dX2_pagesNeeded_15 : decode cX2_pagesNeeded 15 = .ok (.aload_n 0, 1) := by decide +kernel
theorem dX2_pagesNeeded_16 : decode cX2_pagesNeeded 16 = .ok (.iload_n 3, 1) := by decide +kernel
theorem dX2_pagesNeeded_17 : decode cX2_pagesNeeded 17 = .ok (.aload_n 1, 1) := by decide +kernel
theorem dX2_pagesNeeded_18 : decode cX2_pagesNeeded 18 = .ok (.invokevirtual 60, 3) := by decide +kernel
theorem dX2_pagesNeeded_21 : decode cX2_pagesNeeded 21 = .ok (.astore 4, 2) := by decide +kernel
theorem dX2_pagesNeeded_23 : decode cX2_pagesNeeded 23 = .ok (.aload 4, 2) := by decide +kernel
theorem dX2_pagesNeeded_25 : decode cX2_pagesNeeded 25 = .ok (.getfield 97, 3) := by decide +kernel
theorem dX2_pagesNeeded_28 : decode cX2_pagesNeeded 28 = .ok (.bipush 10, 2) := by decide +kernel
theorem dX2_pagesNeeded_30 : decode cX2_pagesNeeded 30 = .ok (.if_icmp .ge 5, 3) := by decide +kernel
theorem dX2_pagesNeeded_33 : decode cX2_pagesNeeded 33 = .ok (.iload_n 2, 1) := by decide +kernel
theorem dX2_pagesNeeded_34 : decode cX2_pagesNeeded 34 = .ok (.ireturn, 1) := by decide +kernel
theorem dX2_pagesNeeded_35 : decode cX2_pagesNeeded 35 = .ok (.iload_n 2, 1) := by decide +kernel
theorem dX2_pagesNeeded_36 : decode cX2_pagesNeeded 36 = .ok (.aload 4, 2) := by decide +kernel
theorem dX2_pagesNeeded_38 : decode cX2_pagesNeeded 38 = .ok (.aload_n 0, 1) := by decide +kernel
theorem dX2_pagesNeeded_39 : decode cX2_pagesNeeded 39 = .ok (.getfield 29, 3) := by decide +kernel
theorem dX2_pagesNeeded_42 : decode cX2_pagesNeeded 42 = .ok (.if_acmp .ne 7, 3) := by decide +kernel
theorem dX2_pagesNeeded_45 : decode cX2_pagesNeeded 45 = .ok (.iconst 2, 1) := by decide +kernel
theorem dX2_pagesNeeded_46 : decode cX2_pagesNeeded 46 = .ok (.goto 4, 3) := by decide +kernel
theorem dX2_pagesNeeded_49 : decode cX2_pagesNeeded 49 = .ok (.iconst 1, 1) := by decide +kernel
theorem dX2_pagesNeeded_50 : decode cX2_pagesNeeded 50 = .ok (.iadd, 1) := by decide +kernel
theorem dX2_pagesNeeded_51 : decode cX2_pagesNeeded 51 = .ok (.istore_n 2, 1) := by decide +kernel
theorem dX2_pagesNeeded_52 : decode cX2_pagesNeeded 52 = .ok (.iinc 3 1, 3) := by decide +kernel
theorem dX2_pagesNeeded_55 : decode cX2_pagesNeeded 55 = .ok (.goto (-51), 3) := by decide +kernel
theorem dX2_pagesNeeded_58 : decode cX2_pagesNeeded 58 = .ok (.iload_n 2, 1) := by decide +kernel
theorem dX2_pagesNeeded_59 : decode cX2_pagesNeeded 59 = .ok (.ireturn, 1) := by decide +kernel
theorem dX2_takePages_0 : decode cX2_takePages 0 = .ok (.iload_n 1, 1) := by decide +kernel
theorem dX2_takePages_1 : decode cX2_takePages 1 = .ok (.bipush 60, 2) := by decide +kernel
theorem dX2_takePages_3 : decode cX2_takePages 3 = .ok (.aload_n 0, 1) := by decide +kernel
theorem dX2_takePages_4 : decode cX2_takePages 4 = .ok (.getfield 37, 3) := by decide +kernel
theorem dX2_takePages_7 : decode cX2_takePages 7 = .ok (.isub, 1) := by decide +kernel
theorem dX2_takePages_8 : decode cX2_takePages 8 = .ok (.if_icmp .le 5, 3) := by decide +kernel
theorem dX2_takePages_11 : decode cX2_takePages 11 = .ok (.iconst 0, 1) := by decide +kernel
theorem dX2_takePages_12 : decode cX2_takePages 12 = .ok (.ireturn, 1) := by decide +kernel
theorem dX2_takePages_13 : decode cX2_takePages 13 = .ok (.aload_n 0, 1) := by decide +kernel
theorem dX2_takePages_14 : decode cX2_takePages 14 = .ok (.aload_n 0, 1) := by decide +kernel
theorem dX2_takePages_15 : decode cX2_takePages 15 = .ok (.getfield 37, 3) := by decide +kernel
theorem dX2_takePages_18 : decode cX2_takePages 18 = .ok (.putfield 41, 3) := by decide +kernel
theorem dX2_takePages_21 : decode cX2_takePages 21 = .ok (.aload_n 0, 1) := by decide +kernel
theorem dX2_takePages_22 : decode cX2_takePages 22 = .ok (.dup, 1) := by decide +kernel
theorem dX2_takePages_23 : decode cX2_takePages 23 = .ok (.getfield 37, 3) := by decide +kernel
theorem dX2_takePages_26 : decode cX2_takePages 26 = .ok (.iload_n 1, 1) := by decide +kernel
theorem dX2_takePages_27 : decode cX2_takePages 27 = .ok (.iadd, 1) := by decide +kernel
theorem dX2_takePages_28 : decode cX2_takePages 28 = .ok (.putfield 37, 3) := by decide +kernel
theorem dX2_takePages_31 : decode cX2_takePages 31 = .ok (.iconst 1, 1) := by decide +kernel
theorem dX2_takePages_32 : decode cX2_takePages 32 = .ok (.ireturn, 1) := by decide +kernel
theorem dX2_useTakenPage_0 : decode cX2_useTakenPage 0 = .ok (.aload_n 0, 1) := by decide +kernel
theorem dX2_useTakenPage_1 : decode cX2_useTakenPage 1 = .ok (.getfield 41, 3) := by decide +kernel
theorem dX2_useTakenPage_4 : decode cX2_useTakenPage 4 = .ok (.ifCond .lt 26, 3) := by decide +kernel
theorem dX2_useTakenPage_7 : decode cX2_useTakenPage 7 = .ok (.aload_n 0, 1) := by decide +kernel
theorem dX2_useTakenPage_8 : decode cX2_useTakenPage 8 = .ok (.getfield 41, 3) := by decide +kernel
theorem dX2_useTakenPage_11 : decode cX2_useTakenPage 11 = .ok (.aload_n 0, 1) := by decide +kernel
theorem dX2_useTakenPage_12 : decode cX2_useTakenPage 12 = .ok (.getfield 37, 3) := by decide +kernel
theorem dX2_useTakenPage_15 : decode cX2_useTakenPage 15 = .ok (.if_icmp .ge 15, 3) := by decide +kernel
theorem dX2_useTakenPage_18 : decode cX2_useTakenPage 18 = .ok (.aload_n 0, 1) := by decide +kernel
theorem dX2_useTakenPage_19 : decode cX2_useTakenPage 19 = .ok (.getfield 41, 3) := by decide +kernel
theorem dX2_useTakenPage_22 : decode cX2_useTakenPage 22 = .ok (.aload_n 0, 1) := by decide +kernel
theorem dX2_useTakenPage_23 : decode cX2_useTakenPage 23 = .ok (.getfield 33, 3) := by decide +kernel
theorem dX2_useTakenPage_26 : decode cX2_useTakenPage 26 = .ok (.arraylength, 1) := by decide +kernel
theorem dX2_useTakenPage_27 : decode cX2_useTakenPage 27 = .ok (.if_icmp .lt 5, 3) := by decide +kernel
theorem dX2_useTakenPage_30 : decode cX2_useTakenPage 30 = .ok (.aconst_null, 1) := by decide +kernel
theorem dX2_useTakenPage_31 : decode cX2_useTakenPage 31 = .ok (.areturn, 1) := by decide +kernel
theorem dX2_useTakenPage_32 : decode cX2_useTakenPage 32 = .ok (.aload_n 0, 1) := by decide +kernel
theorem dX2_useTakenPage_33 : decode cX2_useTakenPage 33 = .ok (.getfield 33, 3) := by decide +kernel
theorem dX2_useTakenPage_36 : decode cX2_useTakenPage 36 = .ok (.aload_n 0, 1) := by decide +kernel
theorem dX2_useTakenPage_37 : decode cX2_useTakenPage 37 = .ok (.getfield 41, 3) := by decide +kernel
theorem dX2_useTakenPage_40 : decode cX2_useTakenPage 40 = .ok (.aaload, 1) := by decide +kernel
theorem dX2_useTakenPage_41 : decode cX2_useTakenPage 41 = .ok (.astore_n 2, 1) := by decide +kernel
theorem dX2_useTakenPage_42 : decode cX2_useTakenPage 42 = .ok (.aload_n 0, 1) := by decide +kernel
theorem dX2_useTakenPage_43 : decode cX2_useTakenPage 43 = .ok (.dup, 1) := by decide +kernel
theorem dX2_useTakenPage_44 : decode cX2_useTakenPage 44 = .ok (.getfield 41, 3) := by decide +kernel
theorem dX2_useTakenPage_47 : decode cX2_useTakenPage 47 = .ok (.iconst 1, 1) := by decide +kernel
theorem dX2_useTakenPage_48 : decode cX2_useTakenPage 48 = .ok (.iadd, 1) := by decide +kernel
theorem dX2_useTakenPage_49 : decode cX2_useTakenPage 49 = .ok (.putfield 41, 3) := by decide +kernel
theorem dX2_useTakenPage_52 : decode cX2_useTakenPage 52 = .ok (.aload_n 2, 1) := by decide +kernel
theorem dX2_useTakenPage_53 : decode cX2_useTakenPage 53 = .ok (.iload_n 1, 1) := by decide +kernel
theorem dX2_useTakenPage_54 : decode cX2_useTakenPage 54 = .ok (.aload_n 0, 1) := by decide +kernel
theorem dX2_useTakenPage_55 : decode cX2_useTakenPage 55 = .ok (.getfield 14, 3) := by decide +kernel
theorem dX2_useTakenPage_58 : decode cX2_useTakenPage 58 = .ok (.invokevirtual 127, 3) := by decide +kernel
theorem dX2_useTakenPage_61 : decode cX2_useTakenPage 61 = .ok (.aload_n 2, 1) := by decide +kernel
theorem dX2_useTakenPage_62 : decode cX2_useTakenPage 62 = .ok (.areturn, 1) := by decide +kernel
theorem dX2_put_0 : decode cX2_put 0 = .ok (.iload_n 1, 1) := by decide +kernel
theorem dX2_put_1 : decode cX2_put 1 = .ok (.aload_n 0, 1) := by decide +kernel
theorem dX2_put_2 : decode cX2_put 2 = .ok (.getfield 29, 3) := by decide +kernel
theorem dX2_put_5 : decode cX2_put 5 = .ok (.getfield 131, 3) := by decide +kernel
theorem dX2_put_8 : decode cX2_put 8 = .ok (.if_icmp .le 5, 3) := by decide +kernel
theorem dX2_put_11 : decode cX2_put 11 = .ok (.iconst 0, 1) := by decide +kernel
theorem dX2_put_12 : decode cX2_put 12 = .ok (.ireturn, 1) := by decide +kernel
theorem dX2_put_13 : decode cX2_put 13 = .ok (.aload_n 0, 1) := by decide +kernel
theorem dX2_put_14 : decode cX2_put 14 = .ok (.iload_n 1, 1) := by decide +kernel
theorem dX2_put_15 : decode cX2_put 15 = .ok (.aload_n 2, 1) := by decide +kernel
theorem dX2_put_16 : decode cX2_put 16 = .ok (.invokevirtual 60, 3) := by decide +kernel
theorem dX2_put_19 : decode cX2_put 19 = .ok (.astore 4, 2) := by decide +kernel
theorem dX2_put_21 : decode cX2_put 21 = .ok (.aload 4, 2) := by decide +kernel
theorem dX2_put_23 : decode cX2_put 23 = .ok (.getfield 97, 3) := by decide +kernel
theorem dX2_put_26 : decode cX2_put 26 = .ok (.bipush 10, 2) := by decide +kernel
theorem dX2_put_28 : decode cX2_put 28 = .ok (.if_icmp .lt 34, 3) := by decide +kernel
theorem dX2_put_31 : decode cX2_put 31 = .ok (.aload 4, 2) := by decide +kernel
theorem dX2_put_33 : decode cX2_put 33 = .ok (.aload_n 0, 1) := by decide +kernel
theorem dX2_put_34 : decode cX2_put 34 = .ok (.getfield 29, 3) := by decide +kernel
theorem dX2_put_37 : decode cX2_put 37 = .ok (.if_acmp .ne 10, 3) := by decide +kernel
theorem dX2_put_40 : decode cX2_put 40 = .ok (.aload_n 0, 1) := by decide +kernel
theorem dX2_put_41 : decode cX2_put 41 = .ok (.invokevirtual 151, 3) := by decide +kernel
theorem dX2_put_44 : decode cX2_put 44 = .ok (.goto 9, 3) := by decide +kernel
theorem dX2_put_47 : decode cX2_put 47 = .ok (.aload_n 0, 1) := by decide +kernel
theorem dX2_put_48 : decode cX2_put 48 = .ok (.aload 4, 2) := by decide +kernel
theorem dX2_put_50 : decode cX2_put 50 = .ok (.invokevirtual 155, 3) := by decide +kernel
theorem dX2_put_53 : decode cX2_put 53 = .ok (.istore 5, 2) := by decide +kernel
theorem dX2_put_55 : decode cX2_put 55 = .ok (.iload 5, 2) := by decide +kernel
theorem dX2_put_57 : decode cX2_put 57 = .ok (.ifCond .ne 5, 3) := by decide +kernel
theorem dX2_put_60 : decode cX2_put 60 = .ok (.iconst 0, 1) := by decide +kernel
theorem dX2_put_61 : decode cX2_put 61 = .ok (.ireturn, 1) := by decide +kernel
theorem dX2_put_62 : decode cX2_put 62 = .ok (.aload_n 0, 1) := by decide +kernel
theorem dX2_put_63 : decode cX2_put 63 = .ok (.aload_n 0, 1) := by decide +kernel
theorem dX2_put_64 : decode cX2_put 64 = .ok (.iload_n 1, 1) := by decide +kernel
theorem dX2_put_65 : decode cX2_put 65 = .ok (.aload_n 2, 1) := by decide +kernel
theorem dX2_put_66 : decode cX2_put 66 = .ok (.invokevirtual 60, 3) := by decide +kernel
theorem dX2_put_69 : decode cX2_put 69 = .ok (.aload_n 2, 1) := by decide +kernel
theorem dX2_put_70 : decode cX2_put 70 = .ok (.aload_n 3, 1) := by decide +kernel
theorem dX2_put_71 : decode cX2_put 71 = .ok (.invokevirtual 159, 3) := by decide +kernel
theorem dX2_put_74 : decode cX2_put 74 = .ok (.ireturn, 1) := by decide +kernel
theorem dX2_bringInto_0 : decode cX2_bringInto 0 = .ok (.aload_n 1, 1) := by decide +kernel
theorem dX2_bringInto_1 : decode cX2_bringInto 1 = .ok (.getfield 86, 3) := by decide +kernel
theorem dX2_bringInto_4 : decode cX2_bringInto 4 = .ok (.ifCond .eq 18, 3) := by decide +kernel
theorem dX2_bringInto_7 : decode cX2_bringInto 7 = .ok (.aload_n 0, 1) := by decide +kernel
theorem dX2_bringInto_8 : decode cX2_bringInto 8 = .ok (.iconst 1, 1) := by decide +kernel
theorem dX2_bringInto_9 : decode cX2_bringInto 9 = .ok (.invokevirtual 80, 3) := by decide +kernel
theorem dX2_bringInto_12 : decode cX2_bringInto 12 = .ok (.ifCond .ne 5, 3) := by decide +kernel
theorem dX2_bringInto_15 : decode cX2_bringInto 15 = .ok (.iconst 0, 1) := by decide +kernel
theorem dX2_bringInto_16 : decode cX2_bringInto 16 = .ok (.ireturn, 1) := by decide +kernel
theorem dX2_bringInto_17 : decode cX2_bringInto 17 = .ok (.aload_n 1, 1) := by decide +kernel
theorem dX2_bringInto_18 : decode cX2_bringInto 18 = .ok (.iconst 0, 1) := by decide +kernel
theorem dX2_bringInto_19 : decode cX2_bringInto 19 = .ok (.putfield 86, 3) := by decide +kernel
theorem dX2_bringInto_22 : decode cX2_bringInto 22 = .ok (.aload_n 0, 1) := by decide +kernel
theorem dX2_bringInto_23 : decode cX2_bringInto 23 = .ok (.bipush 11, 2) := by decide +kernel
theorem dX2_bringInto_25 : decode cX2_bringInto 25 = .ok (.invokevirtual 80, 3) := by decide +kernel
theorem dX2_bringInto_28 : decode cX2_bringInto 28 = .ok (.ifCond .ne 5, 3) := by decide +kernel
theorem dX2_bringInto_31 : decode cX2_bringInto 31 = .ok (.iconst 0, 1) := by decide +kernel
theorem dX2_bringInto_32 : decode cX2_bringInto 32 = .ok (.ireturn, 1) := by decide +kernel
theorem dX2_bringInto_33 : decode cX2_bringInto 33 = .ok (.aload_n 1, 1) := by decide +kernel
theorem dX2_bringInto_34 : decode cX2_bringInto 34 = .ok (.aload_n 2, 1) := by decide +kernel
theorem dX2_bringInto_35 : decode cX2_bringInto 35 = .ok (.aload_n 3, 1) := by decide +kernel
theorem dX2_bringInto_36 : decode cX2_bringInto 36 = .ok (.invokevirtual 163, 3) := by decide +kernel
theorem dX2_bringInto_39 : decode cX2_bringInto 39 = .ok (.iconst 1, 1) := by decide +kernel
theorem dX2_bringInto_40 : decode cX2_bringInto 40 = .ok (.ireturn, 1) := by decide +kernel
theorem dX2_splitRoot_0 : decode cX2_splitRoot 0 = .ok (.aload_n 0, 1) := by decide +kernel
theorem dX2_splitRoot_1 : decode cX2_splitRoot 1 = .ok (.aload_n 0, 1) := by decide +kernel
theorem dX2_splitRoot_2 : decode cX2_splitRoot 2 = .ok (.getfield 29, 3) := by decide +kernel
theorem dX2_splitRoot_5 : decode cX2_splitRoot 5 = .ok (.getfield 131, 3) := by decide +kernel
theorem dX2_splitRoot_8 : decode cX2_splitRoot 8 = .ok (.invokevirtual 167, 3) := by decide +kernel
theorem dX2_splitRoot_11 : decode cX2_splitRoot 11 = .ok (.astore_n 1, 1) := by decide +kernel
theorem dX2_splitRoot_12 : decode cX2_splitRoot 12 = .ok (.aload_n 0, 1) := by decide +kernel
theorem dX2_splitRoot_13 : decode cX2_splitRoot 13 = .ok (.aload_n 0, 1) := by decide +kernel
theorem dX2_splitRoot_14 : decode cX2_splitRoot 14 = .ok (.getfield 29, 3) := by decide +kernel
theorem dX2_splitRoot_17 : decode cX2_splitRoot 17 = .ok (.getfield 131, 3) := by decide +kernel
theorem dX2_splitRoot_20 : decode cX2_splitRoot 20 = .ok (.invokevirtual 167, 3) := by decide +kernel
theorem dX2_splitRoot_23 : decode cX2_splitRoot 23 = .ok (.astore_n 2, 1) := by decide +kernel
theorem dX2_splitRoot_24 : decode cX2_splitRoot 24 = .ok (.aload_n 1, 1) := by decide +kernel
theorem dX2_splitRoot_25 : decode cX2_splitRoot 25 = .ok (.ifnull 7, 3) := by decide +kernel
theorem dX2_splitRoot_28 : decode cX2_splitRoot 28 = .ok (.aload_n 2, 1) := by decide +kernel
theorem dX2_splitRoot_29 : decode cX2_splitRoot 29 = .ok (.ifnonnull 5, 3) := by decide +kernel
theorem dX2_splitRoot_32 : decode cX2_splitRoot 32 = .ok (.iconst 0, 1) := by decide +kernel
theorem dX2_splitRoot_33 : decode cX2_splitRoot 33 = .ok (.ireturn, 1) := by decide +kernel
theorem dX2_splitRoot_34 : decode cX2_splitRoot 34 = .ok (.aload_n 0, 1) := by decide +kernel
theorem dX2_splitRoot_35 : decode cX2_splitRoot 35 = .ok (.sipush 145, 3) := by decide +kernel
theorem dX2_splitRoot_38 : decode cX2_splitRoot 38 = .ok (.invokevirtual 80, 3) := by decide +kernel
theorem dX2_splitRoot_41 : decode cX2_splitRoot 41 = .ok (.ifCond .ne 5, 3) := by decide +kernel
theorem dX2_splitRoot_44 : decode cX2_splitRoot 44 = .ok (.iconst 0, 1) := by decide +kernel
theorem dX2_splitRoot_45 : decode cX2_splitRoot 45 = .ok (.ireturn, 1) := by decide +kernel
theorem dX2_splitRoot_46 : decode cX2_splitRoot 46 = .ok (.aload_n 1, 1) := by decide +kernel
theorem dX2_splitRoot_47 : decode cX2_splitRoot 47 = .ok (.aload_n 0, 1) := by decide +kernel
theorem dX2_splitRoot_48 : decode cX2_splitRoot 48 = .ok (.getfield 29, 3) := by decide +kernel
theorem dX2_splitRoot_51 : decode cX2_splitRoot 51 = .ok (.iconst 0, 1) := by decide +kernel
theorem dX2_splitRoot_52 : decode cX2_splitRoot 52 = .ok (.iconst 5, 1) := by decide +kernel
theorem dX2_splitRoot_53 : decode cX2_splitRoot 53 = .ok (.invokevirtual 170, 3) := by decide +kernel
theorem dX2_splitRoot_56 : decode cX2_splitRoot 56 = .ok (.aload_n 2, 1) := by decide +kernel
theorem dX2_splitRoot_57 : decode cX2_splitRoot 57 = .ok (.aload_n 0, 1) := by decide +kernel
theorem dX2_splitRoot_58 : decode cX2_splitRoot 58 = .ok (.getfield 29, 3) := by decide +kernel
theorem dX2_splitRoot_61 : decode cX2_splitRoot 61 = .ok (.iconst 5, 1) := by decide +kernel
theorem dX2_splitRoot_62 : decode cX2_splitRoot 62 = .ok (.bipush 10, 2) := by decide +kernel
theorem dX2_splitRoot_64 : decode cX2_splitRoot 64 = .ok (.invokevirtual 170, 3) := by decide +kernel
theorem dX2_splitRoot_67 : decode cX2_splitRoot 67 = .ok (.aload_n 2, 1) := by decide +kernel
theorem dX2_splitRoot_68 : decode cX2_splitRoot 68 = .ok (.aload_n 2, 1) := by decide +kernel
theorem dX2_splitRoot_69 : decode cX2_splitRoot 69 = .ok (.iconst 0, 1) := by decide +kernel
theorem dX2_splitRoot_70 : decode cX2_splitRoot 70 = .ok (.invokevirtual 103, 3) := by decide +kernel
theorem dX2_splitRoot_73 : decode cX2_splitRoot 73 = .ok (.putfield 145, 3) := by decide +kernel
theorem dX2_splitRoot_76 : decode cX2_splitRoot 76 = .ok (.aload_n 1, 1) := by decide +kernel
theorem dX2_splitRoot_77 : decode cX2_splitRoot 77 = .ok (.aload_n 2, 1) := by decide +kernel
theorem dX2_splitRoot_78 : decode cX2_splitRoot 78 = .ok (.putfield 100, 3) := by decide +kernel
theorem dX2_splitRoot_81 : decode cX2_splitRoot 81 = .ok (.aload_n 0, 1) := by decide +kernel
theorem dX2_splitRoot_82 : decode cX2_splitRoot 82 = .ok (.getfield 29, 3) := by decide +kernel
theorem dX2_splitRoot_85 : decode cX2_splitRoot 85 = .ok (.aload_n 0, 1) := by decide +kernel
theorem dX2_splitRoot_86 : decode cX2_splitRoot 86 = .ok (.getfield 29, 3) := by decide +kernel
theorem dX2_splitRoot_89 : decode cX2_splitRoot 89 = .ok (.getfield 131, 3) := by decide +kernel
theorem dX2_splitRoot_92 : decode cX2_splitRoot 92 = .ok (.iconst 1, 1) := by decide +kernel
theorem dX2_splitRoot_93 : decode cX2_splitRoot 93 = .ok (.iadd, 1) := by decide +kernel
theorem dX2_splitRoot_94 : decode cX2_splitRoot 94 = .ok (.aload_n 0, 1) := by decide +kernel
theorem dX2_splitRoot_95 : decode cX2_splitRoot 95 = .ok (.getfield 14, 3) := by decide +kernel
theorem dX2_splitRoot_98 : decode cX2_splitRoot 98 = .ok (.invokevirtual 127, 3) := by decide +kernel
theorem dX2_splitRoot_101 : decode cX2_splitRoot 101 = .ok (.aload_n 0, 1) := by decide +kernel
theorem dX2_splitRoot_102 : decode cX2_splitRoot 102 = .ok (.getfield 29, 3) := by decide +kernel
theorem dX2_splitRoot_105 : decode cX2_splitRoot 105 = .ok (.aload_n 1, 1) := by decide +kernel
theorem dX2_splitRoot_106 : decode cX2_splitRoot 106 = .ok (.getfield 145, 3) := by decide +kernel
theorem dX2_splitRoot_109 : decode cX2_splitRoot 109 = .ok (.aload_n 1, 1) := by decide +kernel
theorem dX2_splitRoot_110 : decode cX2_splitRoot 110 = .ok (.invokevirtual 163, 3) := by decide +kernel
theorem dX2_splitRoot_113 : decode cX2_splitRoot 113 = .ok (.aload_n 0, 1) := by decide +kernel
theorem dX2_splitRoot_114 : decode cX2_splitRoot 114 = .ok (.getfield 29, 3) := by decide +kernel
theorem dX2_splitRoot_117 : decode cX2_splitRoot 117 = .ok (.aload_n 2, 1) := by decide +kernel
theorem dX2_splitRoot_118 : decode cX2_splitRoot 118 = .ok (.getfield 145, 3) := by decide +kernel
theorem dX2_splitRoot_121 : decode cX2_splitRoot 121 = .ok (.aload_n 2, 1) := by decide +kernel
theorem dX2_splitRoot_122 : decode cX2_splitRoot 122 = .ok (.invokevirtual 163, 3) := by decide +kernel
theorem dX2_splitRoot_125 : decode cX2_splitRoot 125 = .ok (.iconst 1, 1) := by decide +kernel
theorem dX2_splitRoot_126 : decode cX2_splitRoot 126 = .ok (.ireturn, 1) := by decide +kernel
theorem dX2_splitPage_0 : decode cX2_splitPage 0 = .ok (.aload_n 0, 1) := by decide +kernel
theorem dX2_splitPage_1 : decode cX2_splitPage 1 = .ok (.aload_n 1, 1) := by decide +kernel
theorem dX2_splitPage_2 : decode cX2_splitPage 2 = .ok (.getfield 131, 3) := by decide +kernel
theorem dX2_splitPage_5 : decode cX2_splitPage 5 = .ok (.invokevirtual 167, 3) := by decide +kernel
theorem dX2_splitPage_8 : decode cX2_splitPage 8 = .ok (.astore_n 2, 1) := by decide +kernel
theorem dX2_splitPage_9 : decode cX2_splitPage 9 = .ok (.aload_n 2, 1) := by decide +kernel
theorem dX2_splitPage_10 : decode cX2_splitPage 10 = .ok (.ifnull 12, 3) := by decide +kernel
theorem dX2_splitPage_13 : decode cX2_splitPage 13 = .ok (.aload_n 0, 1) := by decide +kernel
theorem dX2_splitPage_14 : decode cX2_splitPage 14 = .ok (.bipush 63, 2) := by decide +kernel
theorem dX2_splitPage_16 : decode cX2_splitPage 16 = .ok (.invokevirtual 80, 3) := by decide +kernel
theorem dX2_splitPage_19 : decode cX2_splitPage 19 = .ok (.ifCond .ne 5, 3) := by decide +kernel
theorem dX2_splitPage_22 : decode cX2_splitPage 22 = .ok (.iconst 0, 1) := by decide +kernel
theorem dX2_splitPage_23 : decode cX2_splitPage 23 = .ok (.ireturn, 1) := by decide +kernel
theorem dX2_splitPage_24 : decode cX2_splitPage 24 = .ok (.aload_n 2, 1) := by decide +kernel
theorem dX2_splitPage_25 : decode cX2_splitPage 25 = .ok (.aload_n 1, 1) := by decide +kernel
theorem dX2_splitPage_26 : decode cX2_splitPage 26 = .ok (.iconst 5, 1) := by decide +kernel
theorem dX2_splitPage_27 : decode cX2_splitPage 27 = .ok (.bipush 10, 2) := by decide +kernel
theorem dX2_splitPage_29 : decode cX2_splitPage 29 = .ok (.invokevirtual 170, 3) := by decide +kernel
theorem dX2_splitPage_32 : decode cX2_splitPage 32 = .ok (.aload_n 2, 1) := by decide +kernel
theorem dX2_splitPage_33 : decode cX2_splitPage 33 = .ok (.aload_n 2, 1) := by decide +kernel
theorem dX2_splitPage_34 : decode cX2_splitPage 34 = .ok (.iconst 0, 1) := by decide +kernel
theorem dX2_splitPage_35 : decode cX2_splitPage 35 = .ok (.invokevirtual 103, 3) := by decide +kernel
theorem dX2_splitPage_38 : decode cX2_splitPage 38 = .ok (.putfield 145, 3) := by decide +kernel
theorem dX2_splitPage_41 : decode cX2_splitPage 41 = .ok (.aload_n 2, 1) := by decide +kernel
theorem dX2_splitPage_42 : decode cX2_splitPage 42 = .ok (.aload_n 1, 1) := by decide +kernel
theorem dX2_splitPage_43 : decode cX2_splitPage 43 = .ok (.getfield 100, 3) := by decide +kernel
theorem dX2_splitPage_46 : decode cX2_splitPage 46 = .ok (.putfield 100, 3) := by decide +kernel
theorem dX2_splitPage_49 : decode cX2_splitPage 49 = .ok (.aload_n 1, 1) := by decide +kernel
theorem dX2_splitPage_50 : decode cX2_splitPage 50 = .ok (.aload_n 2, 1) := by decide +kernel
theorem dX2_splitPage_51 : decode cX2_splitPage 51 = .ok (.putfield 100, 3) := by decide +kernel
theorem dX2_splitPage_54 : decode cX2_splitPage 54 = .ok (.aload_n 1, 1) := by decide +kernel
theorem dX2_splitPage_55 : decode cX2_splitPage 55 = .ok (.iconst 5, 1) := by decide +kernel
theorem dX2_splitPage_56 : decode cX2_splitPage 56 = .ok (.putfield 97, 3) := by decide +kernel
theorem dX2_splitPage_59 : decode cX2_splitPage 59 = .ok (.aload_n 0, 1) := by decide +kernel
theorem dX2_splitPage_60 : decode cX2_splitPage 60 = .ok (.iconst 1, 1) := by decide +kernel
theorem dX2_splitPage_61 : decode cX2_splitPage 61 = .ok (.invokevirtual 80, 3) := by decide +kernel
theorem dX2_splitPage_64 : decode cX2_splitPage 64 = .ok (.ifCond .ne 10, 3) := by decide +kernel
theorem dX2_splitPage_67 : decode cX2_splitPage 67 = .ok (.aload_n 1, 1) := by decide +kernel
theorem dX2_splitPage_68 : decode cX2_splitPage 68 = .ok (.iconst 1, 1) := by decide +kernel
theorem dX2_splitPage_69 : decode cX2_splitPage 69 = .ok (.putfield 86, 3) := by decide +kernel
theorem dX2_splitPage_72 : decode cX2_splitPage 72 = .ok (.iconst 0, 1) := by decide +kernel
theorem dX2_splitPage_73 : decode cX2_splitPage 73 = .ok (.ireturn, 1) := by decide +kernel
theorem dX2_splitPage_74 : decode cX2_splitPage 74 = .ok (.aload_n 0, 1) := by decide +kernel
theorem dX2_splitPage_75 : decode cX2_splitPage 75 = .ok (.aload_n 1, 1) := by decide +kernel
theorem dX2_splitPage_76 : decode cX2_splitPage 76 = .ok (.getfield 131, 3) := by decide +kernel
theorem dX2_splitPage_79 : decode cX2_splitPage 79 = .ok (.iconst 1, 1) := by decide +kernel
theorem dX2_splitPage_80 : decode cX2_splitPage 80 = .ok (.iadd, 1) := by decide +kernel
theorem dX2_splitPage_81 : decode cX2_splitPage 81 = .ok (.aload_n 2, 1) := by decide +kernel
theorem dX2_splitPage_82 : decode cX2_splitPage 82 = .ok (.getfield 145, 3) := by decide +kernel
theorem dX2_splitPage_85 : decode cX2_splitPage 85 = .ok (.aload_n 2, 1) := by decide +kernel
theorem dX2_splitPage_86 : decode cX2_splitPage 86 = .ok (.invokevirtual 76, 3) := by decide +kernel
theorem dX2_splitPage_89 : decode cX2_splitPage 89 = .ok (.ireturn, 1) := by decide +kernel
theorem dJ6_compare_7cf53_0 : decode cJ6_compare_7cf53 0 = .ok (.iload_n 0, 1) := by decide +kernel
theorem dJ6_compare_7cf53_1 : decode cJ6_compare_7cf53 1 = .ok (.iload_n 1, 1) := by decide +kernel
theorem dJ6_compare_7cf53_2 : decode cJ6_compare_7cf53 2 = .ok (.if_icmp .ge 7, 3) := by decide +kernel
theorem dJ6_compare_7cf53_5 : decode cJ6_compare_7cf53 5 = .ok (.iconst (-1), 1) := by decide +kernel
theorem dJ6_compare_7cf53_6 : decode cJ6_compare_7cf53 6 = .ok (.goto 13, 3) := by decide +kernel
theorem dJ6_compare_7cf53_9 : decode cJ6_compare_7cf53 9 = .ok (.iload_n 0, 1) := by decide +kernel
theorem dJ6_compare_7cf53_10 : decode cJ6_compare_7cf53 10 = .ok (.iload_n 1, 1) := by decide +kernel
theorem dJ6_compare_7cf53_11 : decode cJ6_compare_7cf53 11 = .ok (.if_icmp .ne 7, 3) := by decide +kernel
theorem dJ6_compare_7cf53_14 : decode cJ6_compare_7cf53 14 = .ok (.iconst 0, 1) := by decide +kernel
theorem dJ6_compare_7cf53_15 : decode cJ6_compare_7cf53 15 = .ok (.goto 4, 3) := by decide +kernel
theorem dJ6_compare_7cf53_18 : decode cJ6_compare_7cf53 18 = .ok (.iconst 1, 1) := by decide +kernel
theorem dJ6_compare_7cf53_19 : decode cJ6_compare_7cf53 19 = .ok (.ireturn, 1) := by decide +kernel
theorem dJ13_compare_74951_0 : decode cJ13_compare_74951 0 = .ok (.lload_n 0, 1) := by decide +kernel
theorem dJ13_compare_74951_1 : decode cJ13_compare_74951 1 = .ok (.lload_n 2, 1) := by decide +kernel
theorem dJ13_compare_74951_2 : decode cJ13_compare_74951 2 = .ok (.lcmp, 1) := by decide +kernel
theorem dJ13_compare_74951_3 : decode cJ13_compare_74951 3 = .ok (.ifCond .ge 7, 3) := by decide +kernel
theorem dJ13_compare_74951_6 : decode cJ13_compare_74951 6 = .ok (.iconst (-1), 1) := by decide +kernel
theorem dJ13_compare_74951_7 : decode cJ13_compare_74951 7 = .ok (.goto 14, 3) := by decide +kernel
theorem dJ13_compare_74951_10 : decode cJ13_compare_74951 10 = .ok (.lload_n 0, 1) := by decide +kernel
theorem dJ13_compare_74951_11 : decode cJ13_compare_74951 11 = .ok (.lload_n 2, 1) := by decide +kernel
theorem dJ13_compare_74951_12 : decode cJ13_compare_74951 12 = .ok (.lcmp, 1) := by decide +kernel
theorem dJ13_compare_74951_13 : decode cJ13_compare_74951 13 = .ok (.ifCond .ne 7, 3) := by decide +kernel
theorem dJ13_compare_74951_16 : decode cJ13_compare_74951 16 = .ok (.iconst 0, 1) := by decide +kernel
theorem dJ13_compare_74951_17 : decode cJ13_compare_74951 17 = .ok (.goto 4, 3) := by decide +kernel
theorem dJ13_compare_74951_20 : decode cJ13_compare_74951 20 = .ok (.iconst 1, 1) := by decide +kernel
theorem dJ13_compare_74951_21 : decode cJ13_compare_74951 21 = .ok (.ireturn, 1) := by decide +kernel
theorem dJ13_compareUnsigned_74951_0 : decode cJ13_compareUnsigned_74951 0 = .ok (.lload_n 0, 1) := by decide +kernel
theorem dJ13_compareUnsigned_74951_1 : decode cJ13_compareUnsigned_74951 1 = .ok (.ldc2_w 168, 3) := by decide +kernel
theorem dJ13_compareUnsigned_74951_4 : decode cJ13_compareUnsigned_74951 4 = .ok (.ladd, 1) := by decide +kernel
theorem dJ13_compareUnsigned_74951_5 : decode cJ13_compareUnsigned_74951 5 = .ok (.lload_n 2, 1) := by decide +kernel
theorem dJ13_compareUnsigned_74951_6 : decode cJ13_compareUnsigned_74951 6 = .ok (.ldc2_w 168, 3) := by decide +kernel
theorem dJ13_compareUnsigned_74951_9 : decode cJ13_compareUnsigned_74951 9 = .ok (.ladd, 1) := by decide +kernel
theorem dJ13_compareUnsigned_74951_10 : decode cJ13_compareUnsigned_74951 10 = .ok (.invokestatic 302, 3) := by decide +kernel
theorem dJ13_compareUnsigned_74951_13 : decode cJ13_compareUnsigned_74951 13 = .ok (.ireturn, 1) := by decide +kernel
end
section
theorem dX3_init_0 : decode cX3_init 0 = .ok (.aload_n 0, 1) := by decide +kernel
theorem dX3_init_1 : decode cX3_init 1 = .ok (.invokespecial 1, 3) := by decide +kernel
theorem dX3_init_4 : decode cX3_init 4 = .ok (.aload_n 0, 1) := by decide +kernel
theorem dX3_init_5 : decode cX3_init 5 = .ok (.sipush 513, 3) := by decide +kernel
theorem dX3_init_8 : decode cX3_init 8 = .ok (.newarray .long, 2) := by decide +kernel
theorem dX3_init_10 : decode cX3_init 10 = .ok (.putfield 7, 3) := by decide +kernel
theorem dX3_init_13 : decode cX3_init 13 = .ok (.aload_n 0, 1) := by decide +kernel
theorem dX3_init_14 : decode cX3_init 14 = .ok (.sipush 513, 3) := by decide +kernel
theorem dX3_init_17 : decode cX3_init 17 = .ok (.newarray .long, 2) := by decide +kernel
theorem dX3_init_19 : decode cX3_init 19 = .ok (.putfield 13, 3) := by decide +kernel
theorem dX3_init_22 : decode cX3_init 22 = .ok (.aload_n 0, 1) := by decide +kernel
theorem dX3_init_23 : decode cX3_init 23 = .ok (.sipush 513, 3) := by decide +kernel
theorem dX3_init_26 : decode cX3_init 26 = .ok (.newarray .long, 2) := by decide +kernel
theorem dX3_init_28 : decode cX3_init 28 = .ok (.putfield 16, 3) := by decide +kernel
theorem dX3_init_31 : decode cX3_init 31 = .ok (.aload_n 0, 1) := by decide +kernel
theorem dX3_init_32 : decode cX3_init 32 = .ok (.sipush 513, 3) := by decide +kernel
theorem dX3_init_35 : decode cX3_init 35 = .ok (.newarray .long, 2) := by decide +kernel
theorem dX3_init_37 : decode cX3_init 37 = .ok (.putfield 19, 3) := by decide +kernel
theorem dX3_init_40 : decode cX3_init 40 = .ok (.aload_n 0, 1) := by decide +kernel
theorem dX3_init_41 : decode cX3_init 41 = .ok (.sipush 513, 3) := by decide +kernel
theorem dX3_init_44 : decode cX3_init 44 = .ok (.newarray .int, 2) := by decide +kernel
theorem dX3_init_46 : decode cX3_init 46 = .ok (.putfield 22, 3) := by decide +kernel
theorem dX3_init_49 : decode cX3_init 49 = .ok (.aload_n 0, 1) := by decide +kernel
theorem dX3_init_50 : decode cX3_init 50 = .ok (.iconst 1, 1) := by decide +kernel
theorem dX3_init_51 : decode cX3_init 51 = .ok (.putfield 26, 3) := by decide +kernel
theorem dX3_init_54 : decode cX3_init 54 = .ok (.aload_n 0, 1) := by decide +kernel
theorem dX3_init_55 : decode cX3_init 55 = .ok (.sipush 600, 3) := by decide +kernel
theorem dX3_init_58 : decode cX3_init 58 = .ok (.newarray .int, 2) := by decide +kernel
theorem dX3_init_60 : decode cX3_init 60 = .ok (.putfield 30, 3) := by decide +kernel
theorem dX3_init_63 : decode cX3_init 63 = .ok (.aload_n 0, 1) := by decide +kernel
theorem dX3_init_64 : decode cX3_init 64 = .ok (.sipush 600, 3) := by decide +kernel
theorem dX3_init_67 : decode cX3_init 67 = .ok (.newarray .int, 2) := by decide +kernel
theorem dX3_init_69 : decode cX3_init 69 = .ok (.putfield 33, 3) := by decide +kernel
theorem dX3_init_72 : decode cX3_init 72 = .ok (.aload_n 0, 1) := by decide +kernel
theorem dX3_init_73 : decode cX3_init 73 = .ok (.bipush 60, 2) := by decide +kernel
theorem dX3_init_75 : decode cX3_init 75 = .ok (.newarray .int, 2) := by decide +kernel
theorem dX3_init_77 : decode cX3_init 77 = .ok (.putfield 36, 3) := by decide +kernel
theorem dX3_init_80 : decode cX3_init 80 = .ok (.aload_n 0, 1) := by decide +kernel
theorem dX3_init_81 : decode cX3_init 81 = .ok (.bipush 60, 2) := by decide +kernel
theorem dX3_init_83 : decode cX3_init 83 = .ok (.newarray .int, 2) := by decide +kernel
theorem dX3_init_85 : decode cX3_init 85 = .ok (.putfield 39, 3) := by decide +kernel
theorem dX3_init_88 : decode cX3_init 88 = .ok (.aload_n 0, 1) := by decide +kernel
theorem dX3_init_89 : decode cX3_init 89 = .ok (.bipush 60, 2) := by decide +kernel
theorem dX3_init_91 : decode cX3_init 91 = .ok (.newarray .boolean, 2) := by decide +kernel
theorem dX3_init_93 : decode cX3_init 93 = .ok (.putfield 42, 3) := by decide +kernel
theorem dX3_init_96 : decode cX3_init 96 = .ok (.aload_n 0, 1) := by decide +kernel
theorem dX3_init_97 : decode cX3_init 97 = .ok (.bipush 32, 2) := by decide +kernel
theorem dX3_init_99 : decode cX3_init 99 = .ok (.newarray .int, 2) := by decide +kernel
theorem dX3_init_101 : decode cX3_init 101 = .ok (.putfield 46, 3) := by decide +kernel
theorem dX3_init_104 : decode cX3_init 104 = .ok (.aload_n 0, 1) := by decide +kernel
theorem dX3_init_105 : decode cX3_init 105 = .ok (.iconst 1, 1) := by decide +kernel
theorem dX3_init_106 : decode cX3_init 106 = .ok (.putfield 49, 3) := by decide +kernel
theorem dX3_init_109 : decode cX3_init 109 = .ok (.aload_n 0, 1) := by decide +kernel
theorem dX3_init_110 : decode cX3_init 110 = .ok (.iconst 0, 1) := by decide +kernel
theorem dX3_init_111 : decode cX3_init 111 = .ok (.putfield 53, 3) := by decide +kernel
theorem dX3_init_114 : decode cX3_init 114 = .ok (.aload_n 0, 1) := by decide +kernel
theorem dX3_init_115 : decode cX3_init 115 = .ok (.invokevirtual 56, 3) := by decide +kernel
theorem dX3_init_118 : decode cX3_init 118 = .ok (.return_, 1) := by decide +kernel
theorem dX3_unsigned_0 : decode cX3_unsigned 0 = .ok (.lload_n 0, 1) := by decide +kernel
theorem dX3_unsigned_1 : decode cX3_unsigned 1 = .ok (.lload_n 2, 1) := by decide +kernel
theorem dX3_unsigned_2 : decode cX3_unsigned 2 = .ok (.lcmp, 1) := by decide +kernel
theorem dX3_unsigned_3 : decode cX3_unsigned 3 = .ok (.ifCond .ne 7, 3) := by decide +kernel
theorem dX3_unsigned_6 : decode cX3_unsigned 6 = .ok (.iconst 0, 1) := by decide +kernel
theorem dX3_unsigned_7 : decode cX3_unsigned 7 = .ok (.goto 22, 3) := by decide +kernel
theorem dX3_unsigned_10 : decode cX3_unsigned 10 = .ok (.lload_n 0, 1) := by decide +kernel
theorem dX3_unsigned_11 : decode cX3_unsigned 11 = .ok (.ldc2_w 59, 3) := by decide +kernel
theorem dX3_unsigned_14 : decode cX3_unsigned 14 = .ok (.lxor, 1) := by decide +kernel
theorem dX3_unsigned_15 : decode cX3_unsigned 15 = .ok (.lload_n 2, 1) := by decide +kernel
theorem dX3_unsigned_16 : decode cX3_unsigned 16 = .ok (.ldc2_w 59, 3) := by decide +kernel
theorem dX3_unsigned_19 : decode cX3_unsigned 19 = .ok (.lxor, 1) := by decide +kernel
theorem dX3_unsigned_20 : decode cX3_unsigned 20 = .ok (.lcmp, 1) := by decide +kernel
theorem dX3_unsigned_21 : decode cX3_unsigned 21 = .ok (.ifCond .ge 7, 3) := by decide +kernel
theorem dX3_unsigned_24 : decode cX3_unsigned 24 = .ok (.iconst (-1), 1) := by decide +kernel
theorem dX3_unsigned_25 : decode cX3_unsigned 25 = .ok (.goto 4, 3) := by decide +kernel
theorem dX3_unsigned_28 : decode cX3_unsigned 28 = .ok (.iconst 1, 1) := by decide +kernel
theorem dX3_unsigned_29 : decode cX3_unsigned 29 = .ok (.ireturn, 1) := by decide +kernel
theorem dX3_order_0 : decode cX3_order 0 = .ok (.iload_n 1, 1) := by decide +kernel
theorem dX3_order_1 : decode cX3_order 1 = .ok (.ifCond .eq 7, 3) := by decide +kernel
theorem dX3_order_4 : decode cX3_order 4 = .ok (.iload_n 2, 1) := by decide +kernel
theorem dX3_order_5 : decode cX3_order 5 = .ok (.ifCond .ne 22, 3) := by decide +kernel
theorem dX3_order_8 : decode cX3_order 8 = .ok (.iload_n 1, 1) := by decide +kernel
theorem dX3_order_9 : decode cX3_order 9 = .ok (.iload_n 2, 1) := by decide +kernel
theorem dX3_order_10 : decode cX3_order 10 = .ok (.if_icmp .ne 7, 3) := by decide +kernel
theorem dX3_order_13 : decode cX3_order 13 = .ok (.iconst 0, 1) := by decide +kernel
theorem dX3_order_14 : decode cX3_order 14 = .ok (.goto 12, 3) := by decide +kernel
theorem dX3_order_17 : decode cX3_order 17 = .ok (.iload_n 1, 1) := by decide +kernel
theorem dX3_order_18 : decode cX3_order 18 = .ok (.ifCond .ne 7, 3) := by decide +kernel
theorem dX3_order_21 : decode cX3_order 21 = .ok (.iconst (-1), 1) := by decide +kernel
theorem dX3_order_22 : decode cX3_order 22 = .ok (.goto 4, 3) := by decide +kernel
theorem dX3_order_25 : decode cX3_order 25 = .ok (.iconst 1, 1) := by decide +kernel
theorem dX3_order_26 : decode cX3_order 26 = .ok (.ireturn, 1) := by decide +kernel
theorem dX3_order_27 : decode cX3_order 27 = .ok (.aload_n 0, 1) := by decide +kernel
theorem dX3_order_28 : decode cX3_order 28 = .ok (.getfield 7, 3) := by decide +kernel
theorem dX3_order_31 : decode cX3_order 31 = .ok (.iload_n 1, 1) := by decide +kernel
theorem dX3_order_32 : decode cX3_order 32 = .ok (.laload, 1) := by decide +kernel
theorem dX3_order_33 : decode cX3_order 33 = .ok (.aload_n 0, 1) := by decide +kernel
theorem dX3_order_34 : decode cX3_order 34 = .ok (.getfield 7, 3) := by decide +kernel
theorem dX3_order_37 : decode cX3_order 37 = .ok (.iload_n 2, 1) := by decide +kernel
theorem dX3_order_38 : decode cX3_order 38 = .ok (.laload, 1) := by decide +kernel
theorem dX3_order_39 : decode cX3_order 39 = .ok (.invokestatic 61, 3) := by decide +kernel
theorem dX3_order_42 : decode cX3_order 42 = .ok (.istore_n 3, 1) := by decide +kernel
theorem dX3_order_43 : decode cX3_order 43 = .ok (.iload_n 3, 1) := by decide +kernel
theorem dX3_order_44 : decode cX3_order 44 = .ok (.ifCond .ne 19, 3) := by decide +kernel
theorem dX3_order_47 : decode cX3_order 47 = .ok (.aload_n 0, 1) := by decide +kernel
theorem dX3_order_48 : decode cX3_order 48 = .ok (.getfield 13, 3) := by decide +kernel
theorem dX3_order_51 : decode cX3_order 51 = .ok (.iload_n 1, 1) := by decide +kernel
theorem dX3_order_52 : decode cX3_order 52 = .ok (.laload, 1) := by decide +kernel
theorem dX3_order_53 : decode cX3_order 53 = .ok (.aload_n 0, 1) := by decide +kernel
theorem dX3_order_54 : decode cX3_order 54 = .ok (.getfield 13, 3) := by decide +kernel
theorem dX3_order_57 : decode cX3_order 57 = .ok (.iload_n 2, 1) := by decide +kernel
theorem dX3_order_58 : decode cX3_order 58 = .ok (.laload, 1) := by decide +kernel
theorem dX3_order_59 : decode cX3_order 59 = .ok (.invokestatic 61, 3) := by decide +kernel
theorem dX3_order_62 : decode cX3_order 62 = .ok (.istore_n 3, 1) := by decide +kernel
theorem dX3_order_63 : decode cX3_order 63 = .ok (.iload_n 3, 1) := by decide +kernel
theorem dX3_order_64 : decode cX3_order 64 = .ok (.ifCond .ne 19, 3) := by decide +kernel
theorem dX3_order_67 : decode cX3_order 67 = .ok (.aload_n 0, 1) := by decide +kernel
theorem dX3_order_68 : decode cX3_order 68 = .ok (.getfield 16, 3) := by decide +kernel
theorem dX3_order_71 : decode cX3_order 71 = .ok (.iload_n 1, 1) := by decide +kernel
theorem dX3_order_72 : decode cX3_order 72 = .ok (.laload, 1) := by decide +kernel
theorem dX3_order_73 : decode cX3_order 73 = .ok (.aload_n 0, 1) := by decide +kernel
theorem dX3_order_74 : decode cX3_order 74 = .ok (.getfield 16, 3) := by decide +kernel
theorem dX3_order_77 : decode cX3_order 77 = .ok (.iload_n 2, 1) := by decide +kernel
theorem dX3_order_78 : decode cX3_order 78 = .ok (.laload, 1) := by decide +kernel
theorem dX3_order_79 : decode cX3_order 79 = .ok (.invokestatic 61, 3) := by decide +kernel
theorem dX3_order_82 : decode cX3_order 82 = .ok (.istore_n 3, 1) := by decide +kernel
theorem dX3_order_83 : decode cX3_order 83 = .ok (.iload_n 3, 1) := by decide +kernel
theorem dX3_order_84 : decode cX3_order 84 = .ok (.ifCond .ne 19, 3) := by decide +kernel
theorem dX3_order_87 : decode cX3_order 87 = .ok (.aload_n 0, 1) := by decide +kernel
theorem dX3_order_88 : decode cX3_order 88 = .ok (.getfield 19, 3) := by decide +kernel
theorem dX3_order_91 : decode cX3_order 91 = .ok (.iload_n 1, 1) := by decide +kernel
theorem dX3_order_92 : decode cX3_order 92 = .ok (.laload, 1) := by decide +kernel
theorem dX3_order_93 : decode cX3_order 93 = .ok (.aload_n 0, 1) := by decide +kernel
theorem dX3_order_94 : decode cX3_order 94 = .ok (.getfield 19, 3) := by decide +kernel
theorem dX3_order_97 : decode cX3_order 97 = .ok (.iload_n 2, 1) := by decide +kernel
theorem dX3_order_98 : decode cX3_order 98 = .ok (.laload, 1) := by decide +kernel
theorem dX3_order_99 : decode cX3_order 99 = .ok (.invokestatic 61, 3) := by decide +kernel
theorem dX3_order_102 : decode cX3_order 102 = .ok (.istore_n 3, 1) := by decide +kernel
theorem dX3_order_103 : decode cX3_order 103 = .ok (.iload_n 3, 1) := by decide +kernel
theorem dX3_order_104 : decode cX3_order 104 = .ok (.ifCond .ne 43, 3) := by decide +kernel
theorem dX3_order_107 : decode cX3_order 107 = .ok (.aload_n 0, 1) := by decide +kernel
theorem dX3_order_108 : decode cX3_order 108 = .ok (.getfield 22, 3) := by decide +kernel
theorem dX3_order_111 : decode cX3_order 111 = .ok (.iload_n 1, 1) := by decide +kernel
theorem dX3_order_112 : decode cX3_order 112 = .ok (.iaload, 1) := by decide +kernel
theorem dX3_order_113 : decode cX3_order 113 = .ok (.aload_n 0, 1) := by decide +kernel
theorem dX3_order_114 : decode cX3_order 114 = .ok (.getfield 22, 3) := by decide +kernel
theorem dX3_order_117 : decode cX3_order 117 = .ok (.iload_n 2, 1) := by decide +kernel
theorem dX3_order_118 : decode cX3_order 118 = .ok (.iaload, 1) := by decide +kernel
theorem dX3_order_119 : decode cX3_order 119 = .ok (.if_icmp .ne 7, 3) := by decide +kernel
theorem dX3_order_122 : decode cX3_order 122 = .ok (.iconst 0, 1) := by decide +kernel
theorem dX3_order_123 : decode cX3_order 123 = .ok (.goto 23, 3) := by decide +kernel
theorem dX3_order_126 : decode cX3_order 126 = .ok (.aload_n 0, 1) := by decide +kernel
theorem dX3_order_127 : decode cX3_order 127 = .ok (.getfield 22, 3) := by decide +kernel
theorem dX3_order_130 : decode cX3_order 130 = .ok (.iload_n 1, 1) := by decide +kernel
theorem dX3_order_131 : decode cX3_order 131 = .ok (.iaload, 1) := by decide +kernel
theorem dX3_order_132 : decode cX3_order 132 = .ok (.aload_n 0, 1) := by decide +kernel
theorem dX3_order_133 : decode cX3_order 133 = .ok (.getfield 22, 3) := by decide +kernel
theorem dX3_order_136 : decode cX3_order 136 = .ok (.iload_n 2, 1) := by decide +kernel
theorem dX3_order_137 : decode cX3_order 137 = .ok (.iaload, 1) := by decide +kernel
theorem dX3_order_138 : decode cX3_order 138 = .ok (.if_icmp .ge 7, 3) := by decide +kernel
theorem dX3_order_141 : decode cX3_order 141 = .ok (.iconst (-1), 1) := by decide +kernel
theorem dX3_order_142 : decode cX3_order 142 = .ok (.goto 4, 3) := by decide +kernel
theorem dX3_order_145 : decode cX3_order 145 = .ok (.iconst 1, 1) := by decide +kernel
theorem dX3_order_146 : decode cX3_order 146 = .ok (.istore_n 3, 1) := by decide +kernel
theorem dX3_order_147 : decode cX3_order 147 = .ok (.iload_n 3, 1) := by decide +kernel
theorem dX3_order_148 : decode cX3_order 148 = .ok (.ireturn, 1) := by decide +kernel
theorem dX3_numbered_0 : decode cX3_numbered 0 = .ok (.aload_n 0, 1) := by decide +kernel
theorem dX3_numbered_1 : decode cX3_numbered 1 = .ok (.getfield 7, 3) := by decide +kernel
theorem dX3_numbered_4 : decode cX3_numbered 4 = .ok (.aload_n 0, 1) := by decide +kernel
theorem dX3_numbered_5 : decode cX3_numbered 5 = .ok (.getfield 26, 3) := by decide +kernel
theorem dX3_numbered_8 : decode cX3_numbered 8 = .ok (.lload_n 1, 1) := by decide +kernel
theorem dX3_numbered_9 : decode cX3_numbered 9 = .ok (.lastore, 1) := by decide +kernel
theorem dX3_numbered_10 : decode cX3_numbered 10 = .ok (.aload_n 0, 1) := by decide +kernel
theorem dX3_numbered_11 : decode cX3_numbered 11 = .ok (.getfield 13, 3) := by decide +kernel
theorem dX3_numbered_14 : decode cX3_numbered 14 = .ok (.aload_n 0, 1) := by decide +kernel
theorem dX3_numbered_15 : decode cX3_numbered 15 = .ok (.getfield 26, 3) := by decide +kernel
theorem dX3_numbered_18 : decode cX3_numbered 18 = .ok (.lload_n 3, 1) := by decide +kernel
theorem dX3_numbered_19 : decode cX3_numbered 19 = .ok (.lastore, 1) := by decide +kernel
theorem dX3_numbered_20 : decode cX3_numbered 20 = .ok (.aload_n 0, 1) := by decide +kernel
theorem dX3_numbered_21 : decode cX3_numbered 21 = .ok (.getfield 16, 3) := by decide +kernel
theorem dX3_numbered_24 : decode cX3_numbered 24 = .ok (.aload_n 0, 1) := by decide +kernel
theorem dX3_numbered_25 : decode cX3_numbered 25 = .ok (.getfield 26, 3) := by decide +kernel
theorem dX3_numbered_28 : decode cX3_numbered 28 = .ok (.lload 5, 2) := by decide +kernel
theorem dX3_numbered_30 : decode cX3_numbered 30 = .ok (.lastore, 1) := by decide +kernel
theorem dX3_numbered_31 : decode cX3_numbered 31 = .ok (.aload_n 0, 1) := by decide +kernel
theorem dX3_numbered_32 : decode cX3_numbered 32 = .ok (.getfield 19, 3) := by decide +kernel
theorem dX3_numbered_35 : decode cX3_numbered 35 = .ok (.aload_n 0, 1) := by decide +kernel
theorem dX3_numbered_36 : decode cX3_numbered 36 = .ok (.getfield 26, 3) := by decide +kernel
theorem dX3_numbered_39 : decode cX3_numbered 39 = .ok (.lload 7, 2) := by decide +kernel
theorem dX3_numbered_41 : decode cX3_numbered 41 = .ok (.lastore, 1) := by decide +kernel
theorem dX3_numbered_42 : decode cX3_numbered 42 = .ok (.aload_n 0, 1) := by decide +kernel
theorem dX3_numbered_43 : decode cX3_numbered 43 = .ok (.getfield 22, 3) := by decide +kernel
theorem dX3_numbered_46 : decode cX3_numbered 46 = .ok (.aload_n 0, 1) := by decide +kernel
theorem dX3_numbered_47 : decode cX3_numbered 47 = .ok (.getfield 26, 3) := by decide +kernel
theorem dX3_numbered_50 : decode cX3_numbered 50 = .ok (.iload 9, 2) := by decide +kernel
theorem dX3_numbered_52 : decode cX3_numbered 52 = .ok (.iastore, 1) := by decide +kernel
theorem dX3_numbered_53 : decode cX3_numbered 53 = .ok (.aload_n 0, 1) := by decide +kernel
theorem dX3_numbered_54 : decode cX3_numbered 54 = .ok (.getfield 26, 3) := by decide +kernel
theorem dX3_numbered_57 : decode cX3_numbered 57 = .ok (.ireturn, 1) := by decide +kernel
theorem dX3_inCharge_0 : decode cX3_inCharge 0 = .ok (.iconst (-1), 1) := by decide +kernel
theorem dX3_inCharge_1 : decode cX3_inCharge 1 = .ok (.istore_n 3, 1) := by decide +kernel
theorem dX3_inCharge_2 : decode cX3_inCharge 2 = .ok (.iconst 0, 1) := by decide +kernel
theorem dX3_inCharge_3 : decode cX3_inCharge 3 = .ok (.istore 4, 2) := by decide +kernel
theorem dX3_inCharge_5 : decode cX3_inCharge 5 = .ok (.iload 4, 2) := by decide +kernel
theorem dX3_inCharge_7 : decode cX3_inCharge 7 = .ok (.aload_n 0, 1) := by decide +kernel
theorem dX3_inCharge_8 : decode cX3_inCharge 8 = .ok (.getfield 65, 3) := by decide +kernel
theorem dX3_inCharge_11 : decode cX3_inCharge 11 = .ok (.if_icmp .ge 62, 3) := by decide +kernel
theorem dX3_inCharge_14 : decode cX3_inCharge 14 = .ok (.aload_n 0, 1) := by decide +kernel
theorem dX3_inCharge_15 : decode cX3_inCharge 15 = .ok (.getfield 39, 3) := by decide +kernel
theorem dX3_inCharge_18 : decode cX3_inCharge 18 = .ok (.iload 4, 2) := by decide +kernel
theorem dX3_inCharge_20 : decode cX3_inCharge 20 = .ok (.iaload, 1) := by decide +kernel
theorem dX3_inCharge_21 : decode cX3_inCharge 21 = .ok (.iload_n 1, 1) := by decide +kernel
theorem dX3_inCharge_22 : decode cX3_inCharge 22 = .ok (.if_icmp .ne 45, 3) := by decide +kernel
theorem dX3_inCharge_25 : decode cX3_inCharge 25 = .ok (.aload_n 0, 1) := by decide +kernel
theorem dX3_inCharge_26 : decode cX3_inCharge 26 = .ok (.aload_n 0, 1) := by decide +kernel
theorem dX3_inCharge_27 : decode cX3_inCharge 27 = .ok (.getfield 36, 3) := by decide +kernel
theorem dX3_inCharge_30 : decode cX3_inCharge 30 = .ok (.iload 4, 2) := by decide +kernel
theorem dX3_inCharge_32 : decode cX3_inCharge 32 = .ok (.iaload, 1) := by decide +kernel
theorem dX3_inCharge_33 : decode cX3_inCharge 33 = .ok (.iload_n 2, 1) := by decide +kernel
theorem dX3_inCharge_34 : decode cX3_inCharge 34 = .ok (.invokevirtual 68, 3) := by decide +kernel
theorem dX3_inCharge_37 : decode cX3_inCharge 37 = .ok (.ifCond .gt 30, 3) := by decide +kernel
theorem dX3_inCharge_40 : decode cX3_inCharge 40 = .ok (.iload_n 3, 1) := by decide +kernel
theorem dX3_inCharge_41 : decode cX3_inCharge 41 = .ok (.ifCond .lt 23, 3) := by decide +kernel
theorem dX3_inCharge_44 : decode cX3_inCharge 44 = .ok (.aload_n 0, 1) := by decide +kernel
theorem dX3_inCharge_45 : decode cX3_inCharge 45 = .ok (.aload_n 0, 1) := by decide +kernel
theorem dX3_inCharge_46 : decode cX3_inCharge 46 = .ok (.getfield 36, 3) := by decide +kernel
theorem dX3_inCharge_49 : decode cX3_inCharge 49 = .ok (.iload 4, 2) := by decide +kernel
theorem dX3_inCharge_51 : decode cX3_inCharge 51 = .ok (.iaload, 1) := by decide +kernel
theorem dX3_inCharge_52 : decode cX3_inCharge 52 = .ok (.aload_n 0, 1) := by decide +kernel
theorem dX3_inCharge_53 : decode cX3_inCharge 53 = .ok (.getfield 36, 3) := by decide +kernel
theorem dX3_inCharge_56 : decode cX3_inCharge 56 = .ok (.iload_n 3, 1) := by decide +kernel
theorem dX3_inCharge_57 : decode cX3_inCharge 57 = .ok (.iaload, 1) := by decide +kernel
theorem dX3_inCharge_58 : decode cX3_inCharge 58 = .ok (.invokevirtual 68, 3) := by decide +kernel
theorem dX3_inCharge_61 : decode cX3_inCharge 61 = .ok (.ifCond .le 6, 3) := by decide +kernel
theorem dX3_inCharge_64 : decode cX3_inCharge 64 = .ok (.iload 4, 2) := by decide +kernel
theorem dX3_inCharge_66 : decode cX3_inCharge 66 = .ok (.istore_n 3, 1) := by decide +kernel
theorem dX3_inCharge_67 : decode cX3_inCharge 67 = .ok (.iinc 4 1, 3) := by decide +kernel
theorem dX3_inCharge_70 : decode cX3_inCharge 70 = .ok (.goto (-65), 3) := by decide +kernel
theorem dX3_inCharge_73 : decode cX3_inCharge 73 = .ok (.iload_n 3, 1) := by decide +kernel
theorem dX3_inCharge_74 : decode cX3_inCharge 74 = .ok (.ireturn, 1) := by decide +kernel
theorem dX3_filled_0 : decode cX3_filled 0 = .ok (.iconst 0, 1) := by decide +kernel
theorem dX3_filled_1 : decode cX3_filled 1 = .ok (.istore_n 2, 1) := by decide +kernel
theorem dX3_filled_2 : decode cX3_filled 2 = .ok (.iconst 0, 1) := by decide +kernel
theorem dX3_filled_3 : decode cX3_filled 3 = .ok (.istore_n 3, 1) := by decide +kernel
theorem dX3_filled_4 : decode cX3_filled 4 = .ok (.iload_n 3, 1) := by decide +kernel
theorem dX3_filled_5 : decode cX3_filled 5 = .ok (.aload_n 0, 1) := by decide +kernel
theorem dX3_filled_6 : decode cX3_filled 6 = .ok (.getfield 72, 3) := by decide +kernel
theorem dX3_filled_9 : decode cX3_filled 9 = .ok (.if_icmp .ge 47, 3) := by decide +kernel
theorem dX3_filled_12 : decode cX3_filled 12 = .ok (.aload_n 0, 1) := by decide +kernel
theorem dX3_filled_13 : decode cX3_filled 13 = .ok (.getfield 33, 3) := by decide +kernel
theorem dX3_filled_16 : decode cX3_filled 16 = .ok (.iload_n 3, 1) := by decide +kernel
theorem dX3_filled_17 : decode cX3_filled 17 = .ok (.iaload, 1) := by decide +kernel
theorem dX3_filled_18 : decode cX3_filled 18 = .ok (.aload_n 0, 1) := by decide +kernel
theorem dX3_filled_19 : decode cX3_filled 19 = .ok (.getfield 39, 3) := by decide +kernel
theorem dX3_filled_22 : decode cX3_filled 22 = .ok (.iload_n 1, 1) := by decide +kernel
theorem dX3_filled_23 : decode cX3_filled 23 = .ok (.iaload, 1) := by decide +kernel
theorem dX3_filled_24 : decode cX3_filled 24 = .ok (.if_icmp .ne 26, 3) := by decide +kernel
theorem dX3_filled_27 : decode cX3_filled 27 = .ok (.aload_n 0, 1) := by decide +kernel
theorem dX3_filled_28 : decode cX3_filled 28 = .ok (.aload_n 0, 1) := by decide +kernel
theorem dX3_filled_29 : decode cX3_filled 29 = .ok (.getfield 33, 3) := by decide +kernel
theorem dX3_filled_32 : decode cX3_filled 32 = .ok (.iload_n 3, 1) := by decide +kernel
theorem dX3_filled_33 : decode cX3_filled 33 = .ok (.iaload, 1) := by decide +kernel
theorem dX3_filled_34 : decode cX3_filled 34 = .ok (.aload_n 0, 1) := by decide +kernel
theorem dX3_filled_35 : decode cX3_filled 35 = .ok (.getfield 30, 3) := by decide +kernel
theorem dX3_filled_38 : decode cX3_filled 38 = .ok (.iload_n 3, 1) := by decide +kernel
theorem dX3_filled_39 : decode cX3_filled 39 = .ok (.iaload, 1) := by decide +kernel
theorem dX3_filled_40 : decode cX3_filled 40 = .ok (.invokevirtual 75, 3) := by decide +kernel
theorem dX3_filled_43 : decode cX3_filled 43 = .ok (.iload_n 1, 1) := by decide +kernel
theorem dX3_filled_44 : decode cX3_filled 44 = .ok (.if_icmp .ne 6, 3) := by decide +kernel
theorem dX3_filled_47 : decode cX3_filled 47 = .ok (.iinc 2 1, 3) := by decide +kernel
theorem dX3_filled_50 : decode cX3_filled 50 = .ok (.iinc 3 1, 3) := by decide +kernel
theorem dX3_filled_53 : decode cX3_filled 53 = .ok (.goto (-49), 3) := by decide +kernel
theorem dX3_filled_56 : decode cX3_filled 56 = .ok (.iload_n 2, 1) := by decide +kernel
theorem dX3_filled_57 : decode cX3_filled 57 = .ok (.ireturn, 1) := by decide +kernel
theorem dX3_sixth_0 : decode cX3_sixth 0 = .ok (.iconst 0, 1) := by decide +kernel
theorem dX3_sixth_1 : decode cX3_sixth 1 = .ok (.istore_n 2, 1) := by decide +kernel
theorem dX3_sixth_2 : decode cX3_sixth 2 = .ok (.iload_n 2, 1) := by decide +kernel
theorem dX3_sixth_3 : decode cX3_sixth 3 = .ok (.aload_n 0, 1) := by decide +kernel
theorem dX3_sixth_4 : decode cX3_sixth 4 = .ok (.getfield 72, 3) := by decide +kernel
theorem dX3_sixth_7 : decode cX3_sixth 7 = .ok (.if_icmp .ge 137, 3) := by decide +kernel
theorem dX3_sixth_10 : decode cX3_sixth 10 = .ok (.aload_n 0, 1) := by decide +kernel
theorem dX3_sixth_11 : decode cX3_sixth 11 = .ok (.getfield 33, 3) := by decide +kernel
theorem dX3_sixth_14 : decode cX3_sixth 14 = .ok (.iload_n 2, 1) := by decide +kernel
theorem dX3_sixth_15 : decode cX3_sixth 15 = .ok (.iaload, 1) := by decide +kernel
theorem dX3_sixth_16 : decode cX3_sixth 16 = .ok (.aload_n 0, 1) := by decide +kernel
theorem dX3_sixth_17 : decode cX3_sixth 17 = .ok (.getfield 39, 3) := by decide +kernel
theorem dX3_sixth_20 : decode cX3_sixth 20 = .ok (.iload_n 1, 1) := by decide +kernel
theorem dX3_sixth_21 : decode cX3_sixth 21 = .ok (.iaload, 1) := by decide +kernel
theorem dX3_sixth_22 : decode cX3_sixth 22 = .ok (.if_icmp .ne 116, 3) := by decide +kernel
theorem dX3_sixth_25 : decode cX3_sixth 25 = .ok (.aload_n 0, 1) := by decide +kernel
theorem dX3_sixth_26 : decode cX3_sixth 26 = .ok (.aload_n 0, 1) := by decide +kernel
theorem dX3_sixth_27 : decode cX3_sixth 27 = .ok (.getfield 33, 3) := by decide +kernel
theorem dX3_sixth_30 : decode cX3_sixth 30 = .ok (.iload_n 2, 1) := by decide +kernel
theorem dX3_sixth_31 : decode cX3_sixth 31 = .ok (.iaload, 1) := by decide +kernel
theorem dX3_sixth_32 : decode cX3_sixth 32 = .ok (.aload_n 0, 1) := by decide +kernel
theorem dX3_sixth_33 : decode cX3_sixth 33 = .ok (.getfield 30, 3) := by decide +kernel
theorem dX3_sixth_36 : decode cX3_sixth 36 = .ok (.iload_n 2, 1) := by decide +kernel
theorem dX3_sixth_37 : decode cX3_sixth 37 = .ok (.iaload, 1) := by decide +kernel
theorem dX3_sixth_38 : decode cX3_sixth 38 = .ok (.invokevirtual 75, 3) := by decide +kernel
theorem dX3_sixth_41 : decode cX3_sixth 41 = .ok (.iload_n 1, 1) := by decide +kernel
theorem dX3_sixth_42 : decode cX3_sixth 42 = .ok (.if_icmp .ne 96, 3) := by decide +kernel
theorem dX3_sixth_45 : decode cX3_sixth 45 = .ok (.iconst 0, 1) := by decide +kernel
theorem dX3_sixth_46 : decode cX3_sixth 46 = .ok (.istore_n 3, 1) := by decide +kernel
theorem dX3_sixth_47 : decode cX3_sixth 47 = .ok (.iconst 0, 1) := by decide +kernel
theorem dX3_sixth_48 : decode cX3_sixth 48 = .ok (.istore 4, 2) := by decide +kernel
theorem dX3_sixth_50 : decode cX3_sixth 50 = .ok (.iload 4, 2) := by decide +kernel
theorem dX3_sixth_52 : decode cX3_sixth 52 = .ok (.aload_n 0, 1) := by decide +kernel
theorem dX3_sixth_53 : decode cX3_sixth 53 = .ok (.getfield 72, 3) := by decide +kernel
theorem dX3_sixth_56 : decode cX3_sixth 56 = .ok (.if_icmp .ge 70, 3) := by decide +kernel
theorem dX3_sixth_59 : decode cX3_sixth 59 = .ok (.aload_n 0, 1) := by decide +kernel
theorem dX3_sixth_60 : decode cX3_sixth 60 = .ok (.getfield 33, 3) := by decide +kernel
theorem dX3_sixth_63 : decode cX3_sixth 63 = .ok (.iload 4, 2) := by decide +kernel
theorem dX3_sixth_65 : decode cX3_sixth 65 = .ok (.iaload, 1) := by decide +kernel
theorem dX3_sixth_66 : decode cX3_sixth 66 = .ok (.aload_n 0, 1) := by decide +kernel
theorem dX3_sixth_67 : decode cX3_sixth 67 = .ok (.getfield 33, 3) := by decide +kernel
theorem dX3_sixth_70 : decode cX3_sixth 70 = .ok (.iload_n 2, 1) := by decide +kernel
theorem dX3_sixth_71 : decode cX3_sixth 71 = .ok (.iaload, 1) := by decide +kernel
theorem dX3_sixth_72 : decode cX3_sixth 72 = .ok (.if_icmp .ne 48, 3) := by decide +kernel
theorem dX3_sixth_75 : decode cX3_sixth 75 = .ok (.aload_n 0, 1) := by decide +kernel
theorem dX3_sixth_76 : decode cX3_sixth 76 = .ok (.aload_n 0, 1) := by decide +kernel
theorem dX3_sixth_77 : decode cX3_sixth 77 = .ok (.getfield 33, 3) := by decide +kernel
theorem dX3_sixth_80 : decode cX3_sixth 80 = .ok (.iload 4, 2) := by decide +kernel
theorem dX3_sixth_82 : decode cX3_sixth 82 = .ok (.iaload, 1) := by decide +kernel
theorem dX3_sixth_83 : decode cX3_sixth 83 = .ok (.aload_n 0, 1) := by decide +kernel
theorem dX3_sixth_84 : decode cX3_sixth 84 = .ok (.getfield 30, 3) := by decide +kernel
theorem dX3_sixth_87 : decode cX3_sixth 87 = .ok (.iload 4, 2) := by decide +kernel
theorem dX3_sixth_89 : decode cX3_sixth 89 = .ok (.iaload, 1) := by decide +kernel
theorem dX3_sixth_90 : decode cX3_sixth 90 = .ok (.invokevirtual 75, 3) := by decide +kernel
theorem dX3_sixth_93 : decode cX3_sixth 93 = .ok (.iload_n 1, 1) := by decide +kernel
theorem dX3_sixth_94 : decode cX3_sixth 94 = .ok (.if_icmp .ne 26, 3) := by decide +kernel
theorem dX3_sixth_97 : decode cX3_sixth 97 = .ok (.aload_n 0, 1) := by decide +kernel
theorem dX3_sixth_98 : decode cX3_sixth 98 = .ok (.aload_n 0, 1) := by decide +kernel
theorem dX3_sixth_99 : decode cX3_sixth 99 = .ok (.getfield 30, 3) := by decide +kernel
theorem dX3_sixth_102 : decode cX3_sixth 102 = .ok (.iload 4, 2) := by decide +kernel
theorem dX3_sixth_104 : decode cX3_sixth 104 = .ok (.iaload, 1) := by decide +kernel
theorem dX3_sixth_105 : decode cX3_sixth 105 = .ok (.aload_n 0, 1) := by decide +kernel
theorem dX3_sixth_106 : decode cX3_sixth 106 = .ok (.getfield 30, 3) := by decide +kernel
theorem dX3_sixth_109 : decode cX3_sixth 109 = .ok (.iload_n 2, 1) := by decide +kernel
theorem dX3_sixth_110 : decode cX3_sixth 110 = .ok (.iaload, 1) := by decide +kernel
theorem dX3_sixth_111 : decode cX3_sixth 111 = .ok (.invokevirtual 68, 3) := by decide +kernel
theorem dX3_sixth_114 : decode cX3_sixth 114 = .ok (.ifCond .ge 6, 3) := by decide +kernel
theorem dX3_sixth_117 : decode cX3_sixth 117 = .ok (.iinc 3 1, 3) := by decide +kernel
theorem dX3_sixth_120 : decode cX3_sixth 120 = .ok (.iinc 4 1, 3) := by decide +kernel
theorem dX3_sixth_123 : decode cX3_sixth 123 = .ok (.goto (-73), 3) := by decide +kernel
theorem dX3_sixth_126 : decode cX3_sixth 126 = .ok (.iload_n 3, 1) := by decide +kernel
theorem dX3_sixth_127 : decode cX3_sixth 127 = .ok (.iconst 5, 1) := by decide +kernel
theorem dX3_sixth_128 : decode cX3_sixth 128 = .ok (.if_icmp .ne 10, 3) := by decide +kernel
theorem dX3_sixth_131 : decode cX3_sixth 131 = .ok (.aload_n 0, 1) := by decide +kernel
theorem dX3_sixth_132 : decode cX3_sixth 132 = .ok (.getfield 30, 3) := by decide +kernel
theorem dX3_sixth_135 : decode cX3_sixth 135 = .ok (.iload_n 2, 1) := by decide +kernel
theorem dX3_sixth_136 : decode cX3_sixth 136 = .ok (.iaload, 1) := by decide +kernel
theorem dX3_sixth_137 : decode cX3_sixth 137 = .ok (.ireturn, 1) := by decide +kernel
theorem dX3_sixth_138 : decode cX3_sixth 138 = .ok (.iinc 2 1, 3) := by decide +kernel
theorem dX3_sixth_141 : decode cX3_sixth 141 = .ok (.goto (-139), 3) := by decide +kernel
theorem dX3_sixth_144 : decode cX3_sixth 144 = .ok (.iconst 0, 1) := by decide +kernel
theorem dX3_sixth_145 : decode cX3_sixth 145 = .ok (.ireturn, 1) := by decide +kernel
theorem dX3_addPage_0 : decode cX3_addPage 0 = .ok (.aload_n 0, 1) := by decide +kernel
theorem dX3_addPage_1 : decode cX3_addPage 1 = .ok (.getfield 36, 3) := by decide +kernel
theorem dX3_addPage_4 : decode cX3_addPage 4 = .ok (.aload_n 0, 1) := by decide +kernel
theorem dX3_addPage_5 : decode cX3_addPage 5 = .ok (.getfield 65, 3) := by decide +kernel
theorem dX3_addPage_8 : decode cX3_addPage 8 = .ok (.iload_n 2, 1) := by decide +kernel
theorem dX3_addPage_9 : decode cX3_addPage 9 = .ok (.iastore, 1) := by decide +kernel
theorem dX3_addPage_10 : decode cX3_addPage 10 = .ok (.aload_n 0, 1) := by decide +kernel
theorem dX3_addPage_11 : decode cX3_addPage 11 = .ok (.getfield 39, 3) := by decide +kernel
theorem dX3_addPage_14 : decode cX3_addPage 14 = .ok (.aload_n 0, 1) := by decide +kernel
theorem dX3_addPage_15 : decode cX3_addPage 15 = .ok (.getfield 65, 3) := by decide +kernel
theorem dX3_addPage_18 : decode cX3_addPage 18 = .ok (.iload_n 1, 1) := by decide +kernel
theorem dX3_addPage_19 : decode cX3_addPage 19 = .ok (.iastore, 1) := by decide +kernel
theorem dX3_addPage_20 : decode cX3_addPage 20 = .ok (.aload_n 0, 1) := by decide +kernel
theorem dX3_addPage_21 : decode cX3_addPage 21 = .ok (.getfield 42, 3) := by decide +kernel
theorem dX3_addPage_24 : decode cX3_addPage 24 = .ok (.aload_n 0, 1) := by decide +kernel
theorem dX3_addPage_25 : decode cX3_addPage 25 = .ok (.getfield 65, 3) := by decide +kernel
theorem dX3_addPage_28 : decode cX3_addPage 28 = .ok (.iconst 0, 1) := by decide +kernel
theorem dX3_addPage_29 : decode cX3_addPage 29 = .ok (.bastore, 1) := by decide +kernel
theorem dX3_addPage_30 : decode cX3_addPage 30 = .ok (.aload_n 0, 1) := by decide +kernel
theorem dX3_addPage_31 : decode cX3_addPage 31 = .ok (.dup, 1) := by decide +kernel
theorem dX3_addPage_32 : decode cX3_addPage 32 = .ok (.getfield 65, 3) := by decide +kernel
theorem dX3_addPage_35 : decode cX3_addPage 35 = .ok (.iconst 1, 1) := by decide +kernel
theorem dX3_addPage_36 : decode cX3_addPage 36 = .ok (.iadd, 1) := by decide +kernel
theorem dX3_addPage_37 : decode cX3_addPage 37 = .ok (.putfield 65, 3) := by decide +kernel
theorem dX3_addPage_40 : decode cX3_addPage 40 = .ok (.return_, 1) := by decide +kernel
theorem dX3_addItem_0 : decode cX3_addItem 0 = .ok (.aload_n 0, 1) := by decide +kernel
theorem dX3_addItem_1 : decode cX3_addItem 1 = .ok (.getfield 30, 3) := by decide +kernel
theorem dX3_addItem_4 : decode cX3_addItem 4 = .ok (.aload_n 0, 1) := by decide +kernel
theorem dX3_addItem_5 : decode cX3_addItem 5 = .ok (.getfield 72, 3) := by decide +kernel
theorem dX3_addItem_8 : decode cX3_addItem 8 = .ok (.iload_n 2, 1) := by decide +kernel
theorem dX3_addItem_9 : decode cX3_addItem 9 = .ok (.iastore, 1) := by decide +kernel
theorem dX3_addItem_10 : decode cX3_addItem 10 = .ok (.aload_n 0, 1) := by decide +kernel
theorem dX3_addItem_11 : decode cX3_addItem 11 = .ok (.getfield 33, 3) := by decide +kernel
theorem dX3_addItem_14 : decode cX3_addItem 14 = .ok (.aload_n 0, 1) := by decide +kernel
theorem dX3_addItem_15 : decode cX3_addItem 15 = .ok (.getfield 72, 3) := by decide +kernel
theorem dX3_addItem_18 : decode cX3_addItem 18 = .ok (.iload_n 1, 1) := by decide +kernel
theorem dX3_addItem_19 : decode cX3_addItem 19 = .ok (.iastore, 1) := by decide +kernel
theorem dX3_addItem_20 : decode cX3_addItem 20 = .ok (.aload_n 0, 1) := by decide +kernel
theorem dX3_addItem_21 : decode cX3_addItem 21 = .ok (.dup, 1) := by decide +kernel
theorem dX3_addItem_22 : decode cX3_addItem 22 = .ok (.getfield 72, 3) := by decide +kernel
theorem dX3_addItem_25 : decode cX3_addItem 25 = .ok (.iconst 1, 1) := by decide +kernel
theorem dX3_addItem_26 : decode cX3_addItem 26 = .ok (.iadd, 1) := by decide +kernel
theorem dX3_addItem_27 : decode cX3_addItem 27 = .ok (.putfield 72, 3) := by decide +kernel
theorem dX3_addItem_30 : decode cX3_addItem 30 = .ok (.return_, 1) := by decide +kernel
theorem dX3_set_0 : decode cX3_set 0 = .ok (.aload_n 0, 1) := by decide +kernel
theorem dX3_set_1 : decode cX3_set 1 = .ok (.getfield 49, 3) := by decide +kernel
theorem dX3_set_4 : decode cX3_set 4 = .ok (.ifCond .eq 15, 3) := by decide +kernel
theorem dX3_set_7 : decode cX3_set 7 = .ok (.aload_n 0, 1) := by decide +kernel
theorem dX3_set_8 : decode cX3_set 8 = .ok (.dup, 1) := by decide +kernel
theorem dX3_set_9 : decode cX3_set 9 = .ok (.getfield 78, 3) := by decide +kernel
theorem dX3_set_12 : decode cX3_set 12 = .ok (.iload_n 1, 1) := by decide +kernel
theorem dX3_set_13 : decode cX3_set 13 = .ok (.iadd, 1) := by decide +kernel
theorem dX3_set_14 : decode cX3_set 14 = .ok (.putfield 78, 3) := by decide +kernel
theorem dX3_set_17 : decode cX3_set 17 = .ok (.iconst 1, 1) := by decide +kernel
theorem dX3_set_18 : decode cX3_set 18 = .ok (.ireturn, 1) := by decide +kernel
theorem dX3_set_19 : decode cX3_set 19 = .ok (.iload_n 1, 1) := by decide +kernel
theorem dX3_set_20 : decode cX3_set 20 = .ok (.aload_n 0, 1) := by decide +kernel
theorem dX3_set_21 : decode cX3_set 21 = .ok (.getfield 81, 3) := by decide +kernel
theorem dX3_set_24 : decode cX3_set 24 = .ok (.if_icmp .gt 25, 3) := by decide +kernel
theorem dX3_set_27 : decode cX3_set 27 = .ok (.aload_n 0, 1) := by decide +kernel
theorem dX3_set_28 : decode cX3_set 28 = .ok (.dup, 1) := by decide +kernel
theorem dX3_set_29 : decode cX3_set 29 = .ok (.getfield 78, 3) := by decide +kernel
theorem dX3_set_32 : decode cX3_set 32 = .ok (.iload_n 1, 1) := by decide +kernel
theorem dX3_set_33 : decode cX3_set 33 = .ok (.iadd, 1) := by decide +kernel
theorem dX3_set_34 : decode cX3_set 34 = .ok (.putfield 78, 3) := by decide +kernel
theorem dX3_set_37 : decode cX3_set 37 = .ok (.aload_n 0, 1) := by decide +kernel
theorem dX3_set_38 : decode cX3_set 38 = .ok (.dup, 1) := by decide +kernel
theorem dX3_set_39 : decode cX3_set 39 = .ok (.getfield 81, 3) := by decide +kernel
theorem dX3_set_42 : decode cX3_set 42 = .ok (.iload_n 1, 1) := by decide +kernel
theorem dX3_set_43 : decode cX3_set 43 = .ok (.isub, 1) := by decide +kernel
theorem dX3_set_44 : decode cX3_set 44 = .ok (.putfield 81, 3) := by decide +kernel
theorem dX3_set_47 : decode cX3_set 47 = .ok (.iconst 1, 1) := by decide +kernel
theorem dX3_set_48 : decode cX3_set 48 = .ok (.ireturn, 1) := by decide +kernel
theorem dX3_set_49 : decode cX3_set 49 = .ok (.aload_n 0, 1) := by decide +kernel
theorem dX3_set_50 : decode cX3_set 50 = .ok (.dup, 1) := by decide +kernel
theorem dX3_set_51 : decode cX3_set 51 = .ok (.getfield 78, 3) := by decide +kernel
theorem dX3_set_54 : decode cX3_set 54 = .ok (.aload_n 0, 1) := by decide +kernel
theorem dX3_set_55 : decode cX3_set 55 = .ok (.getfield 81, 3) := by decide +kernel
theorem dX3_set_58 : decode cX3_set 58 = .ok (.iadd, 1) := by decide +kernel
theorem dX3_set_59 : decode cX3_set 59 = .ok (.putfield 78, 3) := by decide +kernel
theorem dX3_set_62 : decode cX3_set 62 = .ok (.aload_n 0, 1) := by decide +kernel
theorem dX3_set_63 : decode cX3_set 63 = .ok (.iconst 1, 1) := by decide +kernel
theorem dX3_set_64 : decode cX3_set 64 = .ok (.putfield 49, 3) := by decide +kernel
theorem dX3_set_67 : decode cX3_set 67 = .ok (.iconst 0, 1) := by decide +kernel
theorem dX3_set_68 : decode cX3_set 68 = .ok (.ireturn, 1) := by decide +kernel
theorem dX3_charge_0 : decode cX3_charge 0 = .ok (.iload_n 1, 1) := by decide +kernel
theorem dX3_charge_1 : decode cX3_charge 1 = .ok (.ifCond .lt 10, 3) := by decide +kernel
theorem dX3_charge_4 : decode cX3_charge 4 = .ok (.iload_n 1, 1) := by decide +kernel
theorem dX3_charge_5 : decode cX3_charge 5 = .ok (.sipush 999, 3) := by decide +kernel
theorem dX3_charge_8 : decode cX3_charge 8 = .ok (.if_icmp .le 5, 3) := by decide +kernel
theorem dX3_charge_11 : decode cX3_charge 11 = .ok (.iconst 0, 1) := by decide +kernel
theorem dX3_charge_12 : decode cX3_charge 12 = .ok (.ireturn, 1) := by decide +kernel
theorem dX3_charge_13 : decode cX3_charge 13 = .ok (.aload_n 0, 1) := by decide +kernel
theorem dX3_charge_14 : decode cX3_charge 14 = .ok (.iload_n 1, 1) := by decide +kernel
theorem dX3_charge_15 : decode cX3_charge 15 = .ok (.putfield 81, 3) := by decide +kernel
theorem dX3_charge_18 : decode cX3_charge 18 = .ok (.aload_n 0, 1) := by decide +kernel
theorem dX3_charge_19 : decode cX3_charge 19 = .ok (.iconst 0, 1) := by decide +kernel
theorem dX3_charge_20 : decode cX3_charge 20 = .ok (.putfield 49, 3) := by decide +kernel
theorem dX3_charge_23 : decode cX3_charge 23 = .ok (.iconst 1, 1) := by decide +kernel
theorem dX3_charge_24 : decode cX3_charge 24 = .ok (.ireturn, 1) := by decide +kernel
theorem dX3_plan_0 : decode cX3_plan 0 = .ok (.aload_n 0, 1) := by decide +kernel
theorem dX3_plan_1 : decode cX3_plan 1 = .ok (.getfield 46, 3) := by decide +kernel
theorem dX3_plan_4 : decode cX3_plan 4 = .ok (.iconst 0, 1) := by decide +kernel
theorem dX3_plan_5 : decode cX3_plan 5 = .ok (.iload_n 1, 1) := by decide +kernel
theorem dX3_plan_6 : decode cX3_plan 6 = .ok (.iastore, 1) := by decide +kernel
theorem dX3_plan_7 : decode cX3_plan 7 = .ok (.iconst 0, 1) := by decide +kernel
theorem dX3_plan_8 : decode cX3_plan 8 = .ok (.istore_n 2, 1) := by decide +kernel
theorem dX3_plan_9 : decode cX3_plan 9 = .ok (.iconst 0, 1) := by decide +kernel
theorem dX3_plan_10 : decode cX3_plan 10 = .ok (.istore_n 3, 1) := by decide +kernel
theorem dX3_plan_11 : decode cX3_plan 11 = .ok (.iload_n 3, 1) := by decide +kernel
theorem dX3_plan_12 : decode cX3_plan 12 = .ok (.bipush 31, 2) := by decide +kernel
theorem dX3_plan_14 : decode cX3_plan 14 = .ok (.if_icmp .ge 62, 3) := by decide +kernel
theorem dX3_plan_17 : decode cX3_plan 17 = .ok (.aload_n 0, 1) := by decide +kernel
theorem dX3_plan_18 : decode cX3_plan 18 = .ok (.iload_n 2, 1) := by decide +kernel
theorem dX3_plan_19 : decode cX3_plan 19 = .ok (.aload_n 0, 1) := by decide +kernel
theorem dX3_plan_20 : decode cX3_plan 20 = .ok (.getfield 46, 3) := by decide +kernel
theorem dX3_plan_23 : decode cX3_plan 23 = .ok (.iload_n 2, 1) := by decide +kernel
theorem dX3_plan_24 : decode cX3_plan 24 = .ok (.iaload, 1) := by decide +kernel
theorem dX3_plan_25 : decode cX3_plan 25 = .ok (.invokevirtual 75, 3) := by decide +kernel
theorem dX3_plan_28 : decode cX3_plan 28 = .ok (.istore 4, 2) := by decide +kernel
theorem dX3_plan_30 : decode cX3_plan 30 = .ok (.aload_n 0, 1) := by decide +kernel
theorem dX3_plan_31 : decode cX3_plan 31 = .ok (.iload 4, 2) := by decide +kernel
theorem dX3_plan_33 : decode cX3_plan 33 = .ok (.invokevirtual 84, 3) := by decide +kernel
theorem dX3_plan_36 : decode cX3_plan 36 = .ok (.bipush 10, 2) := by decide +kernel
theorem dX3_plan_38 : decode cX3_plan 38 = .ok (.if_icmp .lt 13, 3) := by decide +kernel
theorem dX3_plan_41 : decode cX3_plan 41 = .ok (.iload_n 2, 1) := by decide +kernel
theorem dX3_plan_42 : decode cX3_plan 42 = .ok (.aload_n 0, 1) := by decide +kernel
theorem dX3_plan_43 : decode cX3_plan 43 = .ok (.getfield 88, 3) := by decide +kernel
theorem dX3_plan_46 : decode cX3_plan 46 = .ok (.iconst 1, 1) := by decide +kernel
theorem dX3_plan_47 : decode cX3_plan 47 = .ok (.isub, 1) := by decide +kernel
theorem dX3_plan_48 : decode cX3_plan 48 = .ok (.if_icmp .ne 5, 3) := by decide +kernel
theorem dX3_plan_51 : decode cX3_plan 51 = .ok (.iload_n 2, 1) := by decide +kernel
theorem dX3_plan_52 : decode cX3_plan 52 = .ok (.ireturn, 1) := by decide +kernel
theorem dX3_plan_53 : decode cX3_plan 53 = .ok (.aload_n 0, 1) := by decide +kernel
theorem dX3_plan_54 : decode cX3_plan 54 = .ok (.getfield 46, 3) := by decide +kernel
theorem dX3_plan_57 : decode cX3_plan 57 = .ok (.iload_n 2, 1) := by decide +kernel
theorem dX3_plan_58 : decode cX3_plan 58 = .ok (.iconst 1, 1) := by decide +kernel
theorem dX3_plan_59 : decode cX3_plan 59 = .ok (.iadd, 1) := by decide +kernel
theorem dX3_plan_60 : decode cX3_plan 60 = .ok (.aload_n 0, 1) := by decide +kernel
theorem dX3_plan_61 : decode cX3_plan 61 = .ok (.iload 4, 2) := by decide +kernel
theorem dX3_plan_63 : decode cX3_plan 63 = .ok (.invokevirtual 91, 3) := by decide +kernel
theorem dX3_plan_66 : decode cX3_plan 66 = .ok (.iastore, 1) := by decide +kernel
theorem dX3_plan_67 : decode cX3_plan 67 = .ok (.iinc 2 1, 3) := by decide +kernel
theorem dX3_plan_70 : decode cX3_plan 70 = .ok (.iinc 3 1, 3) := by decide +kernel
theorem dX3_plan_73 : decode cX3_plan 73 = .ok (.goto (-62), 3) := by decide +kernel
theorem dX3_plan_76 : decode cX3_plan 76 = .ok (.iload_n 2, 1) := by decide +kernel
theorem dX3_plan_77 : decode cX3_plan 77 = .ok (.ireturn, 1) := by decide +kernel
theorem dX3_split_0 : decode cX3_split 0 = .ok (.iload_n 1, 1) := by decide +kernel
theorem dX3_split_1 : decode cX3_split 1 = .ok (.aload_n 0, 1) := by decide +kernel
theorem dX3_split_2 : decode cX3_split 2 = .ok (.getfield 88, 3) := by decide +kernel
theorem dX3_split_5 : decode cX3_split 5 = .ok (.iconst 1, 1) := by decide +kernel
theorem dX3_split_6 : decode cX3_split 6 = .ok (.isub, 1) := by decide +kernel
theorem dX3_split_7 : decode cX3_split 7 = .ok (.if_icmp .ne 57, 3) := by decide +kernel
theorem dX3_split_10 : decode cX3_split 10 = .ok (.aload_n 0, 1) := by decide +kernel
theorem dX3_split_11 : decode cX3_split 11 = .ok (.sipush 145, 3) := by decide +kernel
theorem dX3_split_14 : decode cX3_split 14 = .ok (.invokevirtual 94, 3) := by decide +kernel
theorem dX3_split_17 : decode cX3_split 17 = .ok (.ifCond .ne 5, 3) := by decide +kernel
theorem dX3_split_20 : decode cX3_split 20 = .ok (.iconst 0, 1) := by decide +kernel
theorem dX3_split_21 : decode cX3_split 21 = .ok (.ireturn, 1) := by decide +kernel
theorem dX3_split_22 : decode cX3_split 22 = .ok (.aload_n 0, 1) := by decide +kernel
theorem dX3_split_23 : decode cX3_split 23 = .ok (.iload_n 1, 1) := by decide +kernel
theorem dX3_split_24 : decode cX3_split 24 = .ok (.iload_n 3, 1) := by decide +kernel
theorem dX3_split_25 : decode cX3_split 25 = .ok (.invokevirtual 98, 3) := by decide +kernel
theorem dX3_split_28 : decode cX3_split 28 = .ok (.aload_n 0, 1) := by decide +kernel
theorem dX3_split_29 : decode cX3_split 29 = .ok (.dup, 1) := by decide +kernel
theorem dX3_split_30 : decode cX3_split 30 = .ok (.getfield 88, 3) := by decide +kernel
theorem dX3_split_33 : decode cX3_split 33 = .ok (.iconst 1, 1) := by decide +kernel
theorem dX3_split_34 : decode cX3_split 34 = .ok (.iadd, 1) := by decide +kernel
theorem dX3_split_35 : decode cX3_split 35 = .ok (.putfield 88, 3) := by decide +kernel
theorem dX3_split_38 : decode cX3_split 38 = .ok (.aload_n 0, 1) := by decide +kernel
theorem dX3_split_39 : decode cX3_split 39 = .ok (.iload_n 1, 1) := by decide +kernel
theorem dX3_split_40 : decode cX3_split 40 = .ok (.iconst 1, 1) := by decide +kernel
theorem dX3_split_41 : decode cX3_split 41 = .ok (.iadd, 1) := by decide +kernel
theorem dX3_split_42 : decode cX3_split 42 = .ok (.iconst 0, 1) := by decide +kernel
theorem dX3_split_43 : decode cX3_split 43 = .ok (.invokevirtual 98, 3) := by decide +kernel
theorem dX3_split_46 : decode cX3_split 46 = .ok (.aload_n 0, 1) := by decide +kernel
theorem dX3_split_47 : decode cX3_split 47 = .ok (.iload_n 1, 1) := by decide +kernel
theorem dX3_split_48 : decode cX3_split 48 = .ok (.iconst 1, 1) := by decide +kernel
theorem dX3_split_49 : decode cX3_split 49 = .ok (.iadd, 1) := by decide +kernel
theorem dX3_split_50 : decode cX3_split 50 = .ok (.iconst 0, 1) := by decide +kernel
theorem dX3_split_51 : decode cX3_split 51 = .ok (.invokevirtual 102, 3) := by decide +kernel
theorem dX3_split_54 : decode cX3_split 54 = .ok (.aload_n 0, 1) := by decide +kernel
theorem dX3_split_55 : decode cX3_split 55 = .ok (.iload_n 1, 1) := by decide +kernel
theorem dX3_split_56 : decode cX3_split 56 = .ok (.iconst 1, 1) := by decide +kernel
theorem dX3_split_57 : decode cX3_split 57 = .ok (.iadd, 1) := by decide +kernel
theorem dX3_split_58 : decode cX3_split 58 = .ok (.iload_n 3, 1) := by decide +kernel
theorem dX3_split_59 : decode cX3_split 59 = .ok (.invokevirtual 102, 3) := by decide +kernel
theorem dX3_split_62 : decode cX3_split 62 = .ok (.iconst 1, 1) := by decide +kernel
theorem dX3_split_63 : decode cX3_split 63 = .ok (.ireturn, 1) := by decide +kernel
theorem dX3_split_64 : decode cX3_split 64 = .ok (.aload_n 0, 1) := by decide +kernel
theorem dX3_split_65 : decode cX3_split 65 = .ok (.bipush 63, 2) := by decide +kernel
theorem dX3_split_67 : decode cX3_split 67 = .ok (.invokevirtual 94, 3) := by decide +kernel
theorem dX3_split_70 : decode cX3_split 70 = .ok (.ifCond .ne 5, 3) := by decide +kernel
theorem dX3_split_73 : decode cX3_split 73 = .ok (.iconst 0, 1) := by decide +kernel
theorem dX3_split_74 : decode cX3_split 74 = .ok (.ireturn, 1) := by decide +kernel
theorem dX3_split_75 : decode cX3_split 75 = .ok (.aload_n 0, 1) := by decide +kernel
theorem dX3_split_76 : decode cX3_split 76 = .ok (.iload_n 1, 1) := by decide +kernel
theorem dX3_split_77 : decode cX3_split 77 = .ok (.iload_n 3, 1) := by decide +kernel
theorem dX3_split_78 : decode cX3_split 78 = .ok (.invokevirtual 98, 3) := by decide +kernel
theorem dX3_split_81 : decode cX3_split 81 = .ok (.aload_n 0, 1) := by decide +kernel
theorem dX3_split_82 : decode cX3_split 82 = .ok (.iconst 1, 1) := by decide +kernel
theorem dX3_split_83 : decode cX3_split 83 = .ok (.invokevirtual 94, 3) := by decide +kernel
theorem dX3_split_86 : decode cX3_split 86 = .ok (.ifCond .eq 5, 3) := by decide +kernel
theorem dX3_split_89 : decode cX3_split 89 = .ok (.iconst 1, 1) := by decide +kernel
theorem dX3_split_90 : decode cX3_split 90 = .ok (.ireturn, 1) := by decide +kernel
theorem dX3_split_91 : decode cX3_split 91 = .ok (.aload_n 0, 1) := by decide +kernel
theorem dX3_split_92 : decode cX3_split 92 = .ok (.getfield 42, 3) := by decide +kernel
theorem dX3_split_95 : decode cX3_split 95 = .ok (.iload_n 2, 1) := by decide +kernel
theorem dX3_split_96 : decode cX3_split 96 = .ok (.iconst 1, 1) := by decide +kernel
theorem dX3_split_97 : decode cX3_split 97 = .ok (.bastore, 1) := by decide +kernel
theorem dX3_split_98 : decode cX3_split 98 = .ok (.iconst 0, 1) := by decide +kernel
theorem dX3_split_99 : decode cX3_split 99 = .ok (.ireturn, 1) := by decide +kernel
theorem dX3_enter_0 : decode cX3_enter 0 = .ok (.aload_n 0, 1) := by decide +kernel
theorem dX3_enter_1 : decode cX3_enter 1 = .ok (.iload_n 1, 1) := by decide +kernel
theorem dX3_enter_2 : decode cX3_enter 2 = .ok (.iload_n 2, 1) := by decide +kernel
theorem dX3_enter_3 : decode cX3_enter 3 = .ok (.invokevirtual 75, 3) := by decide +kernel
theorem dX3_enter_6 : decode cX3_enter 6 = .ok (.istore_n 3, 1) := by decide +kernel
theorem dX3_enter_7 : decode cX3_enter 7 = .ok (.aload_n 0, 1) := by decide +kernel
theorem dX3_enter_8 : decode cX3_enter 8 = .ok (.getfield 42, 3) := by decide +kernel
theorem dX3_enter_11 : decode cX3_enter 11 = .ok (.iload_n 3, 1) := by decide +kernel
theorem dX3_enter_12 : decode cX3_enter 12 = .ok (.baload, 1) := by decide +kernel
theorem dX3_enter_13 : decode cX3_enter 13 = .ok (.ifCond .eq 20, 3) := by decide +kernel
theorem dX3_enter_16 : decode cX3_enter 16 = .ok (.aload_n 0, 1) := by decide +kernel
theorem dX3_enter_17 : decode cX3_enter 17 = .ok (.iconst 1, 1) := by decide +kernel
theorem dX3_enter_18 : decode cX3_enter 18 = .ok (.invokevirtual 94, 3) := by decide +kernel
theorem dX3_enter_21 : decode cX3_enter 21 = .ok (.ifCond .ne 5, 3) := by decide +kernel
theorem dX3_enter_24 : decode cX3_enter 24 = .ok (.iconst 0, 1) := by decide +kernel
theorem dX3_enter_25 : decode cX3_enter 25 = .ok (.ireturn, 1) := by decide +kernel
theorem dX3_enter_26 : decode cX3_enter 26 = .ok (.aload_n 0, 1) := by decide +kernel
theorem dX3_enter_27 : decode cX3_enter 27 = .ok (.getfield 42, 3) := by decide +kernel
theorem dX3_enter_30 : decode cX3_enter 30 = .ok (.iload_n 3, 1) := by decide +kernel
theorem dX3_enter_31 : decode cX3_enter 31 = .ok (.iconst 0, 1) := by decide +kernel
theorem dX3_enter_32 : decode cX3_enter 32 = .ok (.bastore, 1) := by decide +kernel
theorem dX3_enter_33 : decode cX3_enter 33 = .ok (.aload_n 0, 1) := by decide +kernel
theorem dX3_enter_34 : decode cX3_enter 34 = .ok (.bipush 11, 2) := by decide +kernel
theorem dX3_enter_36 : decode cX3_enter 36 = .ok (.invokevirtual 94, 3) := by decide +kernel
theorem dX3_enter_39 : decode cX3_enter 39 = .ok (.ifCond .ne 5, 3) := by decide +kernel
theorem dX3_enter_42 : decode cX3_enter 42 = .ok (.iconst 0, 1) := by decide +kernel
theorem dX3_enter_43 : decode cX3_enter 43 = .ok (.ireturn, 1) := by decide +kernel
theorem dX3_enter_44 : decode cX3_enter 44 = .ok (.aload_n 0, 1) := by decide +kernel
theorem dX3_enter_45 : decode cX3_enter 45 = .ok (.iload_n 1, 1) := by decide +kernel
theorem dX3_enter_46 : decode cX3_enter 46 = .ok (.iload_n 2, 1) := by decide +kernel
theorem dX3_enter_47 : decode cX3_enter 47 = .ok (.invokevirtual 102, 3) := by decide +kernel
theorem dX3_enter_50 : decode cX3_enter 50 = .ok (.iconst 1, 1) := by decide +kernel
theorem dX3_enter_51 : decode cX3_enter 51 = .ok (.ireturn, 1) := by decide +kernel
theorem dX3_perform_0 : decode cX3_perform 0 = .ok (.iload_n 2, 1) := by decide +kernel
theorem dX3_perform_1 : decode cX3_perform 1 = .ok (.ifCond .eq 9, 3) := by decide +kernel
theorem dX3_perform_4 : decode cX3_perform 4 = .ok (.iload_n 1, 1) := by decide +kernel
theorem dX3_perform_5 : decode cX3_perform 5 = .ok (.iconst 1, 1) := by decide +kernel
theorem dX3_perform_6 : decode cX3_perform 6 = .ok (.iadd, 1) := by decide +kernel
theorem dX3_perform_7 : decode cX3_perform 7 = .ok (.goto 4, 3) := by decide +kernel
theorem dX3_perform_10 : decode cX3_perform 10 = .ok (.iload_n 1, 1) := by decide +kernel
theorem dX3_perform_11 : decode cX3_perform 11 = .ok (.istore_n 3, 1) := by decide +kernel
theorem dX3_perform_12 : decode cX3_perform 12 = .ok (.iconst 0, 1) := by decide +kernel
theorem dX3_perform_13 : decode cX3_perform 13 = .ok (.istore 4, 2) := by decide +kernel
theorem dX3_perform_15 : decode cX3_perform 15 = .ok (.iload 4, 2) := by decide +kernel
theorem dX3_perform_17 : decode cX3_perform 17 = .ok (.iload_n 3, 1) := by decide +kernel
theorem dX3_perform_18 : decode cX3_perform 18 = .ok (.if_icmp .ge 43, 3) := by decide +kernel
theorem dX3_perform_21 : decode cX3_perform 21 = .ok (.aload_n 0, 1) := by decide +kernel
theorem dX3_perform_22 : decode cX3_perform 22 = .ok (.iload 4, 2) := by decide +kernel
theorem dX3_perform_24 : decode cX3_perform 24 = .ok (.aload_n 0, 1) := by decide +kernel
theorem dX3_perform_25 : decode cX3_perform 25 = .ok (.getfield 46, 3) := by decide +kernel
theorem dX3_perform_28 : decode cX3_perform 28 = .ok (.iload 4, 2) := by decide +kernel
theorem dX3_perform_30 : decode cX3_perform 30 = .ok (.iaload, 1) := by decide +kernel
theorem dX3_perform_31 : decode cX3_perform 31 = .ok (.invokevirtual 75, 3) := by decide +kernel
theorem dX3_perform_34 : decode cX3_perform 34 = .ok (.istore 5, 2) := by decide +kernel
theorem dX3_perform_36 : decode cX3_perform 36 = .ok (.aload_n 0, 1) := by decide +kernel
theorem dX3_perform_37 : decode cX3_perform 37 = .ok (.iload 4, 2) := by decide +kernel
theorem dX3_perform_39 : decode cX3_perform 39 = .ok (.iload 5, 2) := by decide +kernel
theorem dX3_perform_41 : decode cX3_perform 41 = .ok (.aload_n 0, 1) := by decide +kernel
theorem dX3_perform_42 : decode cX3_perform 42 = .ok (.iload 5, 2) := by decide +kernel
theorem dX3_perform_44 : decode cX3_perform 44 = .ok (.invokevirtual 91, 3) := by decide +kernel
theorem dX3_perform_47 : decode cX3_perform 47 = .ok (.invokevirtual 105, 3) := by decide +kernel
theorem dX3_perform_50 : decode cX3_perform 50 = .ok (.ifCond .ne 5, 3) := by decide +kernel
theorem dX3_perform_53 : decode cX3_perform 53 = .ok (.iconst 0, 1) := by decide +kernel
theorem dX3_perform_54 : decode cX3_perform 54 = .ok (.ireturn, 1) := by decide +kernel
theorem dX3_perform_55 : decode cX3_perform 55 = .ok (.iinc 4 1, 3) := by decide +kernel
theorem dX3_perform_58 : decode cX3_perform 58 = .ok (.goto (-43), 3) := by decide +kernel
theorem dX3_perform_61 : decode cX3_perform 61 = .ok (.iload_n 1, 1) := by decide +kernel
theorem dX3_perform_62 : decode cX3_perform 62 = .ok (.istore 4, 2) := by decide +kernel
theorem dX3_perform_64 : decode cX3_perform 64 = .ok (.iload 4, 2) := by decide +kernel
theorem dX3_perform_66 : decode cX3_perform 66 = .ok (.ifCond .lt 27, 3) := by decide +kernel
theorem dX3_perform_69 : decode cX3_perform 69 = .ok (.aload_n 0, 1) := by decide +kernel
theorem dX3_perform_70 : decode cX3_perform 70 = .ok (.iload 4, 2) := by decide +kernel
theorem dX3_perform_72 : decode cX3_perform 72 = .ok (.aload_n 0, 1) := by decide +kernel
theorem dX3_perform_73 : decode cX3_perform 73 = .ok (.getfield 46, 3) := by decide +kernel
theorem dX3_perform_76 : decode cX3_perform 76 = .ok (.iload 4, 2) := by decide +kernel
theorem dX3_perform_78 : decode cX3_perform 78 = .ok (.iaload, 1) := by decide +kernel
theorem dX3_perform_79 : decode cX3_perform 79 = .ok (.invokevirtual 109, 3) := by decide +kernel
theorem dX3_perform_82 : decode cX3_perform 82 = .ok (.ifCond .ne 5, 3) := by decide +kernel
theorem dX3_perform_85 : decode cX3_perform 85 = .ok (.iconst 0, 1) := by decide +kernel
theorem dX3_perform_86 : decode cX3_perform 86 = .ok (.ireturn, 1) := by decide +kernel
theorem dX3_perform_87 : decode cX3_perform 87 = .ok (.iinc 4 (-1), 3) := by decide +kernel
theorem dX3_perform_90 : decode cX3_perform 90 = .ok (.goto (-26), 3) := by decide +kernel
theorem dX3_perform_93 : decode cX3_perform 93 = .ok (.iconst 1, 1) := by decide +kernel
theorem dX3_perform_94 : decode cX3_perform 94 = .ok (.ireturn, 1) := by decide +kernel
theorem dX3_add_0 : decode cX3_add 0 = .ok (.iload 9, 2) := by decide +kernel
theorem dX3_add_2 : decode cX3_add 2 = .ok (.ifCond .ge 5, 3) := by decide +kernel
theorem dX3_add_5 : decode cX3_add 5 = .ok (.iconst (-1), 1) := by decide +kernel
theorem dX3_add_6 : decode cX3_add 6 = .ok (.ireturn, 1) := by decide +kernel
theorem dX3_add_7 : decode cX3_add 7 = .ok (.aload_n 0, 1) := by decide +kernel
theorem dX3_add_8 : decode cX3_add 8 = .ok (.lload_n 1, 1) := by decide +kernel
theorem dX3_add_9 : decode cX3_add 9 = .ok (.lload_n 3, 1) := by decide +kernel
theorem dX3_add_10 : decode cX3_add 10 = .ok (.lload 5, 2) := by decide +kernel
theorem dX3_add_12 : decode cX3_add 12 = .ok (.lload 7, 2) := by decide +kernel
theorem dX3_add_14 : decode cX3_add 14 = .ok (.iload 9, 2) := by decide +kernel
theorem dX3_add_16 : decode cX3_add 16 = .ok (.invokevirtual 113, 3) := by decide +kernel
theorem dX3_add_19 : decode cX3_add 19 = .ok (.istore 10, 2) := by decide +kernel
theorem dX3_add_21 : decode cX3_add 21 = .ok (.aload_n 0, 1) := by decide +kernel
theorem dX3_add_22 : decode cX3_add 22 = .ok (.iload 10, 2) := by decide +kernel
theorem dX3_add_24 : decode cX3_add 24 = .ok (.invokevirtual 117, 3) := by decide +kernel
theorem dX3_add_27 : decode cX3_add 27 = .ok (.ifCond .lt 5, 3) := by decide +kernel
theorem dX3_add_30 : decode cX3_add 30 = .ok (.iconst 0, 1) := by decide +kernel
theorem dX3_add_31 : decode cX3_add 31 = .ok (.ireturn, 1) := by decide +kernel
theorem dX3_add_32 : decode cX3_add 32 = .ok (.aload_n 0, 1) := by decide +kernel
theorem dX3_add_33 : decode cX3_add 33 = .ok (.iload 10, 2) := by decide +kernel
theorem dX3_add_35 : decode cX3_add 35 = .ok (.invokevirtual 120, 3) := by decide +kernel
theorem dX3_add_38 : decode cX3_add 38 = .ok (.istore 11, 2) := by decide +kernel
theorem dX3_add_40 : decode cX3_add 40 = .ok (.aload_n 0, 1) := by decide +kernel
theorem dX3_add_41 : decode cX3_add 41 = .ok (.aload_n 0, 1) := by decide +kernel
theorem dX3_add_42 : decode cX3_add 42 = .ok (.iload 11, 2) := by decide +kernel
theorem dX3_add_44 : decode cX3_add 44 = .ok (.aload_n 0, 1) := by decide +kernel
theorem dX3_add_45 : decode cX3_add 45 = .ok (.getfield 46, 3) := by decide +kernel
theorem dX3_add_48 : decode cX3_add 48 = .ok (.iload 11, 2) := by decide +kernel
theorem dX3_add_50 : decode cX3_add 50 = .ok (.iaload, 1) := by decide +kernel
theorem dX3_add_51 : decode cX3_add 51 = .ok (.invokevirtual 75, 3) := by decide +kernel
theorem dX3_add_54 : decode cX3_add 54 = .ok (.invokevirtual 84, 3) := by decide +kernel
theorem dX3_add_57 : decode cX3_add 57 = .ok (.bipush 10, 2) := by decide +kernel
theorem dX3_add_59 : decode cX3_add 59 = .ok (.if_icmp .ne 7, 3) := by decide +kernel
theorem dX3_add_62 : decode cX3_add 62 = .ok (.iconst 1, 1) := by decide +kernel
theorem dX3_add_63 : decode cX3_add 63 = .ok (.goto 4, 3) := by decide +kernel
theorem dX3_add_66 : decode cX3_add 66 = .ok (.iconst 0, 1) := by decide +kernel
theorem dX3_add_67 : decode cX3_add 67 = .ok (.istore 12, 2) := by decide +kernel
theorem dX3_add_69 : decode cX3_add 69 = .ok (.iload 12, 2) := by decide +kernel
theorem dX3_add_71 : decode cX3_add 71 = .ok (.ifCond .eq 10, 3) := by decide +kernel
theorem dX3_add_74 : decode cX3_add 74 = .ok (.iload 11, 2) := by decide +kernel
theorem dX3_add_76 : decode cX3_add 76 = .ok (.iconst 2, 1) := by decide +kernel
theorem dX3_add_77 : decode cX3_add 77 = .ok (.iadd, 1) := by decide +kernel
theorem dX3_add_78 : decode cX3_add 78 = .ok (.goto 5, 3) := by decide +kernel
theorem dX3_add_81 : decode cX3_add 81 = .ok (.iload 11, 2) := by decide +kernel
theorem dX3_add_83 : decode cX3_add 83 = .ok (.istore 13, 2) := by decide +kernel
theorem dX3_add_85 : decode cX3_add 85 = .ok (.aload_n 0, 1) := by decide +kernel
theorem dX3_add_86 : decode cX3_add 86 = .ok (.getfield 123, 3) := by decide +kernel
theorem dX3_add_89 : decode cX3_add 89 = .ok (.iload 13, 2) := by decide +kernel
theorem dX3_add_91 : decode cX3_add 91 = .ok (.iadd, 1) := by decide +kernel
theorem dX3_add_92 : decode cX3_add 92 = .ok (.bipush 60, 2) := by decide +kernel
theorem dX3_add_94 : decode cX3_add 94 = .ok (.if_icmp .le 5, 3) := by decide +kernel
theorem dX3_add_97 : decode cX3_add 97 = .ok (.iconst (-1), 1) := by decide +kernel
theorem dX3_add_98 : decode cX3_add 98 = .ok (.ireturn, 1) := by decide +kernel
theorem dX3_add_99 : decode cX3_add 99 = .ok (.aload_n 0, 1) := by decide +kernel
theorem dX3_add_100 : decode cX3_add 100 = .ok (.dup, 1) := by decide +kernel
theorem dX3_add_101 : decode cX3_add 101 = .ok (.getfield 26, 3) := by decide +kernel
theorem dX3_add_104 : decode cX3_add 104 = .ok (.iconst 1, 1) := by decide +kernel
theorem dX3_add_105 : decode cX3_add 105 = .ok (.iadd, 1) := by decide +kernel
theorem dX3_add_106 : decode cX3_add 106 = .ok (.putfield 26, 3) := by decide +kernel
theorem dX3_add_109 : decode cX3_add 109 = .ok (.aload_n 0, 1) := by decide +kernel
theorem dX3_add_110 : decode cX3_add 110 = .ok (.dup, 1) := by decide +kernel
theorem dX3_add_111 : decode cX3_add 111 = .ok (.getfield 123, 3) := by decide +kernel
theorem dX3_add_114 : decode cX3_add 114 = .ok (.iload 13, 2) := by decide +kernel
theorem dX3_add_116 : decode cX3_add 116 = .ok (.iadd, 1) := by decide +kernel
theorem dX3_add_117 : decode cX3_add 117 = .ok (.putfield 123, 3) := by decide +kernel
theorem dX3_add_120 : decode cX3_add 120 = .ok (.aload_n 0, 1) := by decide +kernel
theorem dX3_add_121 : decode cX3_add 121 = .ok (.iload 11, 2) := by decide +kernel
theorem dX3_add_123 : decode cX3_add 123 = .ok (.iload 12, 2) := by decide +kernel
theorem dX3_add_125 : decode cX3_add 125 = .ok (.invokevirtual 126, 3) := by decide +kernel
theorem dX3_add_128 : decode cX3_add 128 = .ok (.ifCond .eq 7, 3) := by decide +kernel
theorem dX3_add_131 : decode cX3_add 131 = .ok (.iconst 1, 1) := by decide +kernel
theorem dX3_add_132 : decode cX3_add 132 = .ok (.goto 5, 3) := by decide +kernel
theorem dX3_add_135 : decode cX3_add 135 = .ok (.bipush (-2), 2) := by decide +kernel
theorem dX3_add_137 : decode cX3_add 137 = .ok (.ireturn, 1) := by decide +kernel
theorem dX3_itemOf_0 : decode cX3_itemOf 0 = .ok (.iconst 0, 1) := by decide +kernel
theorem dX3_itemOf_1 : decode cX3_itemOf 1 = .ok (.istore_n 2, 1) := by decide +kernel
theorem dX3_itemOf_2 : decode cX3_itemOf 2 = .ok (.iload_n 2, 1) := by decide +kernel
theorem dX3_itemOf_3 : decode cX3_itemOf 3 = .ok (.aload_n 0, 1) := by decide +kernel
theorem dX3_itemOf_4 : decode cX3_itemOf 4 = .ok (.getfield 72, 3) := by decide +kernel
theorem dX3_itemOf_7 : decode cX3_itemOf 7 = .ok (.if_icmp .ge 34, 3) := by decide +kernel
theorem dX3_itemOf_10 : decode cX3_itemOf 10 = .ok (.aload_n 0, 1) := by decide +kernel
theorem dX3_itemOf_11 : decode cX3_itemOf 11 = .ok (.getfield 33, 3) := by decide +kernel
theorem dX3_itemOf_14 : decode cX3_itemOf 14 = .ok (.iload_n 2, 1) := by decide +kernel
theorem dX3_itemOf_15 : decode cX3_itemOf 15 = .ok (.iaload, 1) := by decide +kernel
theorem dX3_itemOf_16 : decode cX3_itemOf 16 = .ok (.ifCond .ne 19, 3) := by decide +kernel
theorem dX3_itemOf_19 : decode cX3_itemOf 19 = .ok (.aload_n 0, 1) := by decide +kernel
theorem dX3_itemOf_20 : decode cX3_itemOf 20 = .ok (.aload_n 0, 1) := by decide +kernel
theorem dX3_itemOf_21 : decode cX3_itemOf 21 = .ok (.getfield 30, 3) := by decide +kernel
theorem dX3_itemOf_24 : decode cX3_itemOf 24 = .ok (.iload_n 2, 1) := by decide +kernel
theorem dX3_itemOf_25 : decode cX3_itemOf 25 = .ok (.iaload, 1) := by decide +kernel
theorem dX3_itemOf_26 : decode cX3_itemOf 26 = .ok (.iload_n 1, 1) := by decide +kernel
theorem dX3_itemOf_27 : decode cX3_itemOf 27 = .ok (.invokevirtual 68, 3) := by decide +kernel
theorem dX3_itemOf_30 : decode cX3_itemOf 30 = .ok (.ifCond .ne 5, 3) := by decide +kernel
theorem dX3_itemOf_33 : decode cX3_itemOf 33 = .ok (.iload_n 2, 1) := by decide +kernel
theorem dX3_itemOf_34 : decode cX3_itemOf 34 = .ok (.ireturn, 1) := by decide +kernel
theorem dX3_itemOf_35 : decode cX3_itemOf 35 = .ok (.iinc 2 1, 3) := by decide +kernel
theorem dX3_itemOf_38 : decode cX3_itemOf 38 = .ok (.goto (-36), 3) := by decide +kernel
theorem dX3_itemOf_41 : decode cX3_itemOf 41 = .ok (.iconst (-1), 1) := by decide +kernel
theorem dX3_itemOf_42 : decode cX3_itemOf 42 = .ok (.ireturn, 1) := by decide +kernel
theorem dX3_remove_0 : decode cX3_remove 0 = .ok (.aload_n 0, 1) := by decide +kernel
theorem dX3_remove_1 : decode cX3_remove 1 = .ok (.lload_n 1, 1) := by decide +kernel
theorem dX3_remove_2 : decode cX3_remove 2 = .ok (.lload_n 3, 1) := by decide +kernel
theorem dX3_remove_3 : decode cX3_remove 3 = .ok (.lload 5, 2) := by decide +kernel
theorem dX3_remove_5 : decode cX3_remove 5 = .ok (.lload 7, 2) := by decide +kernel
theorem dX3_remove_7 : decode cX3_remove 7 = .ok (.iload 9, 2) := by decide +kernel
theorem dX3_remove_9 : decode cX3_remove 9 = .ok (.invokevirtual 113, 3) := by decide +kernel
theorem dX3_remove_12 : decode cX3_remove 12 = .ok (.istore 10, 2) := by decide +kernel
theorem dX3_remove_14 : decode cX3_remove 14 = .ok (.aload_n 0, 1) := by decide +kernel
theorem dX3_remove_15 : decode cX3_remove 15 = .ok (.iload 10, 2) := by decide +kernel
theorem dX3_remove_17 : decode cX3_remove 17 = .ok (.invokevirtual 117, 3) := by decide +kernel
theorem dX3_remove_20 : decode cX3_remove 20 = .ok (.istore 11, 2) := by decide +kernel
theorem dX3_remove_22 : decode cX3_remove 22 = .ok (.iload 11, 2) := by decide +kernel
theorem dX3_remove_24 : decode cX3_remove 24 = .ok (.ifCond .ge 5, 3) := by decide +kernel
theorem dX3_remove_27 : decode cX3_remove 27 = .ok (.iconst 0, 1) := by decide +kernel
theorem dX3_remove_28 : decode cX3_remove 28 = .ok (.ireturn, 1) := by decide +kernel
theorem dX3_remove_29 : decode cX3_remove 29 = .ok (.aload_n 0, 1) := by decide +kernel
theorem dX3_remove_30 : decode cX3_remove 30 = .ok (.iconst 1, 1) := by decide +kernel
theorem dX3_remove_31 : decode cX3_remove 31 = .ok (.invokevirtual 94, 3) := by decide +kernel
theorem dX3_remove_34 : decode cX3_remove 34 = .ok (.ifCond .ne 6, 3) := by decide +kernel
theorem dX3_remove_37 : decode cX3_remove 37 = .ok (.bipush (-2), 2) := by decide +kernel
theorem dX3_remove_39 : decode cX3_remove 39 = .ok (.ireturn, 1) := by decide +kernel
theorem dX3_remove_40 : decode cX3_remove 40 = .ok (.aload_n 0, 1) := by decide +kernel
theorem dX3_remove_41 : decode cX3_remove 41 = .ok (.getfield 42, 3) := by decide +kernel
theorem dX3_remove_44 : decode cX3_remove 44 = .ok (.aload_n 0, 1) := by decide +kernel
theorem dX3_remove_45 : decode cX3_remove 45 = .ok (.iconst 0, 1) := by decide +kernel
theorem dX3_remove_46 : decode cX3_remove 46 = .ok (.iload 10, 2) := by decide +kernel
theorem dX3_remove_48 : decode cX3_remove 48 = .ok (.invokevirtual 75, 3) := by decide +kernel
theorem dX3_remove_51 : decode cX3_remove 51 = .ok (.iconst 0, 1) := by decide +kernel
theorem dX3_remove_52 : decode cX3_remove 52 = .ok (.bastore, 1) := by decide +kernel
theorem dX3_remove_53 : decode cX3_remove 53 = .ok (.aload_n 0, 1) := by decide +kernel
theorem dX3_remove_54 : decode cX3_remove 54 = .ok (.dup, 1) := by decide +kernel
theorem dX3_remove_55 : decode cX3_remove 55 = .ok (.getfield 72, 3) := by decide +kernel
theorem dX3_remove_58 : decode cX3_remove 58 = .ok (.iconst 1, 1) := by decide +kernel
theorem dX3_remove_59 : decode cX3_remove 59 = .ok (.isub, 1) := by decide +kernel
theorem dX3_remove_60 : decode cX3_remove 60 = .ok (.putfield 72, 3) := by decide +kernel
theorem dX3_remove_63 : decode cX3_remove 63 = .ok (.aload_n 0, 1) := by decide +kernel
theorem dX3_remove_64 : decode cX3_remove 64 = .ok (.getfield 30, 3) := by decide +kernel
theorem dX3_remove_67 : decode cX3_remove 67 = .ok (.iload 11, 2) := by decide +kernel
theorem dX3_remove_69 : decode cX3_remove 69 = .ok (.aload_n 0, 1) := by decide +kernel
theorem dX3_remove_70 : decode cX3_remove 70 = .ok (.getfield 30, 3) := by decide +kernel
theorem dX3_remove_73 : decode cX3_remove 73 = .ok (.aload_n 0, 1) := by decide +kernel
theorem dX3_remove_74 : decode cX3_remove 74 = .ok (.getfield 72, 3) := by decide +kernel
theorem dX3_remove_77 : decode cX3_remove 77 = .ok (.iaload, 1) := by decide +kernel
theorem dX3_remove_78 : decode cX3_remove 78 = .ok (.iastore, 1) := by decide +kernel
theorem dX3_remove_79 : decode cX3_remove 79 = .ok (.aload_n 0, 1) := by decide +kernel
theorem dX3_remove_80 : decode cX3_remove 80 = .ok (.getfield 33, 3) := by decide +kernel
theorem dX3_remove_83 : decode cX3_remove 83 = .ok (.iload 11, 2) := by decide +kernel
theorem dX3_remove_85 : decode cX3_remove 85 = .ok (.aload_n 0, 1) := by decide +kernel
theorem dX3_remove_86 : decode cX3_remove 86 = .ok (.getfield 33, 3) := by decide +kernel
theorem dX3_remove_89 : decode cX3_remove 89 = .ok (.aload_n 0, 1) := by decide +kernel
theorem dX3_remove_90 : decode cX3_remove 90 = .ok (.getfield 72, 3) := by decide +kernel
theorem dX3_remove_93 : decode cX3_remove 93 = .ok (.iaload, 1) := by decide +kernel
theorem dX3_remove_94 : decode cX3_remove 94 = .ok (.iastore, 1) := by decide +kernel
theorem dX3_remove_95 : decode cX3_remove 95 = .ok (.iconst 1, 1) := by decide +kernel
theorem dX3_remove_96 : decode cX3_remove 96 = .ok (.ireturn, 1) := by decide +kernel
theorem dX3_has_0 : decode cX3_has 0 = .ok (.aload_n 0, 1) := by decide +kernel
theorem dX3_has_1 : decode cX3_has 1 = .ok (.aload_n 0, 1) := by decide +kernel
theorem dX3_has_2 : decode cX3_has 2 = .ok (.lload_n 1, 1) := by decide +kernel
theorem dX3_has_3 : decode cX3_has 3 = .ok (.lload_n 3, 1) := by decide +kernel
theorem dX3_has_4 : decode cX3_has 4 = .ok (.lload 5, 2) := by decide +kernel
theorem dX3_has_6 : decode cX3_has 6 = .ok (.lload 7, 2) := by decide +kernel
theorem dX3_has_8 : decode cX3_has 8 = .ok (.iload 9, 2) := by decide +kernel
theorem dX3_has_10 : decode cX3_has 10 = .ok (.invokevirtual 113, 3) := by decide +kernel
theorem dX3_has_13 : decode cX3_has 13 = .ok (.invokevirtual 117, 3) := by decide +kernel
theorem dX3_has_16 : decode cX3_has 16 = .ok (.ifCond .lt 7, 3) := by decide +kernel
theorem dX3_has_19 : decode cX3_has 19 = .ok (.iconst 1, 1) := by decide +kernel
theorem dX3_has_20 : decode cX3_has 20 = .ok (.goto 4, 3) := by decide +kernel
theorem dX3_has_23 : decode cX3_has 23 = .ok (.iconst 0, 1) := by decide +kernel
theorem dX3_has_24 : decode cX3_has 24 = .ok (.ireturn, 1) := by decide +kernel
theorem dX3_clear_0 : decode cX3_clear 0 = .ok (.aload_n 0, 1) := by decide +kernel
theorem dX3_clear_1 : decode cX3_clear 1 = .ok (.iconst 0, 1) := by decide +kernel
theorem dX3_clear_2 : decode cX3_clear 2 = .ok (.putfield 72, 3) := by decide +kernel
theorem dX3_clear_5 : decode cX3_clear 5 = .ok (.aload_n 0, 1) := by decide +kernel
theorem dX3_clear_6 : decode cX3_clear 6 = .ok (.iconst 0, 1) := by decide +kernel
theorem dX3_clear_7 : decode cX3_clear 7 = .ok (.putfield 65, 3) := by decide +kernel
theorem dX3_clear_10 : decode cX3_clear 10 = .ok (.aload_n 0, 1) := by decide +kernel
theorem dX3_clear_11 : decode cX3_clear 11 = .ok (.iconst 0, 1) := by decide +kernel
theorem dX3_clear_12 : decode cX3_clear 12 = .ok (.iconst 0, 1) := by decide +kernel
theorem dX3_clear_13 : decode cX3_clear 13 = .ok (.invokevirtual 98, 3) := by decide +kernel
theorem dX3_clear_16 : decode cX3_clear 16 = .ok (.aload_n 0, 1) := by decide +kernel
theorem dX3_clear_17 : decode cX3_clear 17 = .ok (.iconst 1, 1) := by decide +kernel
theorem dX3_clear_18 : decode cX3_clear 18 = .ok (.putfield 88, 3) := by decide +kernel
theorem dX3_clear_21 : decode cX3_clear 21 = .ok (.aload_n 0, 1) := by decide +kernel
theorem dX3_clear_22 : decode cX3_clear 22 = .ok (.iconst 1, 1) := by decide +kernel
theorem dX3_clear_23 : decode cX3_clear 23 = .ok (.putfield 123, 3) := by decide +kernel
theorem dX3_clear_26 : decode cX3_clear 26 = .ok (.aload_n 0, 1) := by decide +kernel
theorem dX3_clear_27 : decode cX3_clear 27 = .ok (.dup, 1) := by decide +kernel
theorem dX3_clear_28 : decode cX3_clear 28 = .ok (.getfield 78, 3) := by decide +kernel
theorem dX3_clear_31 : decode cX3_clear 31 = .ok (.iconst 3, 1) := by decide +kernel
theorem dX3_clear_32 : decode cX3_clear 32 = .ok (.iadd, 1) := by decide +kernel
theorem dX3_clear_33 : decode cX3_clear 33 = .ok (.putfield 78, 3) := by decide +kernel
theorem dX3_clear_36 : decode cX3_clear 36 = .ok (.aload_n 0, 1) := by decide +kernel
theorem dX3_clear_37 : decode cX3_clear 37 = .ok (.invokevirtual 130, 3) := by decide +kernel
theorem dX3_clear_40 : decode cX3_clear 40 = .ok (.return_, 1) := by decide +kernel
theorem dX3_seek_0 : decode cX3_seek 0 = .ok (.aload_n 0, 1) := by decide +kernel
theorem dX3_seek_1 : decode cX3_seek 1 = .ok (.aload_n 0, 1) := by decide +kernel
theorem dX3_seek_2 : decode cX3_seek 2 = .ok (.lload_n 1, 1) := by decide +kernel
theorem dX3_seek_3 : decode cX3_seek 3 = .ok (.lload_n 3, 1) := by decide +kernel
theorem dX3_seek_4 : decode cX3_seek 4 = .ok (.lload 5, 2) := by decide +kernel
theorem dX3_seek_6 : decode cX3_seek 6 = .ok (.lload 7, 2) := by decide +kernel
theorem dX3_seek_8 : decode cX3_seek 8 = .ok (.iconst 0, 1) := by decide +kernel
theorem dX3_seek_9 : decode cX3_seek 9 = .ok (.invokevirtual 113, 3) := by decide +kernel
theorem dX3_seek_12 : decode cX3_seek 12 = .ok (.iconst 0, 1) := by decide +kernel
theorem dX3_seek_13 : decode cX3_seek 13 = .ok (.invokevirtual 133, 3) := by decide +kernel
theorem dX3_seek_16 : decode cX3_seek 16 = .ok (.aload_n 0, 1) := by decide +kernel
theorem dX3_seek_17 : decode cX3_seek 17 = .ok (.dup, 1) := by decide +kernel
theorem dX3_seek_18 : decode cX3_seek 18 = .ok (.getfield 26, 3) := by decide +kernel
theorem dX3_seek_21 : decode cX3_seek 21 = .ok (.iconst 1, 1) := by decide +kernel
theorem dX3_seek_22 : decode cX3_seek 22 = .ok (.iadd, 1) := by decide +kernel
theorem dX3_seek_23 : decode cX3_seek 23 = .ok (.putfield 26, 3) := by decide +kernel
theorem dX3_seek_26 : decode cX3_seek 26 = .ok (.return_, 1) := by decide +kernel
theorem dX3_stand_0 : decode cX3_stand 0 = .ok (.aload_n 0, 1) := by decide +kernel
theorem dX3_stand_1 : decode cX3_stand 1 = .ok (.iconst 0, 1) := by decide +kernel
theorem dX3_stand_2 : decode cX3_stand 2 = .ok (.putfield 137, 3) := by decide +kernel
theorem dX3_stand_5 : decode cX3_stand 5 = .ok (.aload_n 0, 1) := by decide +kernel
theorem dX3_stand_6 : decode cX3_stand 6 = .ok (.iload_n 1, 1) := by decide +kernel
theorem dX3_stand_7 : decode cX3_stand 7 = .ok (.putfield 140, 3) := by decide +kernel
theorem dX3_stand_10 : decode cX3_stand 10 = .ok (.aload_n 0, 1) := by decide +kernel
theorem dX3_stand_11 : decode cX3_stand 11 = .ok (.iload_n 2, 1) := by decide +kernel
theorem dX3_stand_12 : decode cX3_stand 12 = .ok (.putfield 143, 3) := by decide +kernel
theorem dX3_stand_15 : decode cX3_stand 15 = .ok (.return_, 1) := by decide +kernel
theorem dX3_first_0 : decode cX3_first 0 = .ok (.aload_n 0, 1) := by decide +kernel
theorem dX3_first_1 : decode cX3_first 1 = .ok (.iconst (-1), 1) := by decide +kernel
theorem dX3_first_2 : decode cX3_first 2 = .ok (.putfield 137, 3) := by decide +kernel
theorem dX3_first_5 : decode cX3_first 5 = .ok (.return_, 1) := by decide +kernel
theorem dX3_last_0 : decode cX3_last 0 = .ok (.aload_n 0, 1) := by decide +kernel
theorem dX3_last_1 : decode cX3_last 1 = .ok (.iconst 1, 1) := by decide +kernel
theorem dX3_last_2 : decode cX3_last 2 = .ok (.putfield 137, 3) := by decide +kernel
theorem dX3_last_5 : decode cX3_last 5 = .ok (.return_, 1) := by decide +kernel
theorem dX3_behind_0 : decode cX3_behind 0 = .ok (.aload_n 0, 1) := by decide +kernel
theorem dX3_behind_1 : decode cX3_behind 1 = .ok (.getfield 137, 3) := by decide +kernel
theorem dX3_behind_4 : decode cX3_behind 4 = .ok (.ifCond .eq 16, 3) := by decide +kernel
theorem dX3_behind_7 : decode cX3_behind 7 = .ok (.aload_n 0, 1) := by decide +kernel
theorem dX3_behind_8 : decode cX3_behind 8 = .ok (.getfield 137, 3) := by decide +kernel
theorem dX3_behind_11 : decode cX3_behind 11 = .ok (.ifCond .ge 7, 3) := by decide +kernel
theorem dX3_behind_14 : decode cX3_behind 14 = .ok (.iconst 1, 1) := by decide +kernel
theorem dX3_behind_15 : decode cX3_behind 15 = .ok (.goto 4, 3) := by decide +kernel
theorem dX3_behind_18 : decode cX3_behind 18 = .ok (.iconst 0, 1) := by decide +kernel
theorem dX3_behind_19 : decode cX3_behind 19 = .ok (.ireturn, 1) := by decide +kernel
theorem dX3_behind_20 : decode cX3_behind 20 = .ok (.aload_n 0, 1) := by decide +kernel
theorem dX3_behind_21 : decode cX3_behind 21 = .ok (.iload_n 1, 1) := by decide +kernel
theorem dX3_behind_22 : decode cX3_behind 22 = .ok (.aload_n 0, 1) := by decide +kernel
theorem dX3_behind_23 : decode cX3_behind 23 = .ok (.getfield 140, 3) := by decide +kernel
theorem dX3_behind_26 : decode cX3_behind 26 = .ok (.invokevirtual 68, 3) := by decide +kernel
theorem dX3_behind_29 : decode cX3_behind 29 = .ok (.istore_n 2, 1) := by decide +kernel
theorem dX3_behind_30 : decode cX3_behind 30 = .ok (.iload_n 2, 1) := by decide +kernel
theorem dX3_behind_31 : decode cX3_behind 31 = .ok (.ifCond .gt 14, 3) := by decide +kernel
theorem dX3_behind_34 : decode cX3_behind 34 = .ok (.iload_n 2, 1) := by decide +kernel
theorem dX3_behind_35 : decode cX3_behind 35 = .ok (.ifCond .ne 14, 3) := by decide +kernel
theorem dX3_behind_38 : decode cX3_behind 38 = .ok (.aload_n 0, 1) := by decide +kernel
theorem dX3_behind_39 : decode cX3_behind 39 = .ok (.getfield 143, 3) := by decide +kernel
theorem dX3_behind_42 : decode cX3_behind 42 = .ok (.ifCond .ne 7, 3) := by decide +kernel
theorem dX3_behind_45 : decode cX3_behind 45 = .ok (.iconst 1, 1) := by decide +kernel
theorem dX3_behind_46 : decode cX3_behind 46 = .ok (.goto 4, 3) := by decide +kernel
theorem dX3_behind_49 : decode cX3_behind 49 = .ok (.iconst 0, 1) := by decide +kernel
theorem dX3_behind_50 : decode cX3_behind 50 = .ok (.ireturn, 1) := by decide +kernel
theorem dX3_next_0 : decode cX3_next 0 = .ok (.iconst (-1), 1) := by decide +kernel
theorem dX3_next_1 : decode cX3_next 1 = .ok (.istore_n 1, 1) := by decide +kernel
theorem dX3_next_2 : decode cX3_next 2 = .ok (.iconst 0, 1) := by decide +kernel
theorem dX3_next_3 : decode cX3_next 3 = .ok (.istore_n 2, 1) := by decide +kernel
theorem dX3_next_4 : decode cX3_next 4 = .ok (.iload_n 2, 1) := by decide +kernel
theorem dX3_next_5 : decode cX3_next 5 = .ok (.aload_n 0, 1) := by decide +kernel
theorem dX3_next_6 : decode cX3_next 6 = .ok (.getfield 72, 3) := by decide +kernel
theorem dX3_next_9 : decode cX3_next 9 = .ok (.if_icmp .ge 56, 3) := by decide +kernel
theorem dX3_next_12 : decode cX3_next 12 = .ok (.aload_n 0, 1) := by decide +kernel
theorem dX3_next_13 : decode cX3_next 13 = .ok (.getfield 33, 3) := by decide +kernel
theorem dX3_next_16 : decode cX3_next 16 = .ok (.iload_n 2, 1) := by decide +kernel
theorem dX3_next_17 : decode cX3_next 17 = .ok (.iaload, 1) := by decide +kernel
theorem dX3_next_18 : decode cX3_next 18 = .ok (.ifCond .ne 41, 3) := by decide +kernel
theorem dX3_next_21 : decode cX3_next 21 = .ok (.aload_n 0, 1) := by decide +kernel
theorem dX3_next_22 : decode cX3_next 22 = .ok (.aload_n 0, 1) := by decide +kernel
theorem dX3_next_23 : decode cX3_next 23 = .ok (.getfield 30, 3) := by decide +kernel
theorem dX3_next_26 : decode cX3_next 26 = .ok (.iload_n 2, 1) := by decide +kernel
theorem dX3_next_27 : decode cX3_next 27 = .ok (.iaload, 1) := by decide +kernel
theorem dX3_next_28 : decode cX3_next 28 = .ok (.invokevirtual 146, 3) := by decide +kernel
theorem dX3_next_31 : decode cX3_next 31 = .ok (.ifCond .eq 28, 3) := by decide +kernel
theorem dX3_next_34 : decode cX3_next 34 = .ok (.iload_n 1, 1) := by decide +kernel
theorem dX3_next_35 : decode cX3_next 35 = .ok (.ifCond .lt 17, 3) := by decide +kernel
theorem dX3_next_38 : decode cX3_next 38 = .ok (.aload_n 0, 1) := by decide +kernel
theorem dX3_next_39 : decode cX3_next 39 = .ok (.aload_n 0, 1) := by decide +kernel
theorem dX3_next_40 : decode cX3_next 40 = .ok (.getfield 30, 3) := by decide +kernel
theorem dX3_next_43 : decode cX3_next 43 = .ok (.iload_n 2, 1) := by decide +kernel
theorem dX3_next_44 : decode cX3_next 44 = .ok (.iaload, 1) := by decide +kernel
theorem dX3_next_45 : decode cX3_next 45 = .ok (.iload_n 1, 1) := by decide +kernel
theorem dX3_next_46 : decode cX3_next 46 = .ok (.invokevirtual 68, 3) := by decide +kernel
theorem dX3_next_49 : decode cX3_next 49 = .ok (.ifCond .ge 10, 3) := by decide +kernel
theorem dX3_next_52 : decode cX3_next 52 = .ok (.aload_n 0, 1) := by decide +kernel
theorem dX3_next_53 : decode cX3_next 53 = .ok (.getfield 30, 3) := by decide +kernel
theorem dX3_next_56 : decode cX3_next 56 = .ok (.iload_n 2, 1) := by decide +kernel
theorem dX3_next_57 : decode cX3_next 57 = .ok (.iaload, 1) := by decide +kernel
theorem dX3_next_58 : decode cX3_next 58 = .ok (.istore_n 1, 1) := by decide +kernel
theorem dX3_next_59 : decode cX3_next 59 = .ok (.iinc 2 1, 3) := by decide +kernel
theorem dX3_next_62 : decode cX3_next 62 = .ok (.goto (-58), 3) := by decide +kernel
theorem dX3_next_65 : decode cX3_next 65 = .ok (.iload_n 1, 1) := by decide +kernel
theorem dX3_next_66 : decode cX3_next 66 = .ok (.ifCond .ge 5, 3) := by decide +kernel
theorem dX3_next_69 : decode cX3_next 69 = .ok (.iconst 0, 1) := by decide +kernel
theorem dX3_next_70 : decode cX3_next 70 = .ok (.ireturn, 1) := by decide +kernel
theorem dX3_next_71 : decode cX3_next 71 = .ok (.aload_n 0, 1) := by decide +kernel
theorem dX3_next_72 : decode cX3_next 72 = .ok (.iload_n 1, 1) := by decide +kernel
theorem dX3_next_73 : decode cX3_next 73 = .ok (.putfield 53, 3) := by decide +kernel
theorem dX3_next_76 : decode cX3_next 76 = .ok (.aload_n 0, 1) := by decide +kernel
theorem dX3_next_77 : decode cX3_next 77 = .ok (.iload_n 1, 1) := by decide +kernel
theorem dX3_next_78 : decode cX3_next 78 = .ok (.iconst 1, 1) := by decide +kernel
theorem dX3_next_79 : decode cX3_next 79 = .ok (.invokevirtual 133, 3) := by decide +kernel
theorem dX3_next_82 : decode cX3_next 82 = .ok (.iconst 1, 1) := by decide +kernel
theorem dX3_next_83 : decode cX3_next 83 = .ok (.ireturn, 1) := by decide +kernel
theorem dX3_back_0 : decode cX3_back 0 = .ok (.iconst (-1), 1) := by decide +kernel
theorem dX3_back_1 : decode cX3_back 1 = .ok (.istore_n 1, 1) := by decide +kernel
theorem dX3_back_2 : decode cX3_back 2 = .ok (.iconst 0, 1) := by decide +kernel
theorem dX3_back_3 : decode cX3_back 3 = .ok (.istore_n 2, 1) := by decide +kernel
theorem dX3_back_4 : decode cX3_back 4 = .ok (.iload_n 2, 1) := by decide +kernel
theorem dX3_back_5 : decode cX3_back 5 = .ok (.aload_n 0, 1) := by decide +kernel
theorem dX3_back_6 : decode cX3_back 6 = .ok (.getfield 72, 3) := by decide +kernel
theorem dX3_back_9 : decode cX3_back 9 = .ok (.if_icmp .ge 56, 3) := by decide +kernel
theorem dX3_back_12 : decode cX3_back 12 = .ok (.aload_n 0, 1) := by decide +kernel
theorem dX3_back_13 : decode cX3_back 13 = .ok (.getfield 33, 3) := by decide +kernel
theorem dX3_back_16 : decode cX3_back 16 = .ok (.iload_n 2, 1) := by decide +kernel
theorem dX3_back_17 : decode cX3_back 17 = .ok (.iaload, 1) := by decide +kernel
theorem dX3_back_18 : decode cX3_back 18 = .ok (.ifCond .ne 41, 3) := by decide +kernel
theorem dX3_back_21 : decode cX3_back 21 = .ok (.aload_n 0, 1) := by decide +kernel
theorem dX3_back_22 : decode cX3_back 22 = .ok (.aload_n 0, 1) := by decide +kernel
theorem dX3_back_23 : decode cX3_back 23 = .ok (.getfield 30, 3) := by decide +kernel
theorem dX3_back_26 : decode cX3_back 26 = .ok (.iload_n 2, 1) := by decide +kernel
theorem dX3_back_27 : decode cX3_back 27 = .ok (.iaload, 1) := by decide +kernel
theorem dX3_back_28 : decode cX3_back 28 = .ok (.invokevirtual 146, 3) := by decide +kernel
theorem dX3_back_31 : decode cX3_back 31 = .ok (.ifCond .ne 28, 3) := by decide +kernel
theorem dX3_back_34 : decode cX3_back 34 = .ok (.iload_n 1, 1) := by decide +kernel
theorem dX3_back_35 : decode cX3_back 35 = .ok (.ifCond .lt 17, 3) := by decide +kernel
theorem dX3_back_38 : decode cX3_back 38 = .ok (.aload_n 0, 1) := by decide +kernel
theorem dX3_back_39 : decode cX3_back 39 = .ok (.aload_n 0, 1) := by decide +kernel
theorem dX3_back_40 : decode cX3_back 40 = .ok (.getfield 30, 3) := by decide +kernel
theorem dX3_back_43 : decode cX3_back 43 = .ok (.iload_n 2, 1) := by decide +kernel
theorem dX3_back_44 : decode cX3_back 44 = .ok (.iaload, 1) := by decide +kernel
theorem dX3_back_45 : decode cX3_back 45 = .ok (.iload_n 1, 1) := by decide +kernel
theorem dX3_back_46 : decode cX3_back 46 = .ok (.invokevirtual 68, 3) := by decide +kernel
theorem dX3_back_49 : decode cX3_back 49 = .ok (.ifCond .le 10, 3) := by decide +kernel
theorem dX3_back_52 : decode cX3_back 52 = .ok (.aload_n 0, 1) := by decide +kernel
theorem dX3_back_53 : decode cX3_back 53 = .ok (.getfield 30, 3) := by decide +kernel
theorem dX3_back_56 : decode cX3_back 56 = .ok (.iload_n 2, 1) := by decide +kernel
theorem dX3_back_57 : decode cX3_back 57 = .ok (.iaload, 1) := by decide +kernel
theorem dX3_back_58 : decode cX3_back 58 = .ok (.istore_n 1, 1) := by decide +kernel
theorem dX3_back_59 : decode cX3_back 59 = .ok (.iinc 2 1, 3) := by decide +kernel
theorem dX3_back_62 : decode cX3_back 62 = .ok (.goto (-58), 3) := by decide +kernel
theorem dX3_back_65 : decode cX3_back 65 = .ok (.iload_n 1, 1) := by decide +kernel
theorem dX3_back_66 : decode cX3_back 66 = .ok (.ifCond .ge 5, 3) := by decide +kernel
theorem dX3_back_69 : decode cX3_back 69 = .ok (.iconst 0, 1) := by decide +kernel
theorem dX3_back_70 : decode cX3_back 70 = .ok (.ireturn, 1) := by decide +kernel
theorem dX3_back_71 : decode cX3_back 71 = .ok (.aload_n 0, 1) := by decide +kernel
theorem dX3_back_72 : decode cX3_back 72 = .ok (.iload_n 1, 1) := by decide +kernel
theorem dX3_back_73 : decode cX3_back 73 = .ok (.putfield 53, 3) := by decide +kernel
theorem dX3_back_76 : decode cX3_back 76 = .ok (.aload_n 0, 1) := by decide +kernel
theorem dX3_back_77 : decode cX3_back 77 = .ok (.iload_n 1, 1) := by decide +kernel
theorem dX3_back_78 : decode cX3_back 78 = .ok (.iconst 0, 1) := by decide +kernel
theorem dX3_back_79 : decode cX3_back 79 = .ok (.invokevirtual 133, 3) := by decide +kernel
theorem dX3_back_82 : decode cX3_back 82 = .ok (.iconst 1, 1) := by decide +kernel
theorem dX3_back_83 : decode cX3_back 83 = .ok (.ireturn, 1) := by decide +kernel
theorem dX3_word_0 : decode cX3_word 0 = .ok (.iload_n 1, 1) := by decide +kernel
theorem dX3_word_1 : decode cX3_word 1 = .ok (.tableswitch 71 0 3 #[31, 41, 51, 61], 31) := by decide +kernel
theorem dX3_word_32 : decode cX3_word 32 = .ok (.aload_n 0, 1) := by decide +kernel
theorem dX3_word_33 : decode cX3_word 33 = .ok (.getfield 7, 3) := by decide +kernel
theorem dX3_word_36 : decode cX3_word 36 = .ok (.aload_n 0, 1) := by decide +kernel
theorem dX3_word_37 : decode cX3_word 37 = .ok (.getfield 53, 3) := by decide +kernel
theorem dX3_word_40 : decode cX3_word 40 = .ok (.laload, 1) := by decide +kernel
theorem dX3_word_41 : decode cX3_word 41 = .ok (.lreturn, 1) := by decide +kernel
theorem dX3_word_42 : decode cX3_word 42 = .ok (.aload_n 0, 1) := by decide +kernel
theorem dX3_word_43 : decode cX3_word 43 = .ok (.getfield 13, 3) := by decide +kernel
theorem dX3_word_46 : decode cX3_word 46 = .ok (.aload_n 0, 1) := by decide +kernel
theorem dX3_word_47 : decode cX3_word 47 = .ok (.getfield 53, 3) := by decide +kernel
theorem dX3_word_50 : decode cX3_word 50 = .ok (.laload, 1) := by decide +kernel
theorem dX3_word_51 : decode cX3_word 51 = .ok (.lreturn, 1) := by decide +kernel
theorem dX3_word_52 : decode cX3_word 52 = .ok (.aload_n 0, 1) := by decide +kernel
theorem dX3_word_53 : decode cX3_word 53 = .ok (.getfield 16, 3) := by decide +kernel
theorem dX3_word_56 : decode cX3_word 56 = .ok (.aload_n 0, 1) := by decide +kernel
theorem dX3_word_57 : decode cX3_word 57 = .ok (.getfield 53, 3) := by decide +kernel
theorem dX3_word_60 : decode cX3_word 60 = .ok (.laload, 1) := by decide +kernel
theorem dX3_word_61 : decode cX3_word 61 = .ok (.lreturn, 1) := by decide +kernel
theorem dX3_word_62 : decode cX3_word 62 = .ok (.aload_n 0, 1) := by decide +kernel
theorem dX3_word_63 : decode cX3_word 63 = .ok (.getfield 19, 3) := by decide +kernel
theorem dX3_word_66 : decode cX3_word 66 = .ok (.aload_n 0, 1) := by decide +kernel
theorem dX3_word_67 : decode cX3_word 67 = .ok (.getfield 53, 3) := by decide +kernel
theorem dX3_word_70 : decode cX3_word 70 = .ok (.laload, 1) := by decide +kernel
theorem dX3_word_71 : decode cX3_word 71 = .ok (.lreturn, 1) := by decide +kernel
theorem dX3_word_72 : decode cX3_word 72 = .ok (.lconst 0, 1) := by decide +kernel
theorem dX3_word_73 : decode cX3_word 73 = .ok (.lreturn, 1) := by decide +kernel
theorem dX3_place_0 : decode cX3_place 0 = .ok (.aload_n 0, 1) := by decide +kernel
theorem dX3_place_1 : decode cX3_place 1 = .ok (.getfield 22, 3) := by decide +kernel
theorem dX3_place_4 : decode cX3_place 4 = .ok (.aload_n 0, 1) := by decide +kernel
theorem dX3_place_5 : decode cX3_place 5 = .ok (.getfield 53, 3) := by decide +kernel
theorem dX3_place_8 : decode cX3_place 8 = .ok (.iaload, 1) := by decide +kernel
theorem dX3_place_9 : decode cX3_place 9 = .ok (.ireturn, 1) := by decide +kernel
theorem dX3_entriesOf_0 : decode cX3_entriesOf 0 = .ok (.iconst 0, 1) := by decide +kernel
theorem dX3_entriesOf_1 : decode cX3_entriesOf 1 = .ok (.istore_n 2, 1) := by decide +kernel
theorem dX3_entriesOf_2 : decode cX3_entriesOf 2 = .ok (.iconst 0, 1) := by decide +kernel
theorem dX3_entriesOf_3 : decode cX3_entriesOf 3 = .ok (.istore_n 3, 1) := by decide +kernel
theorem dX3_entriesOf_4 : decode cX3_entriesOf 4 = .ok (.iload_n 3, 1) := by decide +kernel
theorem dX3_entriesOf_5 : decode cX3_entriesOf 5 = .ok (.aload_n 0, 1) := by decide +kernel
theorem dX3_entriesOf_6 : decode cX3_entriesOf 6 = .ok (.getfield 72, 3) := by decide +kernel
theorem dX3_entriesOf_9 : decode cX3_entriesOf 9 = .ok (.if_icmp .ge 22, 3) := by decide +kernel
theorem dX3_entriesOf_12 : decode cX3_entriesOf 12 = .ok (.aload_n 0, 1) := by decide +kernel
theorem dX3_entriesOf_13 : decode cX3_entriesOf 13 = .ok (.getfield 33, 3) := by decide +kernel
theorem dX3_entriesOf_16 : decode cX3_entriesOf 16 = .ok (.iload_n 3, 1) := by decide +kernel
theorem dX3_entriesOf_17 : decode cX3_entriesOf 17 = .ok (.iaload, 1) := by decide +kernel
theorem dX3_entriesOf_18 : decode cX3_entriesOf 18 = .ok (.iload_n 1, 1) := by decide +kernel
theorem dX3_entriesOf_19 : decode cX3_entriesOf 19 = .ok (.if_icmp .ne 6, 3) := by decide +kernel
theorem dX3_entriesOf_22 : decode cX3_entriesOf 22 = .ok (.iinc 2 1, 3) := by decide +kernel
theorem dX3_entriesOf_25 : decode cX3_entriesOf 25 = .ok (.iinc 3 1, 3) := by decide +kernel
theorem dX3_entriesOf_28 : decode cX3_entriesOf 28 = .ok (.goto (-24), 3) := by decide +kernel
theorem dX3_entriesOf_31 : decode cX3_entriesOf 31 = .ok (.iload_n 2, 1) := by decide +kernel
theorem dX3_entriesOf_32 : decode cX3_entriesOf 32 = .ok (.ireturn, 1) := by decide +kernel
theorem dX3_count_0 : decode cX3_count 0 = .ok (.iload_n 1, 1) := by decide +kernel
theorem dX3_count_1 : decode cX3_count 1 = .ok (.tableswitch 52 0 3 #[31, 36, 41, 46], 31) := by decide +kernel
theorem dX3_count_32 : decode cX3_count 32 = .ok (.aload_n 0, 1) := by decide +kernel
theorem dX3_count_33 : decode cX3_count 33 = .ok (.getfield 88, 3) := by decide +kernel
theorem dX3_count_36 : decode cX3_count 36 = .ok (.ireturn, 1) := by decide +kernel
theorem dX3_count_37 : decode cX3_count 37 = .ok (.aload_n 0, 1) := by decide +kernel
theorem dX3_count_38 : decode cX3_count 38 = .ok (.getfield 123, 3) := by decide +kernel
theorem dX3_count_41 : decode cX3_count 41 = .ok (.ireturn, 1) := by decide +kernel
theorem dX3_count_42 : decode cX3_count 42 = .ok (.aload_n 0, 1) := by decide +kernel
theorem dX3_count_43 : decode cX3_count 43 = .ok (.getfield 78, 3) := by decide +kernel
theorem dX3_count_46 : decode cX3_count 46 = .ok (.ireturn, 1) := by decide +kernel
theorem dX3_count_47 : decode cX3_count 47 = .ok (.aload_n 0, 1) := by decide +kernel
theorem dX3_count_48 : decode cX3_count 48 = .ok (.iconst 0, 1) := by decide +kernel
theorem dX3_count_49 : decode cX3_count 49 = .ok (.invokevirtual 149, 3) := by decide +kernel
theorem dX3_count_52 : decode cX3_count 52 = .ok (.ireturn, 1) := by decide +kernel
theorem dX3_count_53 : decode cX3_count 53 = .ok (.iconst (-1), 1) := by decide +kernel
theorem dX3_count_54 : decode cX3_count 54 = .ok (.ireturn, 1) := by decide +kernel
theorem dX3_leftOf_0 : decode cX3_leftOf 0 = .ok (.iconst 0, 1) := by decide +kernel
theorem dX3_leftOf_1 : decode cX3_leftOf 1 = .ok (.istore_n 2, 1) := by decide +kernel
theorem dX3_leftOf_2 : decode cX3_leftOf 2 = .ok (.iconst 0, 1) := by decide +kernel
theorem dX3_leftOf_3 : decode cX3_leftOf 3 = .ok (.istore_n 3, 1) := by decide +kernel
theorem dX3_leftOf_4 : decode cX3_leftOf 4 = .ok (.iload_n 3, 1) := by decide +kernel
theorem dX3_leftOf_5 : decode cX3_leftOf 5 = .ok (.aload_n 0, 1) := by decide +kernel
theorem dX3_leftOf_6 : decode cX3_leftOf 6 = .ok (.getfield 65, 3) := by decide +kernel
theorem dX3_leftOf_9 : decode cX3_leftOf 9 = .ok (.if_icmp .ge 46, 3) := by decide +kernel
theorem dX3_leftOf_12 : decode cX3_leftOf 12 = .ok (.aload_n 0, 1) := by decide +kernel
theorem dX3_leftOf_13 : decode cX3_leftOf 13 = .ok (.getfield 39, 3) := by decide +kernel
theorem dX3_leftOf_16 : decode cX3_leftOf 16 = .ok (.iload_n 3, 1) := by decide +kernel
theorem dX3_leftOf_17 : decode cX3_leftOf 17 = .ok (.iaload, 1) := by decide +kernel
theorem dX3_leftOf_18 : decode cX3_leftOf 18 = .ok (.aload_n 0, 1) := by decide +kernel
theorem dX3_leftOf_19 : decode cX3_leftOf 19 = .ok (.getfield 39, 3) := by decide +kernel
theorem dX3_leftOf_22 : decode cX3_leftOf 22 = .ok (.iload_n 1, 1) := by decide +kernel
theorem dX3_leftOf_23 : decode cX3_leftOf 23 = .ok (.iaload, 1) := by decide +kernel
theorem dX3_leftOf_24 : decode cX3_leftOf 24 = .ok (.if_icmp .ne 25, 3) := by decide +kernel
theorem dX3_leftOf_27 : decode cX3_leftOf 27 = .ok (.aload_n 0, 1) := by decide +kernel
theorem dX3_leftOf_28 : decode cX3_leftOf 28 = .ok (.aload_n 0, 1) := by decide +kernel
theorem dX3_leftOf_29 : decode cX3_leftOf 29 = .ok (.getfield 36, 3) := by decide +kernel
theorem dX3_leftOf_32 : decode cX3_leftOf 32 = .ok (.iload_n 3, 1) := by decide +kernel
theorem dX3_leftOf_33 : decode cX3_leftOf 33 = .ok (.iaload, 1) := by decide +kernel
theorem dX3_leftOf_34 : decode cX3_leftOf 34 = .ok (.aload_n 0, 1) := by decide +kernel
theorem dX3_leftOf_35 : decode cX3_leftOf 35 = .ok (.getfield 36, 3) := by decide +kernel
theorem dX3_leftOf_38 : decode cX3_leftOf 38 = .ok (.iload_n 1, 1) := by decide +kernel
theorem dX3_leftOf_39 : decode cX3_leftOf 39 = .ok (.iaload, 1) := by decide +kernel
theorem dX3_leftOf_40 : decode cX3_leftOf 40 = .ok (.invokevirtual 68, 3) := by decide +kernel
theorem dX3_leftOf_43 : decode cX3_leftOf 43 = .ok (.ifCond .ge 6, 3) := by decide +kernel
theorem dX3_leftOf_46 : decode cX3_leftOf 46 = .ok (.iinc 2 1, 3) := by decide +kernel
theorem dX3_leftOf_49 : decode cX3_leftOf 49 = .ok (.iinc 3 1, 3) := by decide +kernel
theorem dX3_leftOf_52 : decode cX3_leftOf 52 = .ok (.goto (-48), 3) := by decide +kernel
theorem dX3_leftOf_55 : decode cX3_leftOf 55 = .ok (.iload_n 2, 1) := by decide +kernel
theorem dX3_leftOf_56 : decode cX3_leftOf 56 = .ok (.ireturn, 1) := by decide +kernel
theorem dX3_level_0 : decode cX3_level 0 = .ok (.iload_n 1, 1) := by decide +kernel
theorem dX3_level_1 : decode cX3_level 1 = .ok (.ifCond .lt 15, 3) := by decide +kernel
theorem dX3_level_4 : decode cX3_level 4 = .ok (.iload_n 1, 1) := by decide +kernel
theorem dX3_level_5 : decode cX3_level 5 = .ok (.aload_n 0, 1) := by decide +kernel
theorem dX3_level_6 : decode cX3_level 6 = .ok (.getfield 88, 3) := by decide +kernel
theorem dX3_level_9 : decode cX3_level 9 = .ok (.if_icmp .ge 7, 3) := by decide +kernel
theorem dX3_level_12 : decode cX3_level 12 = .ok (.iload_n 2, 1) := by decide +kernel
theorem dX3_level_13 : decode cX3_level 13 = .ok (.ifCond .ge 5, 3) := by decide +kernel
theorem dX3_level_16 : decode cX3_level 16 = .ok (.iconst (-1), 1) := by decide +kernel
theorem dX3_level_17 : decode cX3_level 17 = .ok (.ireturn, 1) := by decide +kernel
theorem dX3_level_18 : decode cX3_level 18 = .ok (.iload_n 2, 1) := by decide +kernel
theorem dX3_level_19 : decode cX3_level 19 = .ok (.iconst 1, 1) := by decide +kernel
theorem dX3_level_20 : decode cX3_level 20 = .ok (.if_icmp .ne 9, 3) := by decide +kernel
theorem dX3_level_23 : decode cX3_level 23 = .ok (.aload_n 0, 1) := by decide +kernel
theorem dX3_level_24 : decode cX3_level 24 = .ok (.iload_n 1, 1) := by decide +kernel
theorem dX3_level_25 : decode cX3_level 25 = .ok (.invokevirtual 149, 3) := by decide +kernel
theorem dX3_level_28 : decode cX3_level 28 = .ok (.ireturn, 1) := by decide +kernel
theorem dX3_level_29 : decode cX3_level 29 = .ok (.iconst 0, 1) := by decide +kernel
theorem dX3_level_30 : decode cX3_level 30 = .ok (.istore_n 3, 1) := by decide +kernel
theorem dX3_level_31 : decode cX3_level 31 = .ok (.iconst (-1), 1) := by decide +kernel
theorem dX3_level_32 : decode cX3_level 32 = .ok (.istore 4, 2) := by decide +kernel
theorem dX3_level_34 : decode cX3_level 34 = .ok (.iconst 0, 1) := by decide +kernel
theorem dX3_level_35 : decode cX3_level 35 = .ok (.istore 5, 2) := by decide +kernel
theorem dX3_level_37 : decode cX3_level 37 = .ok (.iload 5, 2) := by decide +kernel
theorem dX3_level_39 : decode cX3_level 39 = .ok (.aload_n 0, 1) := by decide +kernel
theorem dX3_level_40 : decode cX3_level 40 = .ok (.getfield 65, 3) := by decide +kernel
theorem dX3_level_43 : decode cX3_level 43 = .ok (.if_icmp .ge 39, 3) := by decide +kernel
theorem dX3_level_46 : decode cX3_level 46 = .ok (.aload_n 0, 1) := by decide +kernel
theorem dX3_level_47 : decode cX3_level 47 = .ok (.getfield 39, 3) := by decide +kernel
theorem dX3_level_50 : decode cX3_level 50 = .ok (.iload 5, 2) := by decide +kernel
theorem dX3_level_52 : decode cX3_level 52 = .ok (.iaload, 1) := by decide +kernel
theorem dX3_level_53 : decode cX3_level 53 = .ok (.iload_n 1, 1) := by decide +kernel
theorem dX3_level_54 : decode cX3_level 54 = .ok (.if_icmp .ne 22, 3) := by decide +kernel
theorem dX3_level_57 : decode cX3_level 57 = .ok (.iinc 3 1, 3) := by decide +kernel
theorem dX3_level_60 : decode cX3_level 60 = .ok (.aload_n 0, 1) := by decide +kernel
theorem dX3_level_61 : decode cX3_level 61 = .ok (.iload 5, 2) := by decide +kernel
theorem dX3_level_63 : decode cX3_level 63 = .ok (.invokevirtual 152, 3) := by decide +kernel
theorem dX3_level_66 : decode cX3_level 66 = .ok (.iload_n 2, 1) := by decide +kernel
theorem dX3_level_67 : decode cX3_level 67 = .ok (.iconst 2, 1) := by decide +kernel
theorem dX3_level_68 : decode cX3_level 68 = .ok (.isub, 1) := by decide +kernel
theorem dX3_level_69 : decode cX3_level 69 = .ok (.if_icmp .ne 7, 3) := by decide +kernel
theorem dX3_level_72 : decode cX3_level 72 = .ok (.iload 5, 2) := by decide +kernel
theorem dX3_level_74 : decode cX3_level 74 = .ok (.istore 4, 2) := by decide +kernel
theorem dX3_level_76 : decode cX3_level 76 = .ok (.iinc 5 1, 3) := by decide +kernel
theorem dX3_level_79 : decode cX3_level 79 = .ok (.goto (-42), 3) := by decide +kernel
theorem dX3_level_82 : decode cX3_level 82 = .ok (.iload_n 2, 1) := by decide +kernel
theorem dX3_level_83 : decode cX3_level 83 = .ok (.ifCond .ne 5, 3) := by decide +kernel
theorem dX3_level_86 : decode cX3_level 86 = .ok (.iload_n 3, 1) := by decide +kernel
theorem dX3_level_87 : decode cX3_level 87 = .ok (.ireturn, 1) := by decide +kernel
theorem dX3_level_88 : decode cX3_level 88 = .ok (.iload 4, 2) := by decide +kernel
theorem dX3_level_90 : decode cX3_level 90 = .ok (.ifCond .ge 7, 3) := by decide +kernel
theorem dX3_level_93 : decode cX3_level 93 = .ok (.iconst (-1), 1) := by decide +kernel
theorem dX3_level_94 : decode cX3_level 94 = .ok (.goto 9, 3) := by decide +kernel
theorem dX3_level_97 : decode cX3_level 97 = .ok (.aload_n 0, 1) := by decide +kernel
theorem dX3_level_98 : decode cX3_level 98 = .ok (.iload 4, 2) := by decide +kernel
theorem dX3_level_100 : decode cX3_level 100 = .ok (.invokevirtual 84, 3) := by decide +kernel
theorem dX3_level_103 : decode cX3_level 103 = .ok (.ireturn, 1) := by decide +kernel
end
section
theorem dL_law_0 : decode cL_law 0 = .ok (.new 7, 3) := by decide +kernel
theorem dL_law_3 : decode cL_law 3 = .ok (.dup, 1) := by decide +kernel
theorem dL_law_4 : decode cL_law 4 = .ok (.invokespecial 9, 3) := by decide +kernel
theorem dL_law_7 : decode cL_law 7 = .ok (.astore_n 1, 1) := by decide +kernel
theorem dL_law_8 : decode cL_law 8 = .ok (.new 10, 3) := by decide +kernel
theorem dL_law_11 : decode cL_law 11 = .ok (.dup, 1) := by decide +kernel
theorem dL_law_12 : decode cL_law 12 = .ok (.invokespecial 12, 3) := by decide +kernel
theorem dL_law_15 : decode cL_law 15 = .ok (.astore_n 2, 1) := by decide +kernel
theorem dL_law_16 : decode cL_law 16 = .ok (.iconst 0, 1) := by decide +kernel
theorem dL_law_17 : decode cL_law 17 = .ok (.istore_n 3, 1) := by decide +kernel
theorem dL_law_18 : decode cL_law 18 = .ok (.iload_n 3, 1) := by decide +kernel
theorem dL_law_19 : decode cL_law 19 = .ok (.aload_n 0, 1) := by decide +kernel
theorem dL_law_20 : decode cL_law 20 = .ok (.arraylength, 1) := by decide +kernel
theorem dL_law_21 : decode cL_law 21 = .ok (.bipush 10, 2) := by decide +kernel
theorem dL_law_23 : decode cL_law 23 = .ok (.isub, 1) := by decide +kernel
theorem dL_law_24 : decode cL_law 24 = .ok (.if_icmp .gt 1011, 3) := by decide +kernel
theorem dL_law_27 : decode cL_law 27 = .ok (.aload_n 0, 1) := by decide +kernel
theorem dL_law_28 : decode cL_law 28 = .ok (.iload_n 3, 1) := by decide +kernel
theorem dL_law_29 : decode cL_law 29 = .ok (.iaload, 1) := by decide +kernel
theorem dL_law_30 : decode cL_law 30 = .ok (.bipush 15, 2) := by decide +kernel
theorem dL_law_32 : decode cL_law 32 = .ok (.iand, 1) := by decide +kernel
theorem dL_law_33 : decode cL_law 33 = .ok (.tableswitch 996 0 13 #[71, 262, 453, 644, 821, 832, 843, 856, 869, 893, 906, 917, 940, 963], 71) := by decide +kernel
theorem dL_law_104 : decode cL_law 104 = .ok (.aload_n 1, 1) := by decide +kernel
theorem dL_law_105 : decode cL_law 105 = .ok (.aload_n 0, 1) := by decide +kernel
theorem dL_law_106 : decode cL_law 106 = .ok (.iload_n 3, 1) := by decide +kernel
theorem dL_law_107 : decode cL_law 107 = .ok (.iconst 1, 1) := by decide +kernel
theorem dL_law_108 : decode cL_law 108 = .ok (.iadd, 1) := by decide +kernel
theorem dL_law_109 : decode cL_law 109 = .ok (.iaload, 1) := by decide +kernel
theorem dL_law_110 : decode cL_law 110 = .ok (.i2l, 1) := by decide +kernel
theorem dL_law_111 : decode cL_law 111 = .ok (.bipush 32, 2) := by decide +kernel
theorem dL_law_113 : decode cL_law 113 = .ok (.lshl, 1) := by decide +kernel
theorem dL_law_114 : decode cL_law 114 = .ok (.aload_n 0, 1) := by decide +kernel
theorem dL_law_115 : decode cL_law 115 = .ok (.iload_n 3, 1) := by decide +kernel
theorem dL_law_116 : decode cL_law 116 = .ok (.iconst 2, 1) := by decide +kernel
theorem dL_law_117 : decode cL_law 117 = .ok (.iadd, 1) := by decide +kernel
theorem dL_law_118 : decode cL_law 118 = .ok (.iaload, 1) := by decide +kernel
theorem dL_law_119 : decode cL_law 119 = .ok (.i2l, 1) := by decide +kernel
theorem dL_law_120 : decode cL_law 120 = .ok (.ldc2_w 13, 3) := by decide +kernel
theorem dL_law_123 : decode cL_law 123 = .ok (.land, 1) := by decide +kernel
theorem dL_law_124 : decode cL_law 124 = .ok (.lor, 1) := by decide +kernel
theorem dL_law_125 : decode cL_law 125 = .ok (.aload_n 0, 1) := by decide +kernel
theorem dL_law_126 : decode cL_law 126 = .ok (.iload_n 3, 1) := by decide +kernel
theorem dL_law_127 : decode cL_law 127 = .ok (.iconst 3, 1) := by decide +kernel
theorem dL_law_128 : decode cL_law 128 = .ok (.iadd, 1) := by decide +kernel
theorem dL_law_129 : decode cL_law 129 = .ok (.iaload, 1) := by decide +kernel
theorem dL_law_130 : decode cL_law 130 = .ok (.i2l, 1) := by decide +kernel
theorem dL_law_131 : decode cL_law 131 = .ok (.bipush 32, 2) := by decide +kernel
theorem dL_law_133 : decode cL_law 133 = .ok (.lshl, 1) := by decide +kernel
theorem dL_law_134 : decode cL_law 134 = .ok (.aload_n 0, 1) := by decide +kernel
theorem dL_law_135 : decode cL_law 135 = .ok (.iload_n 3, 1) := by decide +kernel
theorem dL_law_136 : decode cL_law 136 = .ok (.iconst 4, 1) := by decide +kernel
theorem dL_law_137 : decode cL_law 137 = .ok (.iadd, 1) := by decide +kernel
theorem dL_law_138 : decode cL_law 138 = .ok (.iaload, 1) := by decide +kernel
theorem dL_law_139 : decode cL_law 139 = .ok (.i2l, 1) := by decide +kernel
theorem dL_law_140 : decode cL_law 140 = .ok (.ldc2_w 13, 3) := by decide +kernel
theorem dL_law_143 : decode cL_law 143 = .ok (.land, 1) := by decide +kernel
theorem dL_law_144 : decode cL_law 144 = .ok (.lor, 1) := by decide +kernel
theorem dL_law_145 : decode cL_law 145 = .ok (.aload_n 0, 1) := by decide +kernel
theorem dL_law_146 : decode cL_law 146 = .ok (.iload_n 3, 1) := by decide +kernel
theorem dL_law_147 : decode cL_law 147 = .ok (.iconst 5, 1) := by decide +kernel
theorem dL_law_148 : decode cL_law 148 = .ok (.iadd, 1) := by decide +kernel
theorem dL_law_149 : decode cL_law 149 = .ok (.iaload, 1) := by decide +kernel
theorem dL_law_150 : decode cL_law 150 = .ok (.i2l, 1) := by decide +kernel
theorem dL_law_151 : decode cL_law 151 = .ok (.bipush 32, 2) := by decide +kernel
theorem dL_law_153 : decode cL_law 153 = .ok (.lshl, 1) := by decide +kernel
theorem dL_law_154 : decode cL_law 154 = .ok (.aload_n 0, 1) := by decide +kernel
theorem dL_law_155 : decode cL_law 155 = .ok (.iload_n 3, 1) := by decide +kernel
theorem dL_law_156 : decode cL_law 156 = .ok (.bipush 6, 2) := by decide +kernel
theorem dL_law_158 : decode cL_law 158 = .ok (.iadd, 1) := by decide +kernel
theorem dL_law_159 : decode cL_law 159 = .ok (.iaload, 1) := by decide +kernel
theorem dL_law_160 : decode cL_law 160 = .ok (.i2l, 1) := by decide +kernel
theorem dL_law_161 : decode cL_law 161 = .ok (.ldc2_w 13, 3) := by decide +kernel
theorem dL_law_164 : decode cL_law 164 = .ok (.land, 1) := by decide +kernel
theorem dL_law_165 : decode cL_law 165 = .ok (.lor, 1) := by decide +kernel
theorem dL_law_166 : decode cL_law 166 = .ok (.aload_n 0, 1) := by decide +kernel
theorem dL_law_167 : decode cL_law 167 = .ok (.iload_n 3, 1) := by decide +kernel
theorem dL_law_168 : decode cL_law 168 = .ok (.bipush 7, 2) := by decide +kernel
theorem dL_law_170 : decode cL_law 170 = .ok (.iadd, 1) := by decide +kernel
theorem dL_law_171 : decode cL_law 171 = .ok (.iaload, 1) := by decide +kernel
theorem dL_law_172 : decode cL_law 172 = .ok (.i2l, 1) := by decide +kernel
theorem dL_law_173 : decode cL_law 173 = .ok (.bipush 32, 2) := by decide +kernel
theorem dL_law_175 : decode cL_law 175 = .ok (.lshl, 1) := by decide +kernel
theorem dL_law_176 : decode cL_law 176 = .ok (.aload_n 0, 1) := by decide +kernel
theorem dL_law_177 : decode cL_law 177 = .ok (.iload_n 3, 1) := by decide +kernel
theorem dL_law_178 : decode cL_law 178 = .ok (.bipush 8, 2) := by decide +kernel
theorem dL_law_180 : decode cL_law 180 = .ok (.iadd, 1) := by decide +kernel
theorem dL_law_181 : decode cL_law 181 = .ok (.iaload, 1) := by decide +kernel
theorem dL_law_182 : decode cL_law 182 = .ok (.i2l, 1) := by decide +kernel
theorem dL_law_183 : decode cL_law 183 = .ok (.ldc2_w 13, 3) := by decide +kernel
theorem dL_law_186 : decode cL_law 186 = .ok (.land, 1) := by decide +kernel
theorem dL_law_187 : decode cL_law 187 = .ok (.lor, 1) := by decide +kernel
theorem dL_law_188 : decode cL_law 188 = .ok (.aload_n 0, 1) := by decide +kernel
theorem dL_law_189 : decode cL_law 189 = .ok (.iload_n 3, 1) := by decide +kernel
theorem dL_law_190 : decode cL_law 190 = .ok (.bipush 9, 2) := by decide +kernel
theorem dL_law_192 : decode cL_law 192 = .ok (.iadd, 1) := by decide +kernel
theorem dL_law_193 : decode cL_law 193 = .ok (.iaload, 1) := by decide +kernel
theorem dL_law_194 : decode cL_law 194 = .ok (.invokevirtual 15, 3) := by decide +kernel
theorem dL_law_197 : decode cL_law 197 = .ok (.aload_n 2, 1) := by decide +kernel
theorem dL_law_198 : decode cL_law 198 = .ok (.aload_n 0, 1) := by decide +kernel
theorem dL_law_199 : decode cL_law 199 = .ok (.iload_n 3, 1) := by decide +kernel
theorem dL_law_200 : decode cL_law 200 = .ok (.iconst 1, 1) := by decide +kernel
theorem dL_law_201 : decode cL_law 201 = .ok (.iadd, 1) := by decide +kernel
theorem dL_law_202 : decode cL_law 202 = .ok (.iaload, 1) := by decide +kernel
theorem dL_law_203 : decode cL_law 203 = .ok (.i2l, 1) := by decide +kernel
theorem dL_law_204 : decode cL_law 204 = .ok (.bipush 32, 2) := by decide +kernel
theorem dL_law_206 : decode cL_law 206 = .ok (.lshl, 1) := by decide +kernel
theorem dL_law_207 : decode cL_law 207 = .ok (.aload_n 0, 1) := by decide +kernel
theorem dL_law_208 : decode cL_law 208 = .ok (.iload_n 3, 1) := by decide +kernel
theorem dL_law_209 : decode cL_law 209 = .ok (.iconst 2, 1) := by decide +kernel
theorem dL_law_210 : decode cL_law 210 = .ok (.iadd, 1) := by decide +kernel
theorem dL_law_211 : decode cL_law 211 = .ok (.iaload, 1) := by decide +kernel
theorem dL_law_212 : decode cL_law 212 = .ok (.i2l, 1) := by decide +kernel
theorem dL_law_213 : decode cL_law 213 = .ok (.ldc2_w 13, 3) := by decide +kernel
theorem dL_law_216 : decode cL_law 216 = .ok (.land, 1) := by decide +kernel
theorem dL_law_217 : decode cL_law 217 = .ok (.lor, 1) := by decide +kernel
theorem dL_law_218 : decode cL_law 218 = .ok (.aload_n 0, 1) := by decide +kernel
theorem dL_law_219 : decode cL_law 219 = .ok (.iload_n 3, 1) := by decide +kernel
theorem dL_law_220 : decode cL_law 220 = .ok (.iconst 3, 1) := by decide +kernel
theorem dL_law_221 : decode cL_law 221 = .ok (.iadd, 1) := by decide +kernel
theorem dL_law_222 : decode cL_law 222 = .ok (.iaload, 1) := by decide +kernel
theorem dL_law_223 : decode cL_law 223 = .ok (.i2l, 1) := by decide +kernel
theorem dL_law_224 : decode cL_law 224 = .ok (.bipush 32, 2) := by decide +kernel
theorem dL_law_226 : decode cL_law 226 = .ok (.lshl, 1) := by decide +kernel
theorem dL_law_227 : decode cL_law 227 = .ok (.aload_n 0, 1) := by decide +kernel
theorem dL_law_228 : decode cL_law 228 = .ok (.iload_n 3, 1) := by decide +kernel
theorem dL_law_229 : decode cL_law 229 = .ok (.iconst 4, 1) := by decide +kernel
theorem dL_law_230 : decode cL_law 230 = .ok (.iadd, 1) := by decide +kernel
theorem dL_law_231 : decode cL_law 231 = .ok (.iaload, 1) := by decide +kernel
theorem dL_law_232 : decode cL_law 232 = .ok (.i2l, 1) := by decide +kernel
theorem dL_law_233 : decode cL_law 233 = .ok (.ldc2_w 13, 3) := by decide +kernel
theorem dL_law_236 : decode cL_law 236 = .ok (.land, 1) := by decide +kernel
theorem dL_law_237 : decode cL_law 237 = .ok (.lor, 1) := by decide +kernel
theorem dL_law_238 : decode cL_law 238 = .ok (.aload_n 0, 1) := by decide +kernel
theorem dL_law_239 : decode cL_law 239 = .ok (.iload_n 3, 1) := by decide +kernel
theorem dL_law_240 : decode cL_law 240 = .ok (.iconst 5, 1) := by decide +kernel
theorem dL_law_241 : decode cL_law 241 = .ok (.iadd, 1) := by decide +kernel
theorem dL_law_242 : decode cL_law 242 = .ok (.iaload, 1) := by decide +kernel
theorem dL_law_243 : decode cL_law 243 = .ok (.i2l, 1) := by decide +kernel
theorem dL_law_244 : decode cL_law 244 = .ok (.bipush 32, 2) := by decide +kernel
theorem dL_law_246 : decode cL_law 246 = .ok (.lshl, 1) := by decide +kernel
theorem dL_law_247 : decode cL_law 247 = .ok (.aload_n 0, 1) := by decide +kernel
theorem dL_law_248 : decode cL_law 248 = .ok (.iload_n 3, 1) := by decide +kernel
theorem dL_law_249 : decode cL_law 249 = .ok (.bipush 6, 2) := by decide +kernel
theorem dL_law_251 : decode cL_law 251 = .ok (.iadd, 1) := by decide +kernel
theorem dL_law_252 : decode cL_law 252 = .ok (.iaload, 1) := by decide +kernel
theorem dL_law_253 : decode cL_law 253 = .ok (.i2l, 1) := by decide +kernel
theorem dL_law_254 : decode cL_law 254 = .ok (.ldc2_w 13, 3) := by decide +kernel
theorem dL_law_257 : decode cL_law 257 = .ok (.land, 1) := by decide +kernel
theorem dL_law_258 : decode cL_law 258 = .ok (.lor, 1) := by decide +kernel
theorem dL_law_259 : decode cL_law 259 = .ok (.aload_n 0, 1) := by decide +kernel
theorem dL_law_260 : decode cL_law 260 = .ok (.iload_n 3, 1) := by decide +kernel
theorem dL_law_261 : decode cL_law 261 = .ok (.bipush 7, 2) := by decide +kernel
theorem dL_law_263 : decode cL_law 263 = .ok (.iadd, 1) := by decide +kernel
theorem dL_law_264 : decode cL_law 264 = .ok (.iaload, 1) := by decide +kernel
theorem dL_law_265 : decode cL_law 265 = .ok (.i2l, 1) := by decide +kernel
theorem dL_law_266 : decode cL_law 266 = .ok (.bipush 32, 2) := by decide +kernel
theorem dL_law_268 : decode cL_law 268 = .ok (.lshl, 1) := by decide +kernel
theorem dL_law_269 : decode cL_law 269 = .ok (.aload_n 0, 1) := by decide +kernel
theorem dL_law_270 : decode cL_law 270 = .ok (.iload_n 3, 1) := by decide +kernel
theorem dL_law_271 : decode cL_law 271 = .ok (.bipush 8, 2) := by decide +kernel
theorem dL_law_273 : decode cL_law 273 = .ok (.iadd, 1) := by decide +kernel
theorem dL_law_274 : decode cL_law 274 = .ok (.iaload, 1) := by decide +kernel
theorem dL_law_275 : decode cL_law 275 = .ok (.i2l, 1) := by decide +kernel
theorem dL_law_276 : decode cL_law 276 = .ok (.ldc2_w 13, 3) := by decide +kernel
theorem dL_law_279 : decode cL_law 279 = .ok (.land, 1) := by decide +kernel
theorem dL_law_280 : decode cL_law 280 = .ok (.lor, 1) := by decide +kernel
theorem dL_law_281 : decode cL_law 281 = .ok (.aload_n 0, 1) := by decide +kernel
theorem dL_law_282 : decode cL_law 282 = .ok (.iload_n 3, 1) := by decide +kernel
theorem dL_law_283 : decode cL_law 283 = .ok (.bipush 9, 2) := by decide +kernel
theorem dL_law_285 : decode cL_law 285 = .ok (.iadd, 1) := by decide +kernel
theorem dL_law_286 : decode cL_law 286 = .ok (.iaload, 1) := by decide +kernel
theorem dL_law_287 : decode cL_law 287 = .ok (.invokevirtual 19, 3) := by decide +kernel
theorem dL_law_290 : decode cL_law 290 = .ok (.if_icmp .eq 739, 3) := by decide +kernel
theorem dL_law_293 : decode cL_law 293 = .ok (.iconst 0, 1) := by decide +kernel
theorem dL_law_294 : decode cL_law 294 = .ok (.ireturn, 1) := by decide +kernel
theorem dL_law_295 : decode cL_law 295 = .ok (.aload_n 1, 1) := by decide +kernel
theorem dL_law_296 : decode cL_law 296 = .ok (.aload_n 0, 1) := by decide +kernel
theorem dL_law_297 : decode cL_law 297 = .ok (.iload_n 3, 1) := by decide +kernel
theorem dL_law_298 : decode cL_law 298 = .ok (.iconst 1, 1) := by decide +kernel
theorem dL_law_299 : decode cL_law 299 = .ok (.iadd, 1) := by decide +kernel
theorem dL_law_300 : decode cL_law 300 = .ok (.iaload, 1) := by decide +kernel
theorem dL_law_301 : decode cL_law 301 = .ok (.i2l, 1) := by decide +kernel
theorem dL_law_302 : decode cL_law 302 = .ok (.bipush 32, 2) := by decide +kernel
theorem dL_law_304 : decode cL_law 304 = .ok (.lshl, 1) := by decide +kernel
theorem dL_law_305 : decode cL_law 305 = .ok (.aload_n 0, 1) := by decide +kernel
theorem dL_law_306 : decode cL_law 306 = .ok (.iload_n 3, 1) := by decide +kernel
theorem dL_law_307 : decode cL_law 307 = .ok (.iconst 2, 1) := by decide +kernel
theorem dL_law_308 : decode cL_law 308 = .ok (.iadd, 1) := by decide +kernel
theorem dL_law_309 : decode cL_law 309 = .ok (.iaload, 1) := by decide +kernel
theorem dL_law_310 : decode cL_law 310 = .ok (.i2l, 1) := by decide +kernel
theorem dL_law_311 : decode cL_law 311 = .ok (.ldc2_w 13, 3) := by decide +kernel
theorem dL_law_314 : decode cL_law 314 = .ok (.land, 1) := by decide +kernel
theorem dL_law_315 : decode cL_law 315 = .ok (.lor, 1) := by decide +kernel
theorem dL_law_316 : decode cL_law 316 = .ok (.aload_n 0, 1) := by decide +kernel
theorem dL_law_317 : decode cL_law 317 = .ok (.iload_n 3, 1) := by decide +kernel
theorem dL_law_318 : decode cL_law 318 = .ok (.iconst 3, 1) := by decide +kernel
theorem dL_law_319 : decode cL_law 319 = .ok (.iadd, 1) := by decide +kernel
theorem dL_law_320 : decode cL_law 320 = .ok (.iaload, 1) := by decide +kernel
theorem dL_law_321 : decode cL_law 321 = .ok (.i2l, 1) := by decide +kernel
theorem dL_law_322 : decode cL_law 322 = .ok (.bipush 32, 2) := by decide +kernel
theorem dL_law_324 : decode cL_law 324 = .ok (.lshl, 1) := by decide +kernel
theorem dL_law_325 : decode cL_law 325 = .ok (.aload_n 0, 1) := by decide +kernel
theorem dL_law_326 : decode cL_law 326 = .ok (.iload_n 3, 1) := by decide +kernel
theorem dL_law_327 : decode cL_law 327 = .ok (.iconst 4, 1) := by decide +kernel
theorem dL_law_328 : decode cL_law 328 = .ok (.iadd, 1) := by decide +kernel
theorem dL_law_329 : decode cL_law 329 = .ok (.iaload, 1) := by decide +kernel
theorem dL_law_330 : decode cL_law 330 = .ok (.i2l, 1) := by decide +kernel
theorem dL_law_331 : decode cL_law 331 = .ok (.ldc2_w 13, 3) := by decide +kernel
theorem dL_law_334 : decode cL_law 334 = .ok (.land, 1) := by decide +kernel
theorem dL_law_335 : decode cL_law 335 = .ok (.lor, 1) := by decide +kernel
theorem dL_law_336 : decode cL_law 336 = .ok (.aload_n 0, 1) := by decide +kernel
theorem dL_law_337 : decode cL_law 337 = .ok (.iload_n 3, 1) := by decide +kernel
theorem dL_law_338 : decode cL_law 338 = .ok (.iconst 5, 1) := by decide +kernel
theorem dL_law_339 : decode cL_law 339 = .ok (.iadd, 1) := by decide +kernel
theorem dL_law_340 : decode cL_law 340 = .ok (.iaload, 1) := by decide +kernel
theorem dL_law_341 : decode cL_law 341 = .ok (.i2l, 1) := by decide +kernel
theorem dL_law_342 : decode cL_law 342 = .ok (.bipush 32, 2) := by decide +kernel
theorem dL_law_344 : decode cL_law 344 = .ok (.lshl, 1) := by decide +kernel
theorem dL_law_345 : decode cL_law 345 = .ok (.aload_n 0, 1) := by decide +kernel
theorem dL_law_346 : decode cL_law 346 = .ok (.iload_n 3, 1) := by decide +kernel
theorem dL_law_347 : decode cL_law 347 = .ok (.bipush 6, 2) := by decide +kernel
theorem dL_law_349 : decode cL_law 349 = .ok (.iadd, 1) := by decide +kernel
theorem dL_law_350 : decode cL_law 350 = .ok (.iaload, 1) := by decide +kernel
theorem dL_law_351 : decode cL_law 351 = .ok (.i2l, 1) := by decide +kernel
theorem dL_law_352 : decode cL_law 352 = .ok (.ldc2_w 13, 3) := by decide +kernel
theorem dL_law_355 : decode cL_law 355 = .ok (.land, 1) := by decide +kernel
theorem dL_law_356 : decode cL_law 356 = .ok (.lor, 1) := by decide +kernel
theorem dL_law_357 : decode cL_law 357 = .ok (.aload_n 0, 1) := by decide +kernel
theorem dL_law_358 : decode cL_law 358 = .ok (.iload_n 3, 1) := by decide +kernel
theorem dL_law_359 : decode cL_law 359 = .ok (.bipush 7, 2) := by decide +kernel
theorem dL_law_361 : decode cL_law 361 = .ok (.iadd, 1) := by decide +kernel
theorem dL_law_362 : decode cL_law 362 = .ok (.iaload, 1) := by decide +kernel
theorem dL_law_363 : decode cL_law 363 = .ok (.i2l, 1) := by decide +kernel
theorem dL_law_364 : decode cL_law 364 = .ok (.bipush 32, 2) := by decide +kernel
theorem dL_law_366 : decode cL_law 366 = .ok (.lshl, 1) := by decide +kernel
theorem dL_law_367 : decode cL_law 367 = .ok (.aload_n 0, 1) := by decide +kernel
theorem dL_law_368 : decode cL_law 368 = .ok (.iload_n 3, 1) := by decide +kernel
theorem dL_law_369 : decode cL_law 369 = .ok (.bipush 8, 2) := by decide +kernel
theorem dL_law_371 : decode cL_law 371 = .ok (.iadd, 1) := by decide +kernel
theorem dL_law_372 : decode cL_law 372 = .ok (.iaload, 1) := by decide +kernel
theorem dL_law_373 : decode cL_law 373 = .ok (.i2l, 1) := by decide +kernel
theorem dL_law_374 : decode cL_law 374 = .ok (.ldc2_w 13, 3) := by decide +kernel
theorem dL_law_377 : decode cL_law 377 = .ok (.land, 1) := by decide +kernel
theorem dL_law_378 : decode cL_law 378 = .ok (.lor, 1) := by decide +kernel
theorem dL_law_379 : decode cL_law 379 = .ok (.aload_n 0, 1) := by decide +kernel
theorem dL_law_380 : decode cL_law 380 = .ok (.iload_n 3, 1) := by decide +kernel
theorem dL_law_381 : decode cL_law 381 = .ok (.bipush 9, 2) := by decide +kernel
theorem dL_law_383 : decode cL_law 383 = .ok (.iadd, 1) := by decide +kernel
theorem dL_law_384 : decode cL_law 384 = .ok (.iaload, 1) := by decide +kernel
theorem dL_law_385 : decode cL_law 385 = .ok (.invokevirtual 20, 3) := by decide +kernel
theorem dL_law_388 : decode cL_law 388 = .ok (.aload_n 2, 1) := by decide +kernel
theorem dL_law_389 : decode cL_law 389 = .ok (.aload_n 0, 1) := by decide +kernel
theorem dL_law_390 : decode cL_law 390 = .ok (.iload_n 3, 1) := by decide +kernel
theorem dL_law_391 : decode cL_law 391 = .ok (.iconst 1, 1) := by decide +kernel
theorem dL_law_392 : decode cL_law 392 = .ok (.iadd, 1) := by decide +kernel
theorem dL_law_393 : decode cL_law 393 = .ok (.iaload, 1) := by decide +kernel
theorem dL_law_394 : decode cL_law 394 = .ok (.i2l, 1) := by decide +kernel
theorem dL_law_395 : decode cL_law 395 = .ok (.bipush 32, 2) := by decide +kernel
theorem dL_law_397 : decode cL_law 397 = .ok (.lshl, 1) := by decide +kernel
theorem dL_law_398 : decode cL_law 398 = .ok (.aload_n 0, 1) := by decide +kernel
theorem dL_law_399 : decode cL_law 399 = .ok (.iload_n 3, 1) := by decide +kernel
theorem dL_law_400 : decode cL_law 400 = .ok (.iconst 2, 1) := by decide +kernel
theorem dL_law_401 : decode cL_law 401 = .ok (.iadd, 1) := by decide +kernel
theorem dL_law_402 : decode cL_law 402 = .ok (.iaload, 1) := by decide +kernel
theorem dL_law_403 : decode cL_law 403 = .ok (.i2l, 1) := by decide +kernel
theorem dL_law_404 : decode cL_law 404 = .ok (.ldc2_w 13, 3) := by decide +kernel
theorem dL_law_407 : decode cL_law 407 = .ok (.land, 1) := by decide +kernel
theorem dL_law_408 : decode cL_law 408 = .ok (.lor, 1) := by decide +kernel
theorem dL_law_409 : decode cL_law 409 = .ok (.aload_n 0, 1) := by decide +kernel
theorem dL_law_410 : decode cL_law 410 = .ok (.iload_n 3, 1) := by decide +kernel
theorem dL_law_411 : decode cL_law 411 = .ok (.iconst 3, 1) := by decide +kernel
theorem dL_law_412 : decode cL_law 412 = .ok (.iadd, 1) := by decide +kernel
theorem dL_law_413 : decode cL_law 413 = .ok (.iaload, 1) := by decide +kernel
theorem dL_law_414 : decode cL_law 414 = .ok (.i2l, 1) := by decide +kernel
theorem dL_law_415 : decode cL_law 415 = .ok (.bipush 32, 2) := by decide +kernel
theorem dL_law_417 : decode cL_law 417 = .ok (.lshl, 1) := by decide +kernel
theorem dL_law_418 : decode cL_law 418 = .ok (.aload_n 0, 1) := by decide +kernel
theorem dL_law_419 : decode cL_law 419 = .ok (.iload_n 3, 1) := by decide +kernel
theorem dL_law_420 : decode cL_law 420 = .ok (.iconst 4, 1) := by decide +kernel
theorem dL_law_421 : decode cL_law 421 = .ok (.iadd, 1) := by decide +kernel
theorem dL_law_422 : decode cL_law 422 = .ok (.iaload, 1) := by decide +kernel
theorem dL_law_423 : decode cL_law 423 = .ok (.i2l, 1) := by decide +kernel
theorem dL_law_424 : decode cL_law 424 = .ok (.ldc2_w 13, 3) := by decide +kernel
theorem dL_law_427 : decode cL_law 427 = .ok (.land, 1) := by decide +kernel
theorem dL_law_428 : decode cL_law 428 = .ok (.lor, 1) := by decide +kernel
theorem dL_law_429 : decode cL_law 429 = .ok (.aload_n 0, 1) := by decide +kernel
theorem dL_law_430 : decode cL_law 430 = .ok (.iload_n 3, 1) := by decide +kernel
theorem dL_law_431 : decode cL_law 431 = .ok (.iconst 5, 1) := by decide +kernel
theorem dL_law_432 : decode cL_law 432 = .ok (.iadd, 1) := by decide +kernel
theorem dL_law_433 : decode cL_law 433 = .ok (.iaload, 1) := by decide +kernel
theorem dL_law_434 : decode cL_law 434 = .ok (.i2l, 1) := by decide +kernel
theorem dL_law_435 : decode cL_law 435 = .ok (.bipush 32, 2) := by decide +kernel
theorem dL_law_437 : decode cL_law 437 = .ok (.lshl, 1) := by decide +kernel
theorem dL_law_438 : decode cL_law 438 = .ok (.aload_n 0, 1) := by decide +kernel
theorem dL_law_439 : decode cL_law 439 = .ok (.iload_n 3, 1) := by decide +kernel
theorem dL_law_440 : decode cL_law 440 = .ok (.bipush 6, 2) := by decide +kernel
theorem dL_law_442 : decode cL_law 442 = .ok (.iadd, 1) := by decide +kernel
theorem dL_law_443 : decode cL_law 443 = .ok (.iaload, 1) := by decide +kernel
theorem dL_law_444 : decode cL_law 444 = .ok (.i2l, 1) := by decide +kernel
theorem dL_law_445 : decode cL_law 445 = .ok (.ldc2_w 13, 3) := by decide +kernel
theorem dL_law_448 : decode cL_law 448 = .ok (.land, 1) := by decide +kernel
theorem dL_law_449 : decode cL_law 449 = .ok (.lor, 1) := by decide +kernel
theorem dL_law_450 : decode cL_law 450 = .ok (.aload_n 0, 1) := by decide +kernel
theorem dL_law_451 : decode cL_law 451 = .ok (.iload_n 3, 1) := by decide +kernel
theorem dL_law_452 : decode cL_law 452 = .ok (.bipush 7, 2) := by decide +kernel
theorem dL_law_454 : decode cL_law 454 = .ok (.iadd, 1) := by decide +kernel
theorem dL_law_455 : decode cL_law 455 = .ok (.iaload, 1) := by decide +kernel
theorem dL_law_456 : decode cL_law 456 = .ok (.i2l, 1) := by decide +kernel
theorem dL_law_457 : decode cL_law 457 = .ok (.bipush 32, 2) := by decide +kernel
theorem dL_law_459 : decode cL_law 459 = .ok (.lshl, 1) := by decide +kernel
theorem dL_law_460 : decode cL_law 460 = .ok (.aload_n 0, 1) := by decide +kernel
theorem dL_law_461 : decode cL_law 461 = .ok (.iload_n 3, 1) := by decide +kernel
theorem dL_law_462 : decode cL_law 462 = .ok (.bipush 8, 2) := by decide +kernel
theorem dL_law_464 : decode cL_law 464 = .ok (.iadd, 1) := by decide +kernel
theorem dL_law_465 : decode cL_law 465 = .ok (.iaload, 1) := by decide +kernel
theorem dL_law_466 : decode cL_law 466 = .ok (.i2l, 1) := by decide +kernel
theorem dL_law_467 : decode cL_law 467 = .ok (.ldc2_w 13, 3) := by decide +kernel
theorem dL_law_470 : decode cL_law 470 = .ok (.land, 1) := by decide +kernel
theorem dL_law_471 : decode cL_law 471 = .ok (.lor, 1) := by decide +kernel
theorem dL_law_472 : decode cL_law 472 = .ok (.aload_n 0, 1) := by decide +kernel
theorem dL_law_473 : decode cL_law 473 = .ok (.iload_n 3, 1) := by decide +kernel
theorem dL_law_474 : decode cL_law 474 = .ok (.bipush 9, 2) := by decide +kernel
theorem dL_law_476 : decode cL_law 476 = .ok (.iadd, 1) := by decide +kernel
theorem dL_law_477 : decode cL_law 477 = .ok (.iaload, 1) := by decide +kernel
theorem dL_law_478 : decode cL_law 478 = .ok (.invokevirtual 23, 3) := by decide +kernel
theorem dL_law_481 : decode cL_law 481 = .ok (.if_icmp .eq 548, 3) := by decide +kernel
theorem dL_law_484 : decode cL_law 484 = .ok (.iconst 0, 1) := by decide +kernel
theorem dL_law_485 : decode cL_law 485 = .ok (.ireturn, 1) := by decide +kernel
theorem dL_law_486 : decode cL_law 486 = .ok (.aload_n 1, 1) := by decide +kernel
theorem dL_law_487 : decode cL_law 487 = .ok (.aload_n 0, 1) := by decide +kernel
theorem dL_law_488 : decode cL_law 488 = .ok (.iload_n 3, 1) := by decide +kernel
theorem dL_law_489 : decode cL_law 489 = .ok (.iconst 1, 1) := by decide +kernel
theorem dL_law_490 : decode cL_law 490 = .ok (.iadd, 1) := by decide +kernel
theorem dL_law_491 : decode cL_law 491 = .ok (.iaload, 1) := by decide +kernel
theorem dL_law_492 : decode cL_law 492 = .ok (.i2l, 1) := by decide +kernel
theorem dL_law_493 : decode cL_law 493 = .ok (.bipush 32, 2) := by decide +kernel
theorem dL_law_495 : decode cL_law 495 = .ok (.lshl, 1) := by decide +kernel
theorem dL_law_496 : decode cL_law 496 = .ok (.aload_n 0, 1) := by decide +kernel
theorem dL_law_497 : decode cL_law 497 = .ok (.iload_n 3, 1) := by decide +kernel
theorem dL_law_498 : decode cL_law 498 = .ok (.iconst 2, 1) := by decide +kernel
theorem dL_law_499 : decode cL_law 499 = .ok (.iadd, 1) := by decide +kernel
theorem dL_law_500 : decode cL_law 500 = .ok (.iaload, 1) := by decide +kernel
theorem dL_law_501 : decode cL_law 501 = .ok (.i2l, 1) := by decide +kernel
theorem dL_law_502 : decode cL_law 502 = .ok (.ldc2_w 13, 3) := by decide +kernel
theorem dL_law_505 : decode cL_law 505 = .ok (.land, 1) := by decide +kernel
theorem dL_law_506 : decode cL_law 506 = .ok (.lor, 1) := by decide +kernel
theorem dL_law_507 : decode cL_law 507 = .ok (.aload_n 0, 1) := by decide +kernel
theorem dL_law_508 : decode cL_law 508 = .ok (.iload_n 3, 1) := by decide +kernel
theorem dL_law_509 : decode cL_law 509 = .ok (.iconst 3, 1) := by decide +kernel
theorem dL_law_510 : decode cL_law 510 = .ok (.iadd, 1) := by decide +kernel
theorem dL_law_511 : decode cL_law 511 = .ok (.iaload, 1) := by decide +kernel
theorem dL_law_512 : decode cL_law 512 = .ok (.i2l, 1) := by decide +kernel
theorem dL_law_513 : decode cL_law 513 = .ok (.bipush 32, 2) := by decide +kernel
theorem dL_law_515 : decode cL_law 515 = .ok (.lshl, 1) := by decide +kernel
theorem dL_law_516 : decode cL_law 516 = .ok (.aload_n 0, 1) := by decide +kernel
theorem dL_law_517 : decode cL_law 517 = .ok (.iload_n 3, 1) := by decide +kernel
theorem dL_law_518 : decode cL_law 518 = .ok (.iconst 4, 1) := by decide +kernel
theorem dL_law_519 : decode cL_law 519 = .ok (.iadd, 1) := by decide +kernel
theorem dL_law_520 : decode cL_law 520 = .ok (.iaload, 1) := by decide +kernel
theorem dL_law_521 : decode cL_law 521 = .ok (.i2l, 1) := by decide +kernel
theorem dL_law_522 : decode cL_law 522 = .ok (.ldc2_w 13, 3) := by decide +kernel
theorem dL_law_525 : decode cL_law 525 = .ok (.land, 1) := by decide +kernel
theorem dL_law_526 : decode cL_law 526 = .ok (.lor, 1) := by decide +kernel
theorem dL_law_527 : decode cL_law 527 = .ok (.aload_n 0, 1) := by decide +kernel
theorem dL_law_528 : decode cL_law 528 = .ok (.iload_n 3, 1) := by decide +kernel
theorem dL_law_529 : decode cL_law 529 = .ok (.iconst 5, 1) := by decide +kernel
theorem dL_law_530 : decode cL_law 530 = .ok (.iadd, 1) := by decide +kernel
theorem dL_law_531 : decode cL_law 531 = .ok (.iaload, 1) := by decide +kernel
theorem dL_law_532 : decode cL_law 532 = .ok (.i2l, 1) := by decide +kernel
theorem dL_law_533 : decode cL_law 533 = .ok (.bipush 32, 2) := by decide +kernel
theorem dL_law_535 : decode cL_law 535 = .ok (.lshl, 1) := by decide +kernel
theorem dL_law_536 : decode cL_law 536 = .ok (.aload_n 0, 1) := by decide +kernel
theorem dL_law_537 : decode cL_law 537 = .ok (.iload_n 3, 1) := by decide +kernel
theorem dL_law_538 : decode cL_law 538 = .ok (.bipush 6, 2) := by decide +kernel
theorem dL_law_540 : decode cL_law 540 = .ok (.iadd, 1) := by decide +kernel
theorem dL_law_541 : decode cL_law 541 = .ok (.iaload, 1) := by decide +kernel
theorem dL_law_542 : decode cL_law 542 = .ok (.i2l, 1) := by decide +kernel
theorem dL_law_543 : decode cL_law 543 = .ok (.ldc2_w 13, 3) := by decide +kernel
theorem dL_law_546 : decode cL_law 546 = .ok (.land, 1) := by decide +kernel
theorem dL_law_547 : decode cL_law 547 = .ok (.lor, 1) := by decide +kernel
theorem dL_law_548 : decode cL_law 548 = .ok (.aload_n 0, 1) := by decide +kernel
theorem dL_law_549 : decode cL_law 549 = .ok (.iload_n 3, 1) := by decide +kernel
theorem dL_law_550 : decode cL_law 550 = .ok (.bipush 7, 2) := by decide +kernel
theorem dL_law_552 : decode cL_law 552 = .ok (.iadd, 1) := by decide +kernel
theorem dL_law_553 : decode cL_law 553 = .ok (.iaload, 1) := by decide +kernel
theorem dL_law_554 : decode cL_law 554 = .ok (.i2l, 1) := by decide +kernel
theorem dL_law_555 : decode cL_law 555 = .ok (.bipush 32, 2) := by decide +kernel
theorem dL_law_557 : decode cL_law 557 = .ok (.lshl, 1) := by decide +kernel
theorem dL_law_558 : decode cL_law 558 = .ok (.aload_n 0, 1) := by decide +kernel
theorem dL_law_559 : decode cL_law 559 = .ok (.iload_n 3, 1) := by decide +kernel
theorem dL_law_560 : decode cL_law 560 = .ok (.bipush 8, 2) := by decide +kernel
theorem dL_law_562 : decode cL_law 562 = .ok (.iadd, 1) := by decide +kernel
theorem dL_law_563 : decode cL_law 563 = .ok (.iaload, 1) := by decide +kernel
theorem dL_law_564 : decode cL_law 564 = .ok (.i2l, 1) := by decide +kernel
theorem dL_law_565 : decode cL_law 565 = .ok (.ldc2_w 13, 3) := by decide +kernel
theorem dL_law_568 : decode cL_law 568 = .ok (.land, 1) := by decide +kernel
theorem dL_law_569 : decode cL_law 569 = .ok (.lor, 1) := by decide +kernel
theorem dL_law_570 : decode cL_law 570 = .ok (.aload_n 0, 1) := by decide +kernel
theorem dL_law_571 : decode cL_law 571 = .ok (.iload_n 3, 1) := by decide +kernel
theorem dL_law_572 : decode cL_law 572 = .ok (.bipush 9, 2) := by decide +kernel
theorem dL_law_574 : decode cL_law 574 = .ok (.iadd, 1) := by decide +kernel
theorem dL_law_575 : decode cL_law 575 = .ok (.iaload, 1) := by decide +kernel
theorem dL_law_576 : decode cL_law 576 = .ok (.invokevirtual 24, 3) := by decide +kernel
theorem dL_law_579 : decode cL_law 579 = .ok (.aload_n 2, 1) := by decide +kernel
theorem dL_law_580 : decode cL_law 580 = .ok (.aload_n 0, 1) := by decide +kernel
theorem dL_law_581 : decode cL_law 581 = .ok (.iload_n 3, 1) := by decide +kernel
theorem dL_law_582 : decode cL_law 582 = .ok (.iconst 1, 1) := by decide +kernel
theorem dL_law_583 : decode cL_law 583 = .ok (.iadd, 1) := by decide +kernel
theorem dL_law_584 : decode cL_law 584 = .ok (.iaload, 1) := by decide +kernel
theorem dL_law_585 : decode cL_law 585 = .ok (.i2l, 1) := by decide +kernel
theorem dL_law_586 : decode cL_law 586 = .ok (.bipush 32, 2) := by decide +kernel
theorem dL_law_588 : decode cL_law 588 = .ok (.lshl, 1) := by decide +kernel
theorem dL_law_589 : decode cL_law 589 = .ok (.aload_n 0, 1) := by decide +kernel
theorem dL_law_590 : decode cL_law 590 = .ok (.iload_n 3, 1) := by decide +kernel
theorem dL_law_591 : decode cL_law 591 = .ok (.iconst 2, 1) := by decide +kernel
theorem dL_law_592 : decode cL_law 592 = .ok (.iadd, 1) := by decide +kernel
theorem dL_law_593 : decode cL_law 593 = .ok (.iaload, 1) := by decide +kernel
theorem dL_law_594 : decode cL_law 594 = .ok (.i2l, 1) := by decide +kernel
theorem dL_law_595 : decode cL_law 595 = .ok (.ldc2_w 13, 3) := by decide +kernel
theorem dL_law_598 : decode cL_law 598 = .ok (.land, 1) := by decide +kernel
theorem dL_law_599 : decode cL_law 599 = .ok (.lor, 1) := by decide +kernel
theorem dL_law_600 : decode cL_law 600 = .ok (.aload_n 0, 1) := by decide +kernel
theorem dL_law_601 : decode cL_law 601 = .ok (.iload_n 3, 1) := by decide +kernel
theorem dL_law_602 : decode cL_law 602 = .ok (.iconst 3, 1) := by decide +kernel
theorem dL_law_603 : decode cL_law 603 = .ok (.iadd, 1) := by decide +kernel
theorem dL_law_604 : decode cL_law 604 = .ok (.iaload, 1) := by decide +kernel
theorem dL_law_605 : decode cL_law 605 = .ok (.i2l, 1) := by decide +kernel
theorem dL_law_606 : decode cL_law 606 = .ok (.bipush 32, 2) := by decide +kernel
theorem dL_law_608 : decode cL_law 608 = .ok (.lshl, 1) := by decide +kernel
theorem dL_law_609 : decode cL_law 609 = .ok (.aload_n 0, 1) := by decide +kernel
theorem dL_law_610 : decode cL_law 610 = .ok (.iload_n 3, 1) := by decide +kernel
theorem dL_law_611 : decode cL_law 611 = .ok (.iconst 4, 1) := by decide +kernel
theorem dL_law_612 : decode cL_law 612 = .ok (.iadd, 1) := by decide +kernel
theorem dL_law_613 : decode cL_law 613 = .ok (.iaload, 1) := by decide +kernel
theorem dL_law_614 : decode cL_law 614 = .ok (.i2l, 1) := by decide +kernel
theorem dL_law_615 : decode cL_law 615 = .ok (.ldc2_w 13, 3) := by decide +kernel
theorem dL_law_618 : decode cL_law 618 = .ok (.land, 1) := by decide +kernel
theorem dL_law_619 : decode cL_law 619 = .ok (.lor, 1) := by decide +kernel
theorem dL_law_620 : decode cL_law 620 = .ok (.aload_n 0, 1) := by decide +kernel
theorem dL_law_621 : decode cL_law 621 = .ok (.iload_n 3, 1) := by decide +kernel
theorem dL_law_622 : decode cL_law 622 = .ok (.iconst 5, 1) := by decide +kernel
theorem dL_law_623 : decode cL_law 623 = .ok (.iadd, 1) := by decide +kernel
theorem dL_law_624 : decode cL_law 624 = .ok (.iaload, 1) := by decide +kernel
theorem dL_law_625 : decode cL_law 625 = .ok (.i2l, 1) := by decide +kernel
theorem dL_law_626 : decode cL_law 626 = .ok (.bipush 32, 2) := by decide +kernel
theorem dL_law_628 : decode cL_law 628 = .ok (.lshl, 1) := by decide +kernel
theorem dL_law_629 : decode cL_law 629 = .ok (.aload_n 0, 1) := by decide +kernel
theorem dL_law_630 : decode cL_law 630 = .ok (.iload_n 3, 1) := by decide +kernel
theorem dL_law_631 : decode cL_law 631 = .ok (.bipush 6, 2) := by decide +kernel
theorem dL_law_633 : decode cL_law 633 = .ok (.iadd, 1) := by decide +kernel
theorem dL_law_634 : decode cL_law 634 = .ok (.iaload, 1) := by decide +kernel
theorem dL_law_635 : decode cL_law 635 = .ok (.i2l, 1) := by decide +kernel
theorem dL_law_636 : decode cL_law 636 = .ok (.ldc2_w 13, 3) := by decide +kernel
theorem dL_law_639 : decode cL_law 639 = .ok (.land, 1) := by decide +kernel
theorem dL_law_640 : decode cL_law 640 = .ok (.lor, 1) := by decide +kernel
theorem dL_law_641 : decode cL_law 641 = .ok (.aload_n 0, 1) := by decide +kernel
theorem dL_law_642 : decode cL_law 642 = .ok (.iload_n 3, 1) := by decide +kernel
theorem dL_law_643 : decode cL_law 643 = .ok (.bipush 7, 2) := by decide +kernel
theorem dL_law_645 : decode cL_law 645 = .ok (.iadd, 1) := by decide +kernel
theorem dL_law_646 : decode cL_law 646 = .ok (.iaload, 1) := by decide +kernel
theorem dL_law_647 : decode cL_law 647 = .ok (.i2l, 1) := by decide +kernel
theorem dL_law_648 : decode cL_law 648 = .ok (.bipush 32, 2) := by decide +kernel
theorem dL_law_650 : decode cL_law 650 = .ok (.lshl, 1) := by decide +kernel
theorem dL_law_651 : decode cL_law 651 = .ok (.aload_n 0, 1) := by decide +kernel
theorem dL_law_652 : decode cL_law 652 = .ok (.iload_n 3, 1) := by decide +kernel
theorem dL_law_653 : decode cL_law 653 = .ok (.bipush 8, 2) := by decide +kernel
theorem dL_law_655 : decode cL_law 655 = .ok (.iadd, 1) := by decide +kernel
theorem dL_law_656 : decode cL_law 656 = .ok (.iaload, 1) := by decide +kernel
theorem dL_law_657 : decode cL_law 657 = .ok (.i2l, 1) := by decide +kernel
theorem dL_law_658 : decode cL_law 658 = .ok (.ldc2_w 13, 3) := by decide +kernel
theorem dL_law_661 : decode cL_law 661 = .ok (.land, 1) := by decide +kernel
theorem dL_law_662 : decode cL_law 662 = .ok (.lor, 1) := by decide +kernel
theorem dL_law_663 : decode cL_law 663 = .ok (.aload_n 0, 1) := by decide +kernel
theorem dL_law_664 : decode cL_law 664 = .ok (.iload_n 3, 1) := by decide +kernel
theorem dL_law_665 : decode cL_law 665 = .ok (.bipush 9, 2) := by decide +kernel
theorem dL_law_667 : decode cL_law 667 = .ok (.iadd, 1) := by decide +kernel
theorem dL_law_668 : decode cL_law 668 = .ok (.iaload, 1) := by decide +kernel
theorem dL_law_669 : decode cL_law 669 = .ok (.invokevirtual 28, 3) := by decide +kernel
theorem dL_law_672 : decode cL_law 672 = .ok (.if_icmp .eq 357, 3) := by decide +kernel
theorem dL_law_675 : decode cL_law 675 = .ok (.iconst 0, 1) := by decide +kernel
theorem dL_law_676 : decode cL_law 676 = .ok (.ireturn, 1) := by decide +kernel
theorem dL_law_677 : decode cL_law 677 = .ok (.aload_n 1, 1) := by decide +kernel
theorem dL_law_678 : decode cL_law 678 = .ok (.aload_n 0, 1) := by decide +kernel
theorem dL_law_679 : decode cL_law 679 = .ok (.iload_n 3, 1) := by decide +kernel
theorem dL_law_680 : decode cL_law 680 = .ok (.iconst 1, 1) := by decide +kernel
theorem dL_law_681 : decode cL_law 681 = .ok (.iadd, 1) := by decide +kernel
theorem dL_law_682 : decode cL_law 682 = .ok (.iaload, 1) := by decide +kernel
theorem dL_law_683 : decode cL_law 683 = .ok (.i2l, 1) := by decide +kernel
theorem dL_law_684 : decode cL_law 684 = .ok (.bipush 32, 2) := by decide +kernel
theorem dL_law_686 : decode cL_law 686 = .ok (.lshl, 1) := by decide +kernel
theorem dL_law_687 : decode cL_law 687 = .ok (.aload_n 0, 1) := by decide +kernel
theorem dL_law_688 : decode cL_law 688 = .ok (.iload_n 3, 1) := by decide +kernel
theorem dL_law_689 : decode cL_law 689 = .ok (.iconst 2, 1) := by decide +kernel
theorem dL_law_690 : decode cL_law 690 = .ok (.iadd, 1) := by decide +kernel
theorem dL_law_691 : decode cL_law 691 = .ok (.iaload, 1) := by decide +kernel
theorem dL_law_692 : decode cL_law 692 = .ok (.i2l, 1) := by decide +kernel
theorem dL_law_693 : decode cL_law 693 = .ok (.ldc2_w 13, 3) := by decide +kernel
theorem dL_law_696 : decode cL_law 696 = .ok (.land, 1) := by decide +kernel
theorem dL_law_697 : decode cL_law 697 = .ok (.lor, 1) := by decide +kernel
theorem dL_law_698 : decode cL_law 698 = .ok (.aload_n 0, 1) := by decide +kernel
theorem dL_law_699 : decode cL_law 699 = .ok (.iload_n 3, 1) := by decide +kernel
theorem dL_law_700 : decode cL_law 700 = .ok (.iconst 3, 1) := by decide +kernel
theorem dL_law_701 : decode cL_law 701 = .ok (.iadd, 1) := by decide +kernel
theorem dL_law_702 : decode cL_law 702 = .ok (.iaload, 1) := by decide +kernel
theorem dL_law_703 : decode cL_law 703 = .ok (.i2l, 1) := by decide +kernel
theorem dL_law_704 : decode cL_law 704 = .ok (.bipush 32, 2) := by decide +kernel
theorem dL_law_706 : decode cL_law 706 = .ok (.lshl, 1) := by decide +kernel
theorem dL_law_707 : decode cL_law 707 = .ok (.aload_n 0, 1) := by decide +kernel
theorem dL_law_708 : decode cL_law 708 = .ok (.iload_n 3, 1) := by decide +kernel
theorem dL_law_709 : decode cL_law 709 = .ok (.iconst 4, 1) := by decide +kernel
theorem dL_law_710 : decode cL_law 710 = .ok (.iadd, 1) := by decide +kernel
theorem dL_law_711 : decode cL_law 711 = .ok (.iaload, 1) := by decide +kernel
theorem dL_law_712 : decode cL_law 712 = .ok (.i2l, 1) := by decide +kernel
theorem dL_law_713 : decode cL_law 713 = .ok (.ldc2_w 13, 3) := by decide +kernel
theorem dL_law_716 : decode cL_law 716 = .ok (.land, 1) := by decide +kernel
theorem dL_law_717 : decode cL_law 717 = .ok (.lor, 1) := by decide +kernel
theorem dL_law_718 : decode cL_law 718 = .ok (.aload_n 0, 1) := by decide +kernel
theorem dL_law_719 : decode cL_law 719 = .ok (.iload_n 3, 1) := by decide +kernel
theorem dL_law_720 : decode cL_law 720 = .ok (.iconst 5, 1) := by decide +kernel
theorem dL_law_721 : decode cL_law 721 = .ok (.iadd, 1) := by decide +kernel
theorem dL_law_722 : decode cL_law 722 = .ok (.iaload, 1) := by decide +kernel
theorem dL_law_723 : decode cL_law 723 = .ok (.i2l, 1) := by decide +kernel
theorem dL_law_724 : decode cL_law 724 = .ok (.bipush 32, 2) := by decide +kernel
theorem dL_law_726 : decode cL_law 726 = .ok (.lshl, 1) := by decide +kernel
theorem dL_law_727 : decode cL_law 727 = .ok (.aload_n 0, 1) := by decide +kernel
theorem dL_law_728 : decode cL_law 728 = .ok (.iload_n 3, 1) := by decide +kernel
theorem dL_law_729 : decode cL_law 729 = .ok (.bipush 6, 2) := by decide +kernel
theorem dL_law_731 : decode cL_law 731 = .ok (.iadd, 1) := by decide +kernel
theorem dL_law_732 : decode cL_law 732 = .ok (.iaload, 1) := by decide +kernel
theorem dL_law_733 : decode cL_law 733 = .ok (.i2l, 1) := by decide +kernel
theorem dL_law_734 : decode cL_law 734 = .ok (.ldc2_w 13, 3) := by decide +kernel
theorem dL_law_737 : decode cL_law 737 = .ok (.land, 1) := by decide +kernel
theorem dL_law_738 : decode cL_law 738 = .ok (.lor, 1) := by decide +kernel
theorem dL_law_739 : decode cL_law 739 = .ok (.aload_n 0, 1) := by decide +kernel
theorem dL_law_740 : decode cL_law 740 = .ok (.iload_n 3, 1) := by decide +kernel
theorem dL_law_741 : decode cL_law 741 = .ok (.bipush 7, 2) := by decide +kernel
theorem dL_law_743 : decode cL_law 743 = .ok (.iadd, 1) := by decide +kernel
theorem dL_law_744 : decode cL_law 744 = .ok (.iaload, 1) := by decide +kernel
theorem dL_law_745 : decode cL_law 745 = .ok (.i2l, 1) := by decide +kernel
theorem dL_law_746 : decode cL_law 746 = .ok (.bipush 32, 2) := by decide +kernel
theorem dL_law_748 : decode cL_law 748 = .ok (.lshl, 1) := by decide +kernel
theorem dL_law_749 : decode cL_law 749 = .ok (.aload_n 0, 1) := by decide +kernel
theorem dL_law_750 : decode cL_law 750 = .ok (.iload_n 3, 1) := by decide +kernel
theorem dL_law_751 : decode cL_law 751 = .ok (.bipush 8, 2) := by decide +kernel
theorem dL_law_753 : decode cL_law 753 = .ok (.iadd, 1) := by decide +kernel
theorem dL_law_754 : decode cL_law 754 = .ok (.iaload, 1) := by decide +kernel
theorem dL_law_755 : decode cL_law 755 = .ok (.i2l, 1) := by decide +kernel
theorem dL_law_756 : decode cL_law 756 = .ok (.ldc2_w 13, 3) := by decide +kernel
theorem dL_law_759 : decode cL_law 759 = .ok (.land, 1) := by decide +kernel
theorem dL_law_760 : decode cL_law 760 = .ok (.lor, 1) := by decide +kernel
theorem dL_law_761 : decode cL_law 761 = .ok (.invokevirtual 29, 3) := by decide +kernel
theorem dL_law_764 : decode cL_law 764 = .ok (.aload_n 2, 1) := by decide +kernel
theorem dL_law_765 : decode cL_law 765 = .ok (.aload_n 0, 1) := by decide +kernel
theorem dL_law_766 : decode cL_law 766 = .ok (.iload_n 3, 1) := by decide +kernel
theorem dL_law_767 : decode cL_law 767 = .ok (.iconst 1, 1) := by decide +kernel
theorem dL_law_768 : decode cL_law 768 = .ok (.iadd, 1) := by decide +kernel
theorem dL_law_769 : decode cL_law 769 = .ok (.iaload, 1) := by decide +kernel
theorem dL_law_770 : decode cL_law 770 = .ok (.i2l, 1) := by decide +kernel
theorem dL_law_771 : decode cL_law 771 = .ok (.bipush 32, 2) := by decide +kernel
theorem dL_law_773 : decode cL_law 773 = .ok (.lshl, 1) := by decide +kernel
theorem dL_law_774 : decode cL_law 774 = .ok (.aload_n 0, 1) := by decide +kernel
theorem dL_law_775 : decode cL_law 775 = .ok (.iload_n 3, 1) := by decide +kernel
theorem dL_law_776 : decode cL_law 776 = .ok (.iconst 2, 1) := by decide +kernel
theorem dL_law_777 : decode cL_law 777 = .ok (.iadd, 1) := by decide +kernel
theorem dL_law_778 : decode cL_law 778 = .ok (.iaload, 1) := by decide +kernel
theorem dL_law_779 : decode cL_law 779 = .ok (.i2l, 1) := by decide +kernel
theorem dL_law_780 : decode cL_law 780 = .ok (.ldc2_w 13, 3) := by decide +kernel
theorem dL_law_783 : decode cL_law 783 = .ok (.land, 1) := by decide +kernel
theorem dL_law_784 : decode cL_law 784 = .ok (.lor, 1) := by decide +kernel
theorem dL_law_785 : decode cL_law 785 = .ok (.aload_n 0, 1) := by decide +kernel
theorem dL_law_786 : decode cL_law 786 = .ok (.iload_n 3, 1) := by decide +kernel
theorem dL_law_787 : decode cL_law 787 = .ok (.iconst 3, 1) := by decide +kernel
theorem dL_law_788 : decode cL_law 788 = .ok (.iadd, 1) := by decide +kernel
theorem dL_law_789 : decode cL_law 789 = .ok (.iaload, 1) := by decide +kernel
theorem dL_law_790 : decode cL_law 790 = .ok (.i2l, 1) := by decide +kernel
theorem dL_law_791 : decode cL_law 791 = .ok (.bipush 32, 2) := by decide +kernel
theorem dL_law_793 : decode cL_law 793 = .ok (.lshl, 1) := by decide +kernel
theorem dL_law_794 : decode cL_law 794 = .ok (.aload_n 0, 1) := by decide +kernel
theorem dL_law_795 : decode cL_law 795 = .ok (.iload_n 3, 1) := by decide +kernel
theorem dL_law_796 : decode cL_law 796 = .ok (.iconst 4, 1) := by decide +kernel
theorem dL_law_797 : decode cL_law 797 = .ok (.iadd, 1) := by decide +kernel
theorem dL_law_798 : decode cL_law 798 = .ok (.iaload, 1) := by decide +kernel
theorem dL_law_799 : decode cL_law 799 = .ok (.i2l, 1) := by decide +kernel
theorem dL_law_800 : decode cL_law 800 = .ok (.ldc2_w 13, 3) := by decide +kernel
theorem dL_law_803 : decode cL_law 803 = .ok (.land, 1) := by decide +kernel
theorem dL_law_804 : decode cL_law 804 = .ok (.lor, 1) := by decide +kernel
theorem dL_law_805 : decode cL_law 805 = .ok (.aload_n 0, 1) := by decide +kernel
theorem dL_law_806 : decode cL_law 806 = .ok (.iload_n 3, 1) := by decide +kernel
theorem dL_law_807 : decode cL_law 807 = .ok (.iconst 5, 1) := by decide +kernel
theorem dL_law_808 : decode cL_law 808 = .ok (.iadd, 1) := by decide +kernel
theorem dL_law_809 : decode cL_law 809 = .ok (.iaload, 1) := by decide +kernel
theorem dL_law_810 : decode cL_law 810 = .ok (.i2l, 1) := by decide +kernel
theorem dL_law_811 : decode cL_law 811 = .ok (.bipush 32, 2) := by decide +kernel
theorem dL_law_813 : decode cL_law 813 = .ok (.lshl, 1) := by decide +kernel
theorem dL_law_814 : decode cL_law 814 = .ok (.aload_n 0, 1) := by decide +kernel
theorem dL_law_815 : decode cL_law 815 = .ok (.iload_n 3, 1) := by decide +kernel
theorem dL_law_816 : decode cL_law 816 = .ok (.bipush 6, 2) := by decide +kernel
theorem dL_law_818 : decode cL_law 818 = .ok (.iadd, 1) := by decide +kernel
theorem dL_law_819 : decode cL_law 819 = .ok (.iaload, 1) := by decide +kernel
theorem dL_law_820 : decode cL_law 820 = .ok (.i2l, 1) := by decide +kernel
theorem dL_law_821 : decode cL_law 821 = .ok (.ldc2_w 13, 3) := by decide +kernel
theorem dL_law_824 : decode cL_law 824 = .ok (.land, 1) := by decide +kernel
theorem dL_law_825 : decode cL_law 825 = .ok (.lor, 1) := by decide +kernel
theorem dL_law_826 : decode cL_law 826 = .ok (.aload_n 0, 1) := by decide +kernel
theorem dL_law_827 : decode cL_law 827 = .ok (.iload_n 3, 1) := by decide +kernel
theorem dL_law_828 : decode cL_law 828 = .ok (.bipush 7, 2) := by decide +kernel
theorem dL_law_830 : decode cL_law 830 = .ok (.iadd, 1) := by decide +kernel
theorem dL_law_831 : decode cL_law 831 = .ok (.iaload, 1) := by decide +kernel
theorem dL_law_832 : decode cL_law 832 = .ok (.i2l, 1) := by decide +kernel
theorem dL_law_833 : decode cL_law 833 = .ok (.bipush 32, 2) := by decide +kernel
theorem dL_law_835 : decode cL_law 835 = .ok (.lshl, 1) := by decide +kernel
theorem dL_law_836 : decode cL_law 836 = .ok (.aload_n 0, 1) := by decide +kernel
theorem dL_law_837 : decode cL_law 837 = .ok (.iload_n 3, 1) := by decide +kernel
theorem dL_law_838 : decode cL_law 838 = .ok (.bipush 8, 2) := by decide +kernel
theorem dL_law_840 : decode cL_law 840 = .ok (.iadd, 1) := by decide +kernel
theorem dL_law_841 : decode cL_law 841 = .ok (.iaload, 1) := by decide +kernel
theorem dL_law_842 : decode cL_law 842 = .ok (.i2l, 1) := by decide +kernel
theorem dL_law_843 : decode cL_law 843 = .ok (.ldc2_w 13, 3) := by decide +kernel
theorem dL_law_846 : decode cL_law 846 = .ok (.land, 1) := by decide +kernel
theorem dL_law_847 : decode cL_law 847 = .ok (.lor, 1) := by decide +kernel
theorem dL_law_848 : decode cL_law 848 = .ok (.invokevirtual 33, 3) := by decide +kernel
theorem dL_law_851 : decode cL_law 851 = .ok (.goto 178, 3) := by decide +kernel
theorem dL_law_854 : decode cL_law 854 = .ok (.aload_n 1, 1) := by decide +kernel
theorem dL_law_855 : decode cL_law 855 = .ok (.invokevirtual 34, 3) := by decide +kernel
theorem dL_law_858 : decode cL_law 858 = .ok (.aload_n 2, 1) := by decide +kernel
theorem dL_law_859 : decode cL_law 859 = .ok (.invokevirtual 37, 3) := by decide +kernel
theorem dL_law_862 : decode cL_law 862 = .ok (.goto 167, 3) := by decide +kernel
theorem dL_law_865 : decode cL_law 865 = .ok (.aload_n 1, 1) := by decide +kernel
theorem dL_law_866 : decode cL_law 866 = .ok (.invokevirtual 38, 3) := by decide +kernel
theorem dL_law_869 : decode cL_law 869 = .ok (.aload_n 2, 1) := by decide +kernel
theorem dL_law_870 : decode cL_law 870 = .ok (.invokevirtual 41, 3) := by decide +kernel
theorem dL_law_873 : decode cL_law 873 = .ok (.goto 156, 3) := by decide +kernel
theorem dL_law_876 : decode cL_law 876 = .ok (.aload_n 1, 1) := by decide +kernel
theorem dL_law_877 : decode cL_law 877 = .ok (.invokevirtual 42, 3) := by decide +kernel
theorem dL_law_880 : decode cL_law 880 = .ok (.aload_n 2, 1) := by decide +kernel
theorem dL_law_881 : decode cL_law 881 = .ok (.invokevirtual 46, 3) := by decide +kernel
theorem dL_law_884 : decode cL_law 884 = .ok (.if_icmp .eq 145, 3) := by decide +kernel
theorem dL_law_887 : decode cL_law 887 = .ok (.iconst 0, 1) := by decide +kernel
theorem dL_law_888 : decode cL_law 888 = .ok (.ireturn, 1) := by decide +kernel
theorem dL_law_889 : decode cL_law 889 = .ok (.aload_n 1, 1) := by decide +kernel
theorem dL_law_890 : decode cL_law 890 = .ok (.invokevirtual 47, 3) := by decide +kernel
theorem dL_law_893 : decode cL_law 893 = .ok (.aload_n 2, 1) := by decide +kernel
theorem dL_law_894 : decode cL_law 894 = .ok (.invokevirtual 50, 3) := by decide +kernel
theorem dL_law_897 : decode cL_law 897 = .ok (.if_icmp .eq 132, 3) := by decide +kernel
theorem dL_law_900 : decode cL_law 900 = .ok (.iconst 0, 1) := by decide +kernel
theorem dL_law_901 : decode cL_law 901 = .ok (.ireturn, 1) := by decide +kernel
theorem dL_law_902 : decode cL_law 902 = .ok (.aload_n 1, 1) := by decide +kernel
theorem dL_law_903 : decode cL_law 903 = .ok (.aload_n 0, 1) := by decide +kernel
theorem dL_law_904 : decode cL_law 904 = .ok (.iload_n 3, 1) := by decide +kernel
theorem dL_law_905 : decode cL_law 905 = .ok (.iconst 1, 1) := by decide +kernel
theorem dL_law_906 : decode cL_law 906 = .ok (.iadd, 1) := by decide +kernel
theorem dL_law_907 : decode cL_law 907 = .ok (.iaload, 1) := by decide +kernel
theorem dL_law_908 : decode cL_law 908 = .ok (.invokevirtual 51, 3) := by decide +kernel
theorem dL_law_911 : decode cL_law 911 = .ok (.aload_n 2, 1) := by decide +kernel
theorem dL_law_912 : decode cL_law 912 = .ok (.aload_n 0, 1) := by decide +kernel
theorem dL_law_913 : decode cL_law 913 = .ok (.iload_n 3, 1) := by decide +kernel
theorem dL_law_914 : decode cL_law 914 = .ok (.iconst 1, 1) := by decide +kernel
theorem dL_law_915 : decode cL_law 915 = .ok (.iadd, 1) := by decide +kernel
theorem dL_law_916 : decode cL_law 916 = .ok (.iaload, 1) := by decide +kernel
theorem dL_law_917 : decode cL_law 917 = .ok (.invokevirtual 55, 3) := by decide +kernel
theorem dL_law_920 : decode cL_law 920 = .ok (.lcmp, 1) := by decide +kernel
theorem dL_law_921 : decode cL_law 921 = .ok (.ifCond .eq 108, 3) := by decide +kernel
theorem dL_law_924 : decode cL_law 924 = .ok (.iconst 0, 1) := by decide +kernel
theorem dL_law_925 : decode cL_law 925 = .ok (.ireturn, 1) := by decide +kernel
theorem dL_law_926 : decode cL_law 926 = .ok (.aload_n 1, 1) := by decide +kernel
theorem dL_law_927 : decode cL_law 927 = .ok (.invokevirtual 56, 3) := by decide +kernel
theorem dL_law_930 : decode cL_law 930 = .ok (.aload_n 2, 1) := by decide +kernel
theorem dL_law_931 : decode cL_law 931 = .ok (.invokevirtual 60, 3) := by decide +kernel
theorem dL_law_934 : decode cL_law 934 = .ok (.if_icmp .eq 95, 3) := by decide +kernel
theorem dL_law_937 : decode cL_law 937 = .ok (.iconst 0, 1) := by decide +kernel
theorem dL_law_938 : decode cL_law 938 = .ok (.ireturn, 1) := by decide +kernel
theorem dL_law_939 : decode cL_law 939 = .ok (.aload_n 1, 1) := by decide +kernel
theorem dL_law_940 : decode cL_law 940 = .ok (.invokevirtual 61, 3) := by decide +kernel
theorem dL_law_943 : decode cL_law 943 = .ok (.aload_n 2, 1) := by decide +kernel
theorem dL_law_944 : decode cL_law 944 = .ok (.invokevirtual 64, 3) := by decide +kernel
theorem dL_law_947 : decode cL_law 947 = .ok (.goto 82, 3) := by decide +kernel
theorem dL_law_950 : decode cL_law 950 = .ok (.aload_n 1, 1) := by decide +kernel
theorem dL_law_951 : decode cL_law 951 = .ok (.aload_n 0, 1) := by decide +kernel
theorem dL_law_952 : decode cL_law 952 = .ok (.iload_n 3, 1) := by decide +kernel
theorem dL_law_953 : decode cL_law 953 = .ok (.iconst 1, 1) := by decide +kernel
theorem dL_law_954 : decode cL_law 954 = .ok (.iadd, 1) := by decide +kernel
theorem dL_law_955 : decode cL_law 955 = .ok (.iaload, 1) := by decide +kernel
theorem dL_law_956 : decode cL_law 956 = .ok (.invokevirtual 65, 3) := by decide +kernel
theorem dL_law_959 : decode cL_law 959 = .ok (.aload_n 2, 1) := by decide +kernel
theorem dL_law_960 : decode cL_law 960 = .ok (.aload_n 0, 1) := by decide +kernel
theorem dL_law_961 : decode cL_law 961 = .ok (.iload_n 3, 1) := by decide +kernel
theorem dL_law_962 : decode cL_law 962 = .ok (.iconst 1, 1) := by decide +kernel
theorem dL_law_963 : decode cL_law 963 = .ok (.iadd, 1) := by decide +kernel
theorem dL_law_964 : decode cL_law 964 = .ok (.iaload, 1) := by decide +kernel
theorem dL_law_965 : decode cL_law 965 = .ok (.invokevirtual 69, 3) := by decide +kernel
theorem dL_law_968 : decode cL_law 968 = .ok (.if_icmp .eq 61, 3) := by decide +kernel
theorem dL_law_971 : decode cL_law 971 = .ok (.iconst 0, 1) := by decide +kernel
theorem dL_law_972 : decode cL_law 972 = .ok (.ireturn, 1) := by decide +kernel
theorem dL_law_973 : decode cL_law 973 = .ok (.aload_n 1, 1) := by decide +kernel
theorem dL_law_974 : decode cL_law 974 = .ok (.aload_n 0, 1) := by decide +kernel
theorem dL_law_975 : decode cL_law 975 = .ok (.iload_n 3, 1) := by decide +kernel
theorem dL_law_976 : decode cL_law 976 = .ok (.iconst 1, 1) := by decide +kernel
theorem dL_law_977 : decode cL_law 977 = .ok (.iadd, 1) := by decide +kernel
theorem dL_law_978 : decode cL_law 978 = .ok (.iaload, 1) := by decide +kernel
theorem dL_law_979 : decode cL_law 979 = .ok (.invokevirtual 70, 3) := by decide +kernel
theorem dL_law_982 : decode cL_law 982 = .ok (.aload_n 2, 1) := by decide +kernel
theorem dL_law_983 : decode cL_law 983 = .ok (.aload_n 0, 1) := by decide +kernel
theorem dL_law_984 : decode cL_law 984 = .ok (.iload_n 3, 1) := by decide +kernel
theorem dL_law_985 : decode cL_law 985 = .ok (.iconst 1, 1) := by decide +kernel
theorem dL_law_986 : decode cL_law 986 = .ok (.iadd, 1) := by decide +kernel
theorem dL_law_987 : decode cL_law 987 = .ok (.iaload, 1) := by decide +kernel
theorem dL_law_988 : decode cL_law 988 = .ok (.invokevirtual 74, 3) := by decide +kernel
theorem dL_law_991 : decode cL_law 991 = .ok (.if_icmp .eq 38, 3) := by decide +kernel
theorem dL_law_994 : decode cL_law 994 = .ok (.iconst 0, 1) := by decide +kernel
theorem dL_law_995 : decode cL_law 995 = .ok (.ireturn, 1) := by decide +kernel
theorem dL_law_996 : decode cL_law 996 = .ok (.aload_n 1, 1) := by decide +kernel
theorem dL_law_997 : decode cL_law 997 = .ok (.aload_n 0, 1) := by decide +kernel
theorem dL_law_998 : decode cL_law 998 = .ok (.iload_n 3, 1) := by decide +kernel
theorem dL_law_999 : decode cL_law 999 = .ok (.iconst 1, 1) := by decide +kernel
theorem dL_law_1000 : decode cL_law 1000 = .ok (.iadd, 1) := by decide +kernel
theorem dL_law_1001 : decode cL_law 1001 = .ok (.iaload, 1) := by decide +kernel
theorem dL_law_1002 : decode cL_law 1002 = .ok (.aload_n 0, 1) := by decide +kernel
theorem dL_law_1003 : decode cL_law 1003 = .ok (.iload_n 3, 1) := by decide +kernel
theorem dL_law_1004 : decode cL_law 1004 = .ok (.iconst 2, 1) := by decide +kernel
theorem dL_law_1005 : decode cL_law 1005 = .ok (.iadd, 1) := by decide +kernel
theorem dL_law_1006 : decode cL_law 1006 = .ok (.iaload, 1) := by decide +kernel
theorem dL_law_1007 : decode cL_law 1007 = .ok (.invokevirtual 75, 3) := by decide +kernel
theorem dL_law_1010 : decode cL_law 1010 = .ok (.aload_n 2, 1) := by decide +kernel
theorem dL_law_1011 : decode cL_law 1011 = .ok (.aload_n 0, 1) := by decide +kernel
theorem dL_law_1012 : decode cL_law 1012 = .ok (.iload_n 3, 1) := by decide +kernel
theorem dL_law_1013 : decode cL_law 1013 = .ok (.iconst 1, 1) := by decide +kernel
theorem dL_law_1014 : decode cL_law 1014 = .ok (.iadd, 1) := by decide +kernel
theorem dL_law_1015 : decode cL_law 1015 = .ok (.iaload, 1) := by decide +kernel
theorem dL_law_1016 : decode cL_law 1016 = .ok (.aload_n 0, 1) := by decide +kernel
theorem dL_law_1017 : decode cL_law 1017 = .ok (.iload_n 3, 1) := by decide +kernel
theorem dL_law_1018 : decode cL_law 1018 = .ok (.iconst 2, 1) := by decide +kernel
theorem dL_law_1019 : decode cL_law 1019 = .ok (.iadd, 1) := by decide +kernel
theorem dL_law_1020 : decode cL_law 1020 = .ok (.iaload, 1) := by decide +kernel
theorem dL_law_1021 : decode cL_law 1021 = .ok (.invokevirtual 79, 3) := by decide +kernel
theorem dL_law_1024 : decode cL_law 1024 = .ok (.if_icmp .eq 5, 3) := by decide +kernel
theorem dL_law_1027 : decode cL_law 1027 = .ok (.iconst 0, 1) := by decide +kernel
theorem dL_law_1028 : decode cL_law 1028 = .ok (.ireturn, 1) := by decide +kernel
theorem dL_law_1029 : decode cL_law 1029 = .ok (.iinc 3 10, 3) := by decide +kernel
theorem dL_law_1032 : decode cL_law 1032 = .ok (.goto (-1014), 3) := by decide +kernel
theorem dL_law_1035 : decode cL_law 1035 = .ok (.iconst 1, 1) := by decide +kernel
theorem dL_law_1036 : decode cL_law 1036 = .ok (.ireturn, 1) := by decide +kernel
end
section
abbrev xM : Type := MethodName × ByteArray × Nat × Option FieldType
abbrev xCl : List vw_C := vwCl
abbrev xTy : List FieldType := [.object RX0, .object RX1, .long, .int, .boolean]
def xW0 : List Cond := lw_tbl.filter goodWord
theorem xW0_good : ∀ w ∈ xW0, goodWord w = true := fun _ h => (List.mem_filter.mp h).2
theorem x_in {w : Cond} (h : w ∈ lw_tbl) (g : goodWord w = true) : w ∈ xW0 := List.mem_filter.mpr ⟨h, g⟩
theorem x_ix {w : Cond} (i : Nat) (h : tables_1[i]? = some w) (g : goodWord w = true) : w ∈ xW0 := x_in (List.mem_append_right _ (List.mem_of_getElem? h)) g
theorem x_sx {w : Cond} (i : Nat) (h : (k2_sels lw_privs)[i]? = some w) (g : goodWord w = true) : w ∈ xW0 := x_in (List.mem_append_left _ (List.mem_of_getElem? h)) g
theorem xlX0 : ∀ k, k < 5 → u_lay RX0 TX0 k ∈ xW0 := by
  intro k hk
  match k, hk with
  | 0, _ => exact x_ix 31 (by decide +kernel) (by decide +kernel)
  | 1, _ => exact x_ix 33 (by decide +kernel) (by decide +kernel)
  | 2, _ => exact x_ix 35 (by decide +kernel) (by decide +kernel)
  | 3, _ => exact x_ix 37 (by decide +kernel) (by decide +kernel)
  | 4, _ => exact x_ix 39 (by decide +kernel) (by decide +kernel)
  | k + 5, hk => omega
theorem xlX1 : ∀ k, k < 7 → u_lay RX1 TX1 k ∈ xW0 := by
  intro k hk
  match k, hk with
  | 0, _ => exact x_ix 66 (by decide +kernel) (by decide +kernel)
  | 1, _ => exact x_ix 68 (by decide +kernel) (by decide +kernel)
  | 2, _ => exact x_ix 70 (by decide +kernel) (by decide +kernel)
  | 3, _ => exact x_ix 72 (by decide +kernel) (by decide +kernel)
  | 4, _ => exact x_ix 74 (by decide +kernel) (by decide +kernel)
  | 5, _ => exact x_ix 76 (by decide +kernel) (by decide +kernel)
  | 6, _ => exact x_ix 78 (by decide +kernel) (by decide +kernel)
  | k + 7, hk => omega
theorem xlX2 : ∀ k, k < 11 → u_lay RX2 TX2 k ∈ xW0 := by
  intro k hk
  match k, hk with
  | 0, _ => exact x_ix 92 (by decide +kernel) (by decide +kernel)
  | 1, _ => exact x_ix 94 (by decide +kernel) (by decide +kernel)
  | 2, _ => exact x_ix 96 (by decide +kernel) (by decide +kernel)
  | 3, _ => exact x_ix 98 (by decide +kernel) (by decide +kernel)
  | 4, _ => exact x_ix 100 (by decide +kernel) (by decide +kernel)
  | 5, _ => exact x_ix 102 (by decide +kernel) (by decide +kernel)
  | 6, _ => exact x_ix 104 (by decide +kernel) (by decide +kernel)
  | 7, _ => exact x_ix 106 (by decide +kernel) (by decide +kernel)
  | 8, _ => exact x_ix 108 (by decide +kernel) (by decide +kernel)
  | 9, _ => exact x_ix 110 (by decide +kernel) (by decide +kernel)
  | 10, _ => exact x_ix 112 (by decide +kernel) (by decide +kernel)
  | k + 11, hk => omega
theorem xlX3 : ∀ k, k < 23 → u_lay RX3 TX3 k ∈ xW0 := by
  intro k hk
  match k, hk with
  | 0, _ => exact x_ix 309 (by decide +kernel) (by decide +kernel)
  | 1, _ => exact x_ix 311 (by decide +kernel) (by decide +kernel)
  | 2, _ => exact x_ix 313 (by decide +kernel) (by decide +kernel)
  | 3, _ => exact x_ix 315 (by decide +kernel) (by decide +kernel)
  | 4, _ => exact x_ix 317 (by decide +kernel) (by decide +kernel)
  | 5, _ => exact x_ix 319 (by decide +kernel) (by decide +kernel)
  | 6, _ => exact x_ix 321 (by decide +kernel) (by decide +kernel)
  | 7, _ => exact x_ix 323 (by decide +kernel) (by decide +kernel)
  | 8, _ => exact x_ix 325 (by decide +kernel) (by decide +kernel)
  | 9, _ => exact x_ix 327 (by decide +kernel) (by decide +kernel)
  | 10, _ => exact x_ix 329 (by decide +kernel) (by decide +kernel)
  | 11, _ => exact x_ix 331 (by decide +kernel) (by decide +kernel)
  | 12, _ => exact x_ix 333 (by decide +kernel) (by decide +kernel)
  | 13, _ => exact x_ix 335 (by decide +kernel) (by decide +kernel)
  | 14, _ => exact x_ix 337 (by decide +kernel) (by decide +kernel)
  | 15, _ => exact x_ix 339 (by decide +kernel) (by decide +kernel)
  | 16, _ => exact x_ix 341 (by decide +kernel) (by decide +kernel)
  | 17, _ => exact x_ix 343 (by decide +kernel) (by decide +kernel)
  | 18, _ => exact x_ix 345 (by decide +kernel) (by decide +kernel)
  | 19, _ => exact x_ix 347 (by decide +kernel) (by decide +kernel)
  | 20, _ => exact x_ix 349 (by decide +kernel) (by decide +kernel)
  | 21, _ => exact x_ix 351 (by decide +kernel) (by decide +kernel)
  | 22, _ => exact x_ix 353 (by decide +kernel) (by decide +kernel)
  | k + 23, hk => omega
theorem x_clok (ci : Nat) (r : vw_C) (h : xCl[ci]? = some r) : (∀ w ∈ u_ws r.1 r.2.1 r.2.2, w ∈ xW0) ∧ (∀ k, k < r.2.2 → ∃ ty, parseFieldDescriptor (r.2.1 k).2.2.1 = some ty) ∧ (∀ a, a < r.2.2 → ∀ b, b < r.2.2 → a ≠ b → (r.2.1 a).2.1 ≠ (r.2.1 b).2.1) := by
  match ci, h with
  | 0, h =>
    have e : r = (RX0, TX0, 5) := (Option.some.inj h).symm
    subst e
    refine ⟨fun w hw => ?_, fun k hk => ⟨_, tyX0_ok k hk⟩, nmX0⟩
    obtain ⟨k, hk, rfl⟩ := List.mem_map.mp hw
    exact xlX0 k (List.mem_range.mp hk)
  | 1, h =>
    have e : r = (RX1, TX1, 7) := (Option.some.inj h).symm
    subst e
    refine ⟨fun w hw => ?_, fun k hk => ⟨_, tyX1_ok k hk⟩, nmX1⟩
    obtain ⟨k, hk, rfl⟩ := List.mem_map.mp hw
    exact xlX1 k (List.mem_range.mp hk)
  | 2, h =>
    have e : r = (RX2, TX2, 11) := (Option.some.inj h).symm
    subst e
    refine ⟨fun w hw => ?_, fun k hk => ⟨_, tyX2_ok k hk⟩, nmX2⟩
    obtain ⟨k, hk, rfl⟩ := List.mem_map.mp hw
    exact xlX2 k (List.mem_range.mp hk)
  | 3, h =>
    have e : r = (RX3, TX3, 23) := (Option.some.inj h).symm
    subst e
    refine ⟨fun w hw => ?_, fun k hk => ⟨_, tyX3_ok k hk⟩, nmX3⟩
    obtain ⟨k, hk, rfl⟩ := List.mem_map.mp hw
    exact xlX3 k (List.mem_range.mp hk)
  | ci + 4, h => exact absurd h (by simp [xCl, vwCl])
abbrev mX2_init : xM := (yX2_init, cX2_init, 2, none)
theorem wcX2_init : Cond.code mX2_init.1 mX2_init.2.1 mX2_init.2.2.1 mX2_init.2.2.2 ∈ xW0 := x_ix 11 (by decide +kernel) (by decide +kernel)
abbrev mX0_init : xM := (yX0_init, cX0_init, 10, none)
theorem wcX0_init : Cond.code mX0_init.1 mX0_init.2.1 mX0_init.2.2.1 mX0_init.2.2.2 ∈ xW0 := x_ix 19 (by decide +kernel) (by decide +kernel)
abbrev mX1_init : xM := (yX1_init, cX1_init, 3, none)
theorem wcX1_init : Cond.code mX1_init.1 mX1_init.2.1 mX1_init.2.2.1 mX1_init.2.2.2 ∈ xW0 := x_ix 48 (by decide +kernel) (by decide +kernel)
abbrev mX2_add : xM := (yX2_add, cX2_add, 11, some (.int))
theorem wcX2_add : Cond.code mX2_add.1 mX2_add.2.1 mX2_add.2.2.1 mX2_add.2.2.2 ∈ xW0 := x_ix 118 (by decide +kernel) (by decide +kernel)
abbrev mX2_pageInCharge : xM := (yX2_pageInCharge, cX2_pageInCharge, 6, some (.object "SideLinkTree$Page"))
theorem wcX2_pageInCharge : Cond.code mX2_pageInCharge.1 mX2_pageInCharge.2.1 mX2_pageInCharge.2.2.1 mX2_pageInCharge.2.2.2 ∈ xW0 := x_ix 122 (by decide +kernel) (by decide +kernel)
abbrev mX1_pageBelow : xM := (yX1_pageBelow, cX1_pageBelow, 3, some (.object "SideLinkTree$Page"))
theorem wcX1_pageBelow : Cond.code mX1_pageBelow.1 mX1_pageBelow.2.1 mX1_pageBelow.2.2.1 mX1_pageBelow.2.2.2 ∈ xW0 := x_ix 126 (by decide +kernel) (by decide +kernel)
abbrev mX1_countPassed : xM := (yX1_countPassed, cX1_countPassed, 5, some (.int))
theorem wcX1_countPassed : Cond.code mX1_countPassed.1 mX1_countPassed.2.1 mX1_countPassed.2.2.1 mX1_countPassed.2.2.2 ∈ xW0 := x_ix 130 (by decide +kernel) (by decide +kernel)
abbrev mX0_compareWith : xM := (yX0_compareWith, cX0_compareWith, 3, some (.int))
theorem wcX0_compareWith : Cond.code mX0_compareWith.1 mX0_compareWith.2.1 mX0_compareWith.2.2.1 mX0_compareWith.2.2.2 ∈ xW0 := x_ix 134 (by decide +kernel) (by decide +kernel)
abbrev mJ13_compareUnsigned_74951 : xM := (yJ13_compareUnsigned_74951, cJ13_compareUnsigned_74951, 4, some (.int))
theorem wcJ13_compareUnsigned_74951 : Cond.code mJ13_compareUnsigned_74951.1 mJ13_compareUnsigned_74951.2.1 mJ13_compareUnsigned_74951.2.2.1 mJ13_compareUnsigned_74951.2.2.2 ∈ xW0 := x_ix 137 (by decide +kernel) (by decide +kernel)
abbrev mJ13_compare_74951 : xM := (yJ13_compare_74951, cJ13_compare_74951, 4, some (.int))
theorem wcJ13_compare_74951 : Cond.code mJ13_compare_74951.1 mJ13_compare_74951.2.1 mJ13_compare_74951.2.2.1 mJ13_compare_74951.2.2.2 ∈ xW0 := x_ix 141 (by decide +kernel) (by decide +kernel)
abbrev mJ6_compare_7cf53 : xM := (yJ6_compare_7cf53, cJ6_compare_7cf53, 2, some (.int))
theorem wcJ6_compare_7cf53 : Cond.code mJ6_compare_7cf53.1 mJ6_compare_7cf53.2.1 mJ6_compare_7cf53.2.2.1 mJ6_compare_7cf53.2.2.2 ∈ xW0 := x_ix 144 (by decide +kernel) (by decide +kernel)
abbrev mX2_goRight : xM := (yX2_goRight, cX2_goRight, 4, some (.object "SideLinkTree$Page"))
theorem wcX2_goRight : Cond.code mX2_goRight.1 mX2_goRight.2.1 mX2_goRight.2.2.1 mX2_goRight.2.2.2 ∈ xW0 := x_ix 147 (by decide +kernel) (by decide +kernel)
abbrev mX1_holds : xM := (yX1_holds, cX1_holds, 2, some (.boolean))
theorem wcX1_holds : Cond.code mX1_holds.1 mX1_holds.2.1 mX1_holds.2.2.1 mX1_holds.2.2.2 ∈ xW0 := x_ix 152 (by decide +kernel) (by decide +kernel)
abbrev mX2_pagesNeeded : xM := (yX2_pagesNeeded, cX2_pagesNeeded, 5, some (.int))
theorem wcX2_pagesNeeded : Cond.code mX2_pagesNeeded.1 mX2_pagesNeeded.2.1 mX2_pagesNeeded.2.2.1 mX2_pagesNeeded.2.2.2 ∈ xW0 := x_ix 156 (by decide +kernel) (by decide +kernel)
abbrev mX2_takePages : xM := (yX2_takePages, cX2_takePages, 2, some (.boolean))
theorem wcX2_takePages : Cond.code mX2_takePages.1 mX2_takePages.2.1 mX2_takePages.2.2.1 mX2_takePages.2.2.2 ∈ xW0 := x_ix 160 (by decide +kernel) (by decide +kernel)
abbrev mX2_put : xM := (yX2_put, cX2_put, 6, some (.boolean))
theorem wcX2_put : Cond.code mX2_put.1 mX2_put.2.1 mX2_put.2.2.1 mX2_put.2.2.2 ∈ xW0 := x_ix 164 (by decide +kernel) (by decide +kernel)
abbrev mX2_splitRoot : xM := (yX2_splitRoot, cX2_splitRoot, 3, some (.boolean))
theorem wcX2_splitRoot : Cond.code mX2_splitRoot.1 mX2_splitRoot.2.1 mX2_splitRoot.2.2.1 mX2_splitRoot.2.2.2 ∈ xW0 := x_ix 168 (by decide +kernel) (by decide +kernel)
abbrev mX2_useTakenPage : xM := (yX2_useTakenPage, cX2_useTakenPage, 3, some (.object "SideLinkTree$Page"))
theorem wcX2_useTakenPage : Cond.code mX2_useTakenPage.1 mX2_useTakenPage.2.1 mX2_useTakenPage.2.2.1 mX2_useTakenPage.2.2.2 ∈ xW0 := x_ix 172 (by decide +kernel) (by decide +kernel)
abbrev mX1_reset : xM := (yX1_reset, cX1_reset, 3, none)
theorem wcX1_reset : Cond.code mX1_reset.1 mX1_reset.2.1 mX1_reset.2.2.1 mX1_reset.2.2.2 ∈ xW0 := x_ix 176 (by decide +kernel) (by decide +kernel)
abbrev mX2_setWords : xM := (yX2_setWords, cX2_setWords, 2, some (.boolean))
theorem wcX2_setWords : Cond.code mX2_setWords.1 mX2_setWords.2.1 mX2_setWords.2.2.1 mX2_setWords.2.2.2 ∈ xW0 := x_ix 180 (by decide +kernel) (by decide +kernel)
abbrev mX1_append : xM := (yX1_append, cX1_append, 5, none)
theorem wcX1_append : Cond.code mX1_append.1 mX1_append.2.1 mX1_append.2.2.1 mX1_append.2.2.2 ∈ xW0 := x_ix 184 (by decide +kernel) (by decide +kernel)
abbrev mX1_entryAt : xM := (yX1_entryAt, cX1_entryAt, 2, some (.object "SideLinkTree$Entry"))
theorem wcX1_entryAt : Cond.code mX1_entryAt.1 mX1_entryAt.2.1 mX1_entryAt.2.2.1 mX1_entryAt.2.2.2 ∈ xW0 := x_ix 188 (by decide +kernel) (by decide +kernel)
abbrev mX1_insert : xM := (yX1_insert, cX1_insert, 5, none)
theorem wcX1_insert : Cond.code mX1_insert.1 mX1_insert.2.1 mX1_insert.2.2.1 mX1_insert.2.2.2 ∈ xW0 := x_ix 192 (by decide +kernel) (by decide +kernel)
abbrev mX2_splitPage : xM := (yX2_splitPage, cX2_splitPage, 3, some (.boolean))
theorem wcX2_splitPage : Cond.code mX2_splitPage.1 mX2_splitPage.2.1 mX2_splitPage.2.2.1 mX2_splitPage.2.2.2 ∈ xW0 := x_ix 196 (by decide +kernel) (by decide +kernel)
abbrev mX2_bringInto : xM := (yX2_bringInto, cX2_bringInto, 4, some (.boolean))
theorem wcX2_bringInto : Cond.code mX2_bringInto.1 mX2_bringInto.2.1 mX2_bringInto.2.2.1 mX2_bringInto.2.2.2 ∈ xW0 := x_ix 200 (by decide +kernel) (by decide +kernel)
abbrev mX2_remove : xM := (yX2_remove, cX2_remove, 12, some (.int))
theorem wcX2_remove : Cond.code mX2_remove.1 mX2_remove.2.1 mX2_remove.2.2.1 mX2_remove.2.2.2 ∈ xW0 := x_ix 204 (by decide +kernel) (by decide +kernel)
abbrev mX1_drop : xM := (yX1_drop, cX1_drop, 3, none)
theorem wcX1_drop : Cond.code mX1_drop.1 mX1_drop.2.1 mX1_drop.2.2.1 mX1_drop.2.2.2 ∈ xW0 := x_ix 208 (by decide +kernel) (by decide +kernel)
abbrev mX2_has : xM := (yX2_has, cX2_has, 11, some (.boolean))
theorem wcX2_has : Cond.code mX2_has.1 mX2_has.2.1 mX2_has.2.2.1 mX2_has.2.2.2 ∈ xW0 := x_ix 213 (by decide +kernel) (by decide +kernel)
abbrev mX2_seek : xM := (yX2_seek, cX2_seek, 9, none)
theorem wcX2_seek : Cond.code mX2_seek.1 mX2_seek.2.1 mX2_seek.2.2.1 mX2_seek.2.2.2 ∈ xW0 := x_ix 217 (by decide +kernel) (by decide +kernel)
abbrev mX2_moveCursor : xM := (yX2_moveCursor, cX2_moveCursor, 3, none)
theorem wcX2_moveCursor : Cond.code mX2_moveCursor.1 mX2_moveCursor.2.1 mX2_moveCursor.2.2.1 mX2_moveCursor.2.2.2 ∈ xW0 := x_ix 221 (by decide +kernel) (by decide +kernel)
abbrev mX2_first : xM := (yX2_first, cX2_first, 1, none)
theorem wcX2_first : Cond.code mX2_first.1 mX2_first.2.1 mX2_first.2.2.1 mX2_first.2.2.2 ∈ xW0 := x_ix 225 (by decide +kernel) (by decide +kernel)
abbrev mX2_last : xM := (yX2_last, cX2_last, 1, none)
theorem wcX2_last : Cond.code mX2_last.1 mX2_last.2.1 mX2_last.2.2.1 mX2_last.2.2.2 ∈ xW0 := x_ix 229 (by decide +kernel) (by decide +kernel)
abbrev mX2_next : xM := (yX2_next, cX2_next, 4, some (.boolean))
theorem wcX2_next : Cond.code mX2_next.1 mX2_next.2.1 mX2_next.2.2.1 mX2_next.2.2.2 ∈ xW0 := x_ix 233 (by decide +kernel) (by decide +kernel)
abbrev mX2_back : xM := (yX2_back, cX2_back, 5, some (.boolean))
theorem wcX2_back : Cond.code mX2_back.1 mX2_back.2.1 mX2_back.2.2.1 mX2_back.2.2.2 ∈ xW0 := x_ix 238 (by decide +kernel) (by decide +kernel)
abbrev mX2_leftmostPage : xM := (yX2_leftmostPage, cX2_leftmostPage, 2, some (.object "SideLinkTree$Page"))
theorem wcX2_leftmostPage : Cond.code mX2_leftmostPage.1 mX2_leftmostPage.2.1 mX2_leftmostPage.2.2.1 mX2_leftmostPage.2.2.2 ∈ xW0 := x_ix 242 (by decide +kernel) (by decide +kernel)
abbrev mX2_word : xM := (yX2_word, cX2_word, 2, some (.long))
theorem wcX2_word : Cond.code mX2_word.1 mX2_word.2.1 mX2_word.2.2.1 mX2_word.2.2.2 ∈ xW0 := x_ix 246 (by decide +kernel) (by decide +kernel)
abbrev mX2_place : xM := (yX2_place, cX2_place, 1, some (.int))
theorem wcX2_place : Cond.code mX2_place.1 mX2_place.2.1 mX2_place.2.2.1 mX2_place.2.2.2 ∈ xW0 := x_ix 250 (by decide +kernel) (by decide +kernel)
abbrev mX2_clear : xM := (yX2_clear, cX2_clear, 1, none)
theorem wcX2_clear : Cond.code mX2_clear.1 mX2_clear.2.1 mX2_clear.2.2.1 mX2_clear.2.2.2 ∈ xW0 := x_ix 254 (by decide +kernel) (by decide +kernel)
abbrev mX2_charge : xM := (yX2_charge, cX2_charge, 2, some (.boolean))
theorem wcX2_charge : Cond.code mX2_charge.1 mX2_charge.2.1 mX2_charge.2.2.1 mX2_charge.2.2.2 ∈ xW0 := x_ix 258 (by decide +kernel) (by decide +kernel)
abbrev mX2_count : xM := (yX2_count, cX2_count, 2, some (.int))
theorem wcX2_count : Cond.code mX2_count.1 mX2_count.2.1 mX2_count.2.2.1 mX2_count.2.2.2 ∈ xW0 := x_ix 262 (by decide +kernel) (by decide +kernel)
abbrev mX2_level : xM := (yX2_level, cX2_level, 6, some (.int))
theorem wcX2_level : Cond.code mX2_level.1 mX2_level.2.1 mX2_level.2.2.1 mX2_level.2.2.2 ∈ xW0 := x_ix 266 (by decide +kernel) (by decide +kernel)
abbrev mX3_init : xM := (yX3_init, cX3_init, 1, none)
theorem wcX3_init : Cond.code mX3_init.1 mX3_init.2.1 mX3_init.2.2.1 mX3_init.2.2.2 ∈ xW0 := x_ix 272 (by decide +kernel) (by decide +kernel)
abbrev mX3_clear : xM := (yX3_clear, cX3_clear, 1, none)
theorem wcX3_clear : Cond.code mX3_clear.1 mX3_clear.2.1 mX3_clear.2.2.1 mX3_clear.2.2.2 ∈ xW0 := x_ix 277 (by decide +kernel) (by decide +kernel)
abbrev mX3_addPage : xM := (yX3_addPage, cX3_addPage, 3, none)
theorem wcX3_addPage : Cond.code mX3_addPage.1 mX3_addPage.2.1 mX3_addPage.2.2.1 mX3_addPage.2.2.2 ∈ xW0 := x_ix 281 (by decide +kernel) (by decide +kernel)
abbrev mX3_first : xM := (yX3_first, cX3_first, 1, none)
theorem wcX3_first : Cond.code mX3_first.1 mX3_first.2.1 mX3_first.2.2.1 mX3_first.2.2.2 ∈ xW0 := x_ix 285 (by decide +kernel) (by decide +kernel)
abbrev mX3_charge : xM := (yX3_charge, cX3_charge, 2, some (.boolean))
theorem wcX3_charge : Cond.code mX3_charge.1 mX3_charge.2.1 mX3_charge.2.2.1 mX3_charge.2.2.2 ∈ xW0 := x_ix 362 (by decide +kernel) (by decide +kernel)
abbrev mX3_add : xM := (yX3_add, cX3_add, 14, some (.int))
theorem wcX3_add : Cond.code mX3_add.1 mX3_add.2.1 mX3_add.2.2.1 mX3_add.2.2.2 ∈ xW0 := x_ix 366 (by decide +kernel) (by decide +kernel)
abbrev mX3_numbered : xM := (yX3_numbered, cX3_numbered, 10, some (.int))
theorem wcX3_numbered : Cond.code mX3_numbered.1 mX3_numbered.2.1 mX3_numbered.2.2.1 mX3_numbered.2.2.2 ∈ xW0 := x_ix 370 (by decide +kernel) (by decide +kernel)
abbrev mX3_itemOf : xM := (yX3_itemOf, cX3_itemOf, 3, some (.int))
theorem wcX3_itemOf : Cond.code mX3_itemOf.1 mX3_itemOf.2.1 mX3_itemOf.2.2.1 mX3_itemOf.2.2.2 ∈ xW0 := x_ix 374 (by decide +kernel) (by decide +kernel)
abbrev mX3_order : xM := (yX3_order, cX3_order, 4, some (.int))
theorem wcX3_order : Cond.code mX3_order.1 mX3_order.2.1 mX3_order.2.2.1 mX3_order.2.2.2 ∈ xW0 := x_ix 378 (by decide +kernel) (by decide +kernel)
abbrev mX3_unsigned : xM := (yX3_unsigned, cX3_unsigned, 4, some (.int))
theorem wcX3_unsigned : Cond.code mX3_unsigned.1 mX3_unsigned.2.1 mX3_unsigned.2.2.1 mX3_unsigned.2.2.2 ∈ xW0 := x_ix 381 (by decide +kernel) (by decide +kernel)
abbrev mX3_plan : xM := (yX3_plan, cX3_plan, 5, some (.int))
theorem wcX3_plan : Cond.code mX3_plan.1 mX3_plan.2.1 mX3_plan.2.2.1 mX3_plan.2.2.2 ∈ xW0 := x_ix 386 (by decide +kernel) (by decide +kernel)
abbrev mX3_inCharge : xM := (yX3_inCharge, cX3_inCharge, 5, some (.int))
theorem wcX3_inCharge : Cond.code mX3_inCharge.1 mX3_inCharge.2.1 mX3_inCharge.2.2.1 mX3_inCharge.2.2.2 ∈ xW0 := x_ix 390 (by decide +kernel) (by decide +kernel)
abbrev mX3_filled : xM := (yX3_filled, cX3_filled, 4, some (.int))
theorem wcX3_filled : Cond.code mX3_filled.1 mX3_filled.2.1 mX3_filled.2.2.1 mX3_filled.2.2.2 ∈ xW0 := x_ix 394 (by decide +kernel) (by decide +kernel)
abbrev mX3_sixth : xM := (yX3_sixth, cX3_sixth, 5, some (.int))
theorem wcX3_sixth : Cond.code mX3_sixth.1 mX3_sixth.2.1 mX3_sixth.2.2.1 mX3_sixth.2.2.2 ∈ xW0 := x_ix 398 (by decide +kernel) (by decide +kernel)
abbrev mX3_perform : xM := (yX3_perform, cX3_perform, 6, some (.boolean))
theorem wcX3_perform : Cond.code mX3_perform.1 mX3_perform.2.1 mX3_perform.2.2.1 mX3_perform.2.2.2 ∈ xW0 := x_ix 402 (by decide +kernel) (by decide +kernel)
abbrev mX3_split : xM := (yX3_split, cX3_split, 4, some (.boolean))
theorem wcX3_split : Cond.code mX3_split.1 mX3_split.2.1 mX3_split.2.2.1 mX3_split.2.2.2 ∈ xW0 := x_ix 406 (by decide +kernel) (by decide +kernel)
abbrev mX3_set : xM := (yX3_set, cX3_set, 2, some (.boolean))
theorem wcX3_set : Cond.code mX3_set.1 mX3_set.2.1 mX3_set.2.2.1 mX3_set.2.2.2 ∈ xW0 := x_ix 410 (by decide +kernel) (by decide +kernel)
abbrev mX3_addItem : xM := (yX3_addItem, cX3_addItem, 3, none)
theorem wcX3_addItem : Cond.code mX3_addItem.1 mX3_addItem.2.1 mX3_addItem.2.2.1 mX3_addItem.2.2.2 ∈ xW0 := x_ix 414 (by decide +kernel) (by decide +kernel)
abbrev mX3_enter : xM := (yX3_enter, cX3_enter, 4, some (.boolean))
theorem wcX3_enter : Cond.code mX3_enter.1 mX3_enter.2.1 mX3_enter.2.2.1 mX3_enter.2.2.2 ∈ xW0 := x_ix 418 (by decide +kernel) (by decide +kernel)
abbrev mX3_remove : xM := (yX3_remove, cX3_remove, 12, some (.int))
theorem wcX3_remove : Cond.code mX3_remove.1 mX3_remove.2.1 mX3_remove.2.2.1 mX3_remove.2.2.2 ∈ xW0 := x_ix 422 (by decide +kernel) (by decide +kernel)
abbrev mX3_has : xM := (yX3_has, cX3_has, 10, some (.boolean))
theorem wcX3_has : Cond.code mX3_has.1 mX3_has.2.1 mX3_has.2.2.1 mX3_has.2.2.2 ∈ xW0 := x_ix 426 (by decide +kernel) (by decide +kernel)
abbrev mX3_seek : xM := (yX3_seek, cX3_seek, 9, none)
theorem wcX3_seek : Cond.code mX3_seek.1 mX3_seek.2.1 mX3_seek.2.2.1 mX3_seek.2.2.2 ∈ xW0 := x_ix 431 (by decide +kernel) (by decide +kernel)
abbrev mX3_stand : xM := (yX3_stand, cX3_stand, 3, none)
theorem wcX3_stand : Cond.code mX3_stand.1 mX3_stand.2.1 mX3_stand.2.2.1 mX3_stand.2.2.2 ∈ xW0 := x_ix 435 (by decide +kernel) (by decide +kernel)
abbrev mX3_last : xM := (yX3_last, cX3_last, 1, none)
theorem wcX3_last : Cond.code mX3_last.1 mX3_last.2.1 mX3_last.2.2.1 mX3_last.2.2.2 ∈ xW0 := x_ix 440 (by decide +kernel) (by decide +kernel)
abbrev mX3_next : xM := (yX3_next, cX3_next, 3, some (.boolean))
theorem wcX3_next : Cond.code mX3_next.1 mX3_next.2.1 mX3_next.2.2.1 mX3_next.2.2.2 ∈ xW0 := x_ix 444 (by decide +kernel) (by decide +kernel)
abbrev mX3_behind : xM := (yX3_behind, cX3_behind, 3, some (.boolean))
theorem wcX3_behind : Cond.code mX3_behind.1 mX3_behind.2.1 mX3_behind.2.2.1 mX3_behind.2.2.2 ∈ xW0 := x_ix 448 (by decide +kernel) (by decide +kernel)
abbrev mX3_back : xM := (yX3_back, cX3_back, 3, some (.boolean))
theorem wcX3_back : Cond.code mX3_back.1 mX3_back.2.1 mX3_back.2.2.1 mX3_back.2.2.2 ∈ xW0 := x_ix 452 (by decide +kernel) (by decide +kernel)
abbrev mX3_word : xM := (yX3_word, cX3_word, 2, some (.long))
theorem wcX3_word : Cond.code mX3_word.1 mX3_word.2.1 mX3_word.2.2.1 mX3_word.2.2.2 ∈ xW0 := x_ix 456 (by decide +kernel) (by decide +kernel)
abbrev mX3_place : xM := (yX3_place, cX3_place, 1, some (.int))
theorem wcX3_place : Cond.code mX3_place.1 mX3_place.2.1 mX3_place.2.2.1 mX3_place.2.2.2 ∈ xW0 := x_ix 460 (by decide +kernel) (by decide +kernel)
abbrev mX3_count : xM := (yX3_count, cX3_count, 2, some (.int))
theorem wcX3_count : Cond.code mX3_count.1 mX3_count.2.1 mX3_count.2.2.1 mX3_count.2.2.2 ∈ xW0 := x_ix 464 (by decide +kernel) (by decide +kernel)
abbrev mX3_entriesOf : xM := (yX3_entriesOf, cX3_entriesOf, 4, some (.int))
theorem wcX3_entriesOf : Cond.code mX3_entriesOf.1 mX3_entriesOf.2.1 mX3_entriesOf.2.2.1 mX3_entriesOf.2.2.2 ∈ xW0 := x_ix 468 (by decide +kernel) (by decide +kernel)
abbrev mX3_level : xM := (yX3_level, cX3_level, 6, some (.int))
theorem wcX3_level : Cond.code mX3_level.1 mX3_level.2.1 mX3_level.2.2.1 mX3_level.2.2.2 ∈ xW0 := x_ix 472 (by decide +kernel) (by decide +kernel)
abbrev mX3_leftOf : xM := (yX3_leftOf, cX3_leftOf, 4, some (.int))
theorem wcX3_leftOf : Cond.code mX3_leftOf.1 mX3_leftOf.2.1 mX3_leftOf.2.2.1 mX3_leftOf.2.2.2 ∈ xW0 := x_ix 476 (by decide +kernel) (by decide +kernel)
theorem wiL : Cond.initialized RL ∈ xW0 := x_ix 0 (by decide +kernel) (by decide +kernel)
theorem wiX2 : Cond.initialized RX2 ∈ xW0 := x_ix 1 (by decide +kernel) (by decide +kernel)
theorem wiX0 : Cond.initialized RX0 ∈ xW0 := x_ix 2 (by decide +kernel) (by decide +kernel)
theorem wiX1 : Cond.initialized RX1 ∈ xW0 := x_ix 3 (by decide +kernel) (by decide +kernel)
theorem wiX3 : Cond.initialized RX3 ∈ xW0 := x_ix 4 (by decide +kernel) (by decide +kernel)
theorem wiJ13 : Cond.initialized RJ13 ∈ xW0 := x_ix 5 (by decide +kernel) (by decide +kernel)
theorem wiJ6 : Cond.initialized RJ6 ∈ xW0 := x_ix 6 (by decide +kernel) (by decide +kernel)
end
section
/-! THE LAYER: an abstract machine over the machine. A heap is a number (the next address) and a partial map from addresses to cells; address 0 is null, 1 the law's script, from 2 on what was made since the law began. x_E: from this pc, with these locals, stack and heap, the method comes to its return with Q. x_Con: a method's contract. -/
abbrev xC : Type := (Nat × List Value) ⊕ (Nat × List Value)
abbrev xH : Type := Nat × (Nat → Option xC)
abbrev xG : Type := Nat × Nat × Cell × va_G × (Nat → ClassId)
def x_am (G : xG) : Nat → Value
  | 0 => .null
  | 1 => .ref G.1
  | a + 2 => .ref (G.2.1 + a)
def x_sh (G : xG) : Value → Value
  | .ref a => x_am G a
  | .int x => .int x
  | .long x => .long x
  | v => v
def x_sp (G : xG) (q : Nat × Value) : Nat × Value := (q.1, x_sh G q.2)
theorem x_cat (G : xG) (v : Value) : (x_sh G v).category = v.category := by
  cases v with
  | ref a =>
    match a with
    | 0 => rfl
    | 1 => rfl
    | a + 2 => rfl
  | _ => rfl
theorem x_null (G : xG) : x_sh G .null = .null := rfl
theorem x_getD (G : xG) (vs : List Value) (k : Nat) : (vs.map (x_sh G)).getD k .null = x_sh G (vs.getD k .null) := by
  simp only [List.getD_eq_getElem?_getD, List.getElem?_map]
  cases vs[k]? <;> rfl
def x_at (G : xG) (H : Heap) (a : Nat) (c : xC) : Prop := match c with
  | .inl q => q.2.length < 2147483648 ∧ H[G.2.1 + (a - 2)]? = some (arrV (G.2.2.2.2 q.1) q.2.length (fun j => x_sh G (q.2.getD j .null)))
  | .inr q => ∃ r : vw_C, xCl[q.1]? = some r ∧ q.2.length = r.2.2 ∧ t_OB (G.2.1 + (a - 2)) (G.2.2.2.1.1 q.1) r.2.2 (G.2.2.2.1.2 q.1) H (fun k => x_sh G (q.2.getD k .null))
theorem x_at.kept {G : xG} {H H' : Heap} {a : Nat} {c : xC} (h : x_at G H a c) (e : H'[G.2.1 + (a - 2)]? = H[G.2.1 + (a - 2)]?) : x_at G H' a c := by
  cases c with
  | inl q => exact ⟨h.1, e.trans h.2⟩
  | inr q =>
    obtain ⟨r, h1, h2, h3⟩ := h
    exact ⟨r, h1, h2, h3.kept e⟩
def x_scr (G : xG) (c : xC) : Prop := ∃ xs : List Int32, c = .inl (5, xs.map Value.int) ∧ G.2.2.1.slots.size = xs.length ∧ xs.length < 2147483648 ∧ ∀ j, j < xs.length → G.2.2.1.slots[j]? = some (.int (xs.getD j 0))
def x_nk (c : xC) : Prop := match c with
  | .inl q => q.1 < 5
  | .inr _ => True
def x_Ho (G : xG) (h : xH) (H : Heap) : Prop := H.size + 2 = G.2.1 + h.1 ∧ 2 ≤ h.1 ∧ H[G.1]? = some G.2.2.1 ∧ ∀ (a : Nat) (c : xC), h.2 a = some c → (a = 1 ∧ x_scr G c) ∨ (2 ≤ a ∧ a < h.1 ∧ x_at G H a c)
def x_up (h : xH) (a : Nat) (c : xC) : xH := (h.1, fun q => if q = a then some c else h.2 q)
def x_nw (h : xH) (c : xC) : xH := (h.1 + 1, fun q => if q = h.1 then some c else h.2 q)
theorem x_Ho.at {G : xG} {h : xH} {H : Heap} {a : Nat} {c : xC} (ho : x_Ho G h H) (ha : h.2 a = some c) (hn : x_nk c) : 2 ≤ a ∧ a < h.1 ∧ x_at G H a c := by
  rcases ho.2.2.2 a c ha with ⟨-, xs, rfl, -⟩ | h
  · exact absurd hn (Nat.lt_irrefl 5)
  · exact h
theorem x_Ho.put {G : xG} {h : xH} {H H' : Heap} {a : Nat} {c c0 : xC} (hg : G.1 < G.2.1) (ho : x_Ho G h H) (ha : h.2 a = some c0) (hn : x_nk c0) (z : H'.size = H.size) (o : ∀ q : Nat, q ≠ G.2.1 + (a - 2) → H'[q]? = H[q]?) (hc : x_at G H' a c) : x_Ho G (x_up h a c) H' := by
  obtain ⟨a2, al, -⟩ := ho.at ha hn
  obtain ⟨h1, h2, h3, h4⟩ := ho
  refine ⟨by rw [z]; exact h1, h2, by rw [o _ (by omega)]; exact h3, fun b x hb => ?_⟩
  by_cases e : b = a
  · subst e
    simp only [x_up, if_true] at hb
    cases hb
    exact Or.inr ⟨a2, al, hc⟩
  · simp only [x_up, if_neg e] at hb
    rcases h4 b x hb with h5 | ⟨q1, q2, q3⟩
    · exact Or.inl h5
    · exact Or.inr ⟨q1, q2, q3.kept (o _ (by omega))⟩
theorem x_Ho.new {G : xG} {h : xH} {H H' : Heap} {c : xC} (hg : G.1 < G.2.1) (ho : x_Ho G h H) (z : H'.size = H.size + 1) (o : ∀ q : Nat, q < H.size → H'[q]? = H[q]?) (hc : x_at G H' h.1 c) : x_Ho G (x_nw h c) H' := by
  obtain ⟨h1, h2, h3, h4⟩ := ho
  have hlt : G.1 < H.size := (Array.getElem?_eq_some_iff.mp h3).1
  refine ⟨by show H'.size + 2 = G.2.1 + (h.1 + 1); omega, by show 2 ≤ h.1 + 1; omega, by rw [o _ hlt]; exact h3, fun b x hb => ?_⟩
  by_cases e : b = h.1
  · subst e
    simp only [x_nw, if_true] at hb
    cases hb
    exact Or.inr ⟨h2, by show h.1 < h.1 + 1; omega, hc⟩
  · simp only [x_nw, if_neg e] at hb
    rcases h4 b x hb with h5 | ⟨q1, q2, q3⟩
    · exact Or.inl h5
    · exact Or.inr ⟨q1, by show b < h.1 + 1; omega, q3.kept (o _ (by omega))⟩
def x_K (G : xG) (U : State) : Prop := (va_K G.2.2.2.1 xCl [] U ∧ U.isArrayOf G.2.2.1 .int ∧ G.2.2.1.vm ≠ .unknown) ∧ ∀ (k : Nat) (ty : FieldType), xTy[k]? = some ty → ArrOfT U (G.2.2.2.2 k) ty ∧ va_RA U (G.2.2.2.2 k) ty ∧ ∀ C : String, ty = .object C → va_AO C U
theorem x_K.moved {G : xG} {u U : State} (hvm : u.vm.Alike U.vm) (h : x_K G u) : x_K G U :=
  ⟨⟨h.1.1.moved hvm, State.isArrayOf_alike hvm h.1.2.1, h.1.2.2⟩, fun k ty hk => ⟨arrOfT_moved hvm (h.2 k ty hk).1, (h.2 k ty hk).2.1.moved hvm, fun C e => ((h.2 k ty hk).2.2 C e).moved hvm⟩⟩
def x_ws (y : xM) : List Cond := .code y.1 y.2.1 y.2.2.1 y.2.2.2 :: xW0
def x_Cx (G : xG) (y : xM) (d : Nat) (p : Program) (R : Room) (s : State) (m : MethodId) (args : Array Value) (meth : Method) (c : Code) : Prop :=
  p.tables.exec = Jvm.exec ∧ c.code = y.2.1 ∧ meth.sig.returnType = y.2.2.2 ∧ c.maxLocals = y.2.2.1 ∧ s.vm.findClass y.1.cls = some m.cls ∧ (∀ w ∈ xW0, w.before args s = true) ∧ x_K G s ∧ meth.locks = false ∧ meth.name = y.1.name ∧ d ≤ R.frames ∧ d * 64 ≤ R.locals ∧ G.1 < G.2.1
def x_rk (y : xM) (pc : Nat) (rv : List Value) : Prop :=
  (rv = [] ∧ y.2.2.2 = none ∧ decode y.2.1 pc = .ok (.return_, 1)) ∨ (∃ (v : Int32) (ty : FieldType), rv = [.int v] ∧ y.2.2.2 = some ty ∧ narrow ty (.int v) = .int v ∧ decode y.2.1 pc = .ok (.ireturn, 1)) ∨
  (∃ v : Int64, rv = [.long v] ∧ y.2.2.2 = some .long ∧ decode y.2.1 pc = .ok (.lreturn, 1)) ∨ (∃ (a : Nat) (rt : FieldType), rv = [.ref a] ∧ y.2.2.2 = some rt ∧ ((∃ n, rt = .object n) ∨ ∃ t, rt = .array t) ∧ decode y.2.1 pc = .ok (.areturn, 1))
def x_Rt (G : xG) (y : xM) (p : Program) (la : Launch) (e : Env) (R : Room) (s : State) (m : MethodId) (args : Array Value) (below : List Frame) (meth : Method) (c : Code) (Fin : State → Prop) (mc ms : Nat) (Q : List Value → xH → Prop) : Prop :=
  ∀ (rv : List Value) (h : xH) (H : Heap) (locs : List Loc) (pc : Nat) (ls : Array Slot), Q rv h → x_Ho G h H → (∀ q ∈ locs, G.2.1 ≤ q.base) → x_rk y pc rv → W p la e R s m args below meth c H locs mc ms Fin (F0 m pc ls (rv.map (x_sh G)))
def x_E (y : xM) (d kc ks pc : Nat) (l : List (Nat × Value)) (st : List Value) (h : xH) (Q : List Value → xH → Prop) : Prop :=
  ∀ (G : xG) (p : Program) (la : Launch) (e : Env) (R : Room) (s : State) (m : MethodId) (args : Array Value) (below : List Frame) (meth : Method) (c : Code) (Fin : State → Prop) (mc ms : Nat),
    x_Cx G y d p R s m args meth c → x_Rt G y p la e R s m args below meth c Fin mc ms Q → mc ≤ R.cells → ms ≤ R.slots →
    ∀ (H : Heap) (locs : List Loc) (cells slots : Nat) (ls : Array Slot), x_Ho G h H → lv_has ls y.2.2.1 (l.map (x_sp G)) → (∀ q ∈ locs, G.2.1 ≤ q.base) → cells + kc ≤ mc → slots + ks ≤ ms →
      W p la e R s m args below meth c H locs cells slots Fin (F0 m pc ls (st.map (x_sh G)))
def x_Con (y : xM) (d mc ms : Nat) (as : List Value) (h : xH) (Q : List Value → xH → Prop) : Prop :=
  ∀ (G : xG) (la : Launch), G.1 < G.2.1 → Met la y.1 (x_ws y) { frames := d, cells := mc, slots := ms, locals := d * 64 } (fun v U => v = (as.map (x_sh G)).toArray ∧ x_Ho G h U.heap ∧ x_K G U)
    (fun _ _ o t => ∃ (rv : List Value) (h' : xH), o = .returned (rv.map (x_sh G)).head? ∧ rv.length ≤ 1 ∧ Q rv h' ∧ x_Ho G h' t.heap) mc ms (fun q => G.2.1 ≤ q)
/-- fewer demands behind -/
theorem x_E.mono {y : xM} {d kc ks pc : Nat} {l : List (Nat × Value)} {st : List Value} {h : xH} {Q Q' : List Value → xH → Prop} (hq : ∀ rv h, Q rv h → Q' rv h) (k : x_E y d kc ks pc l st h Q) : x_E y d kc ks pc l st h Q' :=
  fun G p la e R s m args below meth c Fin mc ms C rt hmc hms => k G p la e R s m args below meth c Fin mc ms C (fun rv h' H locs pc ls q => rt rv h' H locs pc ls (hq rv h' q)) hmc hms
theorem x_Con.mono {y : xM} {d mc ms : Nat} {as : List Value} {h : xH} {Q Q' : List Value → xH → Prop} (hq : ∀ rv h, Q rv h → Q' rv h) (k : x_Con y d mc ms as h Q) : x_Con y d mc ms as h Q' := by
  intro G la hg p e ha hc hk s m args below hf hap hP hT
  obtain ⟨n, o, h1, h2, h3, ⟨rv, h', q1, q2, q3, q4⟩, h4⟩ := k G la hg p e ha hc hk s m args below hf hap hP hT
  exact ⟨n, o, h1, h2, h3, ⟨rv, h', q1, q2, hq _ _ q3, q4⟩, h4⟩
theorem x_lgl (G : xG) (as : List Value) : (lg_sl (as.map (x_sh G))).length = (lg_sl as).length := by
  induction as with
  | nil => rfl
  | cons v t ih =>
    simp only [lg_sl, List.map_cons, List.flatMap_cons, List.length_append] at ih ⊢
    rw [x_cat, ih]
    split <;> rfl
theorem x_args (G : xG) (as : List Value) : ∀ i : Nat, lv_args i (as.map (x_sh G)) = (lv_args i as).map (x_sp G) := by
  induction as with
  | nil => intro i; rfl
  | cons v t ih =>
    intro i
    show (i, x_sh G v) :: lv_args _ (t.map (x_sh G)) = (i, x_sh G v) :: (lv_args _ t).map (x_sp G)
    rw [x_cat, ih]
theorem x_ref (G : xG) (a : Nat) : x_sh G (.ref a) = .null ∨ ∃ b, x_sh G (.ref a) = .ref b := by
  match a with
  | 0 => exact Or.inl rfl
  | 1 => exact Or.inr ⟨_, rfl⟩
  | a + 2 => exact Or.inr ⟨_, rfl⟩
/-- a body gives a contract -/
theorem e_enter {y : xM} {d mc ms : Nat} {as : List Value} {h : xH} {Q : List Value → xH → Prop} (hpl : plainName y.1.cls = true) (hL : (lg_sl as).length ≤ y.2.2.1) (k : x_E y d mc ms 0 (lv_args 0 as) [] h Q) : x_Con y d mc ms as h Q := by
  intro G la hg
  refine Met.ofW (cc := y.2.1) (maxL := y.2.2.1) (ret := y.2.2.2) hpl rfl ?_
  intro p e s m args below meth c s₁ B hml hv
  obtain ⟨rfl, ho, hK⟩ := hv
  have hlocks := B.notSynchronized
  have C : x_Cx G y d p (headSpec (x_ws y) { frames := d, cells := mc, slots := ms, locals := d * 64 }).room s m (as.map (x_sh G)).toArray meth c :=
    ⟨B.exec, B.bytes, B.returns, hml, findClass_of_methodNamed B.named, fun w hw => atoms_spec (ws := x_ws y) B.pre w (List.mem_cons_of_mem _ hw), hK, hlocks, (name_of_methodNamed B.named B.method).1, Nat.le_refl _, Nat.le_refl _, hg⟩
  have hl := lv_entry (as.map (x_sh G)) (n := y.2.2.1) (by rw [x_lgl]; exact hL)
  rw [lg_entry_eq]
  rw [x_args] at hl
  refine k G p la e _ s m _ below meth c _ mc ms C ?_ (Nat.le_refl _) (Nat.le_refl _) s.heap [] 0 0 _ ho hl (fun _ h => by cases h) (by omega) (by omega)
  intro rv h' H locs pc ls hq hho hlo hrk
  have hr := C.2.2.1
  rcases hrk with ⟨rfl, e1, e2⟩ | ⟨v, ty, rfl, e1, e2, e3⟩ | ⟨v, rfl, e1, e2⟩ | ⟨a, rt, rfl, e1, e2, e3⟩
  · exact W.vret C.1 C.2.1 (hr.trans e1) (fun t ht hW => ⟨[], h', rfl, Nat.zero_le _, hq, by rw [ht]; exact hho⟩) hlo e2
  · exact W.zret C.1 C.2.1 (hr.trans e1) e2 (fun t ht hW => ⟨[.int v], h', rfl, Nat.le_refl _, hq, by rw [ht]; exact hho⟩) hlo e3
  · exact W.lret C.1 C.2.1 (hr.trans e1) (fun t ht hW => ⟨[.long v], h', rfl, Nat.le_refl _, hq, by rw [ht]; exact hho⟩) hlo e2
  · exact W.aret C.1 C.2.1 (hr.trans e1) e2 (x_ref G a) (fun t ht hW => ⟨[.ref a], h', rfl, Nat.le_refl _, hq, by rw [ht]; exact hho⟩) hlo e3
section XR
variable {y : xM} {d kc ks pc : Nat} {l : List (Nat × Value)} {st : List Value} {h : xH} {Q : List Value → xH → Prop}
def x_lk : List (Nat × Value) → Nat → Option Value
  | [], _ => none
  | q :: t, i => bif Nat.beq q.1 i then some q.2 else x_lk t i
theorem x_lk_in {i : Nat} {v : Value} : ∀ {l : List (Nat × Value)}, x_lk l i = some v → (i, v) ∈ l := by
  intro l
  induction l with
  | nil => intro h; cases h
  | cons q t ih =>
    intro h
    unfold x_lk at h
    cases hb : Nat.beq q.1 i with
    | true =>
      rw [hb] at h
      simp only [cond_true] at h
      have e : q.1 = i := Nat.eq_of_beq_eq_true hb
      have e2 : q.2 = v := Option.some.inj h
      rw [← e, ← e2]
      exact List.mem_cons_self
    | false =>
      rw [hb] at h
      simp only [cond_false] at h
      exact List.mem_cons_of_mem _ (ih h)
theorem x_ld {G : xG} {ls : Array Slot} {n i : Nat} {v : Value} (h : lv_has ls n (l.map (x_sp G))) (hk : x_lk l i = some v) : ls[i]? = some (.val (x_sh G v)) := h.2.2 (i, x_sh G v) (List.mem_map.mpr ⟨_, x_lk_in hk, rfl⟩)
def x_s1 (l : List (Nat × Value)) (i : Nat) (v : Value) : List (Nat × Value) := (i, v) :: l.filter (fun q => !(q.1 == i) && !(q.1 + 1 == i && q.2.category == 2))
def x_s2 (l : List (Nat × Value)) (i : Nat) (v : Value) : List (Nat × Value) := (i, v) :: l.filter (fun q => !(q.1 == i) && (!(q.1 == i + 1) && !(q.1 + 1 == i && q.2.category == 2)))
theorem x_s1m (G : xG) (l : List (Nat × Value)) (i : Nat) (v : Value) : (i, x_sh G v) :: (l.map (x_sp G)).filter (fun q => !(q.1 == i) && !(q.1 + 1 == i && q.2.category == 2)) = (x_s1 l i v).map (x_sp G) := by
  simp only [x_s1, List.map_cons, List.filter_map, x_sp]
  congr 3
  funext q
  simp only [Function.comp, x_sp, x_cat]
theorem x_s2m (G : xG) (l : List (Nat × Value)) (i : Nat) (v : Value) : (i, x_sh G v) :: (l.map (x_sp G)).filter (fun q => !(q.1 == i) && (!(q.1 == i + 1) && !(q.1 + 1 == i && q.2.category == 2))) = (x_s2 l i v).map (x_sp G) := by
  simp only [x_s2, List.map_cons, List.filter_map, x_sp]
  congr 3
  funext q
  simp only [Function.comp, x_sp, x_cat]
theorem e_iconst {n : Int} {v : Int32} (hd : decode y.2.1 pc = .ok (.iconst n, 1)) (hv : Int32.ofInt n = v) (k : x_E y d kc ks (pc + 1) l (.int v :: st) h Q) : x_E y d kc ks pc l (st) h Q :=
  fun G p la e R s m args below meth c Fin mc ms C rt hmc hms H locs cells slots ls ho hl hq h1 h2 => lv_iconst C.1 C.2.1 hd hv (k G p la e R s m args below meth c Fin mc ms C rt hmc hms H locs cells slots ls ho hl hq h1 h2)
theorem e_bipush {n : Int} {v : Int32} (hd : decode y.2.1 pc = .ok (.bipush n, 2)) (hv : (Int8.ofInt n).toInt32 = v) (k : x_E y d kc ks (pc + 2) l (.int v :: st) h Q) : x_E y d kc ks pc l (st) h Q :=
  fun G p la e R s m args below meth c Fin mc ms C rt hmc hms H locs cells slots ls ho hl hq h1 h2 => lv_bipush C.1 C.2.1 hd hv (k G p la e R s m args below meth c Fin mc ms C rt hmc hms H locs cells slots ls ho hl hq h1 h2)
theorem e_sipush {n : Int} {v : Int32} (hd : decode y.2.1 pc = .ok (.sipush n, 3)) (hv : (Int16.ofInt n).toInt32 = v) (k : x_E y d kc ks (pc + 3) l (.int v :: st) h Q) : x_E y d kc ks pc l (st) h Q :=
  fun G p la e R s m args below meth c Fin mc ms C rt hmc hms H locs cells slots ls ho hl hq h1 h2 => lv_sipush C.1 C.2.1 hd hv (k G p la e R s m args below meth c Fin mc ms C rt hmc hms H locs cells slots ls ho hl hq h1 h2)
theorem e_lconst {n : Fin 2} {v : Int64} (hd : decode y.2.1 pc = .ok (.lconst n, 1)) (hv : Int64.ofNat (n : Nat) = v) (k : x_E y d kc ks (pc + 1) l (.long v :: st) h Q) : x_E y d kc ks pc l (st) h Q :=
  fun G p la e R s m args below meth c Fin mc ms C rt hmc hms H locs cells slots ls ho hl hq h1 h2 => lv_lconst C.1 C.2.1 hd hv (k G p la e R s m args below meth c Fin mc ms C rt hmc hms H locs cells slots ls ho hl hq h1 h2)
theorem e_null (hd : decode y.2.1 pc = .ok (.aconst_null, 1)) (k : x_E y d kc ks (pc + 1) l (.ref 0 :: st) h Q) : x_E y d kc ks pc l (st) h Q :=
  fun G p la e R s m args below meth c Fin mc ms C rt hmc hms H locs cells slots ls ho hl hq h1 h2 => lv_null C.1 C.2.1 hd (k G p la e R s m args below meth c Fin mc ms C rt hmc hms H locs cells slots ls ho hl hq h1 h2)
theorem e_iload_n {k4 : Fin 4} {x : Int32} (hd : decode y.2.1 pc = .ok (.iload_n k4, 1)) (hx : x_lk l k4.val = some (.int x)) (k : x_E y d kc ks (pc + 1) l (.int x :: st) h Q) : x_E y d kc ks pc l (st) h Q :=
  fun G p la e R s m args below meth c Fin mc ms C rt hmc hms H locs cells slots ls ho hl hq h1 h2 => lv_iload_n C.1 C.2.1 hd rfl (x_ld hl hx) (k G p la e R s m args below meth c Fin mc ms C rt hmc hms H locs cells slots ls ho hl hq h1 h2)
theorem e_iload {i : Nat} {x : Int32} (hd : decode y.2.1 pc = .ok (.iload i, 2)) (hx : x_lk l i = some (.int x)) (k : x_E y d kc ks (pc + 2) l (.int x :: st) h Q) : x_E y d kc ks pc l (st) h Q :=
  fun G p la e R s m args below meth c Fin mc ms C rt hmc hms H locs cells slots ls ho hl hq h1 h2 => lv_iload C.1 C.2.1 hd (x_ld hl hx) (k G p la e R s m args below meth c Fin mc ms C rt hmc hms H locs cells slots ls ho hl hq h1 h2)
theorem e_lload_n {k4 : Fin 4} {x : Int64} (hd : decode y.2.1 pc = .ok (.lload_n k4, 1)) (hx : x_lk l k4.val = some (.long x)) (k : x_E y d kc ks (pc + 1) l (.long x :: st) h Q) : x_E y d kc ks pc l (st) h Q :=
  fun G p la e R s m args below meth c Fin mc ms C rt hmc hms H locs cells slots ls ho hl hq h1 h2 => lv_lload_n C.1 C.2.1 hd rfl (x_ld hl hx) (k G p la e R s m args below meth c Fin mc ms C rt hmc hms H locs cells slots ls ho hl hq h1 h2)
theorem e_lload {i : Nat} {x : Int64} (hd : decode y.2.1 pc = .ok (.lload i, 2)) (hx : x_lk l i = some (.long x)) (k : x_E y d kc ks (pc + 2) l (.long x :: st) h Q) : x_E y d kc ks pc l (st) h Q :=
  fun G p la e R s m args below meth c Fin mc ms C rt hmc hms H locs cells slots ls ho hl hq h1 h2 => lv_lload C.1 C.2.1 hd (x_ld hl hx) (k G p la e R s m args below meth c Fin mc ms C rt hmc hms H locs cells slots ls ho hl hq h1 h2)
theorem e_aload_n {k4 : Fin 4} {x : Nat} (hd : decode y.2.1 pc = .ok (.aload_n k4, 1)) (hx : x_lk l k4.val = some (.ref x)) (k : x_E y d kc ks (pc + 1) l (.ref x :: st) h Q) : x_E y d kc ks pc l st h Q := by
  intro G p la e R s m args below meth c Fin mc ms C rt hmc hms H locs cells slots ls ho hl hq h1 h2
  have hk := k G p la e R s m args below meth c Fin mc ms C rt hmc hms H locs cells slots ls ho hl hq h1 h2
  have hy := x_ld hl hx
  match x, hk, hy with
  | 0, hk, hy => exact lv_aload_nN C.1 C.2.1 hd rfl hy hk
  | 1, hk, hy => exact lv_aload_n C.1 C.2.1 hd rfl hy hk
  | a + 2, hk, hy => exact lv_aload_n C.1 C.2.1 hd rfl hy hk
theorem e_aload {i : Nat} {x : Nat} (hd : decode y.2.1 pc = .ok (.aload i, 2)) (hx : x_lk l i = some (.ref x)) (k : x_E y d kc ks (pc + 2) l (.ref x :: st) h Q) : x_E y d kc ks pc l st h Q := by
  intro G p la e R s m args below meth c Fin mc ms C rt hmc hms H locs cells slots ls ho hl hq h1 h2
  have hk := k G p la e R s m args below meth c Fin mc ms C rt hmc hms H locs cells slots ls ho hl hq h1 h2
  have hy := x_ld hl hx
  match x, hk, hy with
  | 0, hk, hy => exact lv_aloadN C.1 C.2.1 hd hy hk
  | 1, hk, hy => exact lv_aload C.1 C.2.1 hd hy hk
  | a + 2, hk, hy => exact lv_aload C.1 C.2.1 hd hy hk
theorem e_istore_n {k4 : Fin 4} {x : Int32} {l' : List (Nat × Value)} (hd : decode y.2.1 pc = .ok (.istore_n k4, 1)) (hn : k4.val < y.2.2.1) (hs : x_s1 l k4.val (.int x) = l') (k : x_E y d kc ks (pc + 1) l' st h Q) : x_E y d kc ks pc l (.int x :: st) h Q := by
  intro G p la e R s m args below meth c Fin mc ms C rt hmc hms H locs cells slots ls ho hl hq h1 h2
  refine lv_istore_n C.1 C.2.1 hd rfl hl hn (x_s1m G l k4.val (.int x)) fun ls hl => ?_
  rw [hs] at hl
  exact k G p la e R s m args below meth c Fin mc ms C rt hmc hms H locs cells slots ls ho hl hq h1 h2
theorem e_istore {i : Nat} {x : Int32} {l' : List (Nat × Value)} (hd : decode y.2.1 pc = .ok (.istore i, 2)) (hn : i < y.2.2.1) (hs : x_s1 l i (.int x) = l') (k : x_E y d kc ks (pc + 2) l' st h Q) : x_E y d kc ks pc l (.int x :: st) h Q := by
  intro G p la e R s m args below meth c Fin mc ms C rt hmc hms H locs cells slots ls ho hl hq h1 h2
  refine lv_istore C.1 C.2.1 hd hl hn (x_s1m G l i (.int x)) fun ls hl => ?_
  rw [hs] at hl
  exact k G p la e R s m args below meth c Fin mc ms C rt hmc hms H locs cells slots ls ho hl hq h1 h2
theorem e_lstore_n {k4 : Fin 4} {x : Int64} {l' : List (Nat × Value)} (hd : decode y.2.1 pc = .ok (.lstore_n k4, 1)) (hn : k4.val + 1 < y.2.2.1) (hs : x_s2 l k4.val (.long x) = l') (k : x_E y d kc ks (pc + 1) l' st h Q) : x_E y d kc ks pc l (.long x :: st) h Q := by
  intro G p la e R s m args below meth c Fin mc ms C rt hmc hms H locs cells slots ls ho hl hq h1 h2
  refine lv_lstore_n C.1 C.2.1 hd rfl hl hn (x_s2m G l k4.val (.long x)) fun ls hl => ?_
  rw [hs] at hl
  exact k G p la e R s m args below meth c Fin mc ms C rt hmc hms H locs cells slots ls ho hl hq h1 h2
theorem e_lstore {i : Nat} {x : Int64} {l' : List (Nat × Value)} (hd : decode y.2.1 pc = .ok (.lstore i, 2)) (hn : i + 1 < y.2.2.1) (hs : x_s2 l i (.long x) = l') (k : x_E y d kc ks (pc + 2) l' st h Q) : x_E y d kc ks pc l (.long x :: st) h Q := by
  intro G p la e R s m args below meth c Fin mc ms C rt hmc hms H locs cells slots ls ho hl hq h1 h2
  refine lv_lstore C.1 C.2.1 hd hl hn (x_s2m G l i (.long x)) fun ls hl => ?_
  rw [hs] at hl
  exact k G p la e R s m args below meth c Fin mc ms C rt hmc hms H locs cells slots ls ho hl hq h1 h2
theorem e_astore_n {k4 : Fin 4} {x : Nat} {l' : List (Nat × Value)} (hd : decode y.2.1 pc = .ok (.astore_n k4, 1)) (hn : k4.val < y.2.2.1) (hs : x_s1 l k4.val (.ref x) = l') (k : x_E y d kc ks (pc + 1) l' st h Q) : x_E y d kc ks pc l (.ref x :: st) h Q := by
  intro G p la e R s m args below meth c Fin mc ms C rt hmc hms H locs cells slots ls ho hl hq h1 h2
  have hm := x_s1m G l k4.val (.ref x)
  rw [hs] at hm
  have hk := fun (ls : Array Slot) hl => k G p la e R s m args below meth c Fin mc ms C rt hmc hms H locs cells slots ls ho hl hq h1 h2
  match x, hm with
  | 0, hm => exact lv_astore_nN C.1 C.2.1 hd rfl hl hn hm hk
  | 1, hm => exact lv_astore_n C.1 C.2.1 hd rfl hl hn hm hk
  | a + 2, hm => exact lv_astore_n C.1 C.2.1 hd rfl hl hn hm hk
theorem e_astore {i : Nat} {x : Nat} {l' : List (Nat × Value)} (hd : decode y.2.1 pc = .ok (.astore i, 2)) (hn : i < y.2.2.1) (hs : x_s1 l i (.ref x) = l') (k : x_E y d kc ks (pc + 2) l' st h Q) : x_E y d kc ks pc l (.ref x :: st) h Q := by
  intro G p la e R s m args below meth c Fin mc ms C rt hmc hms H locs cells slots ls ho hl hq h1 h2
  have hm := x_s1m G l i (.ref x)
  rw [hs] at hm
  have hk := fun (ls : Array Slot) hl => k G p la e R s m args below meth c Fin mc ms C rt hmc hms H locs cells slots ls ho hl hq h1 h2
  match x, hm with
  | 0, hm => exact lv_astoreN C.1 C.2.1 hd hl hn hm hk
  | 1, hm => exact lv_astore C.1 C.2.1 hd hl hn hm hk
  | a + 2, hm => exact lv_astore C.1 C.2.1 hd hl hn hm hk
theorem e_iinc {i : Nat} {n : Int} {x v : Int32} {l' : List (Nat × Value)} (hd : decode y.2.1 pc = .ok (.iinc i n, 3)) (hx : x_lk l i = some (.int x)) (hv : x + Int32.ofInt n = v) (hn : i < y.2.2.1) (hs : x_s1 l i (.int v) = l') (k : x_E y d kc ks (pc + 3) l' st h Q) : x_E y d kc ks pc l st h Q := by
  intro G p la e R s m args below meth c Fin mc ms C rt hmc hms H locs cells slots ls ho hl hq h1 h2
  obtain ⟨j, hj⟩ := List.getElem?_of_mem (x_lk_in hx)
  refine lv_iinc (k := j) (x := x) (v := v) C.1 C.2.1 hd hl (by rw [List.getElem?_map, hj]; rfl) hv hn (x_s1m G l i (.int v)) fun ls hl => ?_
  rw [hs] at hl
  exact k G p la e R s m args below meth c Fin mc ms C rt hmc hms H locs cells slots ls ho hl hq h1 h2
theorem e_iadd {x z : Int32} (hd : decode y.2.1 pc = .ok (.iadd, 1)) (k : x_E y d kc ks (pc + 1) l (.int (x + z) :: st) h Q) : x_E y d kc ks pc l (.int z :: .int x :: st) h Q :=
  fun G p la e R s m args below meth c Fin mc ms C rt hmc hms H locs cells slots ls ho hl hq h1 h2 => lv_iadd C.1 C.2.1 hd (k G p la e R s m args below meth c Fin mc ms C rt hmc hms H locs cells slots ls ho hl hq h1 h2)
theorem e_isub {x z : Int32} (hd : decode y.2.1 pc = .ok (.isub, 1)) (k : x_E y d kc ks (pc + 1) l (.int (x - z) :: st) h Q) : x_E y d kc ks pc l (.int z :: .int x :: st) h Q :=
  fun G p la e R s m args below meth c Fin mc ms C rt hmc hms H locs cells slots ls ho hl hq h1 h2 => lv_isub C.1 C.2.1 hd (k G p la e R s m args below meth c Fin mc ms C rt hmc hms H locs cells slots ls ho hl hq h1 h2)
theorem e_imul {x z : Int32} (hd : decode y.2.1 pc = .ok (.imul, 1)) (k : x_E y d kc ks (pc + 1) l (.int (x * z) :: st) h Q) : x_E y d kc ks pc l (.int z :: .int x :: st) h Q :=
  fun G p la e R s m args below meth c Fin mc ms C rt hmc hms H locs cells slots ls ho hl hq h1 h2 => lv_imul C.1 C.2.1 hd (k G p la e R s m args below meth c Fin mc ms C rt hmc hms H locs cells slots ls ho hl hq h1 h2)
theorem e_iand {x z : Int32} (hd : decode y.2.1 pc = .ok (.iand, 1)) (k : x_E y d kc ks (pc + 1) l (.int (x &&& z) :: st) h Q) : x_E y d kc ks pc l (.int z :: .int x :: st) h Q :=
  fun G p la e R s m args below meth c Fin mc ms C rt hmc hms H locs cells slots ls ho hl hq h1 h2 => lv_iand C.1 C.2.1 hd (k G p la e R s m args below meth c Fin mc ms C rt hmc hms H locs cells slots ls ho hl hq h1 h2)
theorem e_ior {x z : Int32} (hd : decode y.2.1 pc = .ok (.ior, 1)) (k : x_E y d kc ks (pc + 1) l (.int (x ||| z) :: st) h Q) : x_E y d kc ks pc l (.int z :: .int x :: st) h Q :=
  fun G p la e R s m args below meth c Fin mc ms C rt hmc hms H locs cells slots ls ho hl hq h1 h2 => lv_ior C.1 C.2.1 hd (k G p la e R s m args below meth c Fin mc ms C rt hmc hms H locs cells slots ls ho hl hq h1 h2)
theorem e_ixor {x z : Int32} (hd : decode y.2.1 pc = .ok (.ixor, 1)) (k : x_E y d kc ks (pc + 1) l (.int (x ^^^ z) :: st) h Q) : x_E y d kc ks pc l (.int z :: .int x :: st) h Q :=
  fun G p la e R s m args below meth c Fin mc ms C rt hmc hms H locs cells slots ls ho hl hq h1 h2 => lv_ixor C.1 C.2.1 hd (k G p la e R s m args below meth c Fin mc ms C rt hmc hms H locs cells slots ls ho hl hq h1 h2)
theorem e_ishl {x z : Int32} (hd : decode y.2.1 pc = .ok (.ishl, 1)) (k : x_E y d kc ks (pc + 1) l (.int (x <<< (z &&& 31)) :: st) h Q) : x_E y d kc ks pc l (.int z :: .int x :: st) h Q :=
  fun G p la e R s m args below meth c Fin mc ms C rt hmc hms H locs cells slots ls ho hl hq h1 h2 => lv_ishl C.1 C.2.1 hd (k G p la e R s m args below meth c Fin mc ms C rt hmc hms H locs cells slots ls ho hl hq h1 h2)
theorem e_ishr {x z : Int32} (hd : decode y.2.1 pc = .ok (.ishr, 1)) (k : x_E y d kc ks (pc + 1) l (.int (x >>> (z &&& 31)) :: st) h Q) : x_E y d kc ks pc l (.int z :: .int x :: st) h Q :=
  fun G p la e R s m args below meth c Fin mc ms C rt hmc hms H locs cells slots ls ho hl hq h1 h2 => lv_ishr C.1 C.2.1 hd (k G p la e R s m args below meth c Fin mc ms C rt hmc hms H locs cells slots ls ho hl hq h1 h2)
theorem e_iushr {x z v : Int32} (hd : decode y.2.1 pc = .ok (.iushr, 1)) (hv : (x.toUInt32 >>> (z.toUInt32 &&& Int32.toUInt32 31)).toInt32 = v) (k : x_E y d kc ks (pc + 1) l (.int v :: st) h Q) : x_E y d kc ks pc l (.int z :: .int x :: st) h Q :=
  fun G p la e R s m args below meth c Fin mc ms C rt hmc hms H locs cells slots ls ho hl hq h1 h2 => lv_iushr C.1 C.2.1 hd hv (k G p la e R s m args below meth c Fin mc ms C rt hmc hms H locs cells slots ls ho hl hq h1 h2)
theorem e_irem {x z : Int32} (hd : decode y.2.1 pc = .ok (.irem, 1)) (hne : ¬ z = 0) (k : x_E y d kc ks (pc + 1) l (.int (x - x / z * z) :: st) h Q) : x_E y d kc ks pc l (.int z :: .int x :: st) h Q :=
  fun G p la e R s m args below meth c Fin mc ms C rt hmc hms H locs cells slots ls ho hl hq h1 h2 => lv_irem C.1 C.2.1 hd hne (k G p la e R s m args below meth c Fin mc ms C rt hmc hms H locs cells slots ls ho hl hq h1 h2)
theorem e_idiv {x z : Int32} (hd : decode y.2.1 pc = .ok (.idiv, 1)) (hne : ¬ z = 0) (k : x_E y d kc ks (pc + 1) l (.int (x / z) :: st) h Q) : x_E y d kc ks pc l (.int z :: .int x :: st) h Q :=
  fun G p la e R s m args below meth c Fin mc ms C rt hmc hms H locs cells slots ls ho hl hq h1 h2 => lv_idiv C.1 C.2.1 hd hne (k G p la e R s m args below meth c Fin mc ms C rt hmc hms H locs cells slots ls ho hl hq h1 h2)
theorem e_ineg {x : Int32} (hd : decode y.2.1 pc = .ok (.ineg, 1)) (k : x_E y d kc ks (pc + 1) l (.int (-x) :: st) h Q) : x_E y d kc ks pc l (.int x :: st) h Q :=
  fun G p la e R s m args below meth c Fin mc ms C rt hmc hms H locs cells slots ls ho hl hq h1 h2 => lv_ineg C.1 C.2.1 hd (k G p la e R s m args below meth c Fin mc ms C rt hmc hms H locs cells slots ls ho hl hq h1 h2)
theorem e_ladd {x z : Int64} (hd : decode y.2.1 pc = .ok (.ladd, 1)) (k : x_E y d kc ks (pc + 1) l (.long (x + z) :: st) h Q) : x_E y d kc ks pc l (.long z :: .long x :: st) h Q :=
  fun G p la e R s m args below meth c Fin mc ms C rt hmc hms H locs cells slots ls ho hl hq h1 h2 => lv_ladd C.1 C.2.1 hd (k G p la e R s m args below meth c Fin mc ms C rt hmc hms H locs cells slots ls ho hl hq h1 h2)
theorem e_lsub {x z : Int64} (hd : decode y.2.1 pc = .ok (.lsub, 1)) (k : x_E y d kc ks (pc + 1) l (.long (x - z) :: st) h Q) : x_E y d kc ks pc l (.long z :: .long x :: st) h Q :=
  fun G p la e R s m args below meth c Fin mc ms C rt hmc hms H locs cells slots ls ho hl hq h1 h2 => lv_lsub C.1 C.2.1 hd (k G p la e R s m args below meth c Fin mc ms C rt hmc hms H locs cells slots ls ho hl hq h1 h2)
theorem e_lmul {x z : Int64} (hd : decode y.2.1 pc = .ok (.lmul, 1)) (k : x_E y d kc ks (pc + 1) l (.long (x * z) :: st) h Q) : x_E y d kc ks pc l (.long z :: .long x :: st) h Q :=
  fun G p la e R s m args below meth c Fin mc ms C rt hmc hms H locs cells slots ls ho hl hq h1 h2 => lv_lmul C.1 C.2.1 hd (k G p la e R s m args below meth c Fin mc ms C rt hmc hms H locs cells slots ls ho hl hq h1 h2)
theorem e_land {x z : Int64} (hd : decode y.2.1 pc = .ok (.land, 1)) (k : x_E y d kc ks (pc + 1) l (.long (x &&& z) :: st) h Q) : x_E y d kc ks pc l (.long z :: .long x :: st) h Q :=
  fun G p la e R s m args below meth c Fin mc ms C rt hmc hms H locs cells slots ls ho hl hq h1 h2 => lv_land C.1 C.2.1 hd (k G p la e R s m args below meth c Fin mc ms C rt hmc hms H locs cells slots ls ho hl hq h1 h2)
theorem e_lor {x z : Int64} (hd : decode y.2.1 pc = .ok (.lor, 1)) (k : x_E y d kc ks (pc + 1) l (.long (x ||| z) :: st) h Q) : x_E y d kc ks pc l (.long z :: .long x :: st) h Q :=
  fun G p la e R s m args below meth c Fin mc ms C rt hmc hms H locs cells slots ls ho hl hq h1 h2 => lv_lor C.1 C.2.1 hd (k G p la e R s m args below meth c Fin mc ms C rt hmc hms H locs cells slots ls ho hl hq h1 h2)
theorem e_lxor {x z : Int64} (hd : decode y.2.1 pc = .ok (.lxor, 1)) (k : x_E y d kc ks (pc + 1) l (.long (x ^^^ z) :: st) h Q) : x_E y d kc ks pc l (.long z :: .long x :: st) h Q :=
  fun G p la e R s m args below meth c Fin mc ms C rt hmc hms H locs cells slots ls ho hl hq h1 h2 => lv_lxor C.1 C.2.1 hd (k G p la e R s m args below meth c Fin mc ms C rt hmc hms H locs cells slots ls ho hl hq h1 h2)
theorem e_lcmp {x z : Int64} (hd : decode y.2.1 pc = .ok (.lcmp, 1)) (k : x_E y d kc ks (pc + 1) l (.int (lg_cmp x z) :: st) h Q) : x_E y d kc ks pc l (.long z :: .long x :: st) h Q :=
  fun G p la e R s m args below meth c Fin mc ms C rt hmc hms H locs cells slots ls ho hl hq h1 h2 => W.lcmp C.1 C.2.1 hd (k G p la e R s m args below meth c Fin mc ms C rt hmc hms H locs cells slots ls ho hl hq h1 h2)
theorem e_i2l {x : Int32} {v : Int64} (hd : decode y.2.1 pc = .ok (.i2l, 1)) (hv : x.toInt64 = v) (k : x_E y d kc ks (pc + 1) l (.long v :: st) h Q) : x_E y d kc ks pc l (.int x :: st) h Q :=
  fun G p la e R s m args below meth c Fin mc ms C rt hmc hms H locs cells slots ls ho hl hq h1 h2 => lv_i2l C.1 C.2.1 hd hv (k G p la e R s m args below meth c Fin mc ms C rt hmc hms H locs cells slots ls ho hl hq h1 h2)
theorem e_l2i {x : Int64} {v : Int32} (hd : decode y.2.1 pc = .ok (.l2i, 1)) (hv : x.toInt32 = v) (k : x_E y d kc ks (pc + 1) l (.int v :: st) h Q) : x_E y d kc ks pc l (.long x :: st) h Q :=
  fun G p la e R s m args below meth c Fin mc ms C rt hmc hms H locs cells slots ls ho hl hq h1 h2 => lv_l2i C.1 C.2.1 hd hv (k G p la e R s m args below meth c Fin mc ms C rt hmc hms H locs cells slots ls ho hl hq h1 h2)
theorem e_lshl {x v : Int64} {z : Int32} (hd : decode y.2.1 pc = .ok (.lshl, 1)) (hv : x <<< (z.toInt64 &&& 63) = v) (k : x_E y d kc ks (pc + 1) l (.long v :: st) h Q) : x_E y d kc ks pc l (.int z :: .long x :: st) h Q :=
  fun G p la e R s m args below meth c Fin mc ms C rt hmc hms H locs cells slots ls ho hl hq h1 h2 => lv_lshl C.1 C.2.1 hd hv (k G p la e R s m args below meth c Fin mc ms C rt hmc hms H locs cells slots ls ho hl hq h1 h2)
theorem e_lushr {x v : Int64} {z : Int32} (hd : decode y.2.1 pc = .ok (.lushr, 1)) (hv : (x.toUInt64 >>> (z.toInt64.toUInt64 &&& Int64.toUInt64 63)).toInt64 = v) (k : x_E y d kc ks (pc + 1) l (.long v :: st) h Q) : x_E y d kc ks pc l (.int z :: .long x :: st) h Q :=
  fun G p la e R s m args below meth c Fin mc ms C rt hmc hms H locs cells slots ls ho hl hq h1 h2 => lv_lushr C.1 C.2.1 hd hv (k G p la e R s m args below meth c Fin mc ms C rt hmc hms H locs cells slots ls ho hl hq h1 h2)
theorem e_lshr {x v : Int64} {z : Int32} (hd : decode y.2.1 pc = .ok (.lshr, 1)) (hv : x >>> (z.toInt64 &&& 63) = v) (k : x_E y d kc ks (pc + 1) l (.long v :: st) h Q) : x_E y d kc ks pc l (.int z :: .long x :: st) h Q :=
  fun G p la e R s m args below meth c Fin mc ms C rt hmc hms H locs cells slots ls ho hl hq h1 h2 => lv_lshr C.1 C.2.1 hd hv (k G p la e R s m args below meth c Fin mc ms C rt hmc hms H locs cells slots ls ho hl hq h1 h2)
theorem e_dup {va : Value} (hd : decode y.2.1 pc = .ok (.dup, 1)) (c0 : va.category = 1) (k : x_E y d kc ks (pc + 1) l (va :: va :: st) h Q) : x_E y d kc ks pc l (va :: st) h Q :=
  fun G p la e R s m args below meth c Fin mc ms C rt hmc hms H locs cells slots ls ho hl hq h1 h2 => lv_dup C.1 C.2.1 hd ((x_cat G va).trans c0) (k G p la e R s m args below meth c Fin mc ms C rt hmc hms H locs cells slots ls ho hl hq h1 h2)
theorem e_pop {va : Value} (hd : decode y.2.1 pc = .ok (.pop, 1)) (c0 : va.category = 1) (k : x_E y d kc ks (pc + 1) l (st) h Q) : x_E y d kc ks pc l (va :: st) h Q :=
  fun G p la e R s m args below meth c Fin mc ms C rt hmc hms H locs cells slots ls ho hl hq h1 h2 => lv_pop C.1 C.2.1 hd ((x_cat G va).trans c0) (k G p la e R s m args below meth c Fin mc ms C rt hmc hms H locs cells slots ls ho hl hq h1 h2)
theorem e_dup_x1 {va vb : Value} (hd : decode y.2.1 pc = .ok (.dup_x1, 1)) (c0 : va.category = 1) (c1 : vb.category = 1) (k : x_E y d kc ks (pc + 1) l (va :: vb :: va :: st) h Q) : x_E y d kc ks pc l (va :: vb :: st) h Q :=
  fun G p la e R s m args below meth c Fin mc ms C rt hmc hms H locs cells slots ls ho hl hq h1 h2 => lv_dup_x1 C.1 C.2.1 hd ((x_cat G va).trans c0) ((x_cat G vb).trans c1) (k G p la e R s m args below meth c Fin mc ms C rt hmc hms H locs cells slots ls ho hl hq h1 h2)
theorem e_dup_x2 {va vb vd : Value} (hd : decode y.2.1 pc = .ok (.dup_x2, 1)) (c0 : va.category = 1) (c1 : vb.category = 1) (c2 : vd.category = 1) (k : x_E y d kc ks (pc + 1) l (va :: vb :: vd :: va :: st) h Q) : x_E y d kc ks pc l (va :: vb :: vd :: st) h Q :=
  fun G p la e R s m args below meth c Fin mc ms C rt hmc hms H locs cells slots ls ho hl hq h1 h2 => lv_dup_x2 C.1 C.2.1 hd ((x_cat G va).trans c0) ((x_cat G vb).trans c1) ((x_cat G vd).trans c2) (k G p la e R s m args below meth c Fin mc ms C rt hmc hms H locs cells slots ls ho hl hq h1 h2)
theorem e_dup2_11 {va vb : Value} (hd : decode y.2.1 pc = .ok (.dup2, 1)) (c0 : va.category = 1) (c1 : vb.category = 1) (k : x_E y d kc ks (pc + 1) l (va :: vb :: va :: vb :: st) h Q) : x_E y d kc ks pc l (va :: vb :: st) h Q :=
  fun G p la e R s m args below meth c Fin mc ms C rt hmc hms H locs cells slots ls ho hl hq h1 h2 => lv_dup2_11 C.1 C.2.1 hd ((x_cat G va).trans c0) ((x_cat G vb).trans c1) (k G p la e R s m args below meth c Fin mc ms C rt hmc hms H locs cells slots ls ho hl hq h1 h2)
theorem e_dup2_2 {va : Value} (hd : decode y.2.1 pc = .ok (.dup2, 1)) (c0 : va.category = 2) (k : x_E y d kc ks (pc + 1) l (va :: va :: st) h Q) : x_E y d kc ks pc l (va :: st) h Q :=
  fun G p la e R s m args below meth c Fin mc ms C rt hmc hms H locs cells slots ls ho hl hq h1 h2 => lv_dup2_2 C.1 C.2.1 hd ((x_cat G va).trans c0) (k G p la e R s m args below meth c Fin mc ms C rt hmc hms H locs cells slots ls ho hl hq h1 h2)
theorem e_pop2_2 {va : Value} (hd : decode y.2.1 pc = .ok (.pop2, 1)) (c0 : va.category = 2) (k : x_E y d kc ks (pc + 1) l (st) h Q) : x_E y d kc ks pc l (va :: st) h Q :=
  fun G p la e R s m args below meth c Fin mc ms C rt hmc hms H locs cells slots ls ho hl hq h1 h2 => lv_pop2_2 C.1 C.2.1 hd ((x_cat G va).trans c0) (k G p la e R s m args below meth c Fin mc ms C rt hmc hms H locs cells slots ls ho hl hq h1 h2)
theorem e_dup2_x1_2 {va vb : Value} (hd : decode y.2.1 pc = .ok (.dup2_x1, 1)) (c0 : va.category = 2) (c1 : vb.category = 1) (k : x_E y d kc ks (pc + 1) l (va :: vb :: va :: st) h Q) : x_E y d kc ks pc l (va :: vb :: st) h Q :=
  fun G p la e R s m args below meth c Fin mc ms C rt hmc hms H locs cells slots ls ho hl hq h1 h2 => lv_dup2_x1_2 C.1 C.2.1 hd ((x_cat G va).trans c0) ((x_cat G vb).trans c1) (k G p la e R s m args below meth c Fin mc ms C rt hmc hms H locs cells slots ls ho hl hq h1 h2)
theorem e_goto {off : Int} {tgt : Nat} (hd : decode y.2.1 pc = .ok (.goto off, 3)) (ht : (pc : Int) + off = (tgt : Int)) (k : x_E y d kc ks tgt l st h Q) : x_E y d kc ks pc l st h Q :=
  fun G p la e R s m args below meth c Fin mc ms C rt hmc hms H locs cells slots ls ho hl hq h1 h2 => lv_goto C.1 C.2.1 hd ht (k G p la e R s m args below meth c Fin mc ms C rt hmc hms H locs cells slots ls ho hl hq h1 h2)
theorem e_if_eq {x : Int32} {off : Int} {tgt : Nat} (hd : decode y.2.1 pc = .ok (.ifCond .eq off, 3)) (ht : (pc : Int) + off = (tgt : Int)) (kt : x = 0 → x_E y d kc ks tgt l st h Q) (kf : ¬ x = 0 → x_E y d kc ks (pc + 3) l st h Q) : x_E y d kc ks pc l (.int x :: st) h Q :=
  fun G p la e R s m args below meth c Fin mc ms C rt hmc hms H locs cells slots ls ho hl hq h1 h2 => lv_if_eq C.1 C.2.1 hd ht (fun q => kt q G p la e R s m args below meth c Fin mc ms C rt hmc hms H locs cells slots ls ho hl hq h1 h2) (fun q => kf q G p la e R s m args below meth c Fin mc ms C rt hmc hms H locs cells slots ls ho hl hq h1 h2)
theorem e_icmp_eq {x z : Int32} {off : Int} {tgt : Nat} (hd : decode y.2.1 pc = .ok (.if_icmp .eq off, 3)) (ht : (pc : Int) + off = (tgt : Int)) (kt : x = z → x_E y d kc ks tgt l st h Q) (kf : ¬ x = z → x_E y d kc ks (pc + 3) l st h Q) : x_E y d kc ks pc l (.int z :: .int x :: st) h Q :=
  fun G p la e R s m args below meth c Fin mc ms C rt hmc hms H locs cells slots ls ho hl hq h1 h2 => lv_icmp_eq C.1 C.2.1 hd ht (fun q => kt q G p la e R s m args below meth c Fin mc ms C rt hmc hms H locs cells slots ls ho hl hq h1 h2) (fun q => kf q G p la e R s m args below meth c Fin mc ms C rt hmc hms H locs cells slots ls ho hl hq h1 h2)
theorem e_if_ne {x : Int32} {off : Int} {tgt : Nat} (hd : decode y.2.1 pc = .ok (.ifCond .ne off, 3)) (ht : (pc : Int) + off = (tgt : Int)) (kt : ¬ x = 0 → x_E y d kc ks tgt l st h Q) (kf : x = 0 → x_E y d kc ks (pc + 3) l st h Q) : x_E y d kc ks pc l (.int x :: st) h Q :=
  fun G p la e R s m args below meth c Fin mc ms C rt hmc hms H locs cells slots ls ho hl hq h1 h2 => lv_if_ne C.1 C.2.1 hd ht (fun q => kt q G p la e R s m args below meth c Fin mc ms C rt hmc hms H locs cells slots ls ho hl hq h1 h2) (fun q => kf q G p la e R s m args below meth c Fin mc ms C rt hmc hms H locs cells slots ls ho hl hq h1 h2)
theorem e_icmp_ne {x z : Int32} {off : Int} {tgt : Nat} (hd : decode y.2.1 pc = .ok (.if_icmp .ne off, 3)) (ht : (pc : Int) + off = (tgt : Int)) (kt : ¬ x = z → x_E y d kc ks tgt l st h Q) (kf : x = z → x_E y d kc ks (pc + 3) l st h Q) : x_E y d kc ks pc l (.int z :: .int x :: st) h Q :=
  fun G p la e R s m args below meth c Fin mc ms C rt hmc hms H locs cells slots ls ho hl hq h1 h2 => lv_icmp_ne C.1 C.2.1 hd ht (fun q => kt q G p la e R s m args below meth c Fin mc ms C rt hmc hms H locs cells slots ls ho hl hq h1 h2) (fun q => kf q G p la e R s m args below meth c Fin mc ms C rt hmc hms H locs cells slots ls ho hl hq h1 h2)
theorem e_if_lt {x : Int32} {off : Int} {tgt : Nat} (hd : decode y.2.1 pc = .ok (.ifCond .lt off, 3)) (ht : (pc : Int) + off = (tgt : Int)) (kt : x < 0 → x_E y d kc ks tgt l st h Q) (kf : ¬ x < 0 → x_E y d kc ks (pc + 3) l st h Q) : x_E y d kc ks pc l (.int x :: st) h Q :=
  fun G p la e R s m args below meth c Fin mc ms C rt hmc hms H locs cells slots ls ho hl hq h1 h2 => lv_if_lt C.1 C.2.1 hd ht (fun q => kt q G p la e R s m args below meth c Fin mc ms C rt hmc hms H locs cells slots ls ho hl hq h1 h2) (fun q => kf q G p la e R s m args below meth c Fin mc ms C rt hmc hms H locs cells slots ls ho hl hq h1 h2)
theorem e_icmp_lt {x z : Int32} {off : Int} {tgt : Nat} (hd : decode y.2.1 pc = .ok (.if_icmp .lt off, 3)) (ht : (pc : Int) + off = (tgt : Int)) (kt : x < z → x_E y d kc ks tgt l st h Q) (kf : ¬ x < z → x_E y d kc ks (pc + 3) l st h Q) : x_E y d kc ks pc l (.int z :: .int x :: st) h Q :=
  fun G p la e R s m args below meth c Fin mc ms C rt hmc hms H locs cells slots ls ho hl hq h1 h2 => lv_icmp_lt C.1 C.2.1 hd ht (fun q => kt q G p la e R s m args below meth c Fin mc ms C rt hmc hms H locs cells slots ls ho hl hq h1 h2) (fun q => kf q G p la e R s m args below meth c Fin mc ms C rt hmc hms H locs cells slots ls ho hl hq h1 h2)
theorem e_if_ge {x : Int32} {off : Int} {tgt : Nat} (hd : decode y.2.1 pc = .ok (.ifCond .ge off, 3)) (ht : (pc : Int) + off = (tgt : Int)) (kt : 0 ≤ x → x_E y d kc ks tgt l st h Q) (kf : ¬ 0 ≤ x → x_E y d kc ks (pc + 3) l st h Q) : x_E y d kc ks pc l (.int x :: st) h Q :=
  fun G p la e R s m args below meth c Fin mc ms C rt hmc hms H locs cells slots ls ho hl hq h1 h2 => lv_if_ge C.1 C.2.1 hd ht (fun q => kt q G p la e R s m args below meth c Fin mc ms C rt hmc hms H locs cells slots ls ho hl hq h1 h2) (fun q => kf q G p la e R s m args below meth c Fin mc ms C rt hmc hms H locs cells slots ls ho hl hq h1 h2)
theorem e_icmp_ge {x z : Int32} {off : Int} {tgt : Nat} (hd : decode y.2.1 pc = .ok (.if_icmp .ge off, 3)) (ht : (pc : Int) + off = (tgt : Int)) (kt : z ≤ x → x_E y d kc ks tgt l st h Q) (kf : ¬ z ≤ x → x_E y d kc ks (pc + 3) l st h Q) : x_E y d kc ks pc l (.int z :: .int x :: st) h Q :=
  fun G p la e R s m args below meth c Fin mc ms C rt hmc hms H locs cells slots ls ho hl hq h1 h2 => lv_icmp_ge C.1 C.2.1 hd ht (fun q => kt q G p la e R s m args below meth c Fin mc ms C rt hmc hms H locs cells slots ls ho hl hq h1 h2) (fun q => kf q G p la e R s m args below meth c Fin mc ms C rt hmc hms H locs cells slots ls ho hl hq h1 h2)
theorem e_if_gt {x : Int32} {off : Int} {tgt : Nat} (hd : decode y.2.1 pc = .ok (.ifCond .gt off, 3)) (ht : (pc : Int) + off = (tgt : Int)) (kt : 0 < x → x_E y d kc ks tgt l st h Q) (kf : ¬ 0 < x → x_E y d kc ks (pc + 3) l st h Q) : x_E y d kc ks pc l (.int x :: st) h Q :=
  fun G p la e R s m args below meth c Fin mc ms C rt hmc hms H locs cells slots ls ho hl hq h1 h2 => lv_if_gt C.1 C.2.1 hd ht (fun q => kt q G p la e R s m args below meth c Fin mc ms C rt hmc hms H locs cells slots ls ho hl hq h1 h2) (fun q => kf q G p la e R s m args below meth c Fin mc ms C rt hmc hms H locs cells slots ls ho hl hq h1 h2)
theorem e_icmp_gt {x z : Int32} {off : Int} {tgt : Nat} (hd : decode y.2.1 pc = .ok (.if_icmp .gt off, 3)) (ht : (pc : Int) + off = (tgt : Int)) (kt : z < x → x_E y d kc ks tgt l st h Q) (kf : ¬ z < x → x_E y d kc ks (pc + 3) l st h Q) : x_E y d kc ks pc l (.int z :: .int x :: st) h Q :=
  fun G p la e R s m args below meth c Fin mc ms C rt hmc hms H locs cells slots ls ho hl hq h1 h2 => lv_icmp_gt C.1 C.2.1 hd ht (fun q => kt q G p la e R s m args below meth c Fin mc ms C rt hmc hms H locs cells slots ls ho hl hq h1 h2) (fun q => kf q G p la e R s m args below meth c Fin mc ms C rt hmc hms H locs cells slots ls ho hl hq h1 h2)
theorem e_if_le {x : Int32} {off : Int} {tgt : Nat} (hd : decode y.2.1 pc = .ok (.ifCond .le off, 3)) (ht : (pc : Int) + off = (tgt : Int)) (kt : x ≤ 0 → x_E y d kc ks tgt l st h Q) (kf : ¬ x ≤ 0 → x_E y d kc ks (pc + 3) l st h Q) : x_E y d kc ks pc l (.int x :: st) h Q :=
  fun G p la e R s m args below meth c Fin mc ms C rt hmc hms H locs cells slots ls ho hl hq h1 h2 => lv_if_le C.1 C.2.1 hd ht (fun q => kt q G p la e R s m args below meth c Fin mc ms C rt hmc hms H locs cells slots ls ho hl hq h1 h2) (fun q => kf q G p la e R s m args below meth c Fin mc ms C rt hmc hms H locs cells slots ls ho hl hq h1 h2)
theorem e_icmp_le {x z : Int32} {off : Int} {tgt : Nat} (hd : decode y.2.1 pc = .ok (.if_icmp .le off, 3)) (ht : (pc : Int) + off = (tgt : Int)) (kt : x ≤ z → x_E y d kc ks tgt l st h Q) (kf : ¬ x ≤ z → x_E y d kc ks (pc + 3) l st h Q) : x_E y d kc ks pc l (.int z :: .int x :: st) h Q :=
  fun G p la e R s m args below meth c Fin mc ms C rt hmc hms H locs cells slots ls ho hl hq h1 h2 => lv_icmp_le C.1 C.2.1 hd ht (fun q => kt q G p la e R s m args below meth c Fin mc ms C rt hmc hms H locs cells slots ls ho hl hq h1 h2) (fun q => kf q G p la e R s m args below meth c Fin mc ms C rt hmc hms H locs cells slots ls ho hl hq h1 h2)
def x_op (G : xG) : Nat → Option Nat
  | 0 => none
  | 1 => some G.1
  | a + 2 => some (G.2.1 + a)
theorem x_op_rf (G : xG) (a : Nat) : x_sh G (.ref a) = va_rf (x_op G a) := by
  match a with
  | 0 => rfl
  | 1 => rfl
  | a + 2 => rfl
theorem x_op_inj {G : xG} (hg : G.1 < G.2.1) {a b : Nat} : x_op G a = x_op G b ↔ a = b := by
  match a, b with
  | 0, 0 => simp
  | 0, 1 => simp [x_op]
  | 0, b + 2 => simp [x_op]
  | 1, 0 => simp [x_op]
  | 1, 1 => simp
  | 1, b + 2 => simp [x_op]; omega
  | a + 2, 0 => simp [x_op]
  | a + 2, 1 => simp [x_op]; omega
  | a + 2, b + 2 => simp [x_op]
theorem e_acmp_eq {x z : Nat} {off : Int} {tgt : Nat} (hd : decode y.2.1 pc = .ok (.if_acmp .eq off, 3)) (ht : (pc : Int) + off = (tgt : Int)) (kt : x = z → x_E y d kc ks tgt l st h Q) (kf : ¬ x = z → x_E y d kc ks (pc + 3) l st h Q) : x_E y d kc ks pc l (.ref z :: .ref x :: st) h Q := by
  intro G p la e R s m args below meth c Fin mc ms C rt hmc hms H locs cells slots ls ho hl hq h1 h2
  show W p la e R s m args below meth c H locs cells slots Fin (F0 m pc ls (x_sh G (.ref z) :: x_sh G (.ref x) :: st.map (x_sh G)))
  rw [x_op_rf, x_op_rf]
  exact lv_acmp_eq (rx := x_op G x) (ry := x_op G z) C.1 C.2.1 hd ht (fun q => kt ((x_op_inj C.2.2.2.2.2.2.2.2.2.2.2).mp q) G p la e R s m args below meth c Fin mc ms C rt hmc hms H locs cells slots ls ho hl hq h1 h2) (fun q => kf (fun e => q (by rw [e])) G p la e R s m args below meth c Fin mc ms C rt hmc hms H locs cells slots ls ho hl hq h1 h2)
theorem e_acmp_ne {x z : Nat} {off : Int} {tgt : Nat} (hd : decode y.2.1 pc = .ok (.if_acmp .ne off, 3)) (ht : (pc : Int) + off = (tgt : Int)) (kt : ¬ x = z → x_E y d kc ks tgt l st h Q) (kf : x = z → x_E y d kc ks (pc + 3) l st h Q) : x_E y d kc ks pc l (.ref z :: .ref x :: st) h Q := by
  intro G p la e R s m args below meth c Fin mc ms C rt hmc hms H locs cells slots ls ho hl hq h1 h2
  show W p la e R s m args below meth c H locs cells slots Fin (F0 m pc ls (x_sh G (.ref z) :: x_sh G (.ref x) :: st.map (x_sh G)))
  rw [x_op_rf, x_op_rf]
  exact lv_acmp_ne (rx := x_op G x) (ry := x_op G z) C.1 C.2.1 hd ht (fun q => kt (fun e => q (by rw [e])) G p la e R s m args below meth c Fin mc ms C rt hmc hms H locs cells slots ls ho hl hq h1 h2) (fun q => kf ((x_op_inj C.2.2.2.2.2.2.2.2.2.2.2).mp q) G p la e R s m args below meth c Fin mc ms C rt hmc hms H locs cells slots ls ho hl hq h1 h2)
theorem e_ifnull {x : Nat} {off : Int} {tgt : Nat} (hd : decode y.2.1 pc = .ok (.ifnull off, 3)) (ht : (pc : Int) + off = (tgt : Int)) (kt : x = 0 → x_E y d kc ks tgt l st h Q) (kf : ¬ x = 0 → x_E y d kc ks (pc + 3) l st h Q) : x_E y d kc ks pc l (.ref x :: st) h Q := by
  intro G p la e R s m args below meth c Fin mc ms C rt hmc hms H locs cells slots ls ho hl hq h1 h2
  match x, kt, kf with
  | 0, kt, kf => exact lv_ifnullN C.1 C.2.1 hd ht (kt rfl G p la e R s m args below meth c Fin mc ms C rt hmc hms H locs cells slots ls ho hl hq h1 h2)
  | 1, kt, kf => exact lv_ifnull C.1 C.2.1 hd (kf (by omega) G p la e R s m args below meth c Fin mc ms C rt hmc hms H locs cells slots ls ho hl hq h1 h2)
  | a + 2, kt, kf => exact lv_ifnull C.1 C.2.1 hd (kf (by omega) G p la e R s m args below meth c Fin mc ms C rt hmc hms H locs cells slots ls ho hl hq h1 h2)
theorem e_ifnonnull {x : Nat} {off : Int} {tgt : Nat} (hd : decode y.2.1 pc = .ok (.ifnonnull off, 3)) (ht : (pc : Int) + off = (tgt : Int)) (kt : ¬ x = 0 → x_E y d kc ks tgt l st h Q) (kf : x = 0 → x_E y d kc ks (pc + 3) l st h Q) : x_E y d kc ks pc l (.ref x :: st) h Q := by
  intro G p la e R s m args below meth c Fin mc ms C rt hmc hms H locs cells slots ls ho hl hq h1 h2
  match x, kt, kf with
  | 0, kt, kf => exact lv_ifnonnullN C.1 C.2.1 hd (kf rfl G p la e R s m args below meth c Fin mc ms C rt hmc hms H locs cells slots ls ho hl hq h1 h2)
  | 1, kt, kf => exact lv_ifnonnull C.1 C.2.1 hd ht (kt (by omega) G p la e R s m args below meth c Fin mc ms C rt hmc hms H locs cells slots ls ho hl hq h1 h2)
  | a + 2, kt, kf => exact lv_ifnonnull C.1 C.2.1 hd ht (kt (by omega) G p la e R s m args below meth c Fin mc ms C rt hmc hms H locs cells slots ls ho hl hq h1 h2)
theorem e_ldc {idx : Nat} {v : Int32} (hd : decode y.2.1 pc = .ok (.ldc idx, 2)) (hw : Cond.constant y.1.cls idx v ∈ xW0) (k : x_E y d kc ks (pc + 2) l (.int v :: st) h Q) : x_E y d kc ks pc l st h Q :=
  fun G p la e R s m args below meth c Fin mc ms C rt hmc hms H locs cells slots ls ho hl hq h1 h2 => lv_ldc C.1 C.2.1 C.2.2.2.2.1 (C.2.2.2.2.2.1 _ hw) hd (k G p la e R s m args below meth c Fin mc ms C rt hmc hms H locs cells slots ls ho hl hq h1 h2)
theorem e_ldc2 {idx : Nat} {v : Int64} (hd : decode y.2.1 pc = .ok (.ldc2_w idx, 3)) (hw : Cond.constantLong y.1.cls idx v ∈ xW0) (k : x_E y d kc ks (pc + 3) l (.long v :: st) h Q) : x_E y d kc ks pc l st h Q :=
  fun G p la e R s m args below meth c Fin mc ms C rt hmc hms H locs cells slots ls ho hl hq h1 h2 => lv_ldc2 C.1 C.2.1 C.2.2.2.2.1 (C.2.2.2.2.2.1 _ hw) hd (k G p la e R s m args below meth c Fin mc ms C rt hmc hms H locs cells slots ls ho hl hq h1 h2)
theorem e_tableIn {dflt lo hi : Int} {offs : Array Int} {len : Nat} {x : Int32} {off : Int} {tgt : Nat} (hd : decode y.2.1 pc = .ok (.tableswitch dflt lo hi offs, len)) (g1 : ¬ x.toInt < lo) (g2 : ¬ hi < x.toInt) (hof : offs[(x.toInt - lo).toNat]? = some off) (ht : (pc : Int) + off = (tgt : Int)) (k : x_E y d kc ks tgt l st h Q) : x_E y d kc ks pc l (.int x :: st) h Q :=
  fun G p la e R s m args below meth c Fin mc ms C rt hmc hms H locs cells slots ls ho hl hq h1 h2 => lv_tableIn C.1 C.2.1 hd g1 g2 hof ht (k G p la e R s m args below meth c Fin mc ms C rt hmc hms H locs cells slots ls ho hl hq h1 h2)
theorem e_tableOut {dflt lo hi : Int} {offs : Array Int} {len : Nat} {x : Int32} {tgt : Nat} (hd : decode y.2.1 pc = .ok (.tableswitch dflt lo hi offs, len)) (g1 : x.toInt < lo ∨ hi < x.toInt) (ht : (pc : Int) + dflt = (tgt : Int)) (k : x_E y d kc ks tgt l st h Q) : x_E y d kc ks pc l (.int x :: st) h Q :=
  fun G p la e R s m args below meth c Fin mc ms C rt hmc hms H locs cells slots ls ho hl hq h1 h2 => lv_tableOut C.1 C.2.1 hd g1 ht (k G p la e R s m args below meth c Fin mc ms C rt hmc hms H locs cells slots ls ho hl hq h1 h2)
theorem e_lookup {dflt : Int} {ps : Array (Int × Int)} {len : Nat} {x : Int32} {off : Int} {tgt : Nat} (hd : decode y.2.1 pc = .ok (.lookupswitch dflt ps, len)) (hp : (ps.toList.zip (ps.toList.drop 1)).all (fun (a, next) => a.1 < next.1) = true) (hof : Op.lookupswitch.offset ps.toList dflt x.toInt = off) (ht : (pc : Int) + off = (tgt : Int)) (k : x_E y d kc ks tgt l st h Q) : x_E y d kc ks pc l (.int x :: st) h Q :=
  fun G p la e R s m args below meth c Fin mc ms C rt hmc hms H locs cells slots ls ho hl hq h1 h2 => lv_lookup C.1 C.2.1 hd hp hof ht (k G p la e R s m args below meth c Fin mc ms C rt hmc hms H locs cells slots ls ho hl hq h1 h2)
theorem e_ret (hd : decode y.2.1 pc = .ok (.return_, 1)) (hr : y.2.2.2 = none) (q : Q [] h) : x_E y d kc ks pc l [] h Q :=
  fun G p la e R s m args below meth c Fin mc ms C rt hmc hms H locs cells slots ls ho hl hq h1 h2 => W.widen (Nat.le_trans (Nat.le_add_right _ _) h1) (Nat.le_trans (Nat.le_add_right _ _) h2) (rt [] h H locs pc ls q ho hq (Or.inl ⟨rfl, hr, hd⟩))
theorem e_iret {v : Int32} {ty : FieldType} (hd : decode y.2.1 pc = .ok (.ireturn, 1)) (hr : y.2.2.2 = some ty) (hn : narrow ty (.int v) = .int v) (q : Q [.int v] h) : x_E y d kc ks pc l [.int v] h Q :=
  fun G p la e R s m args below meth c Fin mc ms C rt hmc hms H locs cells slots ls ho hl hq h1 h2 => W.widen (Nat.le_trans (Nat.le_add_right _ _) h1) (Nat.le_trans (Nat.le_add_right _ _) h2) (rt [.int v] h H locs pc ls q ho hq (Or.inr (Or.inl ⟨v, ty, rfl, hr, hn, hd⟩)))
theorem e_lret {v : Int64} (hd : decode y.2.1 pc = .ok (.lreturn, 1)) (hr : y.2.2.2 = some .long) (q : Q [.long v] h) : x_E y d kc ks pc l [.long v] h Q :=
  fun G p la e R s m args below meth c Fin mc ms C rt hmc hms H locs cells slots ls ho hl hq h1 h2 => W.widen (Nat.le_trans (Nat.le_add_right _ _) h1) (Nat.le_trans (Nat.le_add_right _ _) h2) (rt [.long v] h H locs pc ls q ho hq (Or.inr (Or.inr (Or.inl ⟨v, rfl, hr, hd⟩))))
theorem e_aret {a : Nat} {rt0 : FieldType} (hd : decode y.2.1 pc = .ok (.areturn, 1)) (hr : y.2.2.2 = some rt0) (hn : (∃ n, rt0 = .object n) ∨ ∃ t, rt0 = .array t) (q : Q [.ref a] h) : x_E y d kc ks pc l [.ref a] h Q :=
  fun G p la e R s m args below meth c Fin mc ms C rt hmc hms H locs cells slots ls ho hl hq h1 h2 => W.widen (Nat.le_trans (Nat.le_add_right _ _) h1) (Nat.le_trans (Nat.le_add_right _ _) h2) (rt [.ref a] h H locs pc ls q ho hq (Or.inr (Or.inr (Or.inr ⟨a, rt0, rfl, hr, hn, hd⟩))))
end XR
section XH
variable {y : xM} {d kc ks pc : Nat} {l : List (Nat × Value)} {st : List Value} {h : xH} {Q : List Value → xH → Prop}
def x_Fd (own : String) (idx ci k : Nat) (ty : FieldType) (fin : Bool) : Prop := ∃ r : vw_C, xCl[ci]? = some r ∧ k < r.2.2 ∧ Cond.fieldLink own idx (r.2.1 k).1 (r.2.1 k).2.1 (r.2.1 k).2.2.1 ∈ xW0 ∧ parseFieldDescriptor (r.2.1 k).2.2.1 = some ty ∧ (r.2.1 k).2.2.2 = fin ∧ (r.2.1 k).1 = r.1
def x_ok (ty : FieldType) (v : Value) : Prop := match v with
  | .ref _ => (∃ n, ty = .object n) ∨ ∃ t, ty = .array t
  | v => narrow ty v = v ∧ fits ty v = true
theorem x_fit (G : xG) {ty : FieldType} {v : Value} (h : x_ok ty v) : narrow ty (x_sh G v) = x_sh G v ∧ fits ty (x_sh G v) = true := by
  cases v with
  | ref a =>
    rcases h with ⟨n, rfl⟩ | ⟨t, rfl⟩
    · match a with
      | 0 => exact ⟨rfl, rfl⟩
      | 1 => exact ⟨rfl, rfl⟩
      | a + 2 => exact ⟨rfl, rfl⟩
    · match a with
      | 0 => exact ⟨rfl, rfl⟩
      | 1 => exact ⟨rfl, rfl⟩
      | a + 2 => exact ⟨rfl, rfl⟩
  | int x => exact h
  | long x => exact h
  | float x => exact h
  | double x => exact h
  | null => exact h
  | retAddr x => exact h
theorem x_updset (G : xG) {fs : List Value} {k : Nat} (hk : k < fs.length) (v : Value) (j : Nat) : updV (fun j => x_sh G (fs.getD j .null)) k (x_sh G v) j = x_sh G ((fs.set k v).getD j .null) := by
  unfold updV
  by_cases e : j = k
  · subst e
    simp [List.getD_eq_getElem?_getD, hk]
  · rw [if_neg e]
    simp [List.getD_eq_getElem?_getD, List.getElem?_set_ne (Ne.symm e)]
theorem x_two {h : xH} {G : xG} {H : Heap} (ho : x_Ho G h H) : x_sh G (.ref h.1) = .ref H.size ∧ G.2.1 + (h.1 - 2) = H.size := by
  obtain ⟨o1, o2, -, -⟩ := ho
  obtain ⟨n, hn⟩ : ∃ n, h.1 = n + 2 := ⟨h.1 - 2, by omega⟩
  rw [hn] at o1 ⊢
  constructor
  · exact congrArg Value.ref (show (G.2.1 + n : Nat) = H.size by omega)
  · omega
theorem x_lt {k : Nat} {ty : FieldType} (h : xTy[k]? = some ty) : k < 5 := (List.getElem?_eq_some_iff.mp h).1
theorem e_get {idx ci k a : Nat} {ty : FieldType} {fin : Bool} {fs : List Value} {v : Value} (hd : decode y.2.1 pc = .ok (.getfield idx, 3)) (hF : x_Fd y.1.cls idx ci k ty fin) (ha : h.2 a = some (.inr (ci, fs))) (hv : fs[k]? = some v) (kk : x_E y d kc ks (pc + 3) l (v :: st) h Q) : x_E y d kc ks pc l (.ref a :: st) h Q := by
  intro G p la e R s m args below meth c Fin mc ms C rt hmc hms H locs cells slots ls ho hl hq h1 h2
  obtain ⟨r, hr, hk, hw, -, -, -⟩ := hF
  obtain ⟨a2, al, r', hr', hn, cell, q1, q2, q3, q4⟩ := ho.at ha trivial
  have er : r = r' := Option.some.inj (hr.symm.trans hr')
  subst er
  obtain ⟨b, rfl⟩ : ∃ b, a = b + 2 := ⟨a - 2, by omega⟩
  rw [Nat.add_sub_cancel] at q1
  have hts := C.2.2.2.2.2.1
  obtain ⟨hS, hfc, kC, hkC, hkind⟩ := C.2.2.2.2.2.2.1.1.1.1 ci _ hr
  obtain ⟨cf, kf, fi, f, hi, hsl⟩ := hS k hk
  refine W.getf C.1 C.2.1 C.2.2.2.2.1 (hts _ hw) hi (u_facts hfc hkC (u_lays hts (x_clok ci r hr).1 hk) hi).1 q1 (by rw [q3]; exact fun h => by cases h) (v := x_sh G v) ?_ rfl rfl hd (kk G p la e R s m args below meth c Fin mc ms C rt hmc hms H locs cells slots ls ho hl hq h1 h2)
  rw [hsl, q4 k hk]
  simp [List.getD_eq_getElem?_getD, hv]
theorem e_put {idx ci k a : Nat} {ty : FieldType} {fs : List Value} {v : Value} (hd : decode y.2.1 pc = .ok (.putfield idx, 3)) (hF : x_Fd y.1.cls idx ci k ty false) (ha : h.2 a = some (.inr (ci, fs))) (hv : x_ok ty v) (kk : x_E y d kc ks (pc + 3) l st (x_up h a (.inr (ci, fs.set k v))) Q) : x_E y d kc ks pc l (v :: .ref a :: st) h Q := by
  intro G p la e R s m args below meth c Fin mc ms C rt hmc hms H locs cells slots ls ho hl hq h1 h2
  obtain ⟨r, hr, hk, hw, hty, hfin, -⟩ := hF
  have hho := ho.at ha trivial
  obtain ⟨a2, al, r', hr', hn, cell, q1, q2, q3, q4⟩ := hho
  have er : r = r' := Option.some.inj (hr.symm.trans hr')
  subst er
  obtain ⟨b, rfl⟩ : ∃ b, a = b + 2 := ⟨a - 2, by omega⟩
  rw [Nat.add_sub_cancel] at q1
  have hts := C.2.2.2.2.2.1
  obtain ⟨hin, htys, hnm⟩ := x_clok ci r hr
  have hap := va_apart (own := "") hts hin (fun k => (parseFieldDescriptor (r.2.1 k).2.2.1).getD .int) (fun k hk => by obtain ⟨t, e⟩ := htys k hk; rw [e]; rfl) hnm C.2.2.2.2.2.2.1.1.1 hr
  obtain ⟨hS, hfc, kC, hkC, hkind⟩ := C.2.2.2.2.2.2.1.1.1.1 ci _ hr
  obtain ⟨cf, kf, fi, f, hi, hsl⟩ := hS k hk
  have hlay := hts _ (hin _ (u_in_lay hk))
  unfold u_lay at hlay
  rw [if_neg (by rw [hfin]; decide)] at hlay
  have hst := (u_facts hfc hkC (u_lays hts hin hk) hi).1
  have h6 := u_store hfc hkC hkind hlay hi hty (x_fit G hv).1 (x_fit G hv).2
  refine W.putK C.1 C.2.1 (f := f) ⟨C.2.2.2.2.1, hts _ hw, ⟨_, _, _, hi⟩, hst⟩ (by rw [q2]; exact h6) q1 q3 (by rw [hsl]; exact k2_hasslot (q4 k hk)) rfl rfl hd fun H' e1 e2 e3 => ?_
  rw [hsl] at e1 ⊢
  have ho' : x_Ho G (x_up h (b + 2) (.inr (ci, fs.set k v))) H' := by
    refine ho.put C.2.2.2.2.2.2.2.2.2.2.2 ha trivial e2 (fun q hq => e3 q (by rw [Nat.add_sub_cancel] at hq; exact hq)) ⟨r, hr, by simp only [List.length_set]; exact hn, ?_⟩
    rw [Nat.add_sub_cancel]
    refine t_OB.to (V := updV (fun j => x_sh G (fs.getD j .null)) k (x_sh G v)) ⟨_, e1, q2, q3, t_set q4 hap hk _⟩ (fun j _ => x_updset G (by rw [hn]; exact hk) v j)
  refine kk G p la e R s m args below meth c Fin mc ms C rt hmc hms H' _ cells slots ls ho' hl (fun q hq' => ?_) h1 h2
  rcases List.mem_append.mp hq' with h7 | h7
  · exact hq q h7
  · rw [List.mem_singleton.mp h7]; exact Nat.le_add_right _ _
theorem e_putF {idx ci k a : Nat} {ty : FieldType} {fs : List Value} {v : Value} (hd : decode y.2.1 pc = .ok (.putfield idx, 3)) (hF : x_Fd y.1.cls idx ci k ty true) (hcl : (xCl[ci]?).map (fun r => r.1) = some y.1.cls) (hini : y.1.name = "<init>") (ha : h.2 a = some (.inr (ci, fs))) (hv : x_ok ty v) (kk : x_E y d kc ks (pc + 3) l st (x_up h a (.inr (ci, fs.set k v))) Q) : x_E y d kc ks pc l (v :: .ref a :: st) h Q := by
  intro G p la e R s m args below meth c Fin mc ms C rt hmc hms H locs cells slots ls ho hl hq h1 h2
  obtain ⟨r, hr, hk, hw, hty, hfin, hown⟩ := hF
  have hho := ho.at ha trivial
  obtain ⟨a2, al, r', hr', hn, cell, q1, q2, q3, q4⟩ := hho
  have er : r = r' := Option.some.inj (hr.symm.trans hr')
  subst er
  rw [hr] at hcl
  have hcl : r.1 = y.1.cls := Option.some.inj hcl
  obtain ⟨b, rfl⟩ : ∃ b, a = b + 2 := ⟨a - 2, by omega⟩
  rw [Nat.add_sub_cancel] at q1
  have hts := C.2.2.2.2.2.1
  obtain ⟨hin, htys, hnm⟩ := x_clok ci r hr
  have hap := va_apart (own := "") hts hin (fun k => (parseFieldDescriptor (r.2.1 k).2.2.1).getD .int) (fun k hk => by obtain ⟨t, e⟩ := htys k hk; rw [e]; rfl) hnm C.2.2.2.2.2.2.1.1.1 hr
  obtain ⟨hS, hfc, kC, hkC, hkind⟩ := C.2.2.2.2.2.2.1.1.1.1 ci _ hr
  obtain ⟨cf, kf, fi, f, hi, hsl⟩ := hS k hk
  have hlay := hts _ (hin _ (u_in_lay hk))
  unfold u_lay at hlay
  rw [if_pos hfin] at hlay
  have hst := (u_facts hfc hkC (u_lays hts hin hk) hi).1
  have hcf : m.cls = cf := by
    obtain ⟨_, _, c', _, _, _, -, -, hf', -, -, -, hown2, -⟩ := Cond.laysFinal_spec hlay
    have e1 : c' = cf := by have := hi.symm.trans hf'; simp at this; exact this.1.symm
    rw [hown, hcl] at hown2
    rw [← e1]; exact Option.some.inj (C.2.2.2.2.1.symm.trans hown2)
  have h6 := u_fits hfc hkC hkind (Or.inr hlay) hi hty (x_fit G hv).1 (x_fit G hv).2
  refine W.putFinK C.1 C.2.1 C.2.2.2.2.1 (hts _ hw) hi hst hcf (C.2.2.2.2.2.2.2.2.1.trans hini) (by rw [q2]; exact h6) q1 q3 (by rw [hsl]; exact k2_hasslot (q4 k hk)) rfl rfl hd fun H' e1 e2 e3 => ?_
  rw [hsl] at e1 ⊢
  have ho' : x_Ho G (x_up h (b + 2) (.inr (ci, fs.set k v))) H' := by
    refine ho.put C.2.2.2.2.2.2.2.2.2.2.2 ha trivial e2 (fun q hq => e3 q (by rw [Nat.add_sub_cancel] at hq; exact hq)) ⟨r, hr, by simp only [List.length_set]; exact hn, ?_⟩
    rw [Nat.add_sub_cancel]
    refine t_OB.to (V := updV (fun j => x_sh G (fs.getD j .null)) k (x_sh G v)) ⟨_, e1, q2, q3, t_set q4 hap hk _⟩ (fun j _ => x_updset G (by rw [hn]; exact hk) v j)
  refine kk G p la e R s m args below meth c Fin mc ms C rt hmc hms H' _ cells slots ls ho' hl (fun q hq' => ?_) h1 h2
  rcases List.mem_append.mp hq' with h7 | h7
  · exact hq q h7
  · rw [List.mem_singleton.mp h7]; exact Nat.le_add_right _ _
def x_df (ty : FieldType) : Value := match ty with
  | .object _ => .ref 0
  | .array _ => .ref 0
  | ty => defaultValue ty
theorem x_dfs (G : xG) (ty : FieldType) : x_sh G (x_df ty) = defaultValue ty := by cases ty <;> rfl
def x_Nw (own : String) (idx ci : Nat) (fs : List Value) : Prop := ∃ r : vw_C, xCl[ci]? = some r ∧ Cond.classLink own idx r.1 ∈ xW0 ∧ Cond.instantiable r.1 r.2.2 ∈ xW0 ∧ Cond.initialized r.1 ∈ xW0 ∧ fs.length = r.2.2 ∧ ∀ k, k < r.2.2 → (parseFieldDescriptor (r.2.1 k).2.2.1).map x_df = some (fs.getD k .null)
theorem e_new {idx ci kc' ks' : Nat} {fs : List Value} (hd : decode y.2.1 pc = .ok (.new idx, 3)) (hN : x_Nw y.1.cls idx ci fs) (hkc : kc' + 1 = kc) (hks : ks' + fs.length = ks) (kk : x_E y d kc' ks' (pc + 3) l (.ref h.1 :: st) (x_nw h (.inr (ci, fs))) Q) : x_E y d kc ks pc l st h Q := by
  intro G p la e R s m args below meth c Fin mc ms C rt hmc hms H locs cells slots ls ho hl hq h1 h2
  obtain ⟨r, hr, w1, w2, w3, hlen, hfs⟩ := hN
  have hts := C.2.2.2.2.2.1
  have hKn := C.2.2.2.2.2.2.1.1.1.1 ci _ hr
  obtain ⟨e1, e2⟩ := x_two ho
  obtain ⟨hin, htys, hnm⟩ := x_clok ci r hr
  refine W.newcK C.1 C.2.1 C.2.2.2.2.1 (hts _ w1) (hts _ w2) (hts _ w3) rfl hd (by omega) (by omega) hKn.2.1 rfl fun H1 kC hkC g1 z1 o1 => ?_
  have ho' : x_Ho G (x_nw h (.inr (ci, fs))) H1 := by
    refine ho.new C.2.2.2.2.2.2.2.2.2.2.2 z1 o1 ⟨r, hr, hlen, ?_⟩
    rw [e2]
    refine (u_born (fun k => (parseFieldDescriptor (r.2.1 k).2.2.1).getD .int) hts hin hKn hkC g1 (fun k hk => by obtain ⟨t, e⟩ := htys k hk; rw [e]; rfl)).to (fun k hk => ?_)
    have e3 := hfs k hk
    obtain ⟨t, e⟩ := htys k hk
    simp only [e, Option.map_some, Option.some.injEq] at e3
    simp only [e, Option.getD_some, ← e3, x_dfs]
  have k2 := kk G p la e R s m args below meth c Fin mc ms C rt hmc hms H1 locs (cells + 1) (slots + r.2.2) ls ho' hl hq (by omega) (by omega)
  rw [List.map_cons, e1] at k2
  exact k2
theorem x_arrV {cA : ClassId} {n : Nat} {f g : Nat → Value} (h : ∀ j, j < n → f j = g j) : arrV cA n f = arrV cA n g := by
  unfold arrV
  congr 2
  funext j
  exact h j.val j.isLt
theorem x_repl (G : xG) (ty : FieldType) (N : Nat) {cA : ClassId} : arrV cA N (fun _ => defaultValue ty) = arrV cA (List.replicate N (x_df ty)).length (fun j => x_sh G ((List.replicate N (x_df ty)).getD j .null)) := by
  rw [List.length_replicate]
  refine x_arrV fun j hj => ?_
  simp [List.getD_eq_getElem?_getD, hj, x_dfs]
theorem e_newa {kc' ks' k N : Nat} {atype : ArrayType} {n : Int32} (hd : decode y.2.1 pc = .ok (.newarray atype, 2)) (hk : xTy[k]? = some (newarray.typeOf atype)) (hw : Cond.arrayClass (newarray.typeOf atype) ∈ xW0) (hn : n = nI N) (hN : N ≤ 65536) (hkc : kc' + 1 = kc) (hks : ks' + N = ks)
    (kk : x_E y d kc' ks' (pc + 2) l (.ref h.1 :: st) (x_nw h (.inl (k, List.replicate N (x_df (newarray.typeOf atype))))) Q) : x_E y d kc ks pc l (.int n :: st) h Q := by
  intro G p la e R s m args below meth c Fin mc ms C rt hmc hms H locs cells slots ls ho hl hq h1 h2
  have hts := C.2.2.2.2.2.1
  obtain ⟨e1, e2⟩ := x_two ho
  have hNn : n.toNatClampNeg = N := by rw [hn]; exact nI_clamp (by omega)
  refine va_newaK C.1 C.2.1 (hts _ hw) rfl hd rfl (by rw [hn]; exact nI_pos (by omega)) hNn (by cases atype <;> simp [newarray.typeOf, componentBytes] <;> omega) (by omega) (by omega) rfl fun H1 cA g1 z1 o1 hAr hNm => ?_
  have hcA : cA = G.2.2.2.2 k := by
    have h3 := (C.2.2.2.2.2.2.1.2 k _ hk).2.1
    have h4 : s.vm.findClass ("[" ++ (newarray.typeOf atype).toString) = some (G.2.2.2.2 k) := by cases atype <;> exact h3
    exact Option.some.inj (hNm.symm.trans h4)
  subst hcA
  have ho' : x_Ho G (x_nw h (.inl (k, List.replicate N (x_df (newarray.typeOf atype))))) H1 := by
    refine ho.new C.2.2.2.2.2.2.2.2.2.2.2 z1 o1 ⟨by simp only [List.length_replicate]; omega, ?_⟩
    rw [e2, g1, x_repl G]
  have k2 := kk G p la e R s m args below meth c Fin mc ms C rt hmc hms H1 locs (cells + 1) (slots + N) ls ho' hl hq (by omega) (by omega)
  rw [List.map_cons, e1] at k2
  exact k2
theorem e_newq {kc' ks' k N idx : Nat} {Cn : String} {n : Int32} (hd : decode y.2.1 pc = .ok (.anewarray idx, 3)) (hk : xTy[k]? = some (.object Cn)) (hw : Cond.classLink y.1.cls idx Cn ∈ xW0) (hn : n = nI N) (hN : N ≤ 65536) (hkc : kc' + 1 = kc) (hks : ks' + N = ks)
    (kk : x_E y d kc' ks' (pc + 3) l (.ref h.1 :: st) (x_nw h (.inl (k, List.replicate N (.ref 0)))) Q) : x_E y d kc ks pc l (.int n :: st) h Q := by
  intro G p la e R s m args below meth c Fin mc ms C rt hmc hms H locs cells slots ls ho hl hq h1 h2
  have hts := C.2.2.2.2.2.1
  obtain ⟨e1, e2⟩ := x_two ho
  obtain ⟨hAr, hRA, hAO⟩ := C.2.2.2.2.2.2.1.2 k _ hk
  have hNn : n.toNatClampNeg = N := by rw [hn]; exact nI_clamp (by omega)
  refine W.anew C.1 C.2.1 C.2.2.2.2.1 (hts _ hw) (va_AO.use (hAO Cn rfl)) rfl hd rfl (by rw [hn]; exact nI_pos (by omega)) (by rw [hNn]; omega) (by omega) (by rw [hNn]; omega) fun cA kA comp f1 f2 f3 f4 => ?_
  rw [hNn]
  generalize hH1 : H.push ({ cls := cA, slots := Array.replicate N .null, vm := .none } : Cell) = H1
  have z1 : H1.size = H.size + 1 := by rw [← hH1, Array.size_push]
  have g1 : H1[H.size]? = some (arrV cA N (fun _ => .null)) := by rw [← hH1, Array.getElem?_push_size, ← arrV_new]
  have o1 : ∀ q : Nat, q < H.size → H1[q]? = H[q]? := fun q hq => by rw [← hH1, Array.getElem?_push, if_neg (Nat.ne_of_lt hq)]
  have hcA : cA = G.2.2.2.2 k := by
    obtain ⟨kA', comp', k1, k2, k3, k4⟩ := hRA
    exact Option.some.inj (f1.symm.trans k4)
  subst hcA
  have ho' : x_Ho G (x_nw h (.inl (k, List.replicate N (.ref 0)))) H1 := by
    refine ho.new C.2.2.2.2.2.2.2.2.2.2.2 z1 o1 ⟨by simp only [List.length_replicate]; omega, ?_⟩
    rw [e2, g1]
    exact congrArg some (x_repl G (.object Cn) N)
  have k2 := kk G p la e R s m args below meth c Fin mc ms C rt hmc hms H1 locs (cells + 1) (slots + N) ls ho' hl hq (by omega) (by omega)
  rw [List.map_cons, e1] at k2
  exact k2
theorem e_alen {k a : Nat} {vs : List Value} {n : Int32} (hd : decode y.2.1 pc = .ok (.arraylength, 1)) (ha : h.2 a = some (.inl (k, vs))) (hk0 : k < 5) (hn : n = nI vs.length) (kk : x_E y d kc ks (pc + 1) l (.int n :: st) h Q) : x_E y d kc ks pc l (.ref a :: st) h Q := by
  intro G p la e R s m args below meth c Fin mc ms C rt hmc hms H locs cells slots ls ho hl hq h1 h2
  obtain ⟨ty, hk⟩ : ∃ ty, xTy[k]? = some ty := ⟨_, List.getElem?_eq_getElem (show k < xTy.length from hk0)⟩
  obtain ⟨a2, al, hlen, q1⟩ := ho.at ha (x_lt hk)
  obtain ⟨b, rfl⟩ : ∃ b, a = b + 2 := ⟨a - 2, by omega⟩
  rw [Nat.add_sub_cancel] at q1
  exact W.alen (n := n) C.1 C.2.1 q1 ((C.2.2.2.2.2.2.1.2 k ty hk).1 _ _) (by rw [arrV_size, hn]; rfl) rfl rfl hd (kk G p la e R s m args below meth c Fin mc ms C rt hmc hms H locs cells slots ls ho hl hq h1 h2)
theorem x_arin {vs : List Value} {i : Int32} {j : Nat} {v : Value} {cA : ClassId} {f : Nat → Value} (hlen : vs.length < 2147483648) (hi : i = nI j) (hv : vs[j]? = some v) : ¬ (i < 0 ∨ (arrV cA vs.length f).slots.size ≤ i.toNatClampNeg) ∧ i.toNatClampNeg = j ∧ j < vs.length := by
  have hj : j < vs.length := (List.getElem?_eq_some_iff.mp hv).1
  rw [arrV_size, hi]
  exact ⟨nI_in hj hlen, nI_clamp (by omega), hj⟩
theorem e_iald {k a j : Nat} {vs : List Value} {i : Int32} {v : Value} (hd : decode y.2.1 pc = .ok (.iaload, 1)) (ha : h.2 a = some (.inl (k, vs))) (hk : xTy[k]? = some .int) (hi : i = nI j) (hv : vs[j]? = some v) (kk : x_E y d kc ks (pc + 1) l (v :: st) h Q) : x_E y d kc ks pc l (.int i :: .ref a :: st) h Q := by
  intro G p la e R s m args below meth c Fin mc ms C rt hmc hms H locs cells slots ls ho hl hq h1 h2
  obtain ⟨a2, al, hlen, q1⟩ := ho.at ha (x_lt hk)
  obtain ⟨b, rfl⟩ : ∃ b, a = b + 2 := ⟨a - 2, by omega⟩
  rw [Nat.add_sub_cancel] at q1
  obtain ⟨i1, i2, i3⟩ := x_arin (cA := G.2.2.2.2 k) (f := fun q => x_sh G (vs.getD q .null)) hlen hi hv
  exact W.iald (v := x_sh G v) C.1 C.2.1 q1 ((C.2.2.2.2.2.2.1.2 k _ hk).1 _ _) (fun q => by cases q) i1 (by rw [i2, arrV_read _ _ i3]; simp [List.getD_eq_getElem?_getD, hv]) rfl rfl hd (kk G p la e R s m args below meth c Fin mc ms C rt hmc hms H locs cells slots ls ho hl hq h1 h2)
theorem e_lald {k a j : Nat} {vs : List Value} {i : Int32} {v : Value} (hd : decode y.2.1 pc = .ok (.laload, 1)) (ha : h.2 a = some (.inl (k, vs))) (hk : xTy[k]? = some .long) (hi : i = nI j) (hv : vs[j]? = some v) (kk : x_E y d kc ks (pc + 1) l (v :: st) h Q) : x_E y d kc ks pc l (.int i :: .ref a :: st) h Q := by
  intro G p la e R s m args below meth c Fin mc ms C rt hmc hms H locs cells slots ls ho hl hq h1 h2
  obtain ⟨a2, al, hlen, q1⟩ := ho.at ha (x_lt hk)
  obtain ⟨b, rfl⟩ : ∃ b, a = b + 2 := ⟨a - 2, by omega⟩
  rw [Nat.add_sub_cancel] at q1
  obtain ⟨i1, i2, i3⟩ := x_arin (cA := G.2.2.2.2 k) (f := fun q => x_sh G (vs.getD q .null)) hlen hi hv
  exact W.lald (v := x_sh G v) C.1 C.2.1 q1 ((C.2.2.2.2.2.2.1.2 k _ hk).1 _ _) (fun q => by cases q) i1 (by rw [i2, arrV_read _ _ i3]; simp [List.getD_eq_getElem?_getD, hv]) rfl rfl hd (kk G p la e R s m args below meth c Fin mc ms C rt hmc hms H locs cells slots ls ho hl hq h1 h2)
theorem e_zald {k a j : Nat} {vs : List Value} {i : Int32} {v : Value} (hd : decode y.2.1 pc = .ok (.baload, 1)) (ha : h.2 a = some (.inl (k, vs))) (hk : xTy[k]? = some .boolean) (hi : i = nI j) (hv : vs[j]? = some v) (kk : x_E y d kc ks (pc + 1) l (v :: st) h Q) : x_E y d kc ks pc l (.int i :: .ref a :: st) h Q := by
  intro G p la e R s m args below meth c Fin mc ms C rt hmc hms H locs cells slots ls ho hl hq h1 h2
  obtain ⟨a2, al, hlen, q1⟩ := ho.at ha (x_lt hk)
  obtain ⟨b, rfl⟩ : ∃ b, a = b + 2 := ⟨a - 2, by omega⟩
  rw [Nat.add_sub_cancel] at q1
  obtain ⟨i1, i2, i3⟩ := x_arin (cA := G.2.2.2.2 k) (f := fun q => x_sh G (vs.getD q .null)) hlen hi hv
  exact W.zald (v := x_sh G v) C.1 C.2.1 q1 ((C.2.2.2.2.2.2.1.2 k _ hk).1 _ _) (fun q => by cases q) i1 (by rw [i2, arrV_read _ _ i3]; simp [List.getD_eq_getElem?_getD, hv]) rfl rfl hd (kk G p la e R s m args below meth c Fin mc ms C rt hmc hms H locs cells slots ls ho hl hq h1 h2)
theorem e_bald {k a j : Nat} {vs : List Value} {i : Int32} {v : Value} (hd : decode y.2.1 pc = .ok (.baload, 1)) (ha : h.2 a = some (.inl (k, vs))) (hk : xTy[k]? = some .byte) (hi : i = nI j) (hv : vs[j]? = some v) (kk : x_E y d kc ks (pc + 1) l (v :: st) h Q) : x_E y d kc ks pc l (.int i :: .ref a :: st) h Q := by
  intro G p la e R s m args below meth c Fin mc ms C rt hmc hms H locs cells slots ls ho hl hq h1 h2
  obtain ⟨a2, al, hlen, q1⟩ := ho.at ha (x_lt hk)
  obtain ⟨b, rfl⟩ : ∃ b, a = b + 2 := ⟨a - 2, by omega⟩
  rw [Nat.add_sub_cancel] at q1
  obtain ⟨i1, i2, i3⟩ := x_arin (cA := G.2.2.2.2 k) (f := fun q => x_sh G (vs.getD q .null)) hlen hi hv
  exact W.bald (v := x_sh G v) C.1 C.2.1 q1 ((C.2.2.2.2.2.2.1.2 k _ hk).1 _ _) (fun q => by cases q) i1 (by rw [i2, arrV_read _ _ i3]; simp [List.getD_eq_getElem?_getD, hv]) rfl rfl hd (kk G p la e R s m args below meth c Fin mc ms C rt hmc hms H locs cells slots ls ho hl hq h1 h2)
theorem e_aald {k a j : Nat} {vs : List Value} {i : Int32} {v : Value} {ty : FieldType} (hd : decode y.2.1 pc = .ok (.aaload, 1)) (ha : h.2 a = some (.inl (k, vs))) (hk : xTy[k]? = some ty) (hr : ty.isReference = true) (hi : i = nI j) (hv : vs[j]? = some v) (kk : x_E y d kc ks (pc + 1) l (v :: st) h Q) : x_E y d kc ks pc l (.int i :: .ref a :: st) h Q := by
  intro G p la e R s m args below meth c Fin mc ms C rt hmc hms H locs cells slots ls ho hl hq h1 h2
  obtain ⟨a2, al, hlen, q1⟩ := ho.at ha (x_lt hk)
  obtain ⟨b, rfl⟩ : ∃ b, a = b + 2 := ⟨a - 2, by omega⟩
  rw [Nat.add_sub_cancel] at q1
  obtain ⟨i1, i2, i3⟩ := x_arin (cA := G.2.2.2.2 k) (f := fun q => x_sh G (vs.getD q .null)) hlen hi hv
  exact W.aald (v := x_sh G v) (ty := ty) C.1 C.2.1 q1 ((C.2.2.2.2.2.2.1.2 k _ hk).1 _ _) hr (fun q => by cases q) i1 (by rw [i2, arrV_read _ _ i3]; simp [List.getD_eq_getElem?_getD, hv]) rfl rfl hd (kk G p la e R s m args below meth c Fin mc ms C rt hmc hms H locs cells slots ls ho hl hq h1 h2)
theorem x_arst (G : xG) {cA : ClassId} {vs : List Value} {j : Nat} (v : Value) (hj : j < vs.length) : (arrV cA vs.length (fun q => x_sh G (vs.getD q .null))).setSlot j (x_sh G v) = arrV cA (vs.set j v).length (fun q => x_sh G ((vs.set j v).getD q .null)) := by
  rw [arrV_store, List.length_set]
  exact x_arrV fun q _ => x_updset G hj v q
theorem x_locs {locs : List Loc} {n a i : Nat} (h : ∀ q ∈ locs, n ≤ q.base) (ha : n ≤ a) : ∀ q ∈ locs ++ [(⟨a, i⟩ : Loc)], n ≤ q.base := by
  intro q hq
  rcases List.mem_append.mp hq with h7 | h7
  · exact h q h7
  · rw [List.mem_singleton.mp h7]; exact ha
theorem e_aast {k a ci z j : Nat} {vs fs : List Value} {i : Int32} {Cn : String} (hd : decode y.2.1 pc = .ok (.aastore, 1)) (ha : h.2 a = some (.inl (k, vs))) (hk : xTy[k]? = some (.object Cn)) (hi : i = nI j) (hj : j < vs.length) (hz : h.2 z = some (.inr (ci, fs))) (hc : (xCl[ci]?).map (fun r => r.1) = some Cn)
    (kk : x_E y d kc ks (pc + 1) l st (x_up h a (.inl (k, vs.set j (.ref z)))) Q) : x_E y d kc ks pc l (.ref z :: .int i :: .ref a :: st) h Q := by
  intro G p la e R s m args below meth c Fin mc ms C rt hmc hms H locs cells slots ls ho hl hq h1 h2
  obtain ⟨a2, al, hlen, q1⟩ := ho.at ha (x_lt hk)
  obtain ⟨b, rfl⟩ : ∃ b, a = b + 2 := ⟨a - 2, by omega⟩
  obtain ⟨z2, zl, r, hr, hfn, cell, g1, g2, g3, g4⟩ := ho.at hz trivial
  obtain ⟨w, rfl⟩ : ∃ w, z = w + 2 := ⟨z - 2, by omega⟩
  rw [Nat.add_sub_cancel] at q1 g1
  have hcC : r.1 = Cn := by
    have e : xCl[ci]? = some r := hr
    rw [e] at hc
    exact Option.some.inj hc
  subst hcC
  have hcls := (C.2.2.2.2.2.2.1.1.1.1 ci r hr).2
  obtain ⟨kA, comp, k1, k2, k3, -⟩ := (C.2.2.2.2.2.2.1.2 k _ hk).2.1
  have hcomp : comp = G.2.2.2.1.1 ci := Option.some.inj (k3.symm.trans hcls.1)
  subst hcomp
  obtain ⟨kC, hkC, -⟩ := hcls.2
  obtain ⟨v, hv⟩ : ∃ v, vs[j]? = some v := ⟨_, List.getElem?_eq_getElem hj⟩
  obtain ⟨i1, i2, i3⟩ := x_arin (cA := G.2.2.2.2 k) (f := fun q => x_sh G (vs.getD q .null)) hlen hi hv
  refine W.aast C.1 C.2.1 q1 (fun q h => by cases h) (fun h => by cases h) k1 k2 rfl hkC ⟨fun q => i1 (Or.inl q), Nat.not_le.mp fun q => i1 (Or.inr q)⟩ g1 (fun q h => by rw [g3] at h; cases h) (by rw [g2]; exact hkC) (by rw [g2]; exact va_assign hcls) rfl rfl hd fun H1 e1 z1 o1 => ?_
  refine kk G p la e R s m args below meth c Fin mc ms C rt hmc hms H1 _ cells slots ls (ho.put C.2.2.2.2.2.2.2.2.2.2.2 ha (x_lt hk) z1 (fun q hq => o1 q (by rw [Nat.add_sub_cancel] at hq; exact hq)) ⟨by simp only [List.length_set]; exact hlen, ?_⟩) hl (x_locs hq (Nat.le_add_right _ _)) h1 h2
  rw [Nat.add_sub_cancel, e1, i2]
  exact congrArg some (x_arst G (.ref (w + 2)) i3)
theorem e_aastN {k a j : Nat} {vs : List Value} {i : Int32} {Cn : String} (hd : decode y.2.1 pc = .ok (.aastore, 1)) (ha : h.2 a = some (.inl (k, vs))) (hk : xTy[k]? = some (.object Cn)) (hi : i = nI j) (hj : j < vs.length)
    (kk : x_E y d kc ks (pc + 1) l st (x_up h a (.inl (k, vs.set j (.ref 0)))) Q) : x_E y d kc ks pc l (.ref 0 :: .int i :: .ref a :: st) h Q := by
  intro G p la e R s m args below meth c Fin mc ms C rt hmc hms H locs cells slots ls ho hl hq h1 h2
  obtain ⟨a2, al, hlen, q1⟩ := ho.at ha (x_lt hk)
  obtain ⟨b, rfl⟩ : ∃ b, a = b + 2 := ⟨a - 2, by omega⟩
  rw [Nat.add_sub_cancel] at q1
  obtain ⟨v, hv⟩ : ∃ v, vs[j]? = some v := ⟨_, List.getElem?_eq_getElem hj⟩
  obtain ⟨i1, i2, i3⟩ := x_arin (cA := G.2.2.2.2 k) (f := fun q => x_sh G (vs.getD q .null)) hlen hi hv
  refine va_WaastN (C := Cn) C.1 C.2.1 q1 ((C.2.2.2.2.2.2.1.2 k _ hk).1 _ _) (fun h => by cases h) i1 rfl rfl hd fun H1 e1 z1 o1 => ?_
  refine kk G p la e R s m args below meth c Fin mc ms C rt hmc hms H1 _ cells slots ls (ho.put C.2.2.2.2.2.2.2.2.2.2.2 ha (x_lt hk) z1 (fun q hq => o1 q (by rw [Nat.add_sub_cancel] at hq; exact hq)) ⟨by simp only [List.length_set]; exact hlen, ?_⟩) hl (x_locs hq (Nat.le_add_right _ _)) h1 h2
  rw [Nat.add_sub_cancel, e1, i2]
  exact congrArg some (x_arst G (.ref 0) i3)
theorem e_slen {xs : List Int32} {n : Int32} (hd : decode y.2.1 pc = .ok (.arraylength, 1)) (ha : h.2 1 = some (.inl (5, xs.map Value.int))) (hn : n = nI xs.length) (kk : x_E y d kc ks (pc + 1) l (.int n :: st) h Q) : x_E y d kc ks pc l (.ref 1 :: st) h Q := by
  intro G p la e R s m args below meth c Fin mc ms C rt hmc hms H locs cells slots ls ho hl hq h1 h2
  rcases ho.2.2.2 1 _ ha with ⟨-, ys, ey, g1, g2, g3⟩ | ⟨q, -⟩
  · have ex : xs = ys := by
      have e2 : xs.map Value.int = ys.map Value.int := congrArg (fun c : xC => match c with | .inl q => q.2 | .inr q => q.2) ey
      exact (List.map_inj_right (fun _ _ hab => Value.int.inj hab)).mp e2
    subst ex
    exact W.alen (n := n) C.1 C.2.1 ho.2.2.1 C.2.2.2.2.2.2.1.1.2.1 (by rw [g1, hn]; rfl) rfl rfl hd (kk G p la e R s m args below meth c Fin mc ms C rt hmc hms H locs cells slots ls ho hl hq h1 h2)
  · exact absurd q (by decide)
theorem e_sld {xs : List Int32} {i : Int32} {j : Nat} (hd : decode y.2.1 pc = .ok (.iaload, 1)) (ha : h.2 1 = some (.inl (5, xs.map Value.int))) (hi : i = nI j) (hj : j < xs.length) (kk : x_E y d kc ks (pc + 1) l (.int (xs.getD j 0) :: st) h Q) : x_E y d kc ks pc l (.int i :: .ref 1 :: st) h Q := by
  intro G p la e R s m args below meth c Fin mc ms C rt hmc hms H locs cells slots ls ho hl hq h1 h2
  rcases ho.2.2.2 1 _ ha with ⟨-, ys, ey, g1, g2, g3⟩ | ⟨q, -⟩
  · have ex : xs = ys := by
      have e2 : xs.map Value.int = ys.map Value.int := congrArg (fun c : xC => match c with | .inl q => q.2 | .inr q => q.2) ey
      exact (List.map_inj_right (fun _ _ hab => Value.int.inj hab)).mp e2
    subst ex
    have hc : i.toNatClampNeg = j := by rw [hi]; exact nI_clamp (by omega)
    exact W.iald (v := .int (xs.getD j 0)) C.1 C.2.1 ho.2.2.1 C.2.2.2.2.2.2.1.1.2.1 C.2.2.2.2.2.2.1.1.2.2 (by rw [g1, hi]; exact nI_in hj g2) (by rw [hc]; exact g3 j hj) rfl rfl hd (kk G p la e R s m args below meth c Fin mc ms C rt hmc hms H locs cells slots ls ho hl hq h1 h2)
  · exact absurd q (by decide)
theorem e_iast {k a j : Nat} {vs : List Value} {i : Int32} {x : Int32} (hd : decode y.2.1 pc = .ok (.iastore, 1)) (ha : h.2 a = some (.inl (k, vs))) (hk : xTy[k]? = some .int) (hi : i = nI j) (hj : j < vs.length)
    (kk : x_E y d kc ks (pc + 1) l st (x_up h a (.inl (k, vs.set j (.int x)))) Q) : x_E y d kc ks pc l (.int x :: .int i :: .ref a :: st) h Q := by
  intro G p la e R s m args below meth c Fin mc ms C rt hmc hms H locs cells slots ls ho hl hq h1 h2
  obtain ⟨a2, al, hlen, q1⟩ := ho.at ha (x_lt hk)
  obtain ⟨b, rfl⟩ : ∃ b, a = b + 2 := ⟨a - 2, by omega⟩
  rw [Nat.add_sub_cancel] at q1
  obtain ⟨v, hv⟩ : ∃ v, vs[j]? = some v := ⟨_, List.getElem?_eq_getElem hj⟩
  obtain ⟨i1, i2, i3⟩ := x_arin (cA := G.2.2.2.2 k) (f := fun q => x_sh G (vs.getD q .null)) hlen hi hv
  refine W.iast C.1 C.2.1 q1 ((C.2.2.2.2.2.2.1.2 k _ hk).1 _ _) (fun h => by cases h) i1 rfl rfl hd fun H1 e1 z1 o1 => ?_
  refine kk G p la e R s m args below meth c Fin mc ms C rt hmc hms H1 _ cells slots ls (ho.put C.2.2.2.2.2.2.2.2.2.2.2 ha (x_lt hk) z1 (fun q hq => o1 q (by rw [Nat.add_sub_cancel] at hq; exact hq)) ⟨by simp only [List.length_set]; exact hlen, ?_⟩) hl (x_locs hq (Nat.le_add_right _ _)) h1 h2
  rw [Nat.add_sub_cancel, e1, i2]
  exact congrArg some (x_arst G (.int x) i3)
theorem e_last {k a j : Nat} {vs : List Value} {i : Int32} {x : Int64} (hd : decode y.2.1 pc = .ok (.lastore, 1)) (ha : h.2 a = some (.inl (k, vs))) (hk : xTy[k]? = some .long) (hi : i = nI j) (hj : j < vs.length)
    (kk : x_E y d kc ks (pc + 1) l st (x_up h a (.inl (k, vs.set j (.long x)))) Q) : x_E y d kc ks pc l (.long x :: .int i :: .ref a :: st) h Q := by
  intro G p la e R s m args below meth c Fin mc ms C rt hmc hms H locs cells slots ls ho hl hq h1 h2
  obtain ⟨a2, al, hlen, q1⟩ := ho.at ha (x_lt hk)
  obtain ⟨b, rfl⟩ : ∃ b, a = b + 2 := ⟨a - 2, by omega⟩
  rw [Nat.add_sub_cancel] at q1
  obtain ⟨v, hv⟩ : ∃ v, vs[j]? = some v := ⟨_, List.getElem?_eq_getElem hj⟩
  obtain ⟨i1, i2, i3⟩ := x_arin (cA := G.2.2.2.2 k) (f := fun q => x_sh G (vs.getD q .null)) hlen hi hv
  refine W.last C.1 C.2.1 q1 ((C.2.2.2.2.2.2.1.2 k _ hk).1 _ _) (fun h => by cases h) i1 rfl rfl hd fun H1 e1 z1 o1 => ?_
  refine kk G p la e R s m args below meth c Fin mc ms C rt hmc hms H1 _ cells slots ls (ho.put C.2.2.2.2.2.2.2.2.2.2.2 ha (x_lt hk) z1 (fun q hq => o1 q (by rw [Nat.add_sub_cancel] at hq; exact hq)) ⟨by simp only [List.length_set]; exact hlen, ?_⟩) hl (x_locs hq (Nat.le_add_right _ _)) h1 h2
  rw [Nat.add_sub_cancel, e1, i2]
  exact congrArg some (x_arst G (.long x) i3)
theorem e_zast {k a j : Nat} {vs : List Value} {i : Int32} {x : Int32} (hd : decode y.2.1 pc = .ok (.bastore, 1)) (ha : h.2 a = some (.inl (k, vs))) (hk : xTy[k]? = some .boolean) (hi : i = nI j) (hj : j < vs.length) (hx : narrow .boolean (.int x) = .int x)
    (kk : x_E y d kc ks (pc + 1) l st (x_up h a (.inl (k, vs.set j (.int x)))) Q) : x_E y d kc ks pc l (.int x :: .int i :: .ref a :: st) h Q := by
  intro G p la e R s m args below meth c Fin mc ms C rt hmc hms H locs cells slots ls ho hl hq h1 h2
  obtain ⟨a2, al, hlen, q1⟩ := ho.at ha (x_lt hk)
  obtain ⟨b, rfl⟩ : ∃ b, a = b + 2 := ⟨a - 2, by omega⟩
  rw [Nat.add_sub_cancel] at q1
  obtain ⟨v, hv⟩ : ∃ v, vs[j]? = some v := ⟨_, List.getElem?_eq_getElem hj⟩
  obtain ⟨i1, i2, i3⟩ := x_arin (cA := G.2.2.2.2 k) (f := fun q => x_sh G (vs.getD q .null)) hlen hi hv
  refine W.zast C.1 C.2.1 q1 ((C.2.2.2.2.2.2.1.2 k _ hk).1 _ _) (fun h => by cases h) i1 rfl rfl hd fun H1 e1 z1 o1 => ?_
  refine kk G p la e R s m args below meth c Fin mc ms C rt hmc hms H1 _ cells slots ls (ho.put C.2.2.2.2.2.2.2.2.2.2.2 ha (x_lt hk) z1 (fun q hq => o1 q (by rw [Nat.add_sub_cancel] at hq; exact hq)) ⟨by simp only [List.length_set]; exact hlen, ?_⟩) hl (x_locs hq (Nat.le_add_right _ _)) h1 h2
  rw [Nat.add_sub_cancel, e1, i2, hx]
  exact congrArg some (x_arst G (.int x) i3)
end XH
section XQ
variable {y : xM} {d kc ks pc : Nat} {l : List (Nat × Value)} {st : List Value} {h : xH} {Q : List Value → xH → Prop}
/-- the words of a call of y by 'own' at idx -/
def x_Mw (own : String) (idx : Nat) (y : xM) (n : Nat) : Prop := Cond.methodLink own idx y.1 ∈ xW0 ∧ Cond.initialized y.1.cls ∈ xW0 ∧ Cond.code y.1 y.2.1 y.2.2.1 y.2.2.2 ∈ xW0 ∧ y.1.cls ≠ "java/lang/invoke/MethodHandle" ∧ y.1.cls ≠ "java/lang/invoke/VarHandle" ∧ (parseMethodDescriptor y.1.desc).map (fun d => d.parameters.length) = some n ∧ y.2.2.1 ≤ 45
def x_Mv (own : String) (idx : Nat) (y : xM) (n : Nat) : Prop := x_Mw own idx y n ∧ Cond.instanceMethod y.1 ∈ xW0 ∧ Cond.selects y.1.cls y.1 y.1 ∈ xW0
def x_Ms (own : String) (idx : Nat) (y : xM) (n : Nat) : Prop := x_Mw own idx y n ∧ Cond.static y.1 ∈ xW0
def x_Mi (own : String) (idx : Nat) (y : xM) (n : Nat) : Prop := x_Mw own idx y n ∧ Cond.instanceMethod y.1 ∈ xW0 ∧ y.1.name = "<init>" ∧ y.2.2.2 = none
theorem x_goodW {args : Array Value} {s : State} {y : xM} (hts : ∀ w ∈ xW0, w.before args s = true) (hc : Cond.code y.1 y.2.1 y.2.2.1 y.2.2.2 ∈ xW0) : ∀ w ∈ x_ws y, ∀ (a' : Array Value) (U : State), s.WarmedH U.vm → w.before a' U = true := by
  refine pay_in hts (fun w hw => ?_)
  have hm : w ∈ xW0 := by
    rcases List.mem_cons.mp hw with rfl | h
    · exact hc
    · exact h
  exact ⟨hm, good_of_word (xW0_good w hm)⟩
theorem x_callB {R : Room} {args : Array Value} {s : State} {own : String} {idx : Nat} {y : xM} {n d' dR mc ms : Nat} (hts : ∀ w ∈ xW0, w.before args s = true) (hM : x_Mw own idx y n) (hd : d' + 1 ≤ dR) (hf : dR ≤ R.frames) (hlo : dR * 64 ≤ R.locals) : CallB R s args own idx y.1 y.2.1 y.2.2.1 y.2.2.2 (x_ws y) { frames := d', cells := mc, slots := ms, locals := d' * 64 } mc ms n := by
  obtain ⟨m1, m2, m3, m4, m5, m6, m7⟩ := hM
  refine ⟨rfl, rfl, by show d' + 1 ≤ R.frames; omega, by show 8 + (y.2.2.1 + 11) + d' * 64 ≤ R.locals; omega, x_goodW hts m3, List.mem_cons_self, hts _ m3, hts _ m2, ⟨m4, m5⟩, fun sig h => ?_, hts _ m1⟩
  rw [h] at m6
  exact (Option.some.inj m6).symm
theorem x_blind {G : xG} {h : xH} {as : List Value} : FrameBlind (fun v U => v = (as.map (x_sh G)).toArray ∧ x_Ho G h U.heap ∧ x_K G U) :=
  fun a U g mk q => ⟨q.1, q.2.1, x_K.moved (u := U) (U := U.calling g mk a) (Vm.Alike.refl U.vm) q.2.2⟩
theorem x_sumc (G : xG) (st : List Value) : ((st.map (x_sh G)).map fun v => v.category).sum = (st.map fun v => v.category).sum := by
  induction st with
  | nil => rfl
  | cons v t ih => simp only [List.map_cons, List.sum_cons, x_cat] at ih ⊢; rw [ih]
theorem x_back {G : xG} {p : Program} {la : Launch} {e : Env} {R : Room} {s : State} {m : MethodId} {args : Array Value} {below : List Frame} {meth : Method} {c : Code} {Fin : State → Prop} {mc ms cells slots mc' ms' : Nat} {H : Heap} {locs : List Loc} {ls : Array Slot} {st0 : List Value} {as : Array Value} {Q' : List Value → xH → Prop} {kc' ks' : Nat} {l : List (Nat × Value)}
    (C : x_Cx G y d p R s m args meth c) (rt : x_Rt G y p la e R s m args below meth c Fin mc ms Q) (hmc : mc ≤ R.cells) (hms : ms ≤ R.slots) (hl : lv_has ls y.2.2.1 (l.map (x_sp G))) (hq : ∀ q ∈ locs, G.2.1 ≤ q.base) (h1 : cells + mc' + kc' ≤ mc) (h2 : slots + ms' + ks' ≤ ms)
    (hr : va_Run p la e R s m args below meth c H locs cells slots mc' ms' (F0 m pc ls st0) (st.map (x_sh G)) (fun s0 o t => (fun _ _ o t => ∃ (rv : List Value) (h' : xH), o = .returned (rv.map (x_sh G)).head? ∧ rv.length ≤ 1 ∧ Q' rv h' ∧ x_Ho G h' t.heap) as s0 o t) (fun q => G.2.1 ≤ q))
    (kk : ∀ (rv : List Value) (h' : xH), Q' rv h' → x_E y d kc' ks' (pc + 3) l (rv ++ st) h' Q) : W p la e R s m args below meth c H locs cells slots Fin (F0 m pc ls st0) := by
  intro T hT X
  obtain ⟨v, s0, t, T', L, e0, X', hL, e1, e2, ⟨rv, h', hv, hlen, hQ, hho⟩, go⟩ := hr T hT X
  have hv : v = (rv.map (x_sh G)).head? := Outcome.returned.inj hv
  have hst : v.toList ++ st.map (x_sh G) = (rv ++ st).map (x_sh G) := by
    rw [hv]
    match rv, hlen with
    | [], _ => rfl
    | [x], _ => rfl
  have k2 := kk rv h' hQ G p la e R s m args below meth c Fin mc ms C rt hmc hms T'.heap (locs ++ L) (cells + mc') (slots + ms') ls (by rw [e1]; exact hho) hl (fun q hq' => by
    rcases List.mem_append.mp hq' with h7 | h7
    · exact hq q h7
    · exact hL q h7) h1 h2
  obtain ⟨t2, a1, b1⟩ := k2 T' rfl X'
  refine ⟨t2, go t2 ?_, b1⟩
  show Steps p.tables e below (T'.setTop { F0 m pc ls st0 with pc := pc + 3, stack := v.toList ++ st.map (x_sh G) }) t2
  rw [hst]
  exact a1
theorem e_callV {z : xM} {idx n d' mc' ms' kc' ks' b ci : Nat} {As st0 fs : List Value} {Q' : List Value → xH → Prop} (hd : decode y.2.1 pc = .ok (.invokevirtual idx, 3)) (hM : x_Mv y.1.cls idx z n) (hn : As.length = n) (hst : st0 = As.reverse ++ .ref b :: st) (hb : h.2 b = some (.inr (ci, fs))) (hc : (xCl[ci]?).map (fun r => r.1) = some z.1.cls) (hdd : d' + 1 ≤ d) (hsum : (st.map fun v => v.category).sum ≤ 8) (hkc : kc' + mc' = kc) (hks : ks' + ms' = ks)
    (hcon : x_Con z d' mc' ms' (.ref b :: As) h Q') (kk : ∀ (rv : List Value) (h' : xH), Q' rv h' → x_E y d kc' ks' (pc + 3) l (rv ++ st) h' Q) : x_E y d kc ks pc l st0 h Q := by
  intro G p la e R s m args below meth c Fin mc ms C rt hmc hms H locs cells slots ls ho hl hq h1 h2
  subst hst
  have hts := C.2.2.2.2.2.1
  obtain ⟨b2, bl, r, hr, hfn, cell, g1, g2, g3, g4⟩ := ho.at hb trivial
  obtain ⟨w, rfl⟩ : ∃ w, b = w + 2 := ⟨b - 2, by omega⟩
  rw [Nat.add_sub_cancel] at g1
  have hcC : r.1 = z.1.cls := by
    have e : xCl[ci]? = some r := hr
    rw [e] at hc
    exact Option.some.inj hc
  have hcls := (C.2.2.2.2.2.2.1.1.1.1 ci r hr).2
  have hrun := va_runV (e := e) (below := below) (meth := meth) (g := F0 m pc ls ((As.reverse ++ .ref (w + 2) :: st).map (x_sh G))) (b := G.2.1 + w) (As := As.map (x_sh G)) (rest := st.map (x_sh G)) (locs := locs) (cells := cells) (slots := slots) ⟨C.1, C.2.1, C.2.2.2.1, C.2.2.2.2.1, hts⟩ (hcon G la C.2.2.2.2.2.2.2.2.2.2.2) (C := z.1.cls) ⟨x_callB (R := R) hts hM.1 hdd C.2.2.2.2.2.2.2.2.2.1 C.2.2.2.2.2.2.2.2.2.2.1, hts _ hM.2.1, hts _ hM.2.2⟩ ⟨x_blind, ⟨cell, g1, by rw [g3]; rfl, by rw [g2, ← hcC]; exact hcls.1⟩, fun U hU hW => ⟨rfl, by rw [hU]; exact ho, C.2.2.2.2.2.2.1.moved hW.alike⟩⟩ rfl (by rw [List.length_map]; exact hn) hl.1 (by simp only [F0, List.map_append, List.map_reverse, List.map_cons]; rfl) (lv_room (by rw [x_sumc]; exact hsum)) hd ⟨by omega, by omega⟩
  exact x_back (as := #[]) C rt hmc hms hl hq (by omega) (by omega) hrun kk
theorem e_callS {z : xM} {idx n d' mc' ms' kc' ks' : Nat} {As st0 : List Value} {Q' : List Value → xH → Prop} (hd : decode y.2.1 pc = .ok (.invokestatic idx, 3)) (hM : x_Ms y.1.cls idx z n) (hn : As.length = n) (hst : st0 = As.reverse ++ st) (hdd : d' + 1 ≤ d) (hsum : (st.map fun v => v.category).sum ≤ 8) (hkc : kc' + mc' = kc) (hks : ks' + ms' = ks)
    (hcon : x_Con z d' mc' ms' As h Q') (kk : ∀ (rv : List Value) (h' : xH), Q' rv h' → x_E y d kc' ks' (pc + 3) l (rv ++ st) h' Q) : x_E y d kc ks pc l st0 h Q := by
  intro G p la e R s m args below meth c Fin mc ms C rt hmc hms H locs cells slots ls ho hl hq h1 h2
  subst hst
  have hts := C.2.2.2.2.2.1
  have hrun := va_runS (e := e) (below := below) (meth := meth) (g := F0 m pc ls ((As.reverse ++ st).map (x_sh G))) (As := As.map (x_sh G)) (rest := st.map (x_sh G)) (locs := locs) (cells := cells) (slots := slots) ⟨C.1, C.2.1, C.2.2.2.1, C.2.2.2.2.1, hts⟩ (hcon G la C.2.2.2.2.2.2.2.2.2.2.2) ⟨x_callB (R := R) hts hM.1 hdd C.2.2.2.2.2.2.2.2.2.1 C.2.2.2.2.2.2.2.2.2.2.1, hts _ hM.2⟩ ⟨x_blind, fun U hU hW => ⟨rfl, by rw [hU]; exact ho, C.2.2.2.2.2.2.1.moved hW.alike⟩⟩ rfl (by rw [List.length_map]; exact hn) hl.1 (by simp only [F0, List.map_append, List.map_reverse]) (lv_room (by rw [x_sumc]; exact hsum)) hd ⟨by omega, by omega⟩
  exact x_back (as := #[]) C rt hmc hms hl hq (by omega) (by omega) hrun kk
theorem e_callI {z : xM} {idx n d' mc' ms' kc' ks' b : Nat} {As st0 : List Value} {ci : Nat} {fs : List Value} {Q' : List Value → xH → Prop} (hd : decode y.2.1 pc = .ok (.invokespecial idx, 3)) (hM : x_Mi y.1.cls idx z n) (hn : As.length = n) (hst : st0 = As.reverse ++ .ref b :: st) (hb : h.2 b = some (.inr (ci, fs))) (hdd : d' + 1 ≤ d) (hsum : (st.map fun v => v.category).sum ≤ 8) (hkc : kc' + mc' = kc) (hks : ks' + ms' = ks)
    (hcon : x_Con z d' mc' ms' (.ref b :: As) h Q') (kk : ∀ (rv : List Value) (h' : xH), Q' rv h' → x_E y d kc' ks' (pc + 3) l (rv ++ st) h' Q) : x_E y d kc ks pc l st0 h Q := by
  intro G p la e R s m args below meth c Fin mc ms C rt hmc hms H locs cells slots ls ho hl hq h1 h2
  subst hst
  have hts := C.2.2.2.2.2.1
  obtain ⟨b2, bl, -⟩ := ho.at hb trivial
  obtain ⟨w, rfl⟩ : ∃ w, b = w + 2 := ⟨b - 2, by omega⟩
  have cb := x_callB (R := R) (args := args) (s := s) (mc := mc') (ms := ms') hts hM.1 hdd C.2.2.2.2.2.2.2.2.2.1 C.2.2.2.2.2.2.2.2.2.2.1
  rw [hM.2.2.2] at cb
  have hrun := va_runI (e := e) (below := below) (meth := meth) (g := F0 m pc ls ((As.reverse ++ .ref (w + 2) :: st).map (x_sh G))) (b := G.2.1 + w) (As := As.map (x_sh G)) (rest := st.map (x_sh G)) (locs := locs) (cells := cells) (slots := slots) ⟨C.1, C.2.1, C.2.2.2.1, C.2.2.2.2.1, hts⟩ (hcon G la C.2.2.2.2.2.2.2.2.2.2.2) ⟨cb, hM.2.2.1, hts _ hM.2.1⟩ ⟨x_blind, fun U hU hW => ⟨rfl, by rw [hU]; exact ho, C.2.2.2.2.2.2.1.moved hW.alike⟩⟩ rfl (by rw [List.length_map]; exact hn) hl.1 (by simp only [F0, List.map_append, List.map_reverse, List.map_cons]; rfl) (lv_room (by rw [x_sumc]; exact hsum)) hd ⟨by omega, by omega⟩
  exact x_back (as := #[]) C rt hmc hms hl hq (by omega) (by omega) hrun kk
/-- Object.<init> -/
theorem e_obj {idx b ci : Nat} {fs : List Value} (hd : decode y.2.1 pc = .ok (.invokespecial idx, 3)) (hb : h.2 b = some (.inr (ci, fs))) (w1 : Cond.methodLink y.1.cls idx objectInit ∈ xW0) (w2 : Cond.instanceMethod objectInit ∈ xW0) (w3 : Cond.code objectInit ⟨#[0xb1]⟩ 1 none ∈ xW0) (hdd : 1 ≤ d) (hsum : (st.map fun v => v.category).sum ≤ 8) (kk : x_E y d kc ks (pc + 3) l st h Q) : x_E y d kc ks pc l (.ref b :: st) h Q := by
  intro G p la e R s m args below meth c Fin mc ms C rt hmc hms H locs cells slots ls ho hl hq h1 h2
  have hts := C.2.2.2.2.2.1
  obtain ⟨b2, bl, -⟩ := ho.at hb trivial
  obtain ⟨w, rfl⟩ : ∃ w, b = w + 2 := ⟨b - 2, by omega⟩
  have hfr := C.2.2.2.2.2.2.2.2.2.1
  have hlo := C.2.2.2.2.2.2.2.2.2.2.1
  have hro : 2 * (F0 m pc ls ((Value.ref (w + 2) :: st).map (x_sh G))).monitorRoom + ((st.map (x_sh G)).map fun v => v.category).sum ≤ 8 := lv_room (by rw [x_sumc]; exact hsum)
  exact W.objInit C.1 C.2.1 C.2.2.2.2.1 (hts _ w1) (hts _ w2) (hts _ w3) rfl (hl.1.trans C.2.2.2.1.symm) (a := G.2.1 + w) rfl hd (by omega) (by omega) (kk G p la e R s m args below meth c Fin mc ms C rt hmc hms H locs cells slots ls ho hl hq h1 h2)
end XQ
end
section
theorem kL_7 : Cond.classLink RL 7 RX2 ∈ xW0 := x_ix 7 (by decide +kernel) (by decide +kernel)
theorem nL_7 : x_Nw RL 7 2 [.ref 0, .ref 0, .ref 0, .ref 0, .int 0, .int 0, .int 0, .int 0, .ref 0, .int 0, .ref 0] := ⟨_, rfl, kL_7, x_ix 8 (by decide +kernel) (by decide +kernel), x_ix 1 (by decide +kernel) (by decide +kernel), rfl, by decide +kernel⟩
theorem gL_9 : x_Mi RL 9 mX2_init 0 := ⟨⟨x_ix 9 (by decide +kernel) (by decide +kernel), wiX2, wcX2_init, by decide +kernel, by decide +kernel, by decide +kernel, by decide⟩, x_ix 10 (by decide +kernel) (by decide +kernel), by decide +kernel, rfl⟩
theorem ojX2_1 : Cond.methodLink RX2 1 objectInit ∈ xW0 := x_ix 12 (by decide +kernel) (by decide +kernel)
theorem ojI : Cond.instanceMethod objectInit ∈ xW0 := x_ix 13 (by decide +kernel) (by decide +kernel)
theorem ojC : Cond.code objectInit ⟨#[0xb1]⟩ 1 none ∈ xW0 := x_ix 14 (by decide +kernel) (by decide +kernel)
theorem kX2_7 : Cond.classLink RX2 7 RX0 ∈ xW0 := x_ix 15 (by decide +kernel) (by decide +kernel)
theorem nX2_7 : x_Nw RX2 7 0 [.long 0, .long 0, .long 0, .long 0, .int 0] := ⟨_, rfl, kX2_7, x_ix 16 (by decide +kernel) (by decide +kernel), x_ix 2 (by decide +kernel) (by decide +kernel), rfl, by decide +kernel⟩
theorem gX2_11 : x_Mi RX2 11 mX0_init 5 := ⟨⟨x_ix 17 (by decide +kernel) (by decide +kernel), wiX0, wcX0_init, by decide +kernel, by decide +kernel, by decide +kernel, by decide⟩, x_ix 18 (by decide +kernel) (by decide +kernel), by decide +kernel, rfl⟩
theorem ojX0_1 : Cond.methodLink RX0 1 objectInit ∈ xW0 := x_ix 20 (by decide +kernel) (by decide +kernel)
theorem fX0_7 : x_Fd RX0 7 0 0 (.long) true := ⟨_, rfl, by decide, x_ix 21 (by decide +kernel) (by decide +kernel), by decide +kernel, rfl, rfl⟩
theorem fX2_111 : x_Fd RX2 111 0 0 (.long) true := ⟨_, rfl, by decide, x_ix 22 (by decide +kernel) (by decide +kernel), by decide +kernel, rfl, rfl⟩
theorem fX0_13 : x_Fd RX0 13 0 1 (.long) true := ⟨_, rfl, by decide, x_ix 23 (by decide +kernel) (by decide +kernel), by decide +kernel, rfl, rfl⟩
theorem fX2_115 : x_Fd RX2 115 0 1 (.long) true := ⟨_, rfl, by decide, x_ix 24 (by decide +kernel) (by decide +kernel), by decide +kernel, rfl, rfl⟩
theorem fX0_16 : x_Fd RX0 16 0 2 (.long) true := ⟨_, rfl, by decide, x_ix 25 (by decide +kernel) (by decide +kernel), by decide +kernel, rfl, rfl⟩
theorem fX2_118 : x_Fd RX2 118 0 2 (.long) true := ⟨_, rfl, by decide, x_ix 26 (by decide +kernel) (by decide +kernel), by decide +kernel, rfl, rfl⟩
theorem fX0_19 : x_Fd RX0 19 0 3 (.long) true := ⟨_, rfl, by decide, x_ix 27 (by decide +kernel) (by decide +kernel), by decide +kernel, rfl, rfl⟩
theorem fX2_121 : x_Fd RX2 121 0 3 (.long) true := ⟨_, rfl, by decide, x_ix 28 (by decide +kernel) (by decide +kernel), by decide +kernel, rfl, rfl⟩
theorem fX0_22 : x_Fd RX0 22 0 4 (.int) true := ⟨_, rfl, by decide, x_ix 29 (by decide +kernel) (by decide +kernel), by decide +kernel, rfl, rfl⟩
theorem fX2_124 : x_Fd RX2 124 0 4 (.int) true := ⟨_, rfl, by decide, x_ix 30 (by decide +kernel) (by decide +kernel), by decide +kernel, rfl, rfl⟩
theorem vX2_18 : Cond.constantLong RX2 18 (-1) ∈ xW0 := x_ix 42 (by decide +kernel) (by decide +kernel)
theorem vX2_20 : Cond.constant RX2 20 (2147483647) ∈ xW0 := x_ix 43 (by decide +kernel) (by decide +kernel)
theorem kX2_24 : Cond.classLink RX2 24 RX1 ∈ xW0 := x_ix 44 (by decide +kernel) (by decide +kernel)
theorem nX2_24 : x_Nw RX2 24 1 [.ref 0, .ref 0, .int 0, .int 0, .ref 0, .ref 0, .int 0] := ⟨_, rfl, kX2_24, x_ix 45 (by decide +kernel) (by decide +kernel), x_ix 3 (by decide +kernel) (by decide +kernel), rfl, by decide +kernel⟩
theorem gX2_26 : x_Mi RX2 26 mX1_init 1 := ⟨⟨x_ix 46 (by decide +kernel) (by decide +kernel), wiX1, wcX1_init, by decide +kernel, by decide +kernel, by decide +kernel, by decide⟩, x_ix 47 (by decide +kernel) (by decide +kernel), by decide +kernel, rfl⟩
theorem ojX1_3 : Cond.methodLink RX1 3 objectInit ∈ xW0 := x_ix 49 (by decide +kernel) (by decide +kernel)
theorem kX1_9 : Cond.classLink RX1 9 RX0 ∈ xW0 := x_ix 50 (by decide +kernel) (by decide +kernel)
theorem nX1_9 : x_Nw RX1 9 0 [.long 0, .long 0, .long 0, .long 0, .int 0] := ⟨_, rfl, kX1_9, x_ix 16 (by decide +kernel) (by decide +kernel), x_ix 2 (by decide +kernel) (by decide +kernel), rfl, by decide +kernel⟩
theorem kX1_12 : Cond.classLink RX1 12 RX1 ∈ xW0 := x_ix 52 (by decide +kernel) (by decide +kernel)
theorem nX1_12 : x_Nw RX1 12 1 [.ref 0, .ref 0, .int 0, .int 0, .ref 0, .ref 0, .int 0] := ⟨_, rfl, kX1_12, x_ix 45 (by decide +kernel) (by decide +kernel), x_ix 3 (by decide +kernel) (by decide +kernel), rfl, by decide +kernel⟩
theorem fX1_11 : x_Fd RX1 11 1 0 (.array (.object "SideLinkTree$Entry")) true := ⟨_, rfl, by decide, x_ix 54 (by decide +kernel) (by decide +kernel), by decide +kernel, rfl, rfl⟩
theorem fX1_17 : x_Fd RX1 17 1 1 (.array (.object "SideLinkTree$Page")) true := ⟨_, rfl, by decide, x_ix 55 (by decide +kernel) (by decide +kernel), by decide +kernel, rfl, rfl⟩
theorem fX1_25 : x_Fd RX1 25 1 2 (.int) false := ⟨_, rfl, by decide, x_ix 56 (by decide +kernel) (by decide +kernel), by decide +kernel, rfl, rfl⟩
theorem fX2_97 : x_Fd RX2 97 1 2 (.int) false := ⟨_, rfl, by decide, x_ix 57 (by decide +kernel) (by decide +kernel), by decide +kernel, rfl, rfl⟩
theorem fX1_29 : x_Fd RX1 29 1 3 (.int) false := ⟨_, rfl, by decide, x_ix 58 (by decide +kernel) (by decide +kernel), by decide +kernel, rfl, rfl⟩
theorem fX2_131 : x_Fd RX2 131 1 3 (.int) false := ⟨_, rfl, by decide, x_ix 59 (by decide +kernel) (by decide +kernel), by decide +kernel, rfl, rfl⟩
theorem fX1_21 : x_Fd RX1 21 1 4 (.object "SideLinkTree$Entry") false := ⟨_, rfl, by decide, x_ix 60 (by decide +kernel) (by decide +kernel), by decide +kernel, rfl, rfl⟩
theorem fX2_145 : x_Fd RX2 145 1 4 (.object "SideLinkTree$Entry") false := ⟨_, rfl, by decide, x_ix 61 (by decide +kernel) (by decide +kernel), by decide +kernel, rfl, rfl⟩
theorem fX1_32 : x_Fd RX1 32 1 5 (.object "SideLinkTree$Page") false := ⟨_, rfl, by decide, x_ix 62 (by decide +kernel) (by decide +kernel), by decide +kernel, rfl, rfl⟩
theorem fX2_100 : x_Fd RX2 100 1 5 (.object "SideLinkTree$Page") false := ⟨_, rfl, by decide, x_ix 63 (by decide +kernel) (by decide +kernel), by decide +kernel, rfl, rfl⟩
theorem fX1_36 : x_Fd RX1 36 1 6 (.boolean) false := ⟨_, rfl, by decide, x_ix 64 (by decide +kernel) (by decide +kernel), by decide +kernel, rfl, rfl⟩
theorem fX2_86 : x_Fd RX2 86 1 6 (.boolean) false := ⟨_, rfl, by decide, x_ix 65 (by decide +kernel) (by decide +kernel), by decide +kernel, rfl, rfl⟩
theorem fX2_14 : x_Fd RX2 14 2 0 (.object "SideLinkTree$Entry") true := ⟨_, rfl, by decide, x_ix 81 (by decide +kernel) (by decide +kernel), by decide +kernel, rfl, rfl⟩
theorem fX2_21 : x_Fd RX2 21 2 1 (.object "SideLinkTree$Entry") true := ⟨_, rfl, by decide, x_ix 82 (by decide +kernel) (by decide +kernel), by decide +kernel, rfl, rfl⟩
theorem fX2_33 : x_Fd RX2 33 2 2 (.array (.object "SideLinkTree$Page")) true := ⟨_, rfl, by decide, x_ix 83 (by decide +kernel) (by decide +kernel), by decide +kernel, rfl, rfl⟩
theorem fX2_29 : x_Fd RX2 29 2 3 (.object "SideLinkTree$Page") true := ⟨_, rfl, by decide, x_ix 84 (by decide +kernel) (by decide +kernel), by decide +kernel, rfl, rfl⟩
theorem fX2_37 : x_Fd RX2 37 2 4 (.int) false := ⟨_, rfl, by decide, x_ix 85 (by decide +kernel) (by decide +kernel), by decide +kernel, rfl, rfl⟩
theorem fX2_41 : x_Fd RX2 41 2 5 (.int) false := ⟨_, rfl, by decide, x_ix 86 (by decide +kernel) (by decide +kernel), by decide +kernel, rfl, rfl⟩
theorem fX2_44 : x_Fd RX2 44 2 6 (.int) false := ⟨_, rfl, by decide, x_ix 87 (by decide +kernel) (by decide +kernel), by decide +kernel, rfl, rfl⟩
theorem fX2_47 : x_Fd RX2 47 2 7 (.int) false := ⟨_, rfl, by decide, x_ix 88 (by decide +kernel) (by decide +kernel), by decide +kernel, rfl, rfl⟩
theorem fX2_50 : x_Fd RX2 50 2 8 (.object "SideLinkTree$Entry") false := ⟨_, rfl, by decide, x_ix 89 (by decide +kernel) (by decide +kernel), by decide +kernel, rfl, rfl⟩
theorem fX2_53 : x_Fd RX2 53 2 9 (.boolean) false := ⟨_, rfl, by decide, x_ix 90 (by decide +kernel) (by decide +kernel), by decide +kernel, rfl, rfl⟩
theorem fX2_57 : x_Fd RX2 57 2 10 (.object "SideLinkTree$Entry") false := ⟨_, rfl, by decide, x_ix 91 (by decide +kernel) (by decide +kernel), by decide +kernel, rfl, rfl⟩
theorem gL_15 : x_Mv RL 15 mX2_add 5 := ⟨⟨x_ix 115 (by decide +kernel) (by decide +kernel), wiX2, wcX2_add, by decide +kernel, by decide +kernel, by decide +kernel, by decide⟩, x_ix 116 (by decide +kernel) (by decide +kernel), x_ix 117 (by decide +kernel) (by decide +kernel)⟩
theorem gX2_60 : x_Mv RX2 60 mX2_pageInCharge 2 := ⟨⟨x_ix 119 (by decide +kernel) (by decide +kernel), wiX2, wcX2_pageInCharge, by decide +kernel, by decide +kernel, by decide +kernel, by decide⟩, x_ix 121 (by decide +kernel) (by decide +kernel), x_sx 0 (by decide +kernel) (by decide +kernel)⟩
theorem gX2_137 : x_Mv RX2 137 mX1_pageBelow 1 := ⟨⟨x_ix 123 (by decide +kernel) (by decide +kernel), wiX1, wcX1_pageBelow, by decide +kernel, by decide +kernel, by decide +kernel, by decide⟩, x_ix 124 (by decide +kernel) (by decide +kernel), x_ix 125 (by decide +kernel) (by decide +kernel)⟩
theorem gX1_44 : x_Mv RX1 44 mX1_countPassed 2 := ⟨⟨x_ix 127 (by decide +kernel) (by decide +kernel), wiX1, wcX1_countPassed, by decide +kernel, by decide +kernel, by decide +kernel, by decide⟩, x_ix 128 (by decide +kernel) (by decide +kernel), x_ix 129 (by decide +kernel) (by decide +kernel)⟩
theorem gX1_40 : x_Mv RX1 40 mX0_compareWith 1 := ⟨⟨x_ix 131 (by decide +kernel) (by decide +kernel), wiX0, wcX0_compareWith, by decide +kernel, by decide +kernel, by decide +kernel, by decide⟩, x_ix 132 (by decide +kernel) (by decide +kernel), x_ix 133 (by decide +kernel) (by decide +kernel)⟩
theorem gX0_26 : x_Ms RX0 26 mJ13_compareUnsigned_74951 2 := ⟨⟨x_ix 135 (by decide +kernel) (by decide +kernel), wiJ13, wcJ13_compareUnsigned_74951, by decide +kernel, by decide +kernel, by decide +kernel, by decide⟩, x_ix 136 (by decide +kernel) (by decide +kernel)⟩
theorem vJ13_168 : Cond.constantLong RJ13 168 (-9223372036854775808) ∈ xW0 := x_ix 138 (by decide +kernel) (by decide +kernel)
theorem gJ13_302 : x_Ms RJ13 302 mJ13_compare_74951 2 := ⟨⟨x_ix 139 (by decide +kernel) (by decide +kernel), wiJ13, wcJ13_compare_74951, by decide +kernel, by decide +kernel, by decide +kernel, by decide⟩, x_ix 140 (by decide +kernel) (by decide +kernel)⟩
theorem gX0_32 : x_Ms RX0 32 mJ6_compare_7cf53 2 := ⟨⟨x_ix 142 (by decide +kernel) (by decide +kernel), wiJ6, wcJ6_compare_7cf53, by decide +kernel, by decide +kernel, by decide +kernel, by decide⟩, x_ix 143 (by decide +kernel) (by decide +kernel)⟩
theorem gX2_141 : x_Ms RX2 141 mX2_goRight 2 := ⟨⟨x_ix 145 (by decide +kernel) (by decide +kernel), wiX2, wcX2_goRight, by decide +kernel, by decide +kernel, by decide +kernel, by decide⟩, x_ix 146 (by decide +kernel) (by decide +kernel)⟩
theorem gX2_148 : x_Mv RX2 148 mX0_compareWith 1 := ⟨⟨x_ix 148 (by decide +kernel) (by decide +kernel), wiX0, wcX0_compareWith, by decide +kernel, by decide +kernel, by decide +kernel, by decide⟩, x_ix 132 (by decide +kernel) (by decide +kernel), x_ix 133 (by decide +kernel) (by decide +kernel)⟩
theorem gX2_64 : x_Mv RX2 64 mX1_holds 1 := ⟨⟨x_ix 149 (by decide +kernel) (by decide +kernel), wiX1, wcX1_holds, by decide +kernel, by decide +kernel, by decide +kernel, by decide⟩, x_ix 150 (by decide +kernel) (by decide +kernel), x_ix 151 (by decide +kernel) (by decide +kernel)⟩
theorem gX2_68 : x_Mv RX2 68 mX2_pagesNeeded 1 := ⟨⟨x_ix 153 (by decide +kernel) (by decide +kernel), wiX2, wcX2_pagesNeeded, by decide +kernel, by decide +kernel, by decide +kernel, by decide⟩, x_ix 155 (by decide +kernel) (by decide +kernel), x_sx 1 (by decide +kernel) (by decide +kernel)⟩
theorem gX2_72 : x_Mv RX2 72 mX2_takePages 1 := ⟨⟨x_ix 157 (by decide +kernel) (by decide +kernel), wiX2, wcX2_takePages, by decide +kernel, by decide +kernel, by decide +kernel, by decide⟩, x_ix 159 (by decide +kernel) (by decide +kernel), x_sx 2 (by decide +kernel) (by decide +kernel)⟩
theorem gX2_76 : x_Mv RX2 76 mX2_put 3 := ⟨⟨x_ix 161 (by decide +kernel) (by decide +kernel), wiX2, wcX2_put, by decide +kernel, by decide +kernel, by decide +kernel, by decide⟩, x_ix 163 (by decide +kernel) (by decide +kernel), x_sx 3 (by decide +kernel) (by decide +kernel)⟩
theorem gX2_151 : x_Mv RX2 151 mX2_splitRoot 0 := ⟨⟨x_ix 165 (by decide +kernel) (by decide +kernel), wiX2, wcX2_splitRoot, by decide +kernel, by decide +kernel, by decide +kernel, by decide⟩, x_ix 167 (by decide +kernel) (by decide +kernel), x_sx 4 (by decide +kernel) (by decide +kernel)⟩
theorem gX2_167 : x_Mv RX2 167 mX2_useTakenPage 1 := ⟨⟨x_ix 169 (by decide +kernel) (by decide +kernel), wiX2, wcX2_useTakenPage, by decide +kernel, by decide +kernel, by decide +kernel, by decide⟩, x_ix 171 (by decide +kernel) (by decide +kernel), x_sx 5 (by decide +kernel) (by decide +kernel)⟩
theorem gX2_127 : x_Mv RX2 127 mX1_reset 2 := ⟨⟨x_ix 173 (by decide +kernel) (by decide +kernel), wiX1, wcX1_reset, by decide +kernel, by decide +kernel, by decide +kernel, by decide⟩, x_ix 174 (by decide +kernel) (by decide +kernel), x_ix 175 (by decide +kernel) (by decide +kernel)⟩
theorem gX2_80 : x_Mv RX2 80 mX2_setWords 1 := ⟨⟨x_ix 177 (by decide +kernel) (by decide +kernel), wiX2, wcX2_setWords, by decide +kernel, by decide +kernel, by decide +kernel, by decide⟩, x_ix 179 (by decide +kernel) (by decide +kernel), x_sx 6 (by decide +kernel) (by decide +kernel)⟩
theorem gX2_170 : x_Mv RX2 170 mX1_append 3 := ⟨⟨x_ix 181 (by decide +kernel) (by decide +kernel), wiX1, wcX1_append, by decide +kernel, by decide +kernel, by decide +kernel, by decide⟩, x_ix 182 (by decide +kernel) (by decide +kernel), x_ix 183 (by decide +kernel) (by decide +kernel)⟩
theorem gX2_103 : x_Mv RX2 103 mX1_entryAt 1 := ⟨⟨x_ix 185 (by decide +kernel) (by decide +kernel), wiX1, wcX1_entryAt, by decide +kernel, by decide +kernel, by decide +kernel, by decide⟩, x_ix 186 (by decide +kernel) (by decide +kernel), x_ix 187 (by decide +kernel) (by decide +kernel)⟩
theorem gX2_163 : x_Mv RX2 163 mX1_insert 2 := ⟨⟨x_ix 189 (by decide +kernel) (by decide +kernel), wiX1, wcX1_insert, by decide +kernel, by decide +kernel, by decide +kernel, by decide⟩, x_ix 190 (by decide +kernel) (by decide +kernel), x_ix 191 (by decide +kernel) (by decide +kernel)⟩
theorem gX2_155 : x_Mv RX2 155 mX2_splitPage 1 := ⟨⟨x_ix 193 (by decide +kernel) (by decide +kernel), wiX2, wcX2_splitPage, by decide +kernel, by decide +kernel, by decide +kernel, by decide⟩, x_ix 195 (by decide +kernel) (by decide +kernel), x_sx 7 (by decide +kernel) (by decide +kernel)⟩
theorem gX2_159 : x_Mv RX2 159 mX2_bringInto 3 := ⟨⟨x_ix 197 (by decide +kernel) (by decide +kernel), wiX2, wcX2_bringInto, by decide +kernel, by decide +kernel, by decide +kernel, by decide⟩, x_ix 199 (by decide +kernel) (by decide +kernel), x_sx 8 (by decide +kernel) (by decide +kernel)⟩
theorem gL_20 : x_Mv RL 20 mX2_remove 5 := ⟨⟨x_ix 201 (by decide +kernel) (by decide +kernel), wiX2, wcX2_remove, by decide +kernel, by decide +kernel, by decide +kernel, by decide⟩, x_ix 202 (by decide +kernel) (by decide +kernel), x_ix 203 (by decide +kernel) (by decide +kernel)⟩
theorem gX2_83 : x_Mv RX2 83 mX1_drop 1 := ⟨⟨x_ix 205 (by decide +kernel) (by decide +kernel), wiX1, wcX1_drop, by decide +kernel, by decide +kernel, by decide +kernel, by decide⟩, x_ix 206 (by decide +kernel) (by decide +kernel), x_ix 207 (by decide +kernel) (by decide +kernel)⟩
theorem gX1_48 : x_Mv RX1 48 mX1_holds 1 := ⟨⟨x_ix 209 (by decide +kernel) (by decide +kernel), wiX1, wcX1_holds, by decide +kernel, by decide +kernel, by decide +kernel, by decide⟩, x_ix 150 (by decide +kernel) (by decide +kernel), x_ix 151 (by decide +kernel) (by decide +kernel)⟩
theorem gL_24 : x_Mv RL 24 mX2_has 5 := ⟨⟨x_ix 210 (by decide +kernel) (by decide +kernel), wiX2, wcX2_has, by decide +kernel, by decide +kernel, by decide +kernel, by decide⟩, x_ix 211 (by decide +kernel) (by decide +kernel), x_ix 212 (by decide +kernel) (by decide +kernel)⟩
theorem gL_29 : x_Mv RL 29 mX2_seek 4 := ⟨⟨x_ix 214 (by decide +kernel) (by decide +kernel), wiX2, wcX2_seek, by decide +kernel, by decide +kernel, by decide +kernel, by decide⟩, x_ix 215 (by decide +kernel) (by decide +kernel), x_ix 216 (by decide +kernel) (by decide +kernel)⟩
theorem gX2_89 : x_Mv RX2 89 mX2_moveCursor 2 := ⟨⟨x_ix 218 (by decide +kernel) (by decide +kernel), wiX2, wcX2_moveCursor, by decide +kernel, by decide +kernel, by decide +kernel, by decide⟩, x_ix 220 (by decide +kernel) (by decide +kernel), x_sx 9 (by decide +kernel) (by decide +kernel)⟩
theorem gL_34 : x_Mv RL 34 mX2_first 0 := ⟨⟨x_ix 222 (by decide +kernel) (by decide +kernel), wiX2, wcX2_first, by decide +kernel, by decide +kernel, by decide +kernel, by decide⟩, x_ix 223 (by decide +kernel) (by decide +kernel), x_ix 224 (by decide +kernel) (by decide +kernel)⟩
theorem gL_38 : x_Mv RL 38 mX2_last 0 := ⟨⟨x_ix 226 (by decide +kernel) (by decide +kernel), wiX2, wcX2_last, by decide +kernel, by decide +kernel, by decide +kernel, by decide⟩, x_ix 227 (by decide +kernel) (by decide +kernel), x_ix 228 (by decide +kernel) (by decide +kernel)⟩
theorem gL_42 : x_Mv RL 42 mX2_next 0 := ⟨⟨x_ix 230 (by decide +kernel) (by decide +kernel), wiX2, wcX2_next, by decide +kernel, by decide +kernel, by decide +kernel, by decide⟩, x_ix 231 (by decide +kernel) (by decide +kernel), x_ix 232 (by decide +kernel) (by decide +kernel)⟩
theorem gX2_93 : x_Mv RX2 93 mX1_countPassed 2 := ⟨⟨x_ix 234 (by decide +kernel) (by decide +kernel), wiX1, wcX1_countPassed, by decide +kernel, by decide +kernel, by decide +kernel, by decide⟩, x_ix 128 (by decide +kernel) (by decide +kernel), x_ix 129 (by decide +kernel) (by decide +kernel)⟩
theorem gL_47 : x_Mv RL 47 mX2_back 0 := ⟨⟨x_ix 235 (by decide +kernel) (by decide +kernel), wiX2, wcX2_back, by decide +kernel, by decide +kernel, by decide +kernel, by decide⟩, x_ix 236 (by decide +kernel) (by decide +kernel), x_ix 237 (by decide +kernel) (by decide +kernel)⟩
theorem gX2_107 : x_Mv RX2 107 mX2_leftmostPage 1 := ⟨⟨x_ix 239 (by decide +kernel) (by decide +kernel), wiX2, wcX2_leftmostPage, by decide +kernel, by decide +kernel, by decide +kernel, by decide⟩, x_ix 241 (by decide +kernel) (by decide +kernel), x_sx 10 (by decide +kernel) (by decide +kernel)⟩
theorem gL_51 : x_Mv RL 51 mX2_word 1 := ⟨⟨x_ix 243 (by decide +kernel) (by decide +kernel), wiX2, wcX2_word, by decide +kernel, by decide +kernel, by decide +kernel, by decide⟩, x_ix 244 (by decide +kernel) (by decide +kernel), x_ix 245 (by decide +kernel) (by decide +kernel)⟩
theorem gL_56 : x_Mv RL 56 mX2_place 0 := ⟨⟨x_ix 247 (by decide +kernel) (by decide +kernel), wiX2, wcX2_place, by decide +kernel, by decide +kernel, by decide +kernel, by decide⟩, x_ix 248 (by decide +kernel) (by decide +kernel), x_ix 249 (by decide +kernel) (by decide +kernel)⟩
theorem gL_61 : x_Mv RL 61 mX2_clear 0 := ⟨⟨x_ix 251 (by decide +kernel) (by decide +kernel), wiX2, wcX2_clear, by decide +kernel, by decide +kernel, by decide +kernel, by decide⟩, x_ix 252 (by decide +kernel) (by decide +kernel), x_ix 253 (by decide +kernel) (by decide +kernel)⟩
theorem gL_65 : x_Mv RL 65 mX2_charge 1 := ⟨⟨x_ix 255 (by decide +kernel) (by decide +kernel), wiX2, wcX2_charge, by decide +kernel, by decide +kernel, by decide +kernel, by decide⟩, x_ix 256 (by decide +kernel) (by decide +kernel), x_ix 257 (by decide +kernel) (by decide +kernel)⟩
theorem gL_70 : x_Mv RL 70 mX2_count 1 := ⟨⟨x_ix 259 (by decide +kernel) (by decide +kernel), wiX2, wcX2_count, by decide +kernel, by decide +kernel, by decide +kernel, by decide⟩, x_ix 260 (by decide +kernel) (by decide +kernel), x_ix 261 (by decide +kernel) (by decide +kernel)⟩
theorem gX2_134 : x_Mv RX2 134 mX2_level 2 := ⟨⟨x_ix 263 (by decide +kernel) (by decide +kernel), wiX2, wcX2_level, by decide +kernel, by decide +kernel, by decide +kernel, by decide⟩, x_ix 264 (by decide +kernel) (by decide +kernel), x_ix 265 (by decide +kernel) (by decide +kernel)⟩
theorem gL_75 : x_Mv RL 75 mX2_level 2 := ⟨⟨x_ix 267 (by decide +kernel) (by decide +kernel), wiX2, wcX2_level, by decide +kernel, by decide +kernel, by decide +kernel, by decide⟩, x_ix 264 (by decide +kernel) (by decide +kernel), x_ix 265 (by decide +kernel) (by decide +kernel)⟩
theorem kL_10 : Cond.classLink RL 10 RX3 ∈ xW0 := x_ix 268 (by decide +kernel) (by decide +kernel)
theorem nL_10 : x_Nw RL 10 3 [.ref 0, .ref 0, .ref 0, .ref 0, .ref 0, .int 0, .ref 0, .ref 0, .int 0, .ref 0, .ref 0, .ref 0, .int 0, .int 0, .int 0, .int 0, .int 0, .int 0, .ref 0, .int 0, .int 0, .int 0, .int 0] := ⟨_, rfl, kL_10, x_ix 269 (by decide +kernel) (by decide +kernel), x_ix 4 (by decide +kernel) (by decide +kernel), rfl, by decide +kernel⟩
theorem gL_12 : x_Mi RL 12 mX3_init 0 := ⟨⟨x_ix 270 (by decide +kernel) (by decide +kernel), wiX3, wcX3_init, by decide +kernel, by decide +kernel, by decide +kernel, by decide⟩, x_ix 271 (by decide +kernel) (by decide +kernel), by decide +kernel, rfl⟩
theorem ojX3_1 : Cond.methodLink RX3 1 objectInit ∈ xW0 := x_ix 273 (by decide +kernel) (by decide +kernel)
theorem gX3_56 : x_Mv RX3 56 mX3_clear 0 := ⟨⟨x_ix 274 (by decide +kernel) (by decide +kernel), wiX3, wcX3_clear, by decide +kernel, by decide +kernel, by decide +kernel, by decide⟩, x_ix 275 (by decide +kernel) (by decide +kernel), x_ix 276 (by decide +kernel) (by decide +kernel)⟩
theorem gX3_98 : x_Mv RX3 98 mX3_addPage 2 := ⟨⟨x_ix 278 (by decide +kernel) (by decide +kernel), wiX3, wcX3_addPage, by decide +kernel, by decide +kernel, by decide +kernel, by decide⟩, x_ix 280 (by decide +kernel) (by decide +kernel), x_sx 11 (by decide +kernel) (by decide +kernel)⟩
theorem gX3_130 : x_Mv RX3 130 mX3_first 0 := ⟨⟨x_ix 282 (by decide +kernel) (by decide +kernel), wiX3, wcX3_first, by decide +kernel, by decide +kernel, by decide +kernel, by decide⟩, x_ix 283 (by decide +kernel) (by decide +kernel), x_ix 284 (by decide +kernel) (by decide +kernel)⟩
theorem fX3_7 : x_Fd RX3 7 3 0 (.array (.long)) true := ⟨_, rfl, by decide, x_ix 286 (by decide +kernel) (by decide +kernel), by decide +kernel, rfl, rfl⟩
theorem fX3_13 : x_Fd RX3 13 3 1 (.array (.long)) true := ⟨_, rfl, by decide, x_ix 287 (by decide +kernel) (by decide +kernel), by decide +kernel, rfl, rfl⟩
theorem fX3_16 : x_Fd RX3 16 3 2 (.array (.long)) true := ⟨_, rfl, by decide, x_ix 288 (by decide +kernel) (by decide +kernel), by decide +kernel, rfl, rfl⟩
theorem fX3_19 : x_Fd RX3 19 3 3 (.array (.long)) true := ⟨_, rfl, by decide, x_ix 289 (by decide +kernel) (by decide +kernel), by decide +kernel, rfl, rfl⟩
theorem fX3_22 : x_Fd RX3 22 3 4 (.array (.int)) true := ⟨_, rfl, by decide, x_ix 290 (by decide +kernel) (by decide +kernel), by decide +kernel, rfl, rfl⟩
theorem fX3_26 : x_Fd RX3 26 3 5 (.int) false := ⟨_, rfl, by decide, x_ix 291 (by decide +kernel) (by decide +kernel), by decide +kernel, rfl, rfl⟩
theorem fX3_30 : x_Fd RX3 30 3 6 (.array (.int)) true := ⟨_, rfl, by decide, x_ix 292 (by decide +kernel) (by decide +kernel), by decide +kernel, rfl, rfl⟩
theorem fX3_33 : x_Fd RX3 33 3 7 (.array (.int)) true := ⟨_, rfl, by decide, x_ix 293 (by decide +kernel) (by decide +kernel), by decide +kernel, rfl, rfl⟩
theorem fX3_72 : x_Fd RX3 72 3 8 (.int) false := ⟨_, rfl, by decide, x_ix 294 (by decide +kernel) (by decide +kernel), by decide +kernel, rfl, rfl⟩
theorem fX3_36 : x_Fd RX3 36 3 9 (.array (.int)) true := ⟨_, rfl, by decide, x_ix 295 (by decide +kernel) (by decide +kernel), by decide +kernel, rfl, rfl⟩
theorem fX3_39 : x_Fd RX3 39 3 10 (.array (.int)) true := ⟨_, rfl, by decide, x_ix 296 (by decide +kernel) (by decide +kernel), by decide +kernel, rfl, rfl⟩
theorem fX3_42 : x_Fd RX3 42 3 11 (.array (.boolean)) true := ⟨_, rfl, by decide, x_ix 297 (by decide +kernel) (by decide +kernel), by decide +kernel, rfl, rfl⟩
theorem fX3_65 : x_Fd RX3 65 3 12 (.int) false := ⟨_, rfl, by decide, x_ix 298 (by decide +kernel) (by decide +kernel), by decide +kernel, rfl, rfl⟩
theorem fX3_88 : x_Fd RX3 88 3 13 (.int) false := ⟨_, rfl, by decide, x_ix 299 (by decide +kernel) (by decide +kernel), by decide +kernel, rfl, rfl⟩
theorem fX3_123 : x_Fd RX3 123 3 14 (.int) false := ⟨_, rfl, by decide, x_ix 300 (by decide +kernel) (by decide +kernel), by decide +kernel, rfl, rfl⟩
theorem fX3_78 : x_Fd RX3 78 3 15 (.int) false := ⟨_, rfl, by decide, x_ix 301 (by decide +kernel) (by decide +kernel), by decide +kernel, rfl, rfl⟩
theorem fX3_81 : x_Fd RX3 81 3 16 (.int) false := ⟨_, rfl, by decide, x_ix 302 (by decide +kernel) (by decide +kernel), by decide +kernel, rfl, rfl⟩
theorem fX3_49 : x_Fd RX3 49 3 17 (.boolean) false := ⟨_, rfl, by decide, x_ix 303 (by decide +kernel) (by decide +kernel), by decide +kernel, rfl, rfl⟩
theorem fX3_46 : x_Fd RX3 46 3 18 (.array (.int)) true := ⟨_, rfl, by decide, x_ix 304 (by decide +kernel) (by decide +kernel), by decide +kernel, rfl, rfl⟩
theorem fX3_137 : x_Fd RX3 137 3 19 (.int) false := ⟨_, rfl, by decide, x_ix 305 (by decide +kernel) (by decide +kernel), by decide +kernel, rfl, rfl⟩
theorem fX3_140 : x_Fd RX3 140 3 20 (.int) false := ⟨_, rfl, by decide, x_ix 306 (by decide +kernel) (by decide +kernel), by decide +kernel, rfl, rfl⟩
theorem fX3_143 : x_Fd RX3 143 3 21 (.boolean) false := ⟨_, rfl, by decide, x_ix 307 (by decide +kernel) (by decide +kernel), by decide +kernel, rfl, rfl⟩
theorem fX3_53 : x_Fd RX3 53 3 22 (.int) false := ⟨_, rfl, by decide, x_ix 308 (by decide +kernel) (by decide +kernel), by decide +kernel, rfl, rfl⟩
theorem wa_long : Cond.arrayClass .long ∈ xW0 := x_ix 356 (by decide +kernel) (by decide +kernel)
theorem wa_int : Cond.arrayClass .int ∈ xW0 := x_ix 357 (by decide +kernel) (by decide +kernel)
theorem wa_boolean : Cond.arrayClass .boolean ∈ xW0 := x_ix 358 (by decide +kernel) (by decide +kernel)
theorem gL_69 : x_Mv RL 69 mX3_charge 1 := ⟨⟨x_ix 359 (by decide +kernel) (by decide +kernel), wiX3, wcX3_charge, by decide +kernel, by decide +kernel, by decide +kernel, by decide⟩, x_ix 360 (by decide +kernel) (by decide +kernel), x_ix 361 (by decide +kernel) (by decide +kernel)⟩
theorem gL_19 : x_Mv RL 19 mX3_add 5 := ⟨⟨x_ix 363 (by decide +kernel) (by decide +kernel), wiX3, wcX3_add, by decide +kernel, by decide +kernel, by decide +kernel, by decide⟩, x_ix 364 (by decide +kernel) (by decide +kernel), x_ix 365 (by decide +kernel) (by decide +kernel)⟩
theorem gX3_113 : x_Mv RX3 113 mX3_numbered 5 := ⟨⟨x_ix 367 (by decide +kernel) (by decide +kernel), wiX3, wcX3_numbered, by decide +kernel, by decide +kernel, by decide +kernel, by decide⟩, x_ix 369 (by decide +kernel) (by decide +kernel), x_sx 12 (by decide +kernel) (by decide +kernel)⟩
theorem gX3_117 : x_Mv RX3 117 mX3_itemOf 1 := ⟨⟨x_ix 371 (by decide +kernel) (by decide +kernel), wiX3, wcX3_itemOf, by decide +kernel, by decide +kernel, by decide +kernel, by decide⟩, x_ix 373 (by decide +kernel) (by decide +kernel), x_sx 13 (by decide +kernel) (by decide +kernel)⟩
theorem gX3_68 : x_Mv RX3 68 mX3_order 2 := ⟨⟨x_ix 375 (by decide +kernel) (by decide +kernel), wiX3, wcX3_order, by decide +kernel, by decide +kernel, by decide +kernel, by decide⟩, x_ix 377 (by decide +kernel) (by decide +kernel), x_sx 14 (by decide +kernel) (by decide +kernel)⟩
theorem gX3_61 : x_Ms RX3 61 mX3_unsigned 2 := ⟨⟨x_ix 379 (by decide +kernel) (by decide +kernel), wiX3, wcX3_unsigned, by decide +kernel, by decide +kernel, by decide +kernel, by decide⟩, x_ix 380 (by decide +kernel) (by decide +kernel)⟩
theorem vX3_59 : Cond.constantLong RX3 59 (-9223372036854775808) ∈ xW0 := x_ix 382 (by decide +kernel) (by decide +kernel)
theorem gX3_120 : x_Mv RX3 120 mX3_plan 1 := ⟨⟨x_ix 383 (by decide +kernel) (by decide +kernel), wiX3, wcX3_plan, by decide +kernel, by decide +kernel, by decide +kernel, by decide⟩, x_ix 385 (by decide +kernel) (by decide +kernel), x_sx 15 (by decide +kernel) (by decide +kernel)⟩
theorem gX3_75 : x_Mv RX3 75 mX3_inCharge 2 := ⟨⟨x_ix 387 (by decide +kernel) (by decide +kernel), wiX3, wcX3_inCharge, by decide +kernel, by decide +kernel, by decide +kernel, by decide⟩, x_ix 389 (by decide +kernel) (by decide +kernel), x_sx 16 (by decide +kernel) (by decide +kernel)⟩
theorem gX3_84 : x_Mv RX3 84 mX3_filled 1 := ⟨⟨x_ix 391 (by decide +kernel) (by decide +kernel), wiX3, wcX3_filled, by decide +kernel, by decide +kernel, by decide +kernel, by decide⟩, x_ix 393 (by decide +kernel) (by decide +kernel), x_sx 17 (by decide +kernel) (by decide +kernel)⟩
theorem gX3_91 : x_Mv RX3 91 mX3_sixth 1 := ⟨⟨x_ix 395 (by decide +kernel) (by decide +kernel), wiX3, wcX3_sixth, by decide +kernel, by decide +kernel, by decide +kernel, by decide⟩, x_ix 397 (by decide +kernel) (by decide +kernel), x_sx 18 (by decide +kernel) (by decide +kernel)⟩
theorem gX3_126 : x_Mv RX3 126 mX3_perform 2 := ⟨⟨x_ix 399 (by decide +kernel) (by decide +kernel), wiX3, wcX3_perform, by decide +kernel, by decide +kernel, by decide +kernel, by decide⟩, x_ix 401 (by decide +kernel) (by decide +kernel), x_sx 19 (by decide +kernel) (by decide +kernel)⟩
theorem gX3_105 : x_Mv RX3 105 mX3_split 3 := ⟨⟨x_ix 403 (by decide +kernel) (by decide +kernel), wiX3, wcX3_split, by decide +kernel, by decide +kernel, by decide +kernel, by decide⟩, x_ix 405 (by decide +kernel) (by decide +kernel), x_sx 20 (by decide +kernel) (by decide +kernel)⟩
theorem gX3_94 : x_Mv RX3 94 mX3_set 1 := ⟨⟨x_ix 407 (by decide +kernel) (by decide +kernel), wiX3, wcX3_set, by decide +kernel, by decide +kernel, by decide +kernel, by decide⟩, x_ix 409 (by decide +kernel) (by decide +kernel), x_sx 21 (by decide +kernel) (by decide +kernel)⟩
theorem gX3_102 : x_Mv RX3 102 mX3_addItem 2 := ⟨⟨x_ix 411 (by decide +kernel) (by decide +kernel), wiX3, wcX3_addItem, by decide +kernel, by decide +kernel, by decide +kernel, by decide⟩, x_ix 413 (by decide +kernel) (by decide +kernel), x_sx 22 (by decide +kernel) (by decide +kernel)⟩
theorem gX3_109 : x_Mv RX3 109 mX3_enter 2 := ⟨⟨x_ix 415 (by decide +kernel) (by decide +kernel), wiX3, wcX3_enter, by decide +kernel, by decide +kernel, by decide +kernel, by decide⟩, x_ix 417 (by decide +kernel) (by decide +kernel), x_sx 23 (by decide +kernel) (by decide +kernel)⟩
theorem gL_23 : x_Mv RL 23 mX3_remove 5 := ⟨⟨x_ix 419 (by decide +kernel) (by decide +kernel), wiX3, wcX3_remove, by decide +kernel, by decide +kernel, by decide +kernel, by decide⟩, x_ix 420 (by decide +kernel) (by decide +kernel), x_ix 421 (by decide +kernel) (by decide +kernel)⟩
theorem gL_28 : x_Mv RL 28 mX3_has 5 := ⟨⟨x_ix 423 (by decide +kernel) (by decide +kernel), wiX3, wcX3_has, by decide +kernel, by decide +kernel, by decide +kernel, by decide⟩, x_ix 424 (by decide +kernel) (by decide +kernel), x_ix 425 (by decide +kernel) (by decide +kernel)⟩
theorem gL_64 : x_Mv RL 64 mX3_clear 0 := ⟨⟨x_ix 427 (by decide +kernel) (by decide +kernel), wiX3, wcX3_clear, by decide +kernel, by decide +kernel, by decide +kernel, by decide⟩, x_ix 275 (by decide +kernel) (by decide +kernel), x_ix 276 (by decide +kernel) (by decide +kernel)⟩
theorem gL_33 : x_Mv RL 33 mX3_seek 4 := ⟨⟨x_ix 428 (by decide +kernel) (by decide +kernel), wiX3, wcX3_seek, by decide +kernel, by decide +kernel, by decide +kernel, by decide⟩, x_ix 429 (by decide +kernel) (by decide +kernel), x_ix 430 (by decide +kernel) (by decide +kernel)⟩
theorem gX3_133 : x_Mv RX3 133 mX3_stand 2 := ⟨⟨x_ix 432 (by decide +kernel) (by decide +kernel), wiX3, wcX3_stand, by decide +kernel, by decide +kernel, by decide +kernel, by decide⟩, x_ix 434 (by decide +kernel) (by decide +kernel), x_sx 24 (by decide +kernel) (by decide +kernel)⟩
theorem gL_37 : x_Mv RL 37 mX3_first 0 := ⟨⟨x_ix 436 (by decide +kernel) (by decide +kernel), wiX3, wcX3_first, by decide +kernel, by decide +kernel, by decide +kernel, by decide⟩, x_ix 283 (by decide +kernel) (by decide +kernel), x_ix 284 (by decide +kernel) (by decide +kernel)⟩
theorem gL_41 : x_Mv RL 41 mX3_last 0 := ⟨⟨x_ix 437 (by decide +kernel) (by decide +kernel), wiX3, wcX3_last, by decide +kernel, by decide +kernel, by decide +kernel, by decide⟩, x_ix 438 (by decide +kernel) (by decide +kernel), x_ix 439 (by decide +kernel) (by decide +kernel)⟩
theorem gL_46 : x_Mv RL 46 mX3_next 0 := ⟨⟨x_ix 441 (by decide +kernel) (by decide +kernel), wiX3, wcX3_next, by decide +kernel, by decide +kernel, by decide +kernel, by decide⟩, x_ix 442 (by decide +kernel) (by decide +kernel), x_ix 443 (by decide +kernel) (by decide +kernel)⟩
theorem gX3_146 : x_Mv RX3 146 mX3_behind 1 := ⟨⟨x_ix 445 (by decide +kernel) (by decide +kernel), wiX3, wcX3_behind, by decide +kernel, by decide +kernel, by decide +kernel, by decide⟩, x_ix 447 (by decide +kernel) (by decide +kernel), x_sx 25 (by decide +kernel) (by decide +kernel)⟩
theorem gL_50 : x_Mv RL 50 mX3_back 0 := ⟨⟨x_ix 449 (by decide +kernel) (by decide +kernel), wiX3, wcX3_back, by decide +kernel, by decide +kernel, by decide +kernel, by decide⟩, x_ix 450 (by decide +kernel) (by decide +kernel), x_ix 451 (by decide +kernel) (by decide +kernel)⟩
theorem gL_55 : x_Mv RL 55 mX3_word 1 := ⟨⟨x_ix 453 (by decide +kernel) (by decide +kernel), wiX3, wcX3_word, by decide +kernel, by decide +kernel, by decide +kernel, by decide⟩, x_ix 454 (by decide +kernel) (by decide +kernel), x_ix 455 (by decide +kernel) (by decide +kernel)⟩
theorem gL_60 : x_Mv RL 60 mX3_place 0 := ⟨⟨x_ix 457 (by decide +kernel) (by decide +kernel), wiX3, wcX3_place, by decide +kernel, by decide +kernel, by decide +kernel, by decide⟩, x_ix 458 (by decide +kernel) (by decide +kernel), x_ix 459 (by decide +kernel) (by decide +kernel)⟩
theorem gL_74 : x_Mv RL 74 mX3_count 1 := ⟨⟨x_ix 461 (by decide +kernel) (by decide +kernel), wiX3, wcX3_count, by decide +kernel, by decide +kernel, by decide +kernel, by decide⟩, x_ix 462 (by decide +kernel) (by decide +kernel), x_ix 463 (by decide +kernel) (by decide +kernel)⟩
theorem gX3_149 : x_Mv RX3 149 mX3_entriesOf 1 := ⟨⟨x_ix 465 (by decide +kernel) (by decide +kernel), wiX3, wcX3_entriesOf, by decide +kernel, by decide +kernel, by decide +kernel, by decide⟩, x_ix 467 (by decide +kernel) (by decide +kernel), x_sx 26 (by decide +kernel) (by decide +kernel)⟩
theorem gL_79 : x_Mv RL 79 mX3_level 2 := ⟨⟨x_ix 469 (by decide +kernel) (by decide +kernel), wiX3, wcX3_level, by decide +kernel, by decide +kernel, by decide +kernel, by decide⟩, x_ix 470 (by decide +kernel) (by decide +kernel), x_ix 471 (by decide +kernel) (by decide +kernel)⟩
theorem gX3_152 : x_Mv RX3 152 mX3_leftOf 1 := ⟨⟨x_ix 473 (by decide +kernel) (by decide +kernel), wiX3, wcX3_leftOf, by decide +kernel, by decide +kernel, by decide +kernel, by decide⟩, x_ix 475 (by decide +kernel) (by decide +kernel), x_sx 27 (by decide +kernel) (by decide +kernel)⟩
theorem vL_13 : Cond.constantLong RL 13 (4294967295) ∈ xW0 := x_ix 477 (by decide +kernel) (by decide +kernel)
end
section
section XA
variable {y : xM} {d kc ks pc : Nat} {l : List (Nat × Value)} {st : List Value} {h : xH} {Q : List Value → xH → Prop}
/-- a contract with one answer and one heap -/
abbrev x_D (z : xM) (d mc ms : Nat) (as : List Value) (h : xH) (r : List Value) (h2 : xH) : Prop := x_Con z d mc ms as h (fun rv h' => rv = r ∧ h' = h2)
theorem e_V0 {z : xM} {idx d' mc' ms' kc' ks' b ci : Nat} {fs : List Value} {Q' : List Value → xH → Prop} (hd : decode y.2.1 pc = .ok (.invokevirtual idx, 3)) (hM : x_Mv y.1.cls idx z 0) (hb : h.2 b = some (.inr (ci, fs))) (hc : (xCl[ci]?).map (fun r => r.1) = some z.1.cls) (hdd : d' + 1 ≤ d) (hsum : (st.map fun v => v.category).sum ≤ 8) (hkc : kc' + mc' = kc) (hks : ks' + ms' = ks) (hcon : x_Con z d' mc' ms' [.ref b] h Q') (kk : ∀ (rv : List Value) (h' : xH), Q' rv h' → x_E y d kc' ks' (pc + 3) l (rv ++ st) h' Q) : x_E y d kc ks pc l (.ref b :: st) h Q :=
  e_callV (As := []) hd hM rfl rfl hb hc hdd hsum hkc hks hcon kk
theorem e_V0d {z : xM} {idx d' mc' ms' kc' ks' b ci : Nat} {fs : List Value} {r : List Value} {h2 : xH} (hd : decode y.2.1 pc = .ok (.invokevirtual idx, 3)) (hM : x_Mv y.1.cls idx z 0) (hb : h.2 b = some (.inr (ci, fs))) (hc : (xCl[ci]?).map (fun r => r.1) = some z.1.cls) (hdd : d' + 1 ≤ d) (hsum : (st.map fun v => v.category).sum ≤ 8) (hkc : kc' + mc' = kc) (hks : ks' + ms' = ks) (hcon : x_D z d' mc' ms' [.ref b] h r h2) (kk : x_E y d kc' ks' (pc + 3) l (r ++ st) h2 Q) : x_E y d kc ks pc l (.ref b :: st) h Q :=
  e_callV (As := []) hd hM rfl rfl hb hc hdd hsum hkc hks hcon (fun rv h' q => by obtain ⟨rfl, rfl⟩ := q; exact kk)
theorem e_I0 {z : xM} {idx d' mc' ms' kc' ks' b ci : Nat} {fs : List Value} {Q' : List Value → xH → Prop} (hd : decode y.2.1 pc = .ok (.invokespecial idx, 3)) (hM : x_Mi y.1.cls idx z 0) (hb : h.2 b = some (.inr (ci, fs))) (hdd : d' + 1 ≤ d) (hsum : (st.map fun v => v.category).sum ≤ 8) (hkc : kc' + mc' = kc) (hks : ks' + ms' = ks) (hcon : x_Con z d' mc' ms' [.ref b] h Q') (kk : ∀ (rv : List Value) (h' : xH), Q' rv h' → x_E y d kc' ks' (pc + 3) l (rv ++ st) h' Q) : x_E y d kc ks pc l (.ref b :: st) h Q :=
  e_callI (As := []) hd hM rfl rfl hb hdd hsum hkc hks hcon kk
theorem e_I0d {z : xM} {idx d' mc' ms' kc' ks' b ci : Nat} {fs : List Value} {r : List Value} {h2 : xH} (hd : decode y.2.1 pc = .ok (.invokespecial idx, 3)) (hM : x_Mi y.1.cls idx z 0) (hb : h.2 b = some (.inr (ci, fs))) (hdd : d' + 1 ≤ d) (hsum : (st.map fun v => v.category).sum ≤ 8) (hkc : kc' + mc' = kc) (hks : ks' + ms' = ks) (hcon : x_D z d' mc' ms' [.ref b] h r h2) (kk : x_E y d kc' ks' (pc + 3) l (r ++ st) h2 Q) : x_E y d kc ks pc l (.ref b :: st) h Q :=
  e_callI (As := []) hd hM rfl rfl hb hdd hsum hkc hks hcon (fun rv h' q => by obtain ⟨rfl, rfl⟩ := q; exact kk)
theorem e_V1 {z : xM} {idx d' mc' ms' kc' ks' b ci : Nat} {a1 : Value} {fs : List Value} {Q' : List Value → xH → Prop} (hd : decode y.2.1 pc = .ok (.invokevirtual idx, 3)) (hM : x_Mv y.1.cls idx z 1) (hb : h.2 b = some (.inr (ci, fs))) (hc : (xCl[ci]?).map (fun r => r.1) = some z.1.cls) (hdd : d' + 1 ≤ d) (hsum : (st.map fun v => v.category).sum ≤ 8) (hkc : kc' + mc' = kc) (hks : ks' + ms' = ks) (hcon : x_Con z d' mc' ms' [.ref b, a1] h Q') (kk : ∀ (rv : List Value) (h' : xH), Q' rv h' → x_E y d kc' ks' (pc + 3) l (rv ++ st) h' Q) : x_E y d kc ks pc l (a1 :: .ref b :: st) h Q :=
  e_callV (As := [a1]) hd hM rfl rfl hb hc hdd hsum hkc hks hcon kk
theorem e_V1d {z : xM} {idx d' mc' ms' kc' ks' b ci : Nat} {a1 : Value} {fs : List Value} {r : List Value} {h2 : xH} (hd : decode y.2.1 pc = .ok (.invokevirtual idx, 3)) (hM : x_Mv y.1.cls idx z 1) (hb : h.2 b = some (.inr (ci, fs))) (hc : (xCl[ci]?).map (fun r => r.1) = some z.1.cls) (hdd : d' + 1 ≤ d) (hsum : (st.map fun v => v.category).sum ≤ 8) (hkc : kc' + mc' = kc) (hks : ks' + ms' = ks) (hcon : x_D z d' mc' ms' [.ref b, a1] h r h2) (kk : x_E y d kc' ks' (pc + 3) l (r ++ st) h2 Q) : x_E y d kc ks pc l (a1 :: .ref b :: st) h Q :=
  e_callV (As := [a1]) hd hM rfl rfl hb hc hdd hsum hkc hks hcon (fun rv h' q => by obtain ⟨rfl, rfl⟩ := q; exact kk)
theorem e_I1 {z : xM} {idx d' mc' ms' kc' ks' b ci : Nat} {a1 : Value} {fs : List Value} {Q' : List Value → xH → Prop} (hd : decode y.2.1 pc = .ok (.invokespecial idx, 3)) (hM : x_Mi y.1.cls idx z 1) (hb : h.2 b = some (.inr (ci, fs))) (hdd : d' + 1 ≤ d) (hsum : (st.map fun v => v.category).sum ≤ 8) (hkc : kc' + mc' = kc) (hks : ks' + ms' = ks) (hcon : x_Con z d' mc' ms' [.ref b, a1] h Q') (kk : ∀ (rv : List Value) (h' : xH), Q' rv h' → x_E y d kc' ks' (pc + 3) l (rv ++ st) h' Q) : x_E y d kc ks pc l (a1 :: .ref b :: st) h Q :=
  e_callI (As := [a1]) hd hM rfl rfl hb hdd hsum hkc hks hcon kk
theorem e_I1d {z : xM} {idx d' mc' ms' kc' ks' b ci : Nat} {a1 : Value} {fs : List Value} {r : List Value} {h2 : xH} (hd : decode y.2.1 pc = .ok (.invokespecial idx, 3)) (hM : x_Mi y.1.cls idx z 1) (hb : h.2 b = some (.inr (ci, fs))) (hdd : d' + 1 ≤ d) (hsum : (st.map fun v => v.category).sum ≤ 8) (hkc : kc' + mc' = kc) (hks : ks' + ms' = ks) (hcon : x_D z d' mc' ms' [.ref b, a1] h r h2) (kk : x_E y d kc' ks' (pc + 3) l (r ++ st) h2 Q) : x_E y d kc ks pc l (a1 :: .ref b :: st) h Q :=
  e_callI (As := [a1]) hd hM rfl rfl hb hdd hsum hkc hks hcon (fun rv h' q => by obtain ⟨rfl, rfl⟩ := q; exact kk)
theorem e_S1 {z : xM} {idx d' mc' ms' kc' ks' : Nat} {a1 : Value} {Q' : List Value → xH → Prop} (hd : decode y.2.1 pc = .ok (.invokestatic idx, 3)) (hM : x_Ms y.1.cls idx z 1) (hdd : d' + 1 ≤ d) (hsum : (st.map fun v => v.category).sum ≤ 8) (hkc : kc' + mc' = kc) (hks : ks' + ms' = ks) (hcon : x_Con z d' mc' ms' [a1] h Q') (kk : ∀ (rv : List Value) (h' : xH), Q' rv h' → x_E y d kc' ks' (pc + 3) l (rv ++ st) h' Q) : x_E y d kc ks pc l (a1 :: st) h Q :=
  e_callS (As := [a1]) hd hM rfl rfl hdd hsum hkc hks hcon kk
theorem e_S1d {z : xM} {idx d' mc' ms' kc' ks' : Nat} {a1 : Value} {r : List Value} {h2 : xH} (hd : decode y.2.1 pc = .ok (.invokestatic idx, 3)) (hM : x_Ms y.1.cls idx z 1) (hdd : d' + 1 ≤ d) (hsum : (st.map fun v => v.category).sum ≤ 8) (hkc : kc' + mc' = kc) (hks : ks' + ms' = ks) (hcon : x_D z d' mc' ms' [a1] h r h2) (kk : x_E y d kc' ks' (pc + 3) l (r ++ st) h2 Q) : x_E y d kc ks pc l (a1 :: st) h Q :=
  e_callS (As := [a1]) hd hM rfl rfl hdd hsum hkc hks hcon (fun rv h' q => by obtain ⟨rfl, rfl⟩ := q; exact kk)
theorem e_V2 {z : xM} {idx d' mc' ms' kc' ks' b ci : Nat} {a1 a2 : Value} {fs : List Value} {Q' : List Value → xH → Prop} (hd : decode y.2.1 pc = .ok (.invokevirtual idx, 3)) (hM : x_Mv y.1.cls idx z 2) (hb : h.2 b = some (.inr (ci, fs))) (hc : (xCl[ci]?).map (fun r => r.1) = some z.1.cls) (hdd : d' + 1 ≤ d) (hsum : (st.map fun v => v.category).sum ≤ 8) (hkc : kc' + mc' = kc) (hks : ks' + ms' = ks) (hcon : x_Con z d' mc' ms' [.ref b, a1, a2] h Q') (kk : ∀ (rv : List Value) (h' : xH), Q' rv h' → x_E y d kc' ks' (pc + 3) l (rv ++ st) h' Q) : x_E y d kc ks pc l (a2 :: a1 :: .ref b :: st) h Q :=
  e_callV (As := [a1, a2]) hd hM rfl rfl hb hc hdd hsum hkc hks hcon kk
theorem e_V2d {z : xM} {idx d' mc' ms' kc' ks' b ci : Nat} {a1 a2 : Value} {fs : List Value} {r : List Value} {h2 : xH} (hd : decode y.2.1 pc = .ok (.invokevirtual idx, 3)) (hM : x_Mv y.1.cls idx z 2) (hb : h.2 b = some (.inr (ci, fs))) (hc : (xCl[ci]?).map (fun r => r.1) = some z.1.cls) (hdd : d' + 1 ≤ d) (hsum : (st.map fun v => v.category).sum ≤ 8) (hkc : kc' + mc' = kc) (hks : ks' + ms' = ks) (hcon : x_D z d' mc' ms' [.ref b, a1, a2] h r h2) (kk : x_E y d kc' ks' (pc + 3) l (r ++ st) h2 Q) : x_E y d kc ks pc l (a2 :: a1 :: .ref b :: st) h Q :=
  e_callV (As := [a1, a2]) hd hM rfl rfl hb hc hdd hsum hkc hks hcon (fun rv h' q => by obtain ⟨rfl, rfl⟩ := q; exact kk)
theorem e_I2 {z : xM} {idx d' mc' ms' kc' ks' b ci : Nat} {a1 a2 : Value} {fs : List Value} {Q' : List Value → xH → Prop} (hd : decode y.2.1 pc = .ok (.invokespecial idx, 3)) (hM : x_Mi y.1.cls idx z 2) (hb : h.2 b = some (.inr (ci, fs))) (hdd : d' + 1 ≤ d) (hsum : (st.map fun v => v.category).sum ≤ 8) (hkc : kc' + mc' = kc) (hks : ks' + ms' = ks) (hcon : x_Con z d' mc' ms' [.ref b, a1, a2] h Q') (kk : ∀ (rv : List Value) (h' : xH), Q' rv h' → x_E y d kc' ks' (pc + 3) l (rv ++ st) h' Q) : x_E y d kc ks pc l (a2 :: a1 :: .ref b :: st) h Q :=
  e_callI (As := [a1, a2]) hd hM rfl rfl hb hdd hsum hkc hks hcon kk
theorem e_I2d {z : xM} {idx d' mc' ms' kc' ks' b ci : Nat} {a1 a2 : Value} {fs : List Value} {r : List Value} {h2 : xH} (hd : decode y.2.1 pc = .ok (.invokespecial idx, 3)) (hM : x_Mi y.1.cls idx z 2) (hb : h.2 b = some (.inr (ci, fs))) (hdd : d' + 1 ≤ d) (hsum : (st.map fun v => v.category).sum ≤ 8) (hkc : kc' + mc' = kc) (hks : ks' + ms' = ks) (hcon : x_D z d' mc' ms' [.ref b, a1, a2] h r h2) (kk : x_E y d kc' ks' (pc + 3) l (r ++ st) h2 Q) : x_E y d kc ks pc l (a2 :: a1 :: .ref b :: st) h Q :=
  e_callI (As := [a1, a2]) hd hM rfl rfl hb hdd hsum hkc hks hcon (fun rv h' q => by obtain ⟨rfl, rfl⟩ := q; exact kk)
theorem e_S2 {z : xM} {idx d' mc' ms' kc' ks' : Nat} {a1 a2 : Value} {Q' : List Value → xH → Prop} (hd : decode y.2.1 pc = .ok (.invokestatic idx, 3)) (hM : x_Ms y.1.cls idx z 2) (hdd : d' + 1 ≤ d) (hsum : (st.map fun v => v.category).sum ≤ 8) (hkc : kc' + mc' = kc) (hks : ks' + ms' = ks) (hcon : x_Con z d' mc' ms' [a1, a2] h Q') (kk : ∀ (rv : List Value) (h' : xH), Q' rv h' → x_E y d kc' ks' (pc + 3) l (rv ++ st) h' Q) : x_E y d kc ks pc l (a2 :: a1 :: st) h Q :=
  e_callS (As := [a1, a2]) hd hM rfl rfl hdd hsum hkc hks hcon kk
theorem e_S2d {z : xM} {idx d' mc' ms' kc' ks' : Nat} {a1 a2 : Value} {r : List Value} {h2 : xH} (hd : decode y.2.1 pc = .ok (.invokestatic idx, 3)) (hM : x_Ms y.1.cls idx z 2) (hdd : d' + 1 ≤ d) (hsum : (st.map fun v => v.category).sum ≤ 8) (hkc : kc' + mc' = kc) (hks : ks' + ms' = ks) (hcon : x_D z d' mc' ms' [a1, a2] h r h2) (kk : x_E y d kc' ks' (pc + 3) l (r ++ st) h2 Q) : x_E y d kc ks pc l (a2 :: a1 :: st) h Q :=
  e_callS (As := [a1, a2]) hd hM rfl rfl hdd hsum hkc hks hcon (fun rv h' q => by obtain ⟨rfl, rfl⟩ := q; exact kk)
theorem e_V3 {z : xM} {idx d' mc' ms' kc' ks' b ci : Nat} {a1 a2 a3 : Value} {fs : List Value} {Q' : List Value → xH → Prop} (hd : decode y.2.1 pc = .ok (.invokevirtual idx, 3)) (hM : x_Mv y.1.cls idx z 3) (hb : h.2 b = some (.inr (ci, fs))) (hc : (xCl[ci]?).map (fun r => r.1) = some z.1.cls) (hdd : d' + 1 ≤ d) (hsum : (st.map fun v => v.category).sum ≤ 8) (hkc : kc' + mc' = kc) (hks : ks' + ms' = ks) (hcon : x_Con z d' mc' ms' [.ref b, a1, a2, a3] h Q') (kk : ∀ (rv : List Value) (h' : xH), Q' rv h' → x_E y d kc' ks' (pc + 3) l (rv ++ st) h' Q) : x_E y d kc ks pc l (a3 :: a2 :: a1 :: .ref b :: st) h Q :=
  e_callV (As := [a1, a2, a3]) hd hM rfl rfl hb hc hdd hsum hkc hks hcon kk
theorem e_V3d {z : xM} {idx d' mc' ms' kc' ks' b ci : Nat} {a1 a2 a3 : Value} {fs : List Value} {r : List Value} {h2 : xH} (hd : decode y.2.1 pc = .ok (.invokevirtual idx, 3)) (hM : x_Mv y.1.cls idx z 3) (hb : h.2 b = some (.inr (ci, fs))) (hc : (xCl[ci]?).map (fun r => r.1) = some z.1.cls) (hdd : d' + 1 ≤ d) (hsum : (st.map fun v => v.category).sum ≤ 8) (hkc : kc' + mc' = kc) (hks : ks' + ms' = ks) (hcon : x_D z d' mc' ms' [.ref b, a1, a2, a3] h r h2) (kk : x_E y d kc' ks' (pc + 3) l (r ++ st) h2 Q) : x_E y d kc ks pc l (a3 :: a2 :: a1 :: .ref b :: st) h Q :=
  e_callV (As := [a1, a2, a3]) hd hM rfl rfl hb hc hdd hsum hkc hks hcon (fun rv h' q => by obtain ⟨rfl, rfl⟩ := q; exact kk)
theorem e_I3 {z : xM} {idx d' mc' ms' kc' ks' b ci : Nat} {a1 a2 a3 : Value} {fs : List Value} {Q' : List Value → xH → Prop} (hd : decode y.2.1 pc = .ok (.invokespecial idx, 3)) (hM : x_Mi y.1.cls idx z 3) (hb : h.2 b = some (.inr (ci, fs))) (hdd : d' + 1 ≤ d) (hsum : (st.map fun v => v.category).sum ≤ 8) (hkc : kc' + mc' = kc) (hks : ks' + ms' = ks) (hcon : x_Con z d' mc' ms' [.ref b, a1, a2, a3] h Q') (kk : ∀ (rv : List Value) (h' : xH), Q' rv h' → x_E y d kc' ks' (pc + 3) l (rv ++ st) h' Q) : x_E y d kc ks pc l (a3 :: a2 :: a1 :: .ref b :: st) h Q :=
  e_callI (As := [a1, a2, a3]) hd hM rfl rfl hb hdd hsum hkc hks hcon kk
theorem e_I3d {z : xM} {idx d' mc' ms' kc' ks' b ci : Nat} {a1 a2 a3 : Value} {fs : List Value} {r : List Value} {h2 : xH} (hd : decode y.2.1 pc = .ok (.invokespecial idx, 3)) (hM : x_Mi y.1.cls idx z 3) (hb : h.2 b = some (.inr (ci, fs))) (hdd : d' + 1 ≤ d) (hsum : (st.map fun v => v.category).sum ≤ 8) (hkc : kc' + mc' = kc) (hks : ks' + ms' = ks) (hcon : x_D z d' mc' ms' [.ref b, a1, a2, a3] h r h2) (kk : x_E y d kc' ks' (pc + 3) l (r ++ st) h2 Q) : x_E y d kc ks pc l (a3 :: a2 :: a1 :: .ref b :: st) h Q :=
  e_callI (As := [a1, a2, a3]) hd hM rfl rfl hb hdd hsum hkc hks hcon (fun rv h' q => by obtain ⟨rfl, rfl⟩ := q; exact kk)
theorem e_S3 {z : xM} {idx d' mc' ms' kc' ks' : Nat} {a1 a2 a3 : Value} {Q' : List Value → xH → Prop} (hd : decode y.2.1 pc = .ok (.invokestatic idx, 3)) (hM : x_Ms y.1.cls idx z 3) (hdd : d' + 1 ≤ d) (hsum : (st.map fun v => v.category).sum ≤ 8) (hkc : kc' + mc' = kc) (hks : ks' + ms' = ks) (hcon : x_Con z d' mc' ms' [a1, a2, a3] h Q') (kk : ∀ (rv : List Value) (h' : xH), Q' rv h' → x_E y d kc' ks' (pc + 3) l (rv ++ st) h' Q) : x_E y d kc ks pc l (a3 :: a2 :: a1 :: st) h Q :=
  e_callS (As := [a1, a2, a3]) hd hM rfl rfl hdd hsum hkc hks hcon kk
theorem e_S3d {z : xM} {idx d' mc' ms' kc' ks' : Nat} {a1 a2 a3 : Value} {r : List Value} {h2 : xH} (hd : decode y.2.1 pc = .ok (.invokestatic idx, 3)) (hM : x_Ms y.1.cls idx z 3) (hdd : d' + 1 ≤ d) (hsum : (st.map fun v => v.category).sum ≤ 8) (hkc : kc' + mc' = kc) (hks : ks' + ms' = ks) (hcon : x_D z d' mc' ms' [a1, a2, a3] h r h2) (kk : x_E y d kc' ks' (pc + 3) l (r ++ st) h2 Q) : x_E y d kc ks pc l (a3 :: a2 :: a1 :: st) h Q :=
  e_callS (As := [a1, a2, a3]) hd hM rfl rfl hdd hsum hkc hks hcon (fun rv h' q => by obtain ⟨rfl, rfl⟩ := q; exact kk)
theorem e_V4 {z : xM} {idx d' mc' ms' kc' ks' b ci : Nat} {a1 a2 a3 a4 : Value} {fs : List Value} {Q' : List Value → xH → Prop} (hd : decode y.2.1 pc = .ok (.invokevirtual idx, 3)) (hM : x_Mv y.1.cls idx z 4) (hb : h.2 b = some (.inr (ci, fs))) (hc : (xCl[ci]?).map (fun r => r.1) = some z.1.cls) (hdd : d' + 1 ≤ d) (hsum : (st.map fun v => v.category).sum ≤ 8) (hkc : kc' + mc' = kc) (hks : ks' + ms' = ks) (hcon : x_Con z d' mc' ms' [.ref b, a1, a2, a3, a4] h Q') (kk : ∀ (rv : List Value) (h' : xH), Q' rv h' → x_E y d kc' ks' (pc + 3) l (rv ++ st) h' Q) : x_E y d kc ks pc l (a4 :: a3 :: a2 :: a1 :: .ref b :: st) h Q :=
  e_callV (As := [a1, a2, a3, a4]) hd hM rfl rfl hb hc hdd hsum hkc hks hcon kk
theorem e_V4d {z : xM} {idx d' mc' ms' kc' ks' b ci : Nat} {a1 a2 a3 a4 : Value} {fs : List Value} {r : List Value} {h2 : xH} (hd : decode y.2.1 pc = .ok (.invokevirtual idx, 3)) (hM : x_Mv y.1.cls idx z 4) (hb : h.2 b = some (.inr (ci, fs))) (hc : (xCl[ci]?).map (fun r => r.1) = some z.1.cls) (hdd : d' + 1 ≤ d) (hsum : (st.map fun v => v.category).sum ≤ 8) (hkc : kc' + mc' = kc) (hks : ks' + ms' = ks) (hcon : x_D z d' mc' ms' [.ref b, a1, a2, a3, a4] h r h2) (kk : x_E y d kc' ks' (pc + 3) l (r ++ st) h2 Q) : x_E y d kc ks pc l (a4 :: a3 :: a2 :: a1 :: .ref b :: st) h Q :=
  e_callV (As := [a1, a2, a3, a4]) hd hM rfl rfl hb hc hdd hsum hkc hks hcon (fun rv h' q => by obtain ⟨rfl, rfl⟩ := q; exact kk)
theorem e_I4 {z : xM} {idx d' mc' ms' kc' ks' b ci : Nat} {a1 a2 a3 a4 : Value} {fs : List Value} {Q' : List Value → xH → Prop} (hd : decode y.2.1 pc = .ok (.invokespecial idx, 3)) (hM : x_Mi y.1.cls idx z 4) (hb : h.2 b = some (.inr (ci, fs))) (hdd : d' + 1 ≤ d) (hsum : (st.map fun v => v.category).sum ≤ 8) (hkc : kc' + mc' = kc) (hks : ks' + ms' = ks) (hcon : x_Con z d' mc' ms' [.ref b, a1, a2, a3, a4] h Q') (kk : ∀ (rv : List Value) (h' : xH), Q' rv h' → x_E y d kc' ks' (pc + 3) l (rv ++ st) h' Q) : x_E y d kc ks pc l (a4 :: a3 :: a2 :: a1 :: .ref b :: st) h Q :=
  e_callI (As := [a1, a2, a3, a4]) hd hM rfl rfl hb hdd hsum hkc hks hcon kk
theorem e_I4d {z : xM} {idx d' mc' ms' kc' ks' b ci : Nat} {a1 a2 a3 a4 : Value} {fs : List Value} {r : List Value} {h2 : xH} (hd : decode y.2.1 pc = .ok (.invokespecial idx, 3)) (hM : x_Mi y.1.cls idx z 4) (hb : h.2 b = some (.inr (ci, fs))) (hdd : d' + 1 ≤ d) (hsum : (st.map fun v => v.category).sum ≤ 8) (hkc : kc' + mc' = kc) (hks : ks' + ms' = ks) (hcon : x_D z d' mc' ms' [.ref b, a1, a2, a3, a4] h r h2) (kk : x_E y d kc' ks' (pc + 3) l (r ++ st) h2 Q) : x_E y d kc ks pc l (a4 :: a3 :: a2 :: a1 :: .ref b :: st) h Q :=
  e_callI (As := [a1, a2, a3, a4]) hd hM rfl rfl hb hdd hsum hkc hks hcon (fun rv h' q => by obtain ⟨rfl, rfl⟩ := q; exact kk)
theorem e_S4 {z : xM} {idx d' mc' ms' kc' ks' : Nat} {a1 a2 a3 a4 : Value} {Q' : List Value → xH → Prop} (hd : decode y.2.1 pc = .ok (.invokestatic idx, 3)) (hM : x_Ms y.1.cls idx z 4) (hdd : d' + 1 ≤ d) (hsum : (st.map fun v => v.category).sum ≤ 8) (hkc : kc' + mc' = kc) (hks : ks' + ms' = ks) (hcon : x_Con z d' mc' ms' [a1, a2, a3, a4] h Q') (kk : ∀ (rv : List Value) (h' : xH), Q' rv h' → x_E y d kc' ks' (pc + 3) l (rv ++ st) h' Q) : x_E y d kc ks pc l (a4 :: a3 :: a2 :: a1 :: st) h Q :=
  e_callS (As := [a1, a2, a3, a4]) hd hM rfl rfl hdd hsum hkc hks hcon kk
theorem e_S4d {z : xM} {idx d' mc' ms' kc' ks' : Nat} {a1 a2 a3 a4 : Value} {r : List Value} {h2 : xH} (hd : decode y.2.1 pc = .ok (.invokestatic idx, 3)) (hM : x_Ms y.1.cls idx z 4) (hdd : d' + 1 ≤ d) (hsum : (st.map fun v => v.category).sum ≤ 8) (hkc : kc' + mc' = kc) (hks : ks' + ms' = ks) (hcon : x_D z d' mc' ms' [a1, a2, a3, a4] h r h2) (kk : x_E y d kc' ks' (pc + 3) l (r ++ st) h2 Q) : x_E y d kc ks pc l (a4 :: a3 :: a2 :: a1 :: st) h Q :=
  e_callS (As := [a1, a2, a3, a4]) hd hM rfl rfl hdd hsum hkc hks hcon (fun rv h' q => by obtain ⟨rfl, rfl⟩ := q; exact kk)
theorem e_V5 {z : xM} {idx d' mc' ms' kc' ks' b ci : Nat} {a1 a2 a3 a4 a5 : Value} {fs : List Value} {Q' : List Value → xH → Prop} (hd : decode y.2.1 pc = .ok (.invokevirtual idx, 3)) (hM : x_Mv y.1.cls idx z 5) (hb : h.2 b = some (.inr (ci, fs))) (hc : (xCl[ci]?).map (fun r => r.1) = some z.1.cls) (hdd : d' + 1 ≤ d) (hsum : (st.map fun v => v.category).sum ≤ 8) (hkc : kc' + mc' = kc) (hks : ks' + ms' = ks) (hcon : x_Con z d' mc' ms' [.ref b, a1, a2, a3, a4, a5] h Q') (kk : ∀ (rv : List Value) (h' : xH), Q' rv h' → x_E y d kc' ks' (pc + 3) l (rv ++ st) h' Q) : x_E y d kc ks pc l (a5 :: a4 :: a3 :: a2 :: a1 :: .ref b :: st) h Q :=
  e_callV (As := [a1, a2, a3, a4, a5]) hd hM rfl rfl hb hc hdd hsum hkc hks hcon kk
theorem e_V5d {z : xM} {idx d' mc' ms' kc' ks' b ci : Nat} {a1 a2 a3 a4 a5 : Value} {fs : List Value} {r : List Value} {h2 : xH} (hd : decode y.2.1 pc = .ok (.invokevirtual idx, 3)) (hM : x_Mv y.1.cls idx z 5) (hb : h.2 b = some (.inr (ci, fs))) (hc : (xCl[ci]?).map (fun r => r.1) = some z.1.cls) (hdd : d' + 1 ≤ d) (hsum : (st.map fun v => v.category).sum ≤ 8) (hkc : kc' + mc' = kc) (hks : ks' + ms' = ks) (hcon : x_D z d' mc' ms' [.ref b, a1, a2, a3, a4, a5] h r h2) (kk : x_E y d kc' ks' (pc + 3) l (r ++ st) h2 Q) : x_E y d kc ks pc l (a5 :: a4 :: a3 :: a2 :: a1 :: .ref b :: st) h Q :=
  e_callV (As := [a1, a2, a3, a4, a5]) hd hM rfl rfl hb hc hdd hsum hkc hks hcon (fun rv h' q => by obtain ⟨rfl, rfl⟩ := q; exact kk)
theorem e_I5 {z : xM} {idx d' mc' ms' kc' ks' b ci : Nat} {a1 a2 a3 a4 a5 : Value} {fs : List Value} {Q' : List Value → xH → Prop} (hd : decode y.2.1 pc = .ok (.invokespecial idx, 3)) (hM : x_Mi y.1.cls idx z 5) (hb : h.2 b = some (.inr (ci, fs))) (hdd : d' + 1 ≤ d) (hsum : (st.map fun v => v.category).sum ≤ 8) (hkc : kc' + mc' = kc) (hks : ks' + ms' = ks) (hcon : x_Con z d' mc' ms' [.ref b, a1, a2, a3, a4, a5] h Q') (kk : ∀ (rv : List Value) (h' : xH), Q' rv h' → x_E y d kc' ks' (pc + 3) l (rv ++ st) h' Q) : x_E y d kc ks pc l (a5 :: a4 :: a3 :: a2 :: a1 :: .ref b :: st) h Q :=
  e_callI (As := [a1, a2, a3, a4, a5]) hd hM rfl rfl hb hdd hsum hkc hks hcon kk
theorem e_I5d {z : xM} {idx d' mc' ms' kc' ks' b ci : Nat} {a1 a2 a3 a4 a5 : Value} {fs : List Value} {r : List Value} {h2 : xH} (hd : decode y.2.1 pc = .ok (.invokespecial idx, 3)) (hM : x_Mi y.1.cls idx z 5) (hb : h.2 b = some (.inr (ci, fs))) (hdd : d' + 1 ≤ d) (hsum : (st.map fun v => v.category).sum ≤ 8) (hkc : kc' + mc' = kc) (hks : ks' + ms' = ks) (hcon : x_D z d' mc' ms' [.ref b, a1, a2, a3, a4, a5] h r h2) (kk : x_E y d kc' ks' (pc + 3) l (r ++ st) h2 Q) : x_E y d kc ks pc l (a5 :: a4 :: a3 :: a2 :: a1 :: .ref b :: st) h Q :=
  e_callI (As := [a1, a2, a3, a4, a5]) hd hM rfl rfl hb hdd hsum hkc hks hcon (fun rv h' q => by obtain ⟨rfl, rfl⟩ := q; exact kk)
theorem e_S5 {z : xM} {idx d' mc' ms' kc' ks' : Nat} {a1 a2 a3 a4 a5 : Value} {Q' : List Value → xH → Prop} (hd : decode y.2.1 pc = .ok (.invokestatic idx, 3)) (hM : x_Ms y.1.cls idx z 5) (hdd : d' + 1 ≤ d) (hsum : (st.map fun v => v.category).sum ≤ 8) (hkc : kc' + mc' = kc) (hks : ks' + ms' = ks) (hcon : x_Con z d' mc' ms' [a1, a2, a3, a4, a5] h Q') (kk : ∀ (rv : List Value) (h' : xH), Q' rv h' → x_E y d kc' ks' (pc + 3) l (rv ++ st) h' Q) : x_E y d kc ks pc l (a5 :: a4 :: a3 :: a2 :: a1 :: st) h Q :=
  e_callS (As := [a1, a2, a3, a4, a5]) hd hM rfl rfl hdd hsum hkc hks hcon kk
theorem e_S5d {z : xM} {idx d' mc' ms' kc' ks' : Nat} {a1 a2 a3 a4 a5 : Value} {r : List Value} {h2 : xH} (hd : decode y.2.1 pc = .ok (.invokestatic idx, 3)) (hM : x_Ms y.1.cls idx z 5) (hdd : d' + 1 ≤ d) (hsum : (st.map fun v => v.category).sum ≤ 8) (hkc : kc' + mc' = kc) (hks : ks' + ms' = ks) (hcon : x_D z d' mc' ms' [a1, a2, a3, a4, a5] h r h2) (kk : x_E y d kc' ks' (pc + 3) l (r ++ st) h2 Q) : x_E y d kc ks pc l (a5 :: a4 :: a3 :: a2 :: a1 :: st) h Q :=
  e_callS (As := [a1, a2, a3, a4, a5]) hd hM rfl rfl hdd hsum hkc hks hcon (fun rv h' q => by obtain ⟨rfl, rfl⟩ := q; exact kk)
theorem x_up_s (h : xH) (a : Nat) (c : xC) : (x_up h a c).2 a = some c := by simp [x_up]
theorem x_up_n {h : xH} {a b : Nat} {c : xC} {o : Option xC} (hb : h.2 b = o) (hne : b ≠ a) : (x_up h a c).2 b = o := by simp [x_up, hne, hb]
theorem x_nw_s (h : xH) (c : xC) : (x_nw h c).2 h.1 = some c := by simp [x_nw]
theorem x_nw_n {h : xH} {b : Nat} {c : xC} {o : Option xC} (hb : h.2 b = o) (hne : b ≠ h.1) : (x_nw h c).2 b = o := by simp [x_nw, hne, hb]
theorem x_up_1 (h : xH) (a : Nat) (c : xC) : (x_up h a c).1 = h.1 := rfl
theorem x_nw_1 (h : xH) (c : xC) : (x_nw h c).1 = h.1 + 1 := rfl
theorem x_up_up (h : xH) (a : Nat) (c c' : xC) : x_up (x_up h a c) a c' = x_up h a c' := by
  unfold x_up
  congr 1
  funext q
  by_cases e : q = a <;> simp [e]
end XA
end
section
/-! leaves: JDK compares, Entry -/
-- out of kit/laws/BITS.to-paste.lean.txt (a text for pasting): Int64 as an unsigned number
def uN (x : Int64) : Nat := x.toUInt64.toNat
theorem uN_lt (x : Int64) : uN x < 18446744073709551616 := x.toUInt64.toNat_lt
theorem uN_inj {x y : Int64} (h : uN x = uN y) : x = y := congrArg UInt64.toInt64 (UInt64.toNat_inj.mp h)
theorem uN_add (x y : Int64) : uN (x + y) = (uN x + uN y) % 18446744073709551616 := by
  show (x.toUInt64 + y.toUInt64).toNat = _
  exact UInt64.toNat_add _ _
theorem nat_xor {a : Nat} (h : a < 18446744073709551616) : a ^^^ 2 ^ 63 = (a + 9223372036854775808) % 18446744073709551616 := by
  have h1 : (a ^^^ 2 ^ 63) % 2 ^ 63 = a % 2 ^ 63 := by rw [Nat.xor_mod_two_pow, Nat.mod_self, Nat.xor_zero]
  have h2 : (a ^^^ 2 ^ 63) / 2 ^ 63 = (a / 2 ^ 63) ^^^ 1 := by rw [Nat.xor_div_two_pow, Nat.div_self (Nat.two_pow_pos 63)]
  have h3 : a / 2 ^ 63 = 0 ∨ a / 2 ^ 63 = 1 := by omega
  generalize a ^^^ 2 ^ 63 = t at h1 h2
  rcases h3 with h3 | h3
  · rw [h3] at h2
    have h2 : t / 2 ^ 63 = 1 := h2
    omega
  · rw [h3] at h2
    have h2 : t / 2 ^ 63 = 0 := h2
    omega
theorem uN_xor (x : Int64) : uN (x ^^^ (-9223372036854775808)) = (uN x + 9223372036854775808) % 18446744073709551616 := by
  rw [← nat_xor (uN_lt x)]
  exact UInt64.toNat_xor _ _
theorem uN_int (x : Int64) : x.toInt = if 2 * uN x < 18446744073709551616 then (uN x : Int) else (uN x : Int) - 18446744073709551616 := BitVec.toInt_eq_toNat_cond _
-- own rows
def c3 (a b : Int) : Int32 := if a < b then -1 else if a = b then 0 else 1
theorem con_icmp (d : Nat) (h : xH) (x z : Int32) : x_D mJ6_compare_7cf53 d 0 0 [.int x, .int z] h [.int (c3 x.toInt z.toInt)] h := by
  refine e_enter (by decide) (Nat.le_of_ble_eq_true rfl) ?_
  refine e_iload_n dJ6_compare_7cf53_0 rfl ?_
  refine e_iload_n dJ6_compare_7cf53_1 rfl ?_
  refine e_icmp_ge (tgt := 9) dJ6_compare_7cf53_2 (by decide) (fun c1 => ?_) (fun c1 => ?_)
  · refine e_iload_n dJ6_compare_7cf53_9 rfl ?_
    refine e_iload_n dJ6_compare_7cf53_10 rfl ?_
    refine e_icmp_ne (tgt := 18) dJ6_compare_7cf53_11 (by decide) (fun c2 => ?_) (fun c2 => ?_)
    · refine e_iconst (v := 1) dJ6_compare_7cf53_18 (by decide) ?_
      refine e_iret dJ6_compare_7cf53_19 rfl rfl ⟨?_, rfl⟩
      have h1 : ¬ x.toInt < z.toInt := fun q => absurd (Int32.lt_iff_toInt_lt.mpr q) (Int32.not_lt.mpr c1)
      have h2 : ¬ x.toInt = z.toInt := fun q => c2 (Int32.toInt_inj.mp q)
      simp [c3, h1, h2]
    · refine e_iconst (v := 0) dJ6_compare_7cf53_14 (by decide) ?_
      refine e_goto (tgt := 19) dJ6_compare_7cf53_15 (by decide) ?_
      refine e_iret dJ6_compare_7cf53_19 rfl rfl ⟨?_, rfl⟩
      subst c2
      simp [c3]
  · refine e_iconst (v := (-1)) dJ6_compare_7cf53_5 (by decide) ?_
    refine e_goto (tgt := 19) dJ6_compare_7cf53_6 (by decide) ?_
    refine e_iret dJ6_compare_7cf53_19 rfl rfl ⟨?_, rfl⟩
    have h1 : x.toInt < z.toInt := Int32.lt_iff_toInt_lt.mp (Int32.not_le.mp c1)
    simp [c3, h1]

theorem c3_ge (x z : Int64) : (0 ≤ lg_cmp x z) ↔ ¬ x.toInt < z.toInt := by
  rw [lg_cmp_ge, Int64.le_iff_toInt_le]
  omega
theorem con_lcmp (d : Nat) (h : xH) (x z : Int64) : x_D mJ13_compare_74951 d 0 0 [.long x, .long z] h [.int (c3 x.toInt z.toInt)] h := by
  refine e_enter (by decide) (Nat.le_of_ble_eq_true rfl) ?_
  refine e_lload_n dJ13_compare_74951_0 rfl ?_
  refine e_lload_n dJ13_compare_74951_1 rfl ?_
  refine e_lcmp dJ13_compare_74951_2 ?_
  refine e_if_ge (tgt := 10) dJ13_compare_74951_3 (by decide) (fun c1 => ?_) (fun c1 => ?_)
  · refine e_lload_n dJ13_compare_74951_10 rfl ?_
    refine e_lload_n dJ13_compare_74951_11 rfl ?_
    refine e_lcmp dJ13_compare_74951_12 ?_
    refine e_if_ne (tgt := 20) dJ13_compare_74951_13 (by decide) (fun c2 => ?_) (fun c2 => ?_)
    · refine e_iconst (v := 1) dJ13_compare_74951_20 (by decide) ?_
      refine e_iret dJ13_compare_74951_21 rfl rfl ⟨?_, rfl⟩
      have h1 := (c3_ge x z).mp c1
      have h2 : ¬ x.toInt = z.toInt := fun q => c2 ((lg_cmp_eq x z).mpr (Int64.toInt_inj.mp q))
      simp [c3, h1, h2]
    · refine e_iconst (v := 0) dJ13_compare_74951_16 (by decide) ?_
      refine e_goto (tgt := 21) dJ13_compare_74951_17 (by decide) ?_
      refine e_iret dJ13_compare_74951_21 rfl rfl ⟨?_, rfl⟩
      have c2 := (lg_cmp_eq x z).mp c2
      subst c2
      simp [c3]
  · refine e_iconst (v := (-1)) dJ13_compare_74951_6 (by decide) ?_
    refine e_goto (tgt := 21) dJ13_compare_74951_7 (by decide) ?_
    refine e_iret dJ13_compare_74951_21 rfl rfl ⟨?_, rfl⟩
    have h1 : x.toInt < z.toInt := by
      by_cases q : x.toInt < z.toInt
      · exact q
      · exact absurd ((c3_ge x z).mpr q) c1
    simp [c3, h1]
theorem uN_off (x : Int64) : (x + (-9223372036854775808)).toInt = (uN x : Int) - 9223372036854775808 := by
  have hx := uN_lt x
  rw [uN_int, uN_add]
  have e : uN (-9223372036854775808) = 9223372036854775808 := by decide +kernel
  rw [e]
  omega
theorem uN_offx (x : Int64) : (x ^^^ (-9223372036854775808)).toInt = (uN x : Int) - 9223372036854775808 := by
  have hx := uN_lt x
  rw [uN_int, uN_xor]
  omega
theorem c3_sh (a b k : Int) : c3 (a - k) (b - k) = c3 a b := by
  unfold c3
  by_cases h : a < b
  · rw [if_pos h, if_pos (by omega)]
  · rw [if_neg h, if_neg (by omega)]
    by_cases h2 : a = b
    · rw [if_pos h2, if_pos (by omega)]
    · rw [if_neg h2, if_neg (by omega)]
theorem con_ucmp (d : Nat) (h : xH) (x z : Int64) : x_D mJ13_compareUnsigned_74951 (d + 1) 0 0 [.long x, .long z] h [.int (c3 (uN x) (uN z))] h := by
  refine e_enter (by decide) (Nat.le_of_ble_eq_true rfl) ?_
  refine e_lload_n dJ13_compareUnsigned_74951_0 rfl ?_
  refine e_ldc2 dJ13_compareUnsigned_74951_1 vJ13_168 ?_
  refine e_ladd dJ13_compareUnsigned_74951_4 ?_
  refine e_lload_n dJ13_compareUnsigned_74951_5 rfl ?_
  refine e_ldc2 dJ13_compareUnsigned_74951_6 vJ13_168 ?_
  refine e_ladd dJ13_compareUnsigned_74951_9 ?_
  refine e_S2d dJ13_compareUnsigned_74951_10 gJ13_302 (by omega) (Nat.le_of_ble_eq_true rfl) rfl rfl (con_lcmp d h _ _) ?_
  refine e_iret dJ13_compareUnsigned_74951_13 rfl rfl ⟨?_, rfl⟩
  rw [uN_off, uN_off, c3_sh]
/-! keys: a tuple is a number -/
abbrev xE : Type := Int64 × Int64 × Int64 × Int64 × Int32
def pl (e : xE) : Nat := (e.2.2.2.2.toInt + 2147483648).toNat
def od (e : xE) : Nat := (((uN e.1 * 18446744073709551616 + uN e.2.1) * 18446744073709551616 + uN e.2.2.1) * 18446744073709551616 + uN e.2.2.2.1) * 4294967296 + pl e
theorem pl_lt (e : xE) : pl e < 4294967296 ∧ (pl e : Int) = e.2.2.2.2.toInt + 2147483648 := by
  have h1 := Int32.le_toInt e.2.2.2.2
  have h2 := Int32.toInt_lt e.2.2.2.2
  unfold pl
  omega
def eC (e : xE) : xC := .inr (0, [.long e.1, .long e.2.1, .long e.2.2.1, .long e.2.2.2.1, .int e.2.2.2.2])
theorem c3_lt {a b : Int} (h : a < b) : c3 a b = -1 := by unfold c3; rw [if_pos h]
theorem c3_gt {a b : Int} (h : b < a) : c3 a b = 1 := by unfold c3; rw [if_neg (by omega), if_neg (by omega)]
theorem c3_rf (a : Int) : c3 a a = 0 := by unfold c3; rw [if_neg (by omega), if_pos rfl]
theorem c3_lex {a b a' b' M : Nat} (hb : b < M) (hb' : b' < M) : c3 ((a * M + b : Nat) : Int) ((a' * M + b' : Nat) : Int) = if c3 a a' = 0 then c3 b b' else c3 a a' := by
  have key : ∀ p q : Nat, p < q → p * M + M ≤ q * M := fun p q h => by
    have := Nat.mul_le_mul_right M (Nat.succ_le_of_lt h)
    rw [Nat.succ_mul] at this
    exact this
  rcases Nat.lt_trichotomy a a' with h | h | h
  · have := key a a' h
    rw [c3_lt (show ((a * M + b : Nat) : Int) < ((a' * M + b' : Nat) : Int) by omega), c3_lt (show (a : Int) < (a' : Int) by omega), if_neg (by decide)]
  · subst h
    rw [c3_rf, if_pos rfl]
    rcases Nat.lt_trichotomy b b' with h2 | h2 | h2
    · rw [c3_lt (show ((a * M + b : Nat) : Int) < ((a * M + b' : Nat) : Int) by omega), c3_lt (show (b : Int) < (b' : Int) by omega)]
    · subst h2
      rw [c3_rf, c3_rf]
    · rw [c3_gt (show ((a * M + b' : Nat) : Int) < ((a * M + b : Nat) : Int) by omega), c3_gt (show (b' : Int) < (b : Int) by omega)]
  · have := key a' a h
    rw [c3_gt (show ((a' * M + b' : Nat) : Int) < ((a * M + b : Nat) : Int) by omega), c3_gt (show (a' : Int) < (a : Int) by omega), if_neg (by decide)]
theorem c3_z {a b : Int} : c3 a b = 0 ↔ a = b := by
  unfold c3
  by_cases h : a < b
  · rw [if_pos h]; constructor
    · intro q; exact absurd q (by decide)
    · intro q; omega
  · rw [if_neg h]
    by_cases h2 : a = b
    · rw [if_pos h2]; exact ⟨fun _ => h2, fun _ => rfl⟩
    · rw [if_neg h2]; constructor
      · intro q; exact absurd q (by decide)
      · intro q; exact absurd q h2
theorem c3_p {a b : Int} : 0 < c3 a b ↔ b < a := by
  unfold c3
  by_cases h : a < b
  · rw [if_pos h]; constructor
    · intro q; exact absurd q (by decide)
    · intro q; omega
  · rw [if_neg h]
    by_cases h2 : a = b
    · rw [if_pos h2]; constructor
      · intro q; exact absurd q (by decide)
      · intro q; omega
    · rw [if_neg h2]; constructor
      · intro q; omega
      · intro q; decide
theorem c3_n {a b : Int} : c3 a b < 0 ↔ a < b := by
  unfold c3
  by_cases h : a < b
  · rw [if_pos h]; exact ⟨fun _ => h, fun _ => by decide⟩
  · rw [if_neg h]
    by_cases h2 : a = b
    · rw [if_pos h2]; constructor
      · intro q; exact absurd q (by decide)
      · intro q; omega
    · rw [if_neg h2]; constructor
      · intro q; exact absurd q (by decide)
      · intro q; omega
theorem od_c3 (e f : xE) : c3 (od e) (od f) = if c3 (uN e.1) (uN f.1) = 0 then (if c3 (uN e.2.1) (uN f.2.1) = 0 then (if c3 (uN e.2.2.1) (uN f.2.2.1) = 0 then (if c3 (uN e.2.2.2.1) (uN f.2.2.2.1) = 0 then c3 e.2.2.2.2.toInt f.2.2.2.2.toInt else c3 (uN e.2.2.2.1) (uN f.2.2.2.1)) else c3 (uN e.2.2.1) (uN f.2.2.1)) else c3 (uN e.2.1) (uN f.2.1)) else c3 (uN e.1) (uN f.1) := by
  unfold od
  obtain ⟨p1, p2⟩ := pl_lt e
  obtain ⟨p3, p4⟩ := pl_lt f
  rw [c3_lex p1 p3, c3_lex (uN_lt _) (uN_lt _), c3_lex (uN_lt _) (uN_lt _), c3_lex (uN_lt _) (uN_lt _)]
  have hp : c3 (pl e) (pl f) = c3 e.2.2.2.2.toInt f.2.2.2.2.toInt := by
    rw [p2, p4, ← c3_sh _ _ 2147483648]
    congr 1 <;> omega
  rw [hp]
  by_cases h1 : c3 (uN e.1) (uN f.1) = 0
  · simp only [h1, if_true]
    by_cases h2 : c3 (uN e.2.1) (uN f.2.1) = 0
    · simp only [h2, if_true]
      by_cases h3 : c3 (uN e.2.2.1) (uN f.2.2.1) = 0
      · simp only [h3, if_true]
      · simp only [h3, if_false]
    · simp only [h2, if_false]
  · simp only [h1, if_false]
theorem od_inj {e f : xE} (h : od e = od f) : e = f := by
  have h0 : c3 (od e) (od f) = 0 := c3_z.mpr (by rw [h])
  rw [od_c3] at h0
  by_cases h1 : c3 (uN e.1) (uN f.1) = 0
  · simp only [h1, if_true] at h0
    by_cases h2 : c3 (uN e.2.1) (uN f.2.1) = 0
    · simp only [h2, if_true] at h0
      by_cases h3 : c3 (uN e.2.2.1) (uN f.2.2.1) = 0
      · simp only [h3, if_true] at h0
        by_cases h4 : c3 (uN e.2.2.2.1) (uN f.2.2.2.1) = 0
        · simp only [h4, if_true] at h0
          have a1 := uN_inj (Int.ofNat.inj (c3_z.mp h1))
          have a2 := uN_inj (Int.ofNat.inj (c3_z.mp h2))
          have a3 := uN_inj (Int.ofNat.inj (c3_z.mp h3))
          have a4 := uN_inj (Int.ofNat.inj (c3_z.mp h4))
          have a5 := Int32.toInt_inj.mp (c3_z.mp h0)
          obtain ⟨e1, e2, e3, e4, e5⟩ := e
          obtain ⟨f1, f2, f3, f4, f5⟩ := f
          simp only at a1 a2 a3 a4 a5
          subst a1 a2 a3 a4 a5
          rfl
        · simp only [h4, if_false] at h0
      · simp only [h3, if_false] at h0
    · simp only [h2, if_false] at h0
  · simp only [h1, if_false] at h0
end
section
/-! Entry -/
theorem con_Entry_init (d : Nat) (h : xH) (a : Nat) (e : xE) {fs : List Value} (ha : h.2 a = some (.inr (0, fs))) (hf : fs.length = 5) : x_D mX0_init (d + 1) 0 0 [.ref a, .long e.1, .long e.2.1, .long e.2.2.1, .long e.2.2.2.1, .int e.2.2.2.2] h [] (x_up h a (eC e)) := by
  refine e_enter (by decide) (Nat.le_of_ble_eq_true rfl) ?_
  refine e_aload_n dX0_init_0 rfl ?_
  refine e_obj dX0_init_1 ha ojX0_1 ojI ojC (by omega) (Nat.le_of_ble_eq_true rfl) ?_
  refine e_aload_n dX0_init_4 rfl ?_
  refine e_lload_n dX0_init_5 rfl ?_
  refine e_putF dX0_init_6 fX0_7 rfl rfl ha ⟨rfl, rfl⟩ ?_
  refine e_aload_n dX0_init_9 rfl ?_
  refine e_lload_n dX0_init_10 rfl ?_
  refine e_putF dX0_init_11 fX0_13 rfl rfl (x_up_s _ _ _) ⟨rfl, rfl⟩ ?_
  refine e_aload_n dX0_init_14 rfl ?_
  refine e_lload dX0_init_15 rfl ?_
  refine e_putF dX0_init_17 fX0_16 rfl rfl (x_up_s _ _ _) ⟨rfl, rfl⟩ ?_
  refine e_aload_n dX0_init_20 rfl ?_
  refine e_lload dX0_init_21 rfl ?_
  refine e_putF dX0_init_23 fX0_19 rfl rfl (x_up_s _ _ _) ⟨rfl, rfl⟩ ?_
  refine e_aload_n dX0_init_26 rfl ?_
  refine e_iload dX0_init_27 rfl ?_
  refine e_putF dX0_init_29 fX0_22 rfl rfl (x_up_s _ _ _) ⟨rfl, rfl⟩ ?_
  refine e_ret dX0_init_32 rfl ⟨rfl, ?_⟩
  simp only [x_up_up]
  match fs, hf with
  | [_, _, _, _, _], _ => rfl
theorem con_cmp (d : Nat) (h : xH) (a b : Nat) (e f : xE) (ha : h.2 a = some (eC e)) (hb : h.2 b = some (eC f)) : x_D mX0_compareWith (d + 3) 0 0 [.ref a, .ref b] h [.int (c3 (od e) (od f))] h := by
  rw [od_c3]
  refine e_enter (by decide) (Nat.le_of_ble_eq_true rfl) ?_
  refine e_aload_n dX0_compareWith_0 rfl ?_
  refine e_get dX0_compareWith_1 fX0_7 ha rfl ?_
  refine e_aload_n dX0_compareWith_4 rfl ?_
  refine e_get dX0_compareWith_5 fX0_7 hb rfl ?_
  refine e_S2d dX0_compareWith_8 gX0_26 (by omega) (Nat.le_of_ble_eq_true rfl) rfl rfl (con_ucmp (d + 1) h _ _) ?_
  refine e_istore_n dX0_compareWith_11 (by decide) rfl ?_
  refine e_iload_n dX0_compareWith_12 rfl ?_
  refine e_if_ne (tgt := 28) dX0_compareWith_13 (by decide) (fun c1 => ?_) (fun c1 => ?_)
  · refine e_iload_n dX0_compareWith_28 rfl ?_
    refine e_if_ne (tgt := 44) dX0_compareWith_29 (by decide) (fun _ => ?_) (fun c => absurd c c1)
    refine e_iload_n dX0_compareWith_44 rfl ?_
    refine e_if_ne (tgt := 60) dX0_compareWith_45 (by decide) (fun _ => ?_) (fun c => absurd c c1)
    refine e_iload_n dX0_compareWith_60 rfl ?_
    refine e_if_eq (tgt := 68) dX0_compareWith_61 (by decide) (fun c => absurd c c1) (fun _ => ?_)
    refine e_iload_n dX0_compareWith_64 rfl ?_
    refine e_goto (tgt := 79) dX0_compareWith_65 (by decide) ?_
    refine e_iret dX0_compareWith_79 rfl rfl ⟨?_, rfl⟩
    rw [if_neg c1]
  · rw [if_pos c1]
    refine e_aload_n dX0_compareWith_16 rfl ?_
    refine e_get dX0_compareWith_17 fX0_13 ha rfl ?_
    refine e_aload_n dX0_compareWith_20 rfl ?_
    refine e_get dX0_compareWith_21 fX0_13 hb rfl ?_
    refine e_S2d dX0_compareWith_24 gX0_26 (by omega) (Nat.le_of_ble_eq_true rfl) rfl rfl (con_ucmp (d + 1) h _ _) ?_
    refine e_istore_n dX0_compareWith_27 (by decide) rfl ?_
    refine e_iload_n dX0_compareWith_28 rfl ?_
    refine e_if_ne (tgt := 44) dX0_compareWith_29 (by decide) (fun c2 => ?_) (fun c2 => ?_)
    · refine e_iload_n dX0_compareWith_44 rfl ?_
      refine e_if_ne (tgt := 60) dX0_compareWith_45 (by decide) (fun _ => ?_) (fun c => absurd c c2)
      refine e_iload_n dX0_compareWith_60 rfl ?_
      refine e_if_eq (tgt := 68) dX0_compareWith_61 (by decide) (fun c => absurd c c2) (fun _ => ?_)
      refine e_iload_n dX0_compareWith_64 rfl ?_
      refine e_goto (tgt := 79) dX0_compareWith_65 (by decide) ?_
      refine e_iret dX0_compareWith_79 rfl rfl ⟨?_, rfl⟩
      rw [if_neg c2]
    · rw [if_pos c2]
      refine e_aload_n dX0_compareWith_32 rfl ?_
      refine e_get dX0_compareWith_33 fX0_16 ha rfl ?_
      refine e_aload_n dX0_compareWith_36 rfl ?_
      refine e_get dX0_compareWith_37 fX0_16 hb rfl ?_
      refine e_S2d dX0_compareWith_40 gX0_26 (by omega) (Nat.le_of_ble_eq_true rfl) rfl rfl (con_ucmp (d + 1) h _ _) ?_
      refine e_istore_n dX0_compareWith_43 (by decide) rfl ?_
      refine e_iload_n dX0_compareWith_44 rfl ?_
      refine e_if_ne (tgt := 60) dX0_compareWith_45 (by decide) (fun c3 => ?_) (fun c3 => ?_)
      · refine e_iload_n dX0_compareWith_60 rfl ?_
        refine e_if_eq (tgt := 68) dX0_compareWith_61 (by decide) (fun c => absurd c c3) (fun _ => ?_)
        refine e_iload_n dX0_compareWith_64 rfl ?_
        refine e_goto (tgt := 79) dX0_compareWith_65 (by decide) ?_
        refine e_iret dX0_compareWith_79 rfl rfl ⟨?_, rfl⟩
        rw [if_neg c3]
      · rw [if_pos c3]
        refine e_aload_n dX0_compareWith_48 rfl ?_
        refine e_get dX0_compareWith_49 fX0_19 ha rfl ?_
        refine e_aload_n dX0_compareWith_52 rfl ?_
        refine e_get dX0_compareWith_53 fX0_19 hb rfl ?_
        refine e_S2d dX0_compareWith_56 gX0_26 (by omega) (Nat.le_of_ble_eq_true rfl) rfl rfl (con_ucmp (d + 1) h _ _) ?_
        refine e_istore_n dX0_compareWith_59 (by decide) rfl ?_
        refine e_iload_n dX0_compareWith_60 rfl ?_
        refine e_if_eq (tgt := 68) dX0_compareWith_61 (by decide) (fun c4 => ?_) (fun c4 => ?_)
        · rw [if_pos c4]
          refine e_aload_n dX0_compareWith_68 rfl ?_
          refine e_get dX0_compareWith_69 fX0_22 ha rfl ?_
          refine e_aload_n dX0_compareWith_72 rfl ?_
          refine e_get dX0_compareWith_73 fX0_22 hb rfl ?_
          refine e_S2d dX0_compareWith_76 gX0_32 (by omega) (Nat.le_of_ble_eq_true rfl) rfl rfl (con_icmp (d + 2) h _ _) ?_
          refine e_iret dX0_compareWith_79 rfl rfl ⟨rfl, rfl⟩
        · refine e_iload_n dX0_compareWith_64 rfl ?_
          refine e_goto (tgt := 79) dX0_compareWith_65 (by decide) ?_
          refine e_iret dX0_compareWith_79 rfl rfl ⟨?_, rfl⟩
          rw [if_neg c4]
end
section
/-! Page: a page's three cells as one value -/
def x_sel (l : List (Nat × Value)) (is : List Nat) : List (Nat × Value) := is.filterMap (fun i => (x_lk l i).map (fun v => (i, v)))
theorem e_loc {y : xM} {d kc ks pc : Nat} {l l' : List (Nat × Value)} {st : List Value} {h : xH} {Q : List Value → xH → Prop} (is : List Nat) (hs : x_sel l is = l') (k : x_E y d kc ks pc l' st h Q) : x_E y d kc ks pc l st h Q := by
  intro G p la e R s m args below meth c Fin mc ms C rt hmc hms H locs cells slots ls ho hl hq h1 h2
  refine k G p la e R s m args below meth c Fin mc ms C rt hmc hms H locs cells slots ls ho ⟨hl.1, hl.2.1, fun q hq' => ?_⟩ hq h1 h2
  obtain ⟨q0, hq0, rfl⟩ := List.mem_map.mp hq'
  rw [← hs] at hq0
  obtain ⟨i, -, hi⟩ := List.mem_filterMap.mp hq0
  cases hk : x_lk l i with
  | none => rw [hk] at hi; cases hi
  | some v =>
    rw [hk] at hi
    have e0 : q0 = (i, v) := (Option.some.inj hi).symm
    subst e0
    exact hl.2.2 _ (List.mem_map.mpr ⟨_, x_lk_in hk, rfl⟩)
theorem x_up_id {h : xH} {a : Nat} {c : xC} (ha : h.2 a = some c) : x_up h a c = h := by
  obtain ⟨n, f⟩ := h
  unfold x_up
  congr 1
  funext q
  by_cases e : q = a
  · subst e; simp; exact ha.symm
  · simp [e]
theorem x_up_cm {h : xH} {a b : Nat} {c c' : xC} (hne : a ≠ b) : x_up (x_up h a c) b c' = x_up (x_up h b c') a c := by
  unfold x_up
  congr 1
  funext q
  by_cases e : q = a
  · subst e; simp [hne]
  · by_cases e2 : q = b
    · subst e2; simp [e]
    · simp [e, e2]
/-- a page: (size, level, low, right, lacks), its entries, its pages below (ten each) -/
abbrev xP : Type := (Nat × Nat × Nat × Nat × Int32) × (Nat → Nat) × (Nat → Nat)
def pgC (a : Nat) (P : Nat × Nat × Nat × Nat × Int32) : xC := .inr (1, [.ref (a + 1), .ref (a + 2), .int (nI P.1), .int (nI P.2.1), .ref P.2.2.1, .ref P.2.2.2.1, .int P.2.2.2.2])
def ar (f : Nat → Nat) : List Value := (List.range 10).map (fun j => .ref (f j))
def fu (f : Nat → Nat) (k z : Nat) : Nat → Nat := fun j => if j = k then z else f j
theorem ar_len (f : Nat → Nat) : (ar f).length = 10 := by simp [ar]
theorem ar_get (f : Nat → Nat) {j : Nat} (hj : j < 10) : (ar f)[j]? = some (.ref (f j)) := by simp [ar, hj]
theorem ar_cg {f g : Nat → Nat} (h : ∀ j, j < 10 → f j = g j) : ar f = ar g := by
  unfold ar
  refine List.map_congr_left fun j hj => ?_
  rw [h j (List.mem_range.mp hj)]
theorem ar_set (f : Nat → Nat) (k z : Nat) : (ar f).set k (.ref z) = ar (fu f k z) := by
  refine List.ext_getElem? fun j => ?_
  rw [List.getElem?_set]
  by_cases hj : j < 10
  · rw [ar_get _ hj, ar_get _ hj, ar_len]
    by_cases e : k = j
    · subst e; simp [hj, fu]
    · rw [if_neg e]; simp [fu, Ne.symm e]
  · have e1 : ∀ g : Nat → Nat, (ar g)[j]? = none := fun g => List.getElem?_eq_none (by rw [ar_len]; omega)
    rw [e1, e1, ar_len]
    by_cases e : k = j
    · subst e; simp [hj]
    · rw [if_neg e]
def arE (E : Nat → Nat) : xC := .inl (0, ar E)
def arB (B : Nat → Nat) : xC := .inl (1, ar B)
def x_pg (h : xH) (a : Nat) (P : xP) : Prop := h.2 a = some (pgC a P.1) ∧ h.2 (a + 1) = some (arE P.2.1) ∧ h.2 (a + 2) = some (arB P.2.2)
def x_ps (h : xH) (a : Nat) (P : xP) : xH := x_up (x_up (x_up h (a + 1) (arE P.2.1)) (a + 2) (arB P.2.2)) a (pgC a P.1)
theorem x_ps_pg (h : xH) (a : Nat) (P : xP) : x_pg (x_ps h a P) a P :=
  ⟨x_up_s _ _ _, x_up_n (x_up_n (x_up_s _ _ _) (by omega)) (by omega), x_up_n (x_up_s _ _ _) (by omega)⟩
theorem x_ps_id {h : xH} {a : Nat} {P : xP} (hp : x_pg h a P) : x_ps h a P = h := by
  unfold x_ps
  rw [x_up_id hp.2.1, x_up_id hp.2.2, x_up_id hp.1]
theorem x_ps_n {h : xH} {a b : Nat} {P : xP} {o : Option xC} (hb : h.2 b = o) (n0 : b ≠ a) (n1 : b ≠ a + 1) (n2 : b ≠ a + 2) : (x_ps h a P).2 b = o := x_up_n (x_up_n (x_up_n hb n1) n2) n0
theorem x_ps_1 (h : xH) (a : Nat) (P : xP) : (x_ps h a P).1 = h.1 := rfl
theorem x_ps_ps (h : xH) (a : Nat) (P P' : xP) : x_ps (x_ps h a P) a P' = x_ps h a P' := by
  unfold x_ps
  rw [x_up_cm (a := a) (b := a + 1) (by omega), x_up_cm (a := a + 2) (b := a + 1) (by omega), x_up_up, x_up_cm (a := a) (b := a + 2) (by omega), x_up_up, x_up_up]
/-- entries are apart from pages and rows -/
theorem x_en_ne {h : xH} {a b : Nat} {P : xP} {v : xE} (hp : x_pg h a P) (hb : h.2 b = some (eC v)) : b ≠ a ∧ b ≠ a + 1 ∧ b ≠ a + 2 := by
  refine ⟨fun e => ?_, fun e => ?_, fun e => ?_⟩
  · subst e; have := hp.1.symm.trans hb; cases this
  · subst e; have := hp.2.1.symm.trans hb; cases this
  · subst e; have := hp.2.2.symm.trans hb; cases this
theorem x_en_ps {h : xH} {a b : Nat} {P P' : xP} {v : xE} (hp : x_pg h a P) (hb : h.2 b = some (eC v)) : (x_ps h a P').2 b = some (eC v) := by
  obtain ⟨n0, n1, n2⟩ := x_en_ne hp hb
  exact x_ps_n hb n0 n1 n2
theorem con_reset (d : Nat) (h : xH) (a lv low : Nat) (P : xP) (hp : x_pg h a P) : x_D mX1_reset d 0 0 [.ref a, .int (nI lv), .ref low] h [] (x_ps h a ((0, lv, low, 0, 0), P.2)) := by
  refine e_enter (by decide) (Nat.le_of_ble_eq_true rfl) ?_
  have h0 := hp.1
  refine e_aload_n dX1_reset_0 rfl ?_
  refine e_iconst (v := 0) dX1_reset_1 (by decide) ?_
  refine e_put dX1_reset_2 fX1_25 h0 ⟨rfl, rfl⟩ ?_
  refine e_aload_n dX1_reset_5 rfl ?_
  refine e_iload_n dX1_reset_6 rfl ?_
  refine e_put dX1_reset_7 fX1_29 (x_up_s _ _ _) ⟨rfl, rfl⟩ ?_
  refine e_aload_n dX1_reset_10 rfl ?_
  refine e_aload_n dX1_reset_11 rfl ?_
  refine e_put dX1_reset_12 fX1_21 (x_up_s _ _ _) (Or.inl ⟨_, rfl⟩) ?_
  refine e_aload_n dX1_reset_15 rfl ?_
  refine e_null dX1_reset_16 ?_
  refine e_put dX1_reset_17 fX1_32 (x_up_s _ _ _) (Or.inl ⟨_, rfl⟩) ?_
  refine e_aload_n dX1_reset_20 rfl ?_
  refine e_iconst (v := 0) dX1_reset_21 (by decide) ?_
  refine e_put dX1_reset_22 fX1_36 (x_up_s _ _ _) ⟨rfl, rfl⟩ ?_
  refine e_ret dX1_reset_25 rfl ⟨rfl, ?_⟩
  simp only [x_up_up, x_ps]
  rw [x_up_id hp.2.1, x_up_id hp.2.2]
  rfl
theorem con_entryAt (d : Nat) (h : xH) (a j e : Nat) (P : xP) (hp : x_pg h a P) (hj10 : j < 10) (hj : P.2.1 j = e) : x_D mX1_entryAt d 0 0 [.ref a, .int (nI j)] h [.ref e] h := by
  subst hj
  refine e_enter (by decide) (Nat.le_of_ble_eq_true rfl) ?_
  have h0 := hp.1
  have h1 := hp.2.1
  refine e_iload_n dX1_entryAt_0 rfl ?_
  refine e_if_lt (tgt := 22) dX1_entryAt_1 (by decide) (fun c => absurd c (nI_pos (by omega))) (fun _ => ?_)
  refine e_iload_n dX1_entryAt_4 rfl ?_
  refine e_aload_n dX1_entryAt_5 rfl ?_
  refine e_get dX1_entryAt_6 fX1_11 h0 rfl ?_
  refine e_alen dX1_entryAt_9 h1 (by decide) rfl ?_
  refine e_icmp_ge (tgt := 22) dX1_entryAt_10 (by decide) (fun c => ?_) (fun _ => ?_)
  · rw [ar_len] at c
    exact absurd c (nI_ge hj10 (by omega))
  refine e_aload_n dX1_entryAt_13 rfl ?_
  refine e_get dX1_entryAt_14 fX1_11 h0 rfl ?_
  refine e_iload_n dX1_entryAt_17 rfl ?_
  refine e_aald dX1_entryAt_18 h1 rfl rfl rfl (ar_get _ hj10) ?_
  refine e_goto (tgt := 26) dX1_entryAt_19 (by decide) ?_
  exact e_aret dX1_entryAt_26 rfl (Or.inl ⟨_, rfl⟩) ⟨rfl, rfl⟩
/-- how many of a list stand before a number -/
def cnt (c : Nat) : List xE → Nat
  | [] => 0
  | v :: t => if od v < c then cnt c t + 1 else 0
theorem cnt_eq {c j : Nat} : ∀ {vs : List xE}, (∀ (i : Nat) (v : xE), i < j → vs[i]? = some v → od v < c) → j ≤ vs.length → (∀ v : xE, vs[j]? = some v → ¬ od v < c) → cnt c vs = j := by
  intro vs
  induction vs generalizing j with
  | nil => intro _ h2 _; simp only [List.length_nil] at h2; simp only [cnt]; omega
  | cons x t ih =>
    intro h1 h2 h3
    unfold cnt
    match j with
    | 0 => rw [if_neg (h3 x rfl)]
    | j + 1 =>
      rw [if_pos (h1 0 x (by omega) rfl), ih (j := j) (fun i v hi hv => h1 (i + 1) v (by omega) hv) (by simp only [List.length_cons] at h2; omega) (fun v hv => h3 v hv)]
theorem cnt_le (c : Nat) : ∀ vs : List xE, cnt c vs ≤ vs.length := by
  intro vs
  induction vs with
  | nil => exact Nat.le_refl _
  | cons x t ih =>
    unfold cnt
    split
    · simp only [List.length_cons]; omega
    · exact Nat.zero_le _
/-- the entries of a page that count, as keys -/
def x_es (h : xH) (E : Nat → Nat) (vs : List xE) : Prop := ∀ (j : Nat) (v : xE), vs[j]? = some v → h.2 (E j) = some (eC v)
theorem cp_loop (d : Nat) (h : xH) (a e : Nat) (v : xE) (P : xP) (vs : List xE) (b : Nat) (hb : b ≤ 1) (hp : x_pg h a P) (hs : P.1.1 = vs.length) (hvs : x_es h P.2.1 vs) (hl10 : vs.length ≤ 10) (he : h.2 e = some (eC v)) :
    ∀ (n j : Nat) (x : Int32), x = nI j → j + n = vs.length → (∀ (i : Nat) (w : xE), i < j → vs[i]? = some w → od w < od v + b) →
    x_E mX1_countPassed (d + 4) 0 0 2 [(3, .int x), (0, .ref a), (1, .ref e), (2, .int (nI b))] [] h (fun rv h' => rv = [.int (nI (cnt (od v + b) vs))] ∧ h' = h) := by
  have h0 := hp.1
  have h1 := hp.2.1
  intro n
  induction n with
  | zero =>
    intro j x hx hj hall
    refine e_iload_n dX1_countPassed_2 rfl ?_
    refine e_aload_n dX1_countPassed_3 rfl ?_
    refine e_get dX1_countPassed_4 fX1_25 h0 rfl ?_
    refine e_icmp_ge (tgt := 53) dX1_countPassed_7 (by decide) (fun _ => ?_) (fun c => ?_)
    · refine e_iload_n dX1_countPassed_53 rfl ?_
      refine e_iret dX1_countPassed_54 rfl rfl ⟨?_, rfl⟩
      rw [cnt_eq hall (by omega) (fun w hw => absurd (List.getElem?_eq_some_iff.mp hw).1 (by omega)), hx]
    · exact absurd (by rw [hx, hs]; exact nI_le (by omega) (by omega)) c
  | succ n ih =>
    intro j x hx hj hall
    have hjl : j < vs.length := by omega
    obtain ⟨w, hw⟩ : ∃ w, vs[j]? = some w := ⟨_, List.getElem?_eq_getElem hjl⟩
    have hq2 := hvs j w hw
    refine e_iload_n dX1_countPassed_2 rfl ?_
    refine e_aload_n dX1_countPassed_3 rfl ?_
    refine e_get dX1_countPassed_4 fX1_25 h0 rfl ?_
    refine e_icmp_ge (tgt := 53) dX1_countPassed_7 (by decide) (fun c => ?_) (fun _ => ?_)
    · rw [hx, hs] at c
      exact absurd c (nI_ge hjl (by omega))
    refine e_iload_n dX1_countPassed_10 rfl ?_
    refine e_aload_n dX1_countPassed_11 rfl ?_
    refine e_get dX1_countPassed_12 fX1_11 h0 rfl ?_
    refine e_alen dX1_countPassed_15 h1 (by decide) rfl ?_
    refine e_icmp_ge (tgt := 53) dX1_countPassed_16 (by decide) (fun c => ?_) (fun _ => ?_)
    · rw [ar_len, hx] at c
      exact absurd c (nI_ge (by omega) (by omega))
    refine e_aload_n dX1_countPassed_19 rfl ?_
    refine e_get dX1_countPassed_20 fX1_11 h0 rfl ?_
    refine e_iload_n dX1_countPassed_23 rfl ?_
    refine e_aald dX1_countPassed_24 h1 rfl rfl hx (ar_get _ (show j < 10 by omega)) ?_
    refine e_aload_n dX1_countPassed_25 rfl ?_
    refine e_V1d dX1_countPassed_26 gX1_40 hq2 rfl (by omega) (Nat.le_of_ble_eq_true rfl) rfl rfl (con_cmp d h _ e w v hq2 he) ?_
    refine e_istore dX1_countPassed_29 (by decide) rfl ?_
    refine e_iload dX1_countPassed_31 rfl ?_
    have fin : ¬ od w < od v + b → (nI j = nI (cnt (od v + b) vs)) := fun hn => by
      rw [cnt_eq hall (by omega) (fun w' hw' => by rw [hw] at hw'; cases hw'; exact hn)]
    refine e_if_gt (tgt := 45) dX1_countPassed_33 (by decide) (fun c1 => ?_) (fun c1 => ?_)
    · refine e_iload_n dX1_countPassed_45 rfl ?_
      refine e_iret dX1_countPassed_46 rfl rfl ⟨?_, rfl⟩
      have := c3_p.mp c1
      rw [hx, fin (by omega)]
    · have hle : od w ≤ od v := by
        rcases Nat.lt_or_ge (od v) (od w) with q | q
        · exact absurd (c3_p.mpr (by omega)) c1
        · exact q
      refine e_iload dX1_countPassed_36 rfl ?_
      refine e_if_ne (tgt := 47) dX1_countPassed_38 (by decide) (fun c2 => ?_) (fun c2 => ?_)
      · refine e_iinc dX1_countPassed_47 rfl rfl (by decide) rfl ?_
        refine e_goto (tgt := 2) dX1_countPassed_50 (by decide) ?_
        refine e_loc [3, 0, 1, 2] rfl (ih (j + 1) _ (by rw [hx]; exact nI_1 j) (by omega) (fun i w' hi hw' => ?_))
        by_cases hij : i = j
        · subst hij
          rw [hw] at hw'; cases hw'
          have : ¬ od w = od v := fun q => c2 (c3_z.mpr (by rw [q]))
          omega
        · exact hall i w' (by omega) hw'
      · have heq : od w = od v := by have := c3_z.mp c2; omega
        refine e_iload_n dX1_countPassed_41 rfl ?_
        refine e_if_ne (tgt := 47) dX1_countPassed_42 (by decide) (fun c4 => ?_) (fun c4 => ?_)
        · refine e_iinc dX1_countPassed_47 rfl rfl (by decide) rfl ?_
          refine e_goto (tgt := 2) dX1_countPassed_50 (by decide) ?_
          refine e_loc [3, 0, 1, 2] rfl (ih (j + 1) _ (by rw [hx]; exact nI_1 j) (by omega) (fun i w' hi hw' => ?_))
          by_cases hij : i = j
          · subst hij
            rw [hw] at hw'; cases hw'
            have : b ≠ 0 := fun q => c4 (by rw [q]; rfl)
            omega
          · exact hall i w' (by omega) hw'
        · refine e_iload_n dX1_countPassed_45 rfl ?_
          refine e_iret dX1_countPassed_46 rfl rfl ⟨?_, rfl⟩
          have : b = 0 := (nI_eq (by omega) (by omega)).mp c4
          rw [hx, fin (by omega)]
theorem con_cp (d : Nat) (h : xH) (a e : Nat) (v : xE) (P : xP) (vs : List xE) (b : Nat) (hb : b ≤ 1) (hp : x_pg h a P) (hs : P.1.1 = vs.length) (hvs : x_es h P.2.1 vs) (hl10 : vs.length ≤ 10) (he : h.2 e = some (eC v)) :
    x_D mX1_countPassed (d + 4) 0 0 [.ref a, .ref e, .int (nI b)] h [.int (nI (cnt (od v + b) vs))] h := by
  refine e_enter (by decide) (Nat.le_of_ble_eq_true rfl) ?_
  refine e_iconst (v := 0) dX1_countPassed_0 (by decide) ?_
  refine e_istore_n dX1_countPassed_1 (by decide) rfl ?_
  exact e_loc [3, 0, 1, 2] rfl (cp_loop d h a e v P vs b hb hp hs hvs hl10 he vs.length 0 _ rfl (by omega) (fun i w hi => absurd hi (by omega)))
theorem con_cp0 (d : Nat) (h : xH) (a e : Nat) (v : xE) (P : xP) (vs : List xE) (hp : x_pg h a P) (hs : P.1.1 = vs.length) (hvs : x_es h P.2.1 vs) (hl10 : vs.length ≤ 10) (he : h.2 e = some (eC v)) :
    x_D mX1_countPassed (d + 4) 0 0 [.ref a, .ref e, .int 0] h [.int (nI (cnt (od v) vs))] h := by
  have k := con_cp d h a e v P vs 0 (by omega) hp hs hvs hl10 he
  rw [nI_0, Nat.add_zero (od v)] at k
  exact k
theorem con_holds (d : Nat) (h : xH) (a e : Nat) (v : xE) (P : xP) (vs : List xE) (hp : x_pg h a P) (hs : P.1.1 = vs.length) (hvs : x_es h P.2.1 vs) (hl10 : vs.length ≤ 10) (he : h.2 e = some (eC v)) :
    x_D mX1_holds (d + 5) 0 0 [.ref a, .ref e] h [.int (if cnt (od v) vs < cnt (od v + 1) vs then 1 else 0)] h := by
  refine e_enter (by decide) (Nat.le_of_ble_eq_true rfl) ?_
  have b1 := cnt_le (od v) vs
  have b2 := cnt_le (od v + 1) vs
  refine e_aload_n dX1_holds_0 rfl ?_
  refine e_aload_n dX1_holds_1 rfl ?_
  refine e_iconst (v := 1) dX1_holds_2 (by decide) ?_
  refine e_V2d dX1_holds_3 gX1_44 hp.1 rfl (by omega) (Nat.le_of_ble_eq_true rfl) rfl rfl (con_cp d h a e v P vs 1 (by omega) hp hs hvs hl10 he) ?_
  refine e_aload_n dX1_holds_6 rfl ?_
  refine e_aload_n dX1_holds_7 rfl ?_
  refine e_iconst (v := 0) dX1_holds_8 (by decide) ?_
  refine e_V2d dX1_holds_9 gX1_44 hp.1 rfl (by omega) (Nat.le_of_ble_eq_true rfl) rfl rfl (con_cp0 d h a e v P vs hp hs hvs hl10 he) ?_
  refine e_icmp_le (tgt := 19) dX1_holds_12 (by decide) (fun c1 => ?_) (fun c1 => ?_)
  · have c1 := (nI_leI (by omega) (by omega)).mp c1
    refine e_iconst (v := 0) dX1_holds_19 (by decide) ?_
    exact e_iret dX1_holds_20 rfl rfl ⟨by rw [if_neg (Nat.not_lt.mpr c1)], rfl⟩
  · have c1 : ¬ cnt (od v + 1) vs ≤ cnt (od v) vs := fun q => c1 ((nI_leI (by omega) (by omega)).mpr q)
    refine e_iconst (v := 1) dX1_holds_15 (by decide) ?_
    refine e_goto (tgt := 20) dX1_holds_16 (by decide) ?_
    exact e_iret dX1_holds_20 rfl rfl ⟨by rw [if_pos (Nat.not_le.mp c1)], rfl⟩
theorem con_below (d : Nat) (h : xH) (a e : Nat) (v : xE) (P : xP) (vs : List xE) (hp : x_pg h a P) (hs : P.1.1 = vs.length) (hvs : x_es h P.2.1 vs) (hl10 : vs.length ≤ 10) (he : h.2 e = some (eC v)) (h1 : 0 < cnt (od v + 1) vs) :
    x_D mX1_pageBelow (d + 5) 0 0 [.ref a, .ref e] h [.ref (P.2.2 (cnt (od v + 1) vs - 1))] h := by
  refine e_enter (by decide) (Nat.le_of_ble_eq_true rfl) ?_
  have b2 := cnt_le (od v + 1) vs
  obtain ⟨m, hm⟩ : ∃ m, cnt (od v + 1) vs = m + 1 := ⟨cnt (od v + 1) vs - 1, by omega⟩
  have hp0 := hp.1
  have hp2 := hp.2.2
  refine e_aload_n dX1_pageBelow_0 rfl ?_
  refine e_aload_n dX1_pageBelow_1 rfl ?_
  refine e_iconst (v := 1) dX1_pageBelow_2 (by decide) ?_
  refine e_V2d dX1_pageBelow_3 gX1_44 hp.1 rfl (by omega) (Nat.le_of_ble_eq_true rfl) rfl rfl (con_cp d h a e v P vs 1 (by omega) hp hs hvs hl10 he) ?_
  refine e_iconst (v := 1) dX1_pageBelow_6 (by decide) ?_
  refine e_isub dX1_pageBelow_7 ?_
  refine e_istore_n dX1_pageBelow_8 (by decide) rfl ?_
  refine e_iload_n dX1_pageBelow_9 rfl ?_
  rw [hm, nI_pred]
  refine e_if_lt (tgt := 31) dX1_pageBelow_10 (by decide) (fun c => absurd c (nI_pos (by omega))) (fun _ => ?_)
  refine e_iload_n dX1_pageBelow_13 rfl ?_
  refine e_aload_n dX1_pageBelow_14 rfl ?_
  refine e_get dX1_pageBelow_15 fX1_17 hp0 rfl ?_
  refine e_alen dX1_pageBelow_18 hp2 (by decide) rfl ?_
  refine e_icmp_ge (tgt := 31) dX1_pageBelow_19 (by decide) (fun c => ?_) (fun _ => ?_)
  · rw [ar_len] at c
    exact absurd c (nI_ge (by omega) (by omega))
  refine e_aload_n dX1_pageBelow_22 rfl ?_
  refine e_get dX1_pageBelow_23 fX1_17 hp0 rfl ?_
  refine e_iload_n dX1_pageBelow_26 rfl ?_
  refine e_aald dX1_pageBelow_27 hp2 rfl rfl rfl (ar_get _ (show m < 10 by omega)) ?_
  refine e_goto (tgt := 32) dX1_pageBelow_28 (by decide) ?_
  exact e_aret dX1_pageBelow_32 rfl (Or.inl ⟨_, rfl⟩) ⟨rfl, rfl⟩
end
section
/-! Page: what writes -/
/-- a page or none -/
def x_pn (h : xH) (b : Nat) : Prop := b = 0 ∨ ∃ Z, h.2 b = some (pgC b Z)
def x_fe (h : xH) (f : Nat → Nat) : Prop := ∀ j, j < 10 → ∃ v, h.2 (f j) = some (eC v)
def x_fb (h : xH) (f : Nat → Nat) : Prop := ∀ j, j < 10 → x_pn h (f j)
theorem e_aastE {y : xM} {d kc ks pc : Nat} {l : List (Nat × Value)} {st : List Value} {h : xH} {Q : List Value → xH → Prop} {a z j : Nat} {f : Nat → Nat} {v : xE} {i : Int32} (hd : decode y.2.1 pc = .ok (.aastore, 1)) (ha : h.2 a = some (arE f)) (hi : i = nI j) (hj : j < 10) (hz : h.2 z = some (eC v)) (kk : x_E y d kc ks (pc + 1) l st (x_up h a (arE (fu f j z))) Q) : x_E y d kc ks pc l (.ref z :: .int i :: .ref a :: st) h Q := by
  refine e_aast hd ha rfl hi (by rw [ar_len]; exact hj) hz rfl ?_
  rw [ar_set]
  exact kk
theorem e_aastB {y : xM} {d kc ks pc : Nat} {l : List (Nat × Value)} {st : List Value} {h : xH} {Q : List Value → xH → Prop} {a z j : Nat} {f : Nat → Nat} {i : Int32} (hd : decode y.2.1 pc = .ok (.aastore, 1)) (ha : h.2 a = some (arB f)) (hi : i = nI j) (hj : j < 10) (hz : x_pn h z) (kk : x_E y d kc ks (pc + 1) l st (x_up h a (arB (fu f j z))) Q) : x_E y d kc ks pc l (.ref z :: .int i :: .ref a :: st) h Q := by
  rcases hz with rfl | ⟨Z, hz⟩
  · refine e_aastN hd ha rfl hi (by rw [ar_len]; exact hj) ?_
    rw [ar_set]
    exact kk
  · refine e_aast hd ha rfl hi (by rw [ar_len]; exact hj) hz rfl ?_
    rw [ar_set]
    exact kk
theorem x_pn_up {h : xH} {a b : Nat} {q : Nat × List Value} {c : xC} (ha : h.2 a = some (.inl q)) (hb : x_pn h b) : x_pn (x_up h a c) b := by
  rcases hb with rfl | ⟨Z, hZ⟩
  · exact Or.inl rfl
  · refine Or.inr ⟨Z, x_up_n hZ (fun e => ?_)⟩
    subst e
    have := ha.symm.trans hZ
    cases this
theorem x_en_up {h : xH} {a b : Nat} {q : Nat × List Value} {c : xC} {v : xE} (ha : h.2 a = some (.inl q)) (hb : h.2 b = some (eC v)) : (x_up h a c).2 b = some (eC v) := by
  refine x_up_n hb (fun e => ?_)
  subst e
  have := ha.symm.trans hb
  cases this
/-- a page's two rows are changed -/
def x_p2 (h : xH) (a : Nat) (E B : Nat → Nat) : xH := x_up (x_up h (a + 1) (arE E)) (a + 2) (arB B)
theorem x_p2_0 {h : xH} {a : Nat} {E B : Nat → Nat} {o : Option xC} {b : Nat} (hb : h.2 b = o) (n1 : b ≠ a + 1) (n2 : b ≠ a + 2) : (x_p2 h a E B).2 b = o := x_up_n (x_up_n hb n1) n2
theorem x_p2_1 (h : xH) (a : Nat) (E B : Nat → Nat) : (x_p2 h a E B).2 (a + 1) = some (arE E) := x_up_n (x_up_s _ _ _) (by omega)
theorem x_p2_2 (h : xH) (a : Nat) (E B : Nat → Nat) : (x_p2 h a E B).2 (a + 2) = some (arB B) := x_up_s _ _ _
theorem x_p2_e (h : xH) (a : Nat) (E B E' : Nat → Nat) : x_up (x_p2 h a E B) (a + 1) (arE E') = x_p2 h a E' B := by
  unfold x_p2
  rw [x_up_cm (a := a + 2) (b := a + 1) (by omega), x_up_up]
theorem x_p2_b (h : xH) (a : Nat) (E B B' : Nat → Nat) : x_up (x_p2 h a E B) (a + 2) (arB B') = x_p2 h a E B' := by
  unfold x_p2
  rw [x_up_up]
theorem x_p2_id {h : xH} {a : Nat} {P : xP} (hp : x_pg h a P) : x_p2 h a P.2.1 P.2.2 = h := by
  unfold x_p2
  rw [x_up_id hp.2.1, x_up_id hp.2.2]
theorem x_p2_cg (h : xH) (a : Nat) {E E' B B' : Nat → Nat} (he : ∀ j, j < 10 → E j = E' j) (hb : ∀ j, j < 10 → B j = B' j) : x_p2 h a E B = x_p2 h a E' B' := by
  unfold x_p2 arE arB
  rw [ar_cg he, ar_cg hb]
theorem x_p2_en {h : xH} {a b : Nat} {P : xP} {E B : Nat → Nat} {v : xE} (hp : x_pg h a P) (hb : h.2 b = some (eC v)) : (x_p2 h a E B).2 b = some (eC v) := by
  obtain ⟨-, n1, n2⟩ := x_en_ne hp hb
  exact x_p2_0 hb n1 n2
theorem x_p2_pn {h : xH} {a b : Nat} {P : xP} {E B : Nat → Nat} (hp : x_pg h a P) (hb : x_pn h b) : x_pn (x_p2 h a E B) b := by
  unfold x_p2
  refine x_pn_up (q := (1, ar P.2.2)) ?_ (x_pn_up (q := (0, ar P.2.1)) hp.2.1 hb)
  exact x_up_n hp.2.2 (by omega)
/-- the rows while they are moved to make room -/
def shr (f : Nat → Nat) (i n : Nat) : Nat → Nat := fun j => if i < j ∧ j ≤ n then f (j - 1) else f j
def ins (f : Nat → Nat) (i n z : Nat) : Nat → Nat := fun j => if j = i then z else if i < j ∧ j ≤ n then f (j - 1) else f j
theorem ins_lo (d : Nat) (h : xH) (a e pb : Nat) (v : xE) (P : xP) (at' n : Nat) (hn : n < 10) (hp : x_pg h a P) (hfe : x_fe h P.2.1) (hfb : x_fb h P.2.2) (he : h.2 e = some (eC v)) (hpb : x_pn h pb) (hat : at' ≤ n) (hs : P.1.1 = n) :
    ∀ (k i : Nat) (x : Int32), x = nI i → i = at' + k → i ≤ n →
    x_E mX1_insert d 0 0 30 [(4, .int x), (3, .int (nI at')), (0, .ref a), (1, .ref e), (2, .ref pb)] [] (x_p2 h a (shr P.2.1 i n) (shr P.2.2 i n)) (fun rv h' => rv = [] ∧ h' = x_ps h a ((n + 1, P.1.2), ins P.2.1 at' n e, ins P.2.2 at' n pb)) := by
  have h0 : ∀ E B, (x_p2 h a E B).2 a = some (pgC a P.1) := fun E B => x_p2_0 hp.1 (by omega) (by omega)
  intro k
  induction k with
  | zero =>
    intro i x hx hi hin
    have e1 : i = at' := by omega
    subst e1
    refine e_iload dX1_insert_30 rfl ?_
    refine e_iload_n dX1_insert_32 rfl ?_
    refine e_icmp_le (tgt := 74) dX1_insert_33 (by decide) (fun _ => ?_) (fun c => absurd (by rw [hx]; exact nI_le (Nat.le_refl _) (by omega)) c)
    refine e_aload_n dX1_insert_74 rfl ?_
    refine e_get dX1_insert_75 fX1_11 (h0 _ _) rfl ?_
    refine e_iload_n dX1_insert_78 rfl ?_
    refine e_aload_n dX1_insert_79 rfl ?_
    refine e_aastE dX1_insert_80 (x_p2_1 _ _ _ _) rfl (by omega) (x_p2_en hp he) ?_
    rw [x_p2_e]
    refine e_aload_n dX1_insert_81 rfl ?_
    refine e_get dX1_insert_82 fX1_17 (h0 _ _) rfl ?_
    refine e_iload_n dX1_insert_85 rfl ?_
    refine e_aload_n dX1_insert_86 rfl ?_
    refine e_aastB dX1_insert_87 (x_p2_2 _ _ _ _) rfl (by omega) (x_p2_pn hp hpb) ?_
    rw [x_p2_b]
    refine e_aload_n dX1_insert_88 rfl ?_
    refine e_dup dX1_insert_89 rfl ?_
    refine e_get dX1_insert_90 fX1_25 (h0 _ _) rfl ?_
    refine e_iconst (v := 1) dX1_insert_93 (by decide) ?_
    refine e_iadd dX1_insert_94 ?_
    refine e_put dX1_insert_95 fX1_25 (h0 _ _) ⟨rfl, rfl⟩ ?_
    refine e_ret dX1_insert_98 rfl ⟨rfl, ?_⟩
    unfold x_ps
    have e2 : x_p2 h a (fu (shr P.2.1 i n) i e) (fu (shr P.2.2 i n) i pb) = x_p2 h a (ins P.2.1 i n e) (ins P.2.2 i n pb) := x_p2_cg h a (fun j _ => rfl) (fun j _ => rfl)
    rw [e2]
    show x_up _ a (.inr (1, [.ref (a + 1), .ref (a + 2), .int (nI P.1.1 + 1), _, _, _, _])) = x_up _ a (pgC a (n + 1, P.1.2))
    rw [hs, nI_1]
    rfl
  | succ k ih =>
    intro i x hx hi hin
    refine e_iload dX1_insert_30 rfl ?_
    refine e_iload_n dX1_insert_32 rfl ?_
    refine e_icmp_le (tgt := 74) dX1_insert_33 (by decide) (fun c => absurd c (by rw [hx]; exact nI_ge (by omega) (by omega))) (fun _ => ?_)
    obtain ⟨m, rfl⟩ : ∃ m, i = m + 1 := ⟨i - 1, by omega⟩
    have hm : x - 1 = nI m := by rw [hx]; exact nI_pred m
    have f1 : shr P.2.1 (m + 1) n m = P.2.1 m := by simp only [shr]; rw [if_neg (by omega)]
    have f2 : shr P.2.2 (m + 1) n m = P.2.2 m := by simp only [shr]; rw [if_neg (by omega)]
    obtain ⟨w, hw⟩ := hfe m (by omega)
    refine e_aload_n dX1_insert_36 rfl ?_
    refine e_get dX1_insert_37 fX1_11 (h0 _ _) rfl ?_
    refine e_iload dX1_insert_40 rfl ?_
    refine e_aload_n dX1_insert_42 rfl ?_
    refine e_get dX1_insert_43 fX1_11 (h0 _ _) rfl ?_
    refine e_iload dX1_insert_46 rfl ?_
    refine e_iconst (v := 1) dX1_insert_48 (by decide) ?_
    refine e_isub dX1_insert_49 ?_
    refine e_aald dX1_insert_50 (x_p2_1 _ _ _ _) rfl rfl hm (ar_get _ (show m < 10 by omega)) ?_
    refine e_aastE (v := w) dX1_insert_51 (x_p2_1 _ _ _ _) hx (by omega) (by rw [f1]; exact x_p2_en hp hw) ?_
    rw [x_p2_e]
    refine e_aload_n dX1_insert_52 rfl ?_
    refine e_get dX1_insert_53 fX1_17 (h0 _ _) rfl ?_
    refine e_iload dX1_insert_56 rfl ?_
    refine e_aload_n dX1_insert_58 rfl ?_
    refine e_get dX1_insert_59 fX1_17 (h0 _ _) rfl ?_
    refine e_iload dX1_insert_62 rfl ?_
    refine e_iconst (v := 1) dX1_insert_64 (by decide) ?_
    refine e_isub dX1_insert_65 ?_
    refine e_aald dX1_insert_66 (x_p2_2 _ _ _ _) rfl rfl hm (ar_get _ (show m < 10 by omega)) ?_
    refine e_aastB dX1_insert_67 (x_p2_2 _ _ _ _) hx (by omega) (by rw [f2]; exact x_p2_pn hp (hfb m (by omega))) ?_
    rw [x_p2_b]
    have st : ∀ f : Nat → Nat, ∀ j, j < 10 → fu (shr f (m + 1) n) (m + 1) (shr f (m + 1) n m) j = shr f m n j := by
      intro f j _
      unfold fu
      by_cases q : j = m + 1
      · subst q
        rw [if_pos rfl]
        simp only [shr]
        rw [if_neg (by omega), if_pos (by omega)]
        rfl
      · rw [if_neg q]
        simp only [shr]
        by_cases q2 : m + 1 < j ∧ j ≤ n
        · rw [if_pos q2, if_pos (by omega)]
        · rw [if_neg q2, if_neg (by omega)]
    rw [x_p2_cg h a (st P.2.1) (st P.2.2)]
    refine e_iinc dX1_insert_68 rfl rfl (by decide) rfl ?_
    refine e_goto (tgt := 30) dX1_insert_71 (by decide) ?_
    exact e_loc [4, 3, 0, 1, 2] rfl (ih m _ (by rw [hx]; exact pk_m1 m) (by omega) (by omega))
theorem con_insert (d : Nat) (h : xH) (a e pb : Nat) (v : xE) (P : xP) (vs : List xE) (hl : vs.length < 10) (hp : x_pg h a P) (hs : P.1.1 = vs.length) (hvs : x_es h P.2.1 vs) (hfe : x_fe h P.2.1) (hfb : x_fb h P.2.2) (he : h.2 e = some (eC v)) (hpb : x_pn h pb) :
    x_D mX1_insert (d + 5) 0 0 [.ref a, .ref e, .ref pb] h [] (x_ps h a ((vs.length + 1, P.1.2), ins P.2.1 (cnt (od v) vs) vs.length e, ins P.2.2 (cnt (od v) vs) vs.length pb)) := by
  refine e_enter (by decide) (Nat.le_of_ble_eq_true rfl) ?_
  have b1 := cnt_le (od v) vs
  have hp0 := hp.1
  refine e_aload_n dX1_insert_0 rfl ?_
  refine e_get dX1_insert_1 fX1_25 hp0 rfl ?_
  refine e_if_lt (tgt := 16) dX1_insert_4 (by decide) (fun c => absurd c (by rw [hs]; exact nI_pos (by omega))) (fun _ => ?_)
  refine e_aload_n dX1_insert_7 rfl ?_
  refine e_get dX1_insert_8 fX1_25 hp0 rfl ?_
  refine e_bipush (v := 10) dX1_insert_11 (by decide) ?_
  refine e_icmp_lt (tgt := 17) dX1_insert_13 (by decide) (fun _ => ?_) (fun c => absurd (by rw [hs]; exact nI_lt (b := 10) hl (by decide)) c)
  refine e_aload_n dX1_insert_17 rfl ?_
  refine e_aload_n dX1_insert_18 rfl ?_
  refine e_iconst (v := 0) dX1_insert_19 (by decide) ?_
  refine e_V2d dX1_insert_20 gX1_44 hp.1 rfl (by omega) (Nat.le_of_ble_eq_true rfl) rfl rfl (con_cp0 d h a e v P vs hp hs hvs (by omega) he) ?_
  refine e_istore_n dX1_insert_23 (by decide) rfl ?_
  refine e_aload_n dX1_insert_24 rfl ?_
  refine e_get dX1_insert_25 fX1_25 hp0 rfl ?_
  refine e_istore dX1_insert_28 (by decide) rfl ?_
  have e0 : x_p2 h a (shr P.2.1 vs.length vs.length) (shr P.2.2 vs.length vs.length) = h := by
    rw [x_p2_cg h a (E' := P.2.1) (B' := P.2.2) (fun j _ => by simp only [shr]; rw [if_neg (by omega)]) (fun j _ => by simp only [shr]; rw [if_neg (by omega)])]
    exact x_p2_id hp
  have hk := ins_lo (d + 5) h a e pb v P (cnt (od v) vs) vs.length (by omega) hp hfe hfb he hpb b1 hs (vs.length - cnt (od v) vs) vs.length (nI P.1.1) (by rw [hs]) (by omega) (Nat.le_refl _)
  rw [e0] at hk
  exact e_loc [4, 3, 0, 1, 2] rfl hk
/-- the rows while they are moved over what is dropped -/
def shl (f : Nat → Nat) (i0 i : Nat) : Nat → Nat := fun j => if i0 ≤ j ∧ j < i then f (j + 1) else f j
theorem drp_lo (d : Nat) (h : xH) (a e : Nat) (P : xP) (i0 n : Nat) (hn : n < 10) (hp : x_pg h a P) (hfe : x_fe h P.2.1) (hfb : x_fb h P.2.2) (hs : P.1.1 = n + 1) :
    ∀ (k i : Nat) (x : Int32), x = nI i → i + k = n → i0 ≤ i →
    x_E mX1_drop d 0 0 16 [(2, .int x), (0, .ref a), (1, .ref e)] [] (x_p2 h a (shl P.2.1 i0 i) (shl P.2.2 i0 i)) (fun rv h' => rv = [] ∧ h' = x_ps h a ((n, P.1.2), shl P.2.1 i0 n, shl P.2.2 i0 n)) := by
  have h0 : ∀ E B, (x_p2 h a E B).2 a = some (pgC a P.1) := fun E B => x_p2_0 hp.1 (by omega) (by omega)
  have hn1 : nI P.1.1 - 1 = nI n := by rw [hs]; exact nI_pred n
  intro k
  induction k with
  | zero =>
    intro i x hx hi hin
    have e1 : i = n := by omega
    subst e1
    refine e_iload_n dX1_drop_16 rfl ?_
    refine e_aload_n dX1_drop_17 rfl ?_
    refine e_get dX1_drop_18 fX1_25 (h0 _ _) rfl ?_
    refine e_iconst (v := 1) dX1_drop_21 (by decide) ?_
    refine e_isub dX1_drop_22 ?_
    refine e_icmp_ge (tgt := 60) dX1_drop_23 (by decide) (fun _ => ?_) (fun c => absurd (by rw [hx]; exact hn1 ▸ Int32.le_refl _) c)
    refine e_aload_n dX1_drop_60 rfl ?_
    refine e_dup dX1_drop_61 rfl ?_
    refine e_get dX1_drop_62 fX1_25 (h0 _ _) rfl ?_
    refine e_iconst (v := 1) dX1_drop_65 (by decide) ?_
    refine e_isub dX1_drop_66 ?_
    refine e_put dX1_drop_67 fX1_25 (h0 _ _) ⟨rfl, rfl⟩ ?_
    refine e_ret dX1_drop_70 rfl ⟨rfl, ?_⟩
    unfold x_ps
    show x_up _ a (.inr (1, [.ref (a + 1), .ref (a + 2), .int (nI P.1.1 - 1), _, _, _, _])) = x_up _ a (pgC a (i, P.1.2))
    rw [hn1]
    rfl
  | succ k ih =>
    intro i x hx hi hin
    refine e_iload_n dX1_drop_16 rfl ?_
    refine e_aload_n dX1_drop_17 rfl ?_
    refine e_get dX1_drop_18 fX1_25 (h0 _ _) rfl ?_
    refine e_iconst (v := 1) dX1_drop_21 (by decide) ?_
    refine e_isub dX1_drop_22 ?_
    refine e_icmp_ge (tgt := 60) dX1_drop_23 (by decide) (fun c => absurd c (by rw [hx, hn1]; exact nI_ge (by omega) (by omega))) (fun _ => ?_)
    have hm : x + 1 = nI (i + 1) := by rw [hx]; exact nI_1 i
    have f1 : shl P.2.1 i0 i (i + 1) = P.2.1 (i + 1) := by simp only [shl]; rw [if_neg (by omega)]
    have f2 : shl P.2.2 i0 i (i + 1) = P.2.2 (i + 1) := by simp only [shl]; rw [if_neg (by omega)]
    obtain ⟨w, hw⟩ := hfe (i + 1) (by omega)
    refine e_aload_n dX1_drop_26 rfl ?_
    refine e_get dX1_drop_27 fX1_11 (h0 _ _) rfl ?_
    refine e_iload_n dX1_drop_30 rfl ?_
    refine e_aload_n dX1_drop_31 rfl ?_
    refine e_get dX1_drop_32 fX1_11 (h0 _ _) rfl ?_
    refine e_iload_n dX1_drop_35 rfl ?_
    refine e_iconst (v := 1) dX1_drop_36 (by decide) ?_
    refine e_iadd dX1_drop_37 ?_
    refine e_aald dX1_drop_38 (x_p2_1 _ _ _ _) rfl rfl hm (ar_get _ (show i + 1 < 10 by omega)) ?_
    refine e_aastE (v := w) dX1_drop_39 (x_p2_1 _ _ _ _) hx (by omega) (by rw [f1]; exact x_p2_en hp hw) ?_
    rw [x_p2_e]
    refine e_aload_n dX1_drop_40 rfl ?_
    refine e_get dX1_drop_41 fX1_17 (h0 _ _) rfl ?_
    refine e_iload_n dX1_drop_44 rfl ?_
    refine e_aload_n dX1_drop_45 rfl ?_
    refine e_get dX1_drop_46 fX1_17 (h0 _ _) rfl ?_
    refine e_iload_n dX1_drop_49 rfl ?_
    refine e_iconst (v := 1) dX1_drop_50 (by decide) ?_
    refine e_iadd dX1_drop_51 ?_
    refine e_aald dX1_drop_52 (x_p2_2 _ _ _ _) rfl rfl hm (ar_get _ (show i + 1 < 10 by omega)) ?_
    refine e_aastB dX1_drop_53 (x_p2_2 _ _ _ _) hx (by omega) (by rw [f2]; exact x_p2_pn hp (hfb (i + 1) (by omega))) ?_
    rw [x_p2_b]
    have st : ∀ f : Nat → Nat, ∀ j, j < 10 → fu (shl f i0 i) i (shl f i0 i (i + 1)) j = shl f i0 (i + 1) j := by
      intro f j _
      unfold fu
      by_cases q : j = i
      · subst q
        rw [if_pos rfl]
        simp only [shl]
        rw [if_neg (by omega), if_pos (by omega)]
      · rw [if_neg q]
        simp only [shl]
        by_cases q2 : i0 ≤ j ∧ j < i
        · rw [if_pos q2, if_pos (by omega)]
        · rw [if_neg q2, if_neg (by omega)]
    rw [x_p2_cg h a (st P.2.1) (st P.2.2)]
    refine e_iinc dX1_drop_54 rfl rfl (by decide) rfl ?_
    refine e_goto (tgt := 16) dX1_drop_57 (by decide) ?_
    exact e_loc [2, 0, 1] rfl (ih (i + 1) _ (by rw [hx]; exact nI_1 i) (by omega) (by omega))
theorem con_drop (d : Nat) (h : xH) (a e : Nat) (v : xE) (P : xP) (vs : List xE) (n : Nat) (hl : vs.length = n + 1) (hl10 : n < 10) (hp : x_pg h a P) (hs : P.1.1 = vs.length) (hvs : x_es h P.2.1 vs) (hfe : x_fe h P.2.1) (hfb : x_fb h P.2.2) (he : h.2 e = some (eC v)) (hin : cnt (od v) vs < cnt (od v + 1) vs) :
    x_D mX1_drop (d + 6) 0 0 [.ref a, .ref e] h [] (x_ps h a ((n, P.1.2), shl P.2.1 (cnt (od v) vs) n, shl P.2.2 (cnt (od v) vs) n)) := by
  refine e_enter (by decide) (Nat.le_of_ble_eq_true rfl) ?_
  have b2 := cnt_le (od v + 1) vs
  refine e_aload_n dX1_drop_0 rfl ?_
  refine e_aload_n dX1_drop_1 rfl ?_
  refine e_V1d dX1_drop_2 gX1_48 hp.1 rfl (by omega) (Nat.le_of_ble_eq_true rfl) rfl rfl (con_holds d h a e v P vs hp hs hvs (by omega) he) ?_
  refine e_if_ne (tgt := 9) dX1_drop_5 (by decide) (fun _ => ?_) (fun c => absurd c (by rw [if_pos hin]; decide))
  refine e_aload_n dX1_drop_9 rfl ?_
  refine e_aload_n dX1_drop_10 rfl ?_
  refine e_iconst (v := 0) dX1_drop_11 (by decide) ?_
  refine e_V2d dX1_drop_12 gX1_44 hp.1 rfl (by omega) (Nat.le_of_ble_eq_true rfl) rfl rfl (con_cp0 (d + 1) h a e v P vs hp hs hvs (by omega) he) ?_
  refine e_istore_n dX1_drop_15 (by decide) rfl ?_
  have e0 : x_p2 h a (shl P.2.1 (cnt (od v) vs) (cnt (od v) vs)) (shl P.2.2 (cnt (od v) vs) (cnt (od v) vs)) = h := by
    rw [x_p2_cg h a (E' := P.2.1) (B' := P.2.2) (fun j _ => by simp only [shl]; rw [if_neg (by omega)]) (fun j _ => by simp only [shl]; rw [if_neg (by omega)])]
    exact x_p2_id hp
  have hk := drp_lo (d + 6) h a e P (cnt (od v) vs) n (by omega) hp hfe hfb (hs.trans hl) (n - cnt (od v) vs) (cnt (od v) vs) _ rfl (by omega) (Nat.le_refl _)
  rw [e0] at hk
  exact e_loc [2, 0, 1] rfl hk
end
section
/-! Page: append, and the constructor -/
theorem e_heq {y : xM} {d kc ks pc : Nat} {l : List (Nat × Value)} {st : List Value} {h h' : xH} {Q : List Value → xH → Prop} (e : h = h') (k : x_E y d kc ks pc l st h' Q) : x_E y d kc ks pc l st h Q := e ▸ k
theorem x_ps_e (h : xH) (a : Nat) (P : xP) (E : Nat → Nat) : x_up (x_ps h a P) (a + 1) (arE E) = x_ps h a (P.1, E, P.2.2) := by
  unfold x_ps
  rw [x_up_cm (a := a) (b := a + 1) (by omega), x_up_cm (a := a + 2) (b := a + 1) (by omega), x_up_up]
theorem x_ps_b (h : xH) (a : Nat) (P : xP) (B : Nat → Nat) : x_up (x_ps h a P) (a + 2) (arB B) = x_ps h a (P.1, P.2.1, B) := by
  unfold x_ps
  rw [x_up_cm (a := a) (b := a + 2) (by omega), x_up_up]
theorem x_ps_c (h : xH) (a : Nat) (P : xP) (c : Nat × Nat × Nat × Nat × Int32) : x_up (x_ps h a P) a (pgC a c) = x_ps h a (c, P.2) := by
  unfold x_ps
  rw [x_up_up]
theorem x_ps_cg (h : xH) (a : Nat) (c : Nat × Nat × Nat × Nat × Int32) {E E' B B' : Nat → Nat} (he : ∀ j, j < 10 → E j = E' j) (hb : ∀ j, j < 10 → B j = B' j) : x_ps h a (c, E, B) = x_ps h a (c, E', B') := by
  unfold x_ps arE arB
  rw [ar_cg he, ar_cg hb]
theorem x_pg_ps {h : xH} {a b : Nat} {P P' Pb : xP} (hp : x_pg h a P) (hb : x_pg h b Pb) (hne : b ≠ a) : x_pg (x_ps h a P') b Pb := by
  obtain ⟨p0, p1, p2⟩ := hp
  obtain ⟨b0, b1, b2⟩ := hb
  refine ⟨x_ps_n b0 hne (fun e => ?_) (fun e => ?_), x_ps_n b1 (fun e => ?_) (by omega) (fun e => ?_), x_ps_n b2 (fun e => ?_) (fun e => ?_) (by omega)⟩
  · rw [e] at b0; have := b0.symm.trans p1; cases this
  · rw [e] at b0; have := b0.symm.trans p2; cases this
  · rw [e] at b1; have := b1.symm.trans p0; cases this
  · rw [e] at b1; have := b1.symm.trans p2; cases this
  · rw [e] at b2; have := b2.symm.trans p0; cases this
  · rw [e] at b2; have := b2.symm.trans p1; cases this
theorem x_pn_ps {h : xH} {a b : Nat} {P P' : xP} (hp : x_pg h a P) (hb : x_pn h b) : x_pn (x_ps h a P') b := by
  rcases hb with rfl | ⟨Z, hZ⟩
  · exact Or.inl rfl
  · by_cases e : b = a
    · subst e
      exact Or.inr ⟨_, (x_ps_pg h b P').1⟩
    · refine Or.inr ⟨Z, x_ps_n hZ e (fun e => ?_) (fun e => ?_)⟩
      · rw [e] at hZ; have := hZ.symm.trans hp.2.1; cases this
      · rw [e] at hZ; have := hZ.symm.trans hp.2.2; cases this
/-- n of g from s on, ahead of f's -/
def cpy (f g : Nat → Nat) (s n : Nat) : Nat → Nat := fun j => if j < n then g (s + j) else f j
theorem app_lo (d : Nat) (h : xH) (a b : Nat) (P Pb : xP) (s n : Nat) (hsn : s + n ≤ 10) (hp : x_pg h a P) (hb : x_pg h b Pb) (hne : b ≠ a) (hfe : x_fe h Pb.2.1) (hfb : x_fb h Pb.2.2) (hbs : Pb.1.1 = 10) :
    ∀ (k m : Nat) (x : Int32), x = nI (s + m) → m + k = n →
    x_E mX1_append d 0 0 3 [(4, .int x), (0, .ref a), (1, .ref b), (2, .int (nI s)), (3, .int (nI (s + n)))] [] (x_ps h a ((m, P.1.2), cpy P.2.1 Pb.2.1 s m, cpy P.2.2 Pb.2.2 s m)) (fun rv h' => rv = [] ∧ h' = x_ps h a ((n, P.1.2), cpy P.2.1 Pb.2.1 s n, cpy P.2.2 Pb.2.2 s n)) := by
  intro k
  induction k with
  | zero =>
    intro m x hx hm
    have e1 : m = n := by omega
    subst e1
    refine e_iload dX1_append_3 rfl ?_
    refine e_iload_n dX1_append_5 rfl ?_
    refine e_icmp_ge (tgt := 75) dX1_append_6 (by decide) (fun _ => ?_) (fun c => absurd (by rw [hx]; exact Int32.le_refl _) c)
    exact e_ret dX1_append_75 rfl ⟨rfl, rfl⟩
  | succ k ih =>
    intro m x hx hm
    have a0 := fun P' => (x_ps_pg h a P').1
    have a1 := fun P' => (x_ps_pg h a P').2.1
    have a2 := fun P' => (x_ps_pg h a P').2.2
    have b0 := fun P' => (x_pg_ps (P' := P') hp hb hne).1
    have b1 := fun P' => (x_pg_ps (P' := P') hp hb hne).2.1
    have b2 := fun P' => (x_pg_ps (P' := P') hp hb hne).2.2
    refine e_iload dX1_append_3 rfl ?_
    refine e_iload_n dX1_append_5 rfl ?_
    refine e_icmp_ge (tgt := 75) dX1_append_6 (by decide) (fun c => absurd c (by rw [hx]; exact nI_ge (by omega) (by omega))) (fun _ => ?_)
    refine e_iload dX1_append_9 rfl ?_
    refine e_aload_n dX1_append_11 rfl ?_
    refine e_get dX1_append_12 fX1_25 (b0 _) rfl ?_
    refine e_icmp_ge (tgt := 75) dX1_append_15 (by decide) (fun c => absurd c (by rw [hx, hbs]; exact nI_ge (by omega) (by omega))) (fun _ => ?_)
    refine e_aload_n dX1_append_18 rfl ?_
    refine e_get dX1_append_19 fX1_25 (a0 _) rfl ?_
    refine e_bipush (v := 10) dX1_append_22 (by decide) ?_
    refine e_icmp_ge (tgt := 75) dX1_append_24 (by decide) (fun c => absurd c (nI_ge (b := 10) (show m < 10 by omega) (by omega))) (fun _ => ?_)
    obtain ⟨w, hw⟩ := hfe (s + m) (by omega)
    refine e_aload_n dX1_append_27 rfl ?_
    refine e_get dX1_append_28 fX1_11 (a0 _) rfl ?_
    refine e_aload_n dX1_append_31 rfl ?_
    refine e_get dX1_append_32 fX1_25 (a0 _) rfl ?_
    refine e_aload_n dX1_append_35 rfl ?_
    refine e_get dX1_append_36 fX1_11 (b0 _) rfl ?_
    refine e_iload dX1_append_39 rfl ?_
    refine e_aald dX1_append_41 (b1 _) rfl rfl hx (ar_get _ (show s + m < 10 by omega)) ?_
    refine e_aastE (v := w) dX1_append_42 (a1 _) rfl (show m < 10 by omega) (x_en_ps hp hw) ?_
    rw [x_ps_e]
    refine e_aload_n dX1_append_43 rfl ?_
    refine e_get dX1_append_44 fX1_17 (a0 _) rfl ?_
    refine e_aload_n dX1_append_47 rfl ?_
    refine e_get dX1_append_48 fX1_25 (a0 _) rfl ?_
    refine e_aload_n dX1_append_51 rfl ?_
    refine e_get dX1_append_52 fX1_17 (b0 _) rfl ?_
    refine e_iload dX1_append_55 rfl ?_
    refine e_aald dX1_append_57 (b2 _) rfl rfl hx (ar_get _ (show s + m < 10 by omega)) ?_
    refine e_aastB dX1_append_58 (a2 _) rfl (show m < 10 by omega) (x_pn_ps hp (hfb (s + m) (by omega))) ?_
    rw [x_ps_b]
    refine e_aload_n dX1_append_59 rfl ?_
    refine e_dup dX1_append_60 rfl ?_
    refine e_get dX1_append_61 fX1_25 (a0 _) rfl ?_
    refine e_iconst (v := 1) dX1_append_64 (by decide) ?_
    refine e_iadd dX1_append_65 ?_
    refine e_put dX1_append_66 fX1_25 (a0 _) ⟨rfl, rfl⟩ ?_
    have st : ∀ f g : Nat → Nat, ∀ j, j < 10 → fu (cpy f g s m) m (g (s + m)) j = cpy f g s (m + 1) j := by
      intro f g j _
      unfold fu
      by_cases q : j = m
      · subst q
        rw [if_pos rfl]
        simp only [cpy]
        rw [if_pos (by omega)]
      · rw [if_neg q]
        simp only [cpy]
        by_cases q2 : j < m
        · rw [if_pos q2, if_pos (by omega)]
        · rw [if_neg q2, if_neg (by omega)]
    have e2 : x_up (x_ps h a ((m, P.1.2), fu (cpy P.2.1 Pb.2.1 s m) m (Pb.2.1 (s + m)), fu (cpy P.2.2 Pb.2.2 s m) m (Pb.2.2 (s + m)))) a (.inr (1, ([.ref (a + 1), .ref (a + 2), .int (nI m), .int (nI P.1.2.1), .ref P.1.2.2.1, .ref P.1.2.2.2.1, .int P.1.2.2.2.2] : List Value).set 2 (.int (nI m + 1)))) = x_ps h a ((m + 1, P.1.2), cpy P.2.1 Pb.2.1 s (m + 1), cpy P.2.2 Pb.2.2 s (m + 1)) := by
      rw [nI_1]
      refine (x_ps_c h a _ (m + 1, P.1.2)).trans ?_
      exact x_ps_cg h a _ (st P.2.1 Pb.2.1) (st P.2.2 Pb.2.2)
    refine e_heq e2 ?_
    refine e_iinc dX1_append_69 rfl rfl (by decide) rfl ?_
    refine e_goto (tgt := 3) dX1_append_72 (by decide) ?_
    exact e_loc [4, 0, 1, 2, 3] rfl (ih (m + 1) _ (by rw [hx]; exact nI_1 (s + m)) (by omega))
theorem con_append (d : Nat) (h : xH) (a b : Nat) (P Pb : xP) (s n : Nat) (hsn : s + n ≤ 10) (hp : x_pg h a P) (hb : x_pg h b Pb) (hne : b ≠ a) (hfe : x_fe h Pb.2.1) (hfb : x_fb h Pb.2.2) (hbs : Pb.1.1 = 10) (h0 : P.1.1 = 0) :
    x_D mX1_append d 0 0 [.ref a, .ref b, .int (nI s), .int (nI (s + n))] h [] (x_ps h a ((n, P.1.2), cpy P.2.1 Pb.2.1 s n, cpy P.2.2 Pb.2.2 s n)) := by
  refine e_enter (by decide) (Nat.le_of_ble_eq_true rfl) ?_
  refine e_iload_n dX1_append_0 rfl ?_
  refine e_istore dX1_append_1 (by decide) rfl ?_
  have hk := app_lo d h a b P Pb s n hsn hp hb hne hfe hfb hbs n 0 (nI s) (by rw [Nat.add_zero]) (by omega)
  have e0 : x_ps h a ((0, P.1.2), cpy P.2.1 Pb.2.1 s 0, cpy P.2.2 Pb.2.2 s 0) = h := by
    have : (0, P.1.2) = P.1 := by rw [← h0]
    rw [this, x_ps_cg h a P.1 (E' := P.2.1) (B' := P.2.2) (fun j _ => by simp only [cpy]; rw [if_neg (by omega)]) (fun j _ => by simp only [cpy]; rw [if_neg (by omega)])]
    exact x_ps_id hp
  rw [e0] at hk
  exact e_loc [4, 0, 1, 2, 3] rfl hk
/-- more addresses are taken -/
def x_gr (h : xH) (n : Nat) : xH := (h.1 + n, h.2)
theorem x_nw_gr (h : xH) (c : xC) : x_nw h c = x_up (x_gr h 1) h.1 c := rfl
theorem x_gr_up (h : xH) (a n : Nat) (c : xC) : x_gr (x_up h a c) n = x_up (x_gr h n) a c := rfl
theorem x_gr_gr (h : xH) (n m : Nat) : x_gr (x_gr h n) m = x_gr h (n + m) := by simp [x_gr, Nat.add_assoc]
theorem ar_0 : List.replicate 10 (Value.ref 0) = ar (fun _ => 0) := by decide +kernel
theorem ne_1 (a : Nat) : a ≠ a + 1 := by omega
theorem ne_2 (a : Nat) : a ≠ a + 1 + 1 := by omega
theorem init_lo (d : Nat) (h : xH) (a e : Nat) (v : xE) (he : h.2 e = some (eC v)) (n0 : e ≠ a) (n1 : e ≠ a + 1) (n2 : e ≠ a + 2) :
    ∀ (k i : Nat) (x : Int32), x = nI i → i + k = 10 →
    x_E mX1_init d 0 0 24 [(2, .int x), (0, .ref a), (1, .ref e)] [] (x_ps h a ((0, 0, 0, 0, 0), cpy (fun _ => 0) (fun _ => e) 0 i, fun _ => 0)) (fun rv h' => rv = [] ∧ h' = x_ps h a ((0, 0, e, 0, 0), fun _ => e, fun _ => 0)) := by
  intro k
  induction k with
  | zero =>
    intro i x hx hi
    have e1 : i = 10 := by omega
    subst e1
    have a0 := fun P' => (x_ps_pg h a P').1
    refine e_iload_n dX1_init_24 rfl ?_
    refine e_bipush (v := 10) dX1_init_25 (by decide) ?_
    refine e_icmp_ge (tgt := 43) dX1_init_27 (by decide) (fun _ => ?_) (fun c => absurd (by rw [hx]; exact Int32.le_refl _) c)
    refine e_aload_n dX1_init_43 rfl ?_
    refine e_aload_n dX1_init_44 rfl ?_
    refine e_put dX1_init_45 fX1_21 (a0 _) (Or.inl ⟨_, rfl⟩) ?_
    refine e_ret dX1_init_48 rfl ⟨rfl, ?_⟩
    refine (x_ps_c h a _ (0, 0, e, 0, 0)).trans ?_
    exact x_ps_cg h a _ (fun j hj => by simp only [cpy]; rw [if_pos hj]) (fun j _ => rfl)
  | succ k ih =>
    intro i x hx hi
    have a0 := fun P' => (x_ps_pg h a P').1
    have a1 := fun P' => (x_ps_pg h a P').2.1
    refine e_iload_n dX1_init_24 rfl ?_
    refine e_bipush (v := 10) dX1_init_25 (by decide) ?_
    refine e_icmp_ge (tgt := 43) dX1_init_27 (by decide) (fun c => absurd c (by rw [hx]; exact nI_ge (b := 10) (by omega) (by decide))) (fun _ => ?_)
    refine e_aload_n dX1_init_30 rfl ?_
    refine e_get dX1_init_31 fX1_11 (a0 _) rfl ?_
    refine e_iload_n dX1_init_34 rfl ?_
    refine e_aload_n dX1_init_35 rfl ?_
    refine e_aastE (v := v) dX1_init_36 (a1 _) hx (by omega) (x_ps_n he n0 n1 n2) ?_
    rw [x_ps_e]
    rw [x_ps_cg h a (0, 0, 0, 0, 0) (E' := cpy (fun _ => 0) (fun _ => e) 0 (i + 1)) (B' := fun _ => 0) (fun j _ => by
      simp only [fu, cpy]
      by_cases q : j = i
      · rw [if_pos q, if_pos (by omega)]
      · rw [if_neg q]
        by_cases q2 : j < i
        · rw [if_pos q2, if_pos (by omega)]
        · rw [if_neg q2, if_neg (by omega)]) (fun j _ => rfl)]
    refine e_iinc dX1_init_37 rfl rfl (by decide) rfl ?_
    refine e_goto (tgt := 24) dX1_init_40 (by decide) ?_
    exact e_loc [2, 0, 1] rfl (ih (i + 1) _ (by rw [hx]; exact nI_1 i) (by omega))
theorem con_Page_init (d : Nat) (h : xH) (a e : Nat) (v : xE) (ha : h.2 a = some (.inr (1, [.ref 0, .ref 0, .int 0, .int 0, .ref 0, .ref 0, .int 0]))) (h1 : h.1 = a + 1) (he : h.2 e = some (eC v)) (hlt : e < a) :
    x_D mX1_init (d + 1) 2 20 [.ref a, .ref e] h [] (x_ps (x_gr h 2) a ((0, 0, e, 0, 0), fun _ => e, fun _ => 0)) := by
  refine e_enter (by decide) (Nat.le_of_ble_eq_true rfl) ?_
  obtain ⟨hn, hf⟩ := h
  dsimp only at h1 ha he
  subst h1
  have ha : ((a + 1, hf) : xH).2 a = some (.inr (1, [.ref 0, .ref 0, .int 0, .int 0, .ref 0, .ref 0, .int 0])) := ha
  refine e_aload_n dX1_init_0 rfl ?_
  refine e_obj dX1_init_1 ha ojX1_3 ojI ojC (by omega) (Nat.le_of_ble_eq_true rfl) ?_
  refine e_aload_n dX1_init_4 rfl ?_
  refine e_bipush (v := 10) dX1_init_5 (by decide) ?_
  refine e_newq (k := 0) dX1_init_7 rfl kX1_9 rfl (by decide) rfl rfl ?_
  refine e_putF dX1_init_10 fX1_11 rfl rfl (x_nw_n ha (ne_1 a)) (Or.inr ⟨_, rfl⟩) ?_
  refine e_aload_n dX1_init_13 rfl ?_
  refine e_bipush (v := 10) dX1_init_14 (by decide) ?_
  refine e_newq (k := 1) dX1_init_16 rfl kX1_12 rfl (by decide) rfl rfl ?_
  refine e_putF dX1_init_19 fX1_17 rfl rfl (x_nw_n (x_up_s _ _ _) (ne_2 a)) (Or.inr ⟨_, rfl⟩) ?_
  refine e_iconst (v := 0) dX1_init_22 (by decide) ?_
  refine e_istore_n dX1_init_23 (by decide) rfl ?_
  refine e_loc [2, 0, 1] rfl ?_
  have e0 : x_up (x_nw (x_up (x_nw (a + 1, hf) (.inl (0, List.replicate 10 (.ref 0)))) a (.inr (1, ([.ref 0, .ref 0, .int 0, .int 0, .ref 0, .ref 0, .int 0] : List Value).set 0 (.ref (a + 1))))) (.inl (1, List.replicate 10 (.ref 0)))) a (.inr (1, (([.ref 0, .ref 0, .int 0, .int 0, .ref 0, .ref 0, .int 0] : List Value).set 0 (.ref (a + 1))).set 1 (.ref (a + 2)))) = x_ps (x_gr (a + 1, hf) 2) a ((0, 0, 0, 0, 0), cpy (fun _ => 0) (fun _ => e) 0 0, fun _ => 0) := by
    rw [ar_0]
    unfold x_ps
    simp only [x_nw_gr, x_gr_up, x_gr_gr]
    rw [x_up_cm (a := a) (b := (x_up (x_up (x_gr (a + 1, hf) 1) (a + 1, hf).1 (.inl (0, ar fun _ => 0))) a (.inr (1, ([.ref 0, .ref 0, .int 0, .int 0, .ref 0, .ref 0, .int 0] : List Value).set 0 (.ref (a + 1))))).1) (by show a ≠ a + 2; omega), x_up_up]
    rfl
  have hk := init_lo (d + 1) (x_gr (a + 1, hf) 2) a e v he (by omega) (by omega) (by omega) 10 0 0 rfl (by omega)
  rw [← e0] at hk
  exact hk
end
section
/-! the reference's object: its cells -/
def bI (b : Bool) : Int32 := if b then 1 else 0
def af (n : Nat) (g : Nat → Value) : List Value := (List.range n).map g
theorem af_len (n : Nat) (g : Nat → Value) : (af n g).length = n := by simp [af]
theorem af_get {n j : Nat} (g : Nat → Value) (hj : j < n) : (af n g)[j]? = some (g j) := by simp [af, hj]
theorem af_cg {n : Nat} {f g : Nat → Value} (h : ∀ j, j < n → f j = g j) : af n f = af n g := by
  unfold af
  exact List.map_congr_left fun j hj => h j (List.mem_range.mp hj)
theorem af_set (n : Nat) (g : Nat → Value) (k : Nat) (z : Value) : (af n g).set k z = af n (fun j => if j = k then z else g j) := by
  refine List.ext_getElem? fun j => ?_
  rw [List.getElem?_set]
  by_cases hj : j < n
  · rw [af_get _ hj, af_get _ hj, af_len]
    by_cases e : k = j
    · subst e; simp [hj]
    · rw [if_neg e]; simp [Ne.symm e]
  · have e1 : ∀ g : Nat → Value, (af n g)[j]? = none := fun g => List.getElem?_eq_none (by rw [af_len]; omega)
    rw [e1, e1, af_len]
    by_cases e : k = j
    · subst e; simp [hj]
    · rw [if_neg e]
theorem af_rep (n : Nat) (v : Value) : List.replicate n v = af n (fun _ => v) := by
  refine List.ext_getElem? fun j => ?_
  by_cases hj : j < n
  · rw [af_get _ hj]; simp [hj]
  · rw [List.getElem?_eq_none (by simp; omega), List.getElem?_eq_none (by rw [af_len]; omega)]
abbrev xA : Type := (Nat → xE) × (Nat → Nat) × (Nat → Nat) × (Nat → Nat) × (Nat → Nat) × (Nat → Bool) × (Nat → Nat)
abbrev xS : Type := Nat × Nat × Nat × Nat × Nat × Int32 × Int32 × Bool × Int32 × Nat × Bool × Nat
def mC (m : Nat) (s : xS) : xC := match s with
  | (ks, ni, nl, lv, tk, se, lf, ub, sd, ck, cb, hn) => .inr (3, [.ref (m + 1), .ref (m + 2), .ref (m + 3), .ref (m + 4), .ref (m + 5), .int (nI ks), .ref (m + 6), .ref (m + 7), .int (nI ni), .ref (m + 8), .ref (m + 9), .ref (m + 10), .int (nI nl), .int (nI lv), .int (nI tk), .int se, .int lf, .int (bI ub), .ref (m + 11), .int sd, .int (nI ck), .int (bI cb), .int (nI hn)])
def aL (n : Nat) (f : Nat → Int64) : xC := .inl (2, af n (fun j => .long (f j)))
def aJ (n : Nat) (f : Nat → Int32) : xC := .inl (3, af n (fun j => .int (f j)))
def aI (n : Nat) (f : Nat → Nat) : xC := .inl (3, af n (fun j => .int (nI (f j))))
def aZ (n : Nat) (f : Nat → Bool) : xC := .inl (4, af n (fun j => .int (bI (f j))))
/-- the reference's cells, twelve from m on -/
def x_mm (h : xH) (m : Nat) (A : xA) (s : xS) : Prop := match A with
  | (kv, it, il, lw, ll, ow, cm) => h.2 m = some (mC m s) ∧ h.2 (m + 1) = some (aL 513 (fun j => (kv j).1)) ∧ h.2 (m + 2) = some (aL 513 (fun j => (kv j).2.1)) ∧ h.2 (m + 3) = some (aL 513 (fun j => (kv j).2.2.1)) ∧ h.2 (m + 4) = some (aL 513 (fun j => (kv j).2.2.2.1)) ∧ h.2 (m + 5) = some (aJ 513 (fun j => (kv j).2.2.2.2)) ∧
    h.2 (m + 6) = some (aI 600 it) ∧ h.2 (m + 7) = some (aI 600 il) ∧ h.2 (m + 8) = some (aI 60 lw) ∧ h.2 (m + 9) = some (aI 60 ll) ∧ h.2 (m + 10) = some (aZ 60 ow) ∧ h.2 (m + 11) = some (aI 32 cm)
/-- nothing but the reference's cells has changed -/
def x_mf (m : Nat) (h h' : xH) : Prop := h'.1 = h.1 ∧ ∀ a : Nat, (a < m ∨ m + 12 ≤ a) → h'.2 a = h.2 a
theorem x_mf.rf {m : Nat} {h : xH} : x_mf m h h := ⟨rfl, fun _ _ => rfl⟩
theorem x_mf.tr {m : Nat} {h h' h'' : xH} (a : x_mf m h h') (b : x_mf m h' h'') : x_mf m h h'' := ⟨b.1.trans a.1, fun q hq => (b.2 q hq).trans (a.2 q hq)⟩
theorem x_mf.up {m k : Nat} {h h' : xH} {c : xC} (a : x_mf m h h') (hk : k < 12) : x_mf m h (x_up h' (m + k) c) := ⟨a.1, fun q hq => (x_up_n rfl (by omega)).trans (a.2 q hq)⟩
theorem x_mf.up0 {m : Nat} {h h' : xH} {c : xC} (a : x_mf m h h') : x_mf m h (x_up h' m c) := a.up (k := 0) (by omega)
section MW
variable {y : xM} {d kc ks0 pc : Nat} {l : List (Nat × Value)} {st : List Value} {h : xH} {Q : List Value → xH → Prop} {a j n : Nat} {i : Int32}
theorem e_lastF {f : Nat → Int64} {x : Int64} (hd : decode y.2.1 pc = .ok (.lastore, 1)) (ha : h.2 a = some (aL n f)) (hi : i = nI j) (hj : j < n) (kk : x_E y d kc ks0 (pc + 1) l st (x_up h a (aL n (fun q => if q = j then x else f q))) Q) : x_E y d kc ks0 pc l (.long x :: .int i :: .ref a :: st) h Q := by
  refine e_last hd ha rfl hi (by rw [af_len]; exact hj) ?_
  rw [af_set]
  refine e_heq ?_ kk
  unfold aL
  rw [af_cg (fun q _ => ?_)]
  by_cases hq : q = j <;> simp [hq]
theorem e_iastJ {f : Nat → Int32} {x : Int32} (hd : decode y.2.1 pc = .ok (.iastore, 1)) (ha : h.2 a = some (aJ n f)) (hi : i = nI j) (hj : j < n) (kk : x_E y d kc ks0 (pc + 1) l st (x_up h a (aJ n (fun q => if q = j then x else f q))) Q) : x_E y d kc ks0 pc l (.int x :: .int i :: .ref a :: st) h Q := by
  refine e_iast hd ha rfl hi (by rw [af_len]; exact hj) ?_
  rw [af_set]
  refine e_heq ?_ kk
  unfold aJ
  rw [af_cg (fun q _ => ?_)]
  by_cases hq : q = j <;> simp [hq]
theorem e_iastI {f : Nat → Nat} {x : Int32} {z : Nat} (hd : decode y.2.1 pc = .ok (.iastore, 1)) (ha : h.2 a = some (aI n f)) (hi : i = nI j) (hj : j < n) (hx : x = nI z) (kk : x_E y d kc ks0 (pc + 1) l st (x_up h a (aI n (fu f j z))) Q) : x_E y d kc ks0 pc l (.int x :: .int i :: .ref a :: st) h Q := by
  refine e_iast hd ha rfl hi (by rw [af_len]; exact hj) ?_
  rw [af_set]
  refine e_heq ?_ kk
  unfold aI
  rw [af_cg (fun q _ => ?_)]
  unfold fu
  rw [hx]
  by_cases hq : q = j <;> simp [hq]
theorem e_zastF {f : Nat → Bool} {x : Int32} {z : Bool} (hd : decode y.2.1 pc = .ok (.bastore, 1)) (ha : h.2 a = some (aZ n f)) (hi : i = nI j) (hj : j < n) (hx : x = bI z) (kk : x_E y d kc ks0 (pc + 1) l st (x_up h a (aZ n (fun q => if q = j then z else f q))) Q) : x_E y d kc ks0 pc l (.int x :: .int i :: .ref a :: st) h Q := by
  refine e_zast hd ha rfl hi (by rw [af_len]; exact hj) (by rw [hx]; cases z <;> rfl) ?_
  rw [af_set]
  refine e_heq ?_ kk
  unfold aZ
  rw [af_cg (fun q _ => ?_)]
  rw [hx]
  by_cases hq : q = j <;> simp [hq]
end MW
theorem con_unsigned (d : Nat) (h : xH) (x z : Int64) : x_D mX3_unsigned d 0 0 [.long x, .long z] h [.int (c3 (uN x) (uN z))] h := by
  refine e_enter (by decide) (Nat.le_of_ble_eq_true rfl) ?_
  refine e_lload_n dX3_unsigned_0 rfl ?_
  refine e_lload_n dX3_unsigned_1 rfl ?_
  refine e_lcmp dX3_unsigned_2 ?_
  refine e_if_ne (tgt := 10) dX3_unsigned_3 (by decide) (fun c1 => ?_) (fun c1 => ?_)
  · have hne : ¬ uN x = uN z := fun q => c1 ((lg_cmp_eq x z).mpr (uN_inj q))
    refine e_lload_n dX3_unsigned_10 rfl ?_
    refine e_ldc2 dX3_unsigned_11 vX3_59 ?_
    refine e_lxor dX3_unsigned_14 ?_
    refine e_lload_n dX3_unsigned_15 rfl ?_
    refine e_ldc2 dX3_unsigned_16 vX3_59 ?_
    refine e_lxor dX3_unsigned_19 ?_
    refine e_lcmp dX3_unsigned_20 ?_
    refine e_if_ge (tgt := 28) dX3_unsigned_21 (by decide) (fun c2 => ?_) (fun c2 => ?_)
    · refine e_iconst (v := 1) dX3_unsigned_28 (by decide) ?_
      refine e_iret dX3_unsigned_29 rfl rfl ⟨?_, rfl⟩
      rw [lg_cmp_ge, Int64.le_iff_toInt_le, uN_offx, uN_offx] at c2
      rw [c3_gt (by omega)]
    · refine e_iconst (v := (-1)) dX3_unsigned_24 (by decide) ?_
      refine e_goto (tgt := 29) dX3_unsigned_25 (by decide) ?_
      refine e_iret dX3_unsigned_29 rfl rfl ⟨?_, rfl⟩
      rw [lg_cmp_ge, Int64.le_iff_toInt_le, uN_offx, uN_offx] at c2
      rw [c3_lt (by omega)]
  · have e : x = z := (lg_cmp_eq x z).mp c1
    subst e
    refine e_iconst (v := 0) dX3_unsigned_6 (by decide) ?_
    refine e_goto (tgt := 29) dX3_unsigned_7 (by decide) ?_
    refine e_iret dX3_unsigned_29 rfl rfl ⟨?_, rfl⟩
    rw [c3_rf]
/-- the number of a key number: 0 stands before all -/
def rk (kv : Nat → xE) (i : Nat) : Nat := if i = 0 then 0 else od (kv i) + 1
theorem con_order (d : Nat) (h : xH) (m i j : Nat) {kv : Nat → xE} {it il lw ll : Nat → Nat} {ow : Nat → Bool} {cm : Nat → Nat} {ks ni nl lv tk : Nat} {se lf : Int32} {ub : Bool} {sd : Int32} {ck : Nat} {cb : Bool} {hn : Nat} (hm : x_mm h m (kv, it, il, lw, ll, ow, cm) (ks, ni, nl, lv, tk, se, lf, ub, sd, ck, cb, hn)) (hi : i < 513) (hj : j < 513) : x_D mX3_order (d + 1) 0 0 [.ref m, .int (nI i), .int (nI j)] h [.int (c3 (rk kv i) (rk kv j))] h := by
  obtain ⟨m0, m1, m2, m3, m4, m5, -⟩ := hm
  refine e_enter (by decide) (Nat.le_of_ble_eq_true rfl) ?_
  by_cases hz : i = 0 ∨ j = 0
  · have go : x_E mX3_order (d + 1) 0 0 8 (lv_args 0 [.ref m, .int (nI i), .int (nI j)]) [] h (fun rv h' => rv = [.int (c3 (rk kv i) (rk kv j))] ∧ h' = h) := by
      refine e_iload_n dX3_order_8 rfl ?_
      refine e_iload_n dX3_order_9 rfl ?_
      refine e_icmp_ne (tgt := 17) dX3_order_10 (by decide) (fun c1 => ?_) (fun c1 => ?_)
      · have hne : i ≠ j := fun q => c1 (by rw [q])
        refine e_iload_n dX3_order_17 rfl ?_
        refine e_if_ne (tgt := 25) dX3_order_18 (by decide) (fun c2 => ?_) (fun c2 => ?_)
        · have hi0 : i ≠ 0 := fun q => c2 (by rw [q]; rfl)
          refine e_iconst (v := 1) dX3_order_25 (by decide) ?_
          refine e_iret dX3_order_26 rfl rfl ⟨?_, rfl⟩
          have hj0 : j = 0 := by omega
          unfold rk
          rw [if_neg hi0, if_pos hj0, c3_gt (by omega)]
        · have hi0 : i = 0 := (nI_eq (by omega) (by omega)).mp c2
          refine e_iconst (v := (-1)) dX3_order_21 (by decide) ?_
          refine e_goto (tgt := 26) dX3_order_22 (by decide) ?_
          refine e_iret dX3_order_26 rfl rfl ⟨?_, rfl⟩
          unfold rk
          rw [if_pos hi0, if_neg (by omega), c3_lt (by omega)]
      · have e : i = j := (nI_eq (by omega) (by omega)).mp c1
        refine e_iconst (v := 0) dX3_order_13 (by decide) ?_
        refine e_goto (tgt := 26) dX3_order_14 (by decide) ?_
        refine e_iret dX3_order_26 rfl rfl ⟨?_, rfl⟩
        rw [e, c3_rf]
    refine e_iload_n dX3_order_0 rfl ?_
    refine e_if_eq (tgt := 8) dX3_order_1 (by decide) (fun c0 => ?_) (fun c0 => ?_)
    · exact go
    · refine e_iload_n dX3_order_4 rfl ?_
      refine e_if_ne (tgt := 27) dX3_order_5 (by decide) (fun c => ?_) (fun _ => go)
      rcases hz with q | q
      · exact absurd (by rw [q]; rfl) c0
      · exact absurd (by rw [q]; rfl) c
  · have hi0 : i ≠ 0 := fun q => hz (Or.inl q)
    have hj0 : j ≠ 0 := fun q => hz (Or.inr q)
    have hr : c3 (rk kv i) (rk kv j) = c3 (od (kv i)) (od (kv j)) := by
      unfold rk
      rw [if_neg hi0, if_neg hj0, ← c3_sh _ _ 1]
      congr 1 <;> omega
    rw [hr, od_c3]
    refine e_iload_n dX3_order_0 rfl ?_
    refine e_if_eq (tgt := 8) dX3_order_1 (by decide) (fun c => absurd ((nI_eq (a := i) (b := 0) (by omega) (by omega)).mp c) hi0) (fun _ => ?_)
    refine e_iload_n dX3_order_4 rfl ?_
    refine e_if_ne (tgt := 27) dX3_order_5 (by decide) (fun _ => ?_) (fun c => absurd ((nI_eq (a := j) (b := 0) (by omega) (by omega)).mp c) hj0)
    refine e_aload_n dX3_order_27 rfl ?_
    refine e_get dX3_order_28 fX3_7 m0 rfl ?_
    refine e_iload_n dX3_order_31 rfl ?_
    refine e_lald dX3_order_32 m1 rfl rfl (af_get _ hi) ?_
    refine e_aload_n dX3_order_33 rfl ?_
    refine e_get dX3_order_34 fX3_7 m0 rfl ?_
    refine e_iload_n dX3_order_37 rfl ?_
    refine e_lald dX3_order_38 m1 rfl rfl (af_get _ hj) ?_
    refine e_S2d dX3_order_39 gX3_61 (by omega) (Nat.le_of_ble_eq_true rfl) rfl rfl (con_unsigned d h _ _) ?_
    refine e_istore_n dX3_order_42 (by decide) rfl ?_
    refine e_iload_n dX3_order_43 rfl ?_
    refine e_if_ne (tgt := 63) dX3_order_44 (by decide) (fun c1 => ?_) (fun c1 => ?_)
    · refine e_iload_n dX3_order_63 rfl ?_
      refine e_if_ne (tgt := 83) dX3_order_64 (by decide) (fun _ => ?_) (fun c => absurd c c1)
      refine e_iload_n dX3_order_83 rfl ?_
      refine e_if_ne (tgt := 103) dX3_order_84 (by decide) (fun _ => ?_) (fun c => absurd c c1)
      refine e_iload_n dX3_order_103 rfl ?_
      refine e_if_ne (tgt := 147) dX3_order_104 (by decide) (fun _ => ?_) (fun c => absurd c c1)
      refine e_iload_n dX3_order_147 rfl ?_
      refine e_iret dX3_order_148 rfl rfl ⟨?_, rfl⟩
      rw [if_neg c1]
    · rw [if_pos c1]
      refine e_aload_n dX3_order_47 rfl ?_
      refine e_get dX3_order_48 fX3_13 m0 rfl ?_
      refine e_iload_n dX3_order_51 rfl ?_
      refine e_lald dX3_order_52 m2 rfl rfl (af_get _ hi) ?_
      refine e_aload_n dX3_order_53 rfl ?_
      refine e_get dX3_order_54 fX3_13 m0 rfl ?_
      refine e_iload_n dX3_order_57 rfl ?_
      refine e_lald dX3_order_58 m2 rfl rfl (af_get _ hj) ?_
      refine e_S2d dX3_order_59 gX3_61 (by omega) (Nat.le_of_ble_eq_true rfl) rfl rfl (con_unsigned d h _ _) ?_
      refine e_istore_n dX3_order_62 (by decide) rfl ?_
      refine e_iload_n dX3_order_63 rfl ?_
      refine e_if_ne (tgt := 83) dX3_order_64 (by decide) (fun c2 => ?_) (fun c2 => ?_)
      · refine e_iload_n dX3_order_83 rfl ?_
        refine e_if_ne (tgt := 103) dX3_order_84 (by decide) (fun _ => ?_) (fun c => absurd c c2)
        refine e_iload_n dX3_order_103 rfl ?_
        refine e_if_ne (tgt := 147) dX3_order_104 (by decide) (fun _ => ?_) (fun c => absurd c c2)
        refine e_iload_n dX3_order_147 rfl ?_
        refine e_iret dX3_order_148 rfl rfl ⟨?_, rfl⟩
        rw [if_neg c2]
      · rw [if_pos c2]
        refine e_aload_n dX3_order_67 rfl ?_
        refine e_get dX3_order_68 fX3_16 m0 rfl ?_
        refine e_iload_n dX3_order_71 rfl ?_
        refine e_lald dX3_order_72 m3 rfl rfl (af_get _ hi) ?_
        refine e_aload_n dX3_order_73 rfl ?_
        refine e_get dX3_order_74 fX3_16 m0 rfl ?_
        refine e_iload_n dX3_order_77 rfl ?_
        refine e_lald dX3_order_78 m3 rfl rfl (af_get _ hj) ?_
        refine e_S2d dX3_order_79 gX3_61 (by omega) (Nat.le_of_ble_eq_true rfl) rfl rfl (con_unsigned d h _ _) ?_
        refine e_istore_n dX3_order_82 (by decide) rfl ?_
        refine e_iload_n dX3_order_83 rfl ?_
        refine e_if_ne (tgt := 103) dX3_order_84 (by decide) (fun c5 => ?_) (fun c5 => ?_)
        · refine e_iload_n dX3_order_103 rfl ?_
          refine e_if_ne (tgt := 147) dX3_order_104 (by decide) (fun _ => ?_) (fun c => absurd c c5)
          refine e_iload_n dX3_order_147 rfl ?_
          refine e_iret dX3_order_148 rfl rfl ⟨?_, rfl⟩
          rw [if_neg c5]
        · rw [if_pos c5]
          refine e_aload_n dX3_order_87 rfl ?_
          refine e_get dX3_order_88 fX3_19 m0 rfl ?_
          refine e_iload_n dX3_order_91 rfl ?_
          refine e_lald dX3_order_92 m4 rfl rfl (af_get _ hi) ?_
          refine e_aload_n dX3_order_93 rfl ?_
          refine e_get dX3_order_94 fX3_19 m0 rfl ?_
          refine e_iload_n dX3_order_97 rfl ?_
          refine e_lald dX3_order_98 m4 rfl rfl (af_get _ hj) ?_
          refine e_S2d dX3_order_99 gX3_61 (by omega) (Nat.le_of_ble_eq_true rfl) rfl rfl (con_unsigned d h _ _) ?_
          refine e_istore_n dX3_order_102 (by decide) rfl ?_
          refine e_iload_n dX3_order_103 rfl ?_
          refine e_if_ne (tgt := 147) dX3_order_104 (by decide) (fun c4 => ?_) (fun c4 => ?_)
          · refine e_iload_n dX3_order_147 rfl ?_
            refine e_iret dX3_order_148 rfl rfl ⟨?_, rfl⟩
            rw [if_neg c4]
          · rw [if_pos c4]
            refine e_aload_n dX3_order_107 rfl ?_
            refine e_get dX3_order_108 fX3_22 m0 rfl ?_
            refine e_iload_n dX3_order_111 rfl ?_
            refine e_iald dX3_order_112 m5 rfl rfl (af_get _ hi) ?_
            refine e_aload_n dX3_order_113 rfl ?_
            refine e_get dX3_order_114 fX3_22 m0 rfl ?_
            refine e_iload_n dX3_order_117 rfl ?_
            refine e_iald dX3_order_118 m5 rfl rfl (af_get _ hj) ?_
            refine e_icmp_ne (tgt := 126) dX3_order_119 (by decide) (fun c6 => ?_) (fun c6 => ?_)
            · refine e_aload_n dX3_order_126 rfl ?_
              refine e_get dX3_order_127 fX3_22 m0 rfl ?_
              refine e_iload_n dX3_order_130 rfl ?_
              refine e_iald dX3_order_131 m5 rfl rfl (af_get _ hi) ?_
              refine e_aload_n dX3_order_132 rfl ?_
              refine e_get dX3_order_133 fX3_22 m0 rfl ?_
              refine e_iload_n dX3_order_136 rfl ?_
              refine e_iald dX3_order_137 m5 rfl rfl (af_get _ hj) ?_
              refine e_icmp_ge (tgt := 145) dX3_order_138 (by decide) (fun c7 => ?_) (fun c7 => ?_)
              · refine e_iconst (v := 1) dX3_order_145 (by decide) ?_
                refine e_istore_n dX3_order_146 (by decide) rfl ?_
                refine e_iload_n dX3_order_147 rfl ?_
                refine e_iret dX3_order_148 rfl rfl ⟨?_, rfl⟩
                have g1 : (kv j).2.2.2.2.toInt ≤ (kv i).2.2.2.2.toInt := Int32.le_iff_toInt_le.mp c7
                have g2 : ¬ (kv i).2.2.2.2.toInt = (kv j).2.2.2.2.toInt := fun q => c6 (Int32.toInt_inj.mp q)
                rw [c3_gt (by omega)]
              · refine e_iconst (v := (-1)) dX3_order_141 (by decide) ?_
                refine e_goto (tgt := 146) dX3_order_142 (by decide) ?_
                refine e_istore_n dX3_order_146 (by decide) rfl ?_
                refine e_iload_n dX3_order_147 rfl ?_
                refine e_iret dX3_order_148 rfl rfl ⟨?_, rfl⟩
                have g1 : ¬ (kv j).2.2.2.2.toInt ≤ (kv i).2.2.2.2.toInt := fun q => c7 (Int32.le_iff_toInt_le.mpr q)
                rw [c3_lt (by omega)]
            · refine e_iconst (v := 0) dX3_order_122 (by decide) ?_
              refine e_goto (tgt := 146) dX3_order_123 (by decide) ?_
              refine e_istore_n dX3_order_146 (by decide) rfl ?_
              refine e_iload_n dX3_order_147 rfl ?_
              refine e_iret dX3_order_148 rfl rfl ⟨?_, rfl⟩
              have c6 : (kv i).2.2.2.2 = (kv j).2.2.2.2 := c6
              rw [c6, c3_rf]
end
section
/-! the reference: what only reads -/
def mB (it il lw ll : Nat → Nat) (ni nl : Nat) : Prop := ni ≤ 600 ∧ nl ≤ 60 ∧ (∀ i, i < ni → it i < 513 ∧ il i < 64) ∧ (∀ p, p < nl → lw p < 513 ∧ ll p < 64)
def isC (kv : Nat → xE) (lw ll : Nat → Nat) (nl level num p : Nat) : Prop := p < nl ∧ ll p = level ∧ rk kv (lw p) ≤ rk kv num ∧ ∀ q, q < nl → ll q = level → rk kv (lw q) ≤ rk kv num → q ≠ p → rk kv (lw q) < rk kv (lw p)
theorem nI_c {a b : Nat} (ha : a < 2000) (hb : b < 2000) : nI a = nI b ↔ a = b := nI_eq (by omega) (by omega)
theorem ic_lo (d : Nat) (h : xH) (m level num p0 : Nat) {kv : Nat → xE} {it il lw ll : Nat → Nat} {ow : Nat → Bool} {cm : Nat → Nat} {ks ni nl lv tk : Nat} {se lf : Int32} {ub : Bool} {sd : Int32} {ck : Nat} {cb : Bool} {hn : Nat} (hm : x_mm h m (kv, it, il, lw, ll, ow, cm) (ks, ni, nl, lv, tk, se, lf, ub, sd, ck, cb, hn)) (hB : mB it il lw ll ni nl) (hnum : num < 513) (hlev : level < 64) (hC : isC kv lw ll nl level num p0) :
    ∀ (k p : Nat) (x b : Int32), x = nI p → p + k = nl → (p0 < p → b = nI p0) → (¬ p0 < p → b = -1 ∨ ∃ q, q < p ∧ b = nI q ∧ ll q = level ∧ rk kv (lw q) ≤ rk kv num) →
    x_E mX3_inCharge (d + 2) 0 0 5 [(4, .int x), (3, .int b), (0, .ref m), (1, .int (nI level)), (2, .int (nI num))] [] h (fun rv h' => rv = [.int (nI p0)] ∧ h' = h) := by
  obtain ⟨c1, c2, c3', c4⟩ := hC
  have hm' := hm
  obtain ⟨m0, m1, m2, m3, m4, m5, m6, m7, m8, m9, m10, m11⟩ := hm
  obtain ⟨b1, b2, b3, b4⟩ := hB
  intro k
  induction k with
  | zero =>
    intro p x b hx hp i1 i2
    refine e_iload dX3_inCharge_5 rfl ?_
    refine e_aload_n dX3_inCharge_7 rfl ?_
    refine e_get dX3_inCharge_8 fX3_65 m0 rfl ?_
    refine e_icmp_ge (tgt := 73) dX3_inCharge_11 (by decide) (fun _ => ?_) (fun c => absurd (by rw [hx]; exact nI_le (by omega) (by omega)) c)
    refine e_iload_n dX3_inCharge_73 rfl ?_
    exact e_iret dX3_inCharge_74 rfl rfl ⟨by rw [i1 (by omega)], rfl⟩
  | succ k ih =>
    intro p x b hx hp i1 i2
    obtain ⟨g1, g2⟩ := b4 p (by omega)
    have nxt : ∀ b', (p0 < p + 1 → b' = nI p0) → (¬ p0 < p + 1 → b' = -1 ∨ ∃ q, q < p + 1 ∧ b' = nI q ∧ ll q = level ∧ rk kv (lw q) ≤ rk kv num) → x_E mX3_inCharge (d + 2) 0 0 67 [(4, .int x), (3, .int b'), (0, .ref m), (1, .int (nI level)), (2, .int (nI num))] [] h (fun rv h' => rv = [.int (nI p0)] ∧ h' = h) := by
      intro b' j1 j2
      refine e_iinc dX3_inCharge_67 rfl rfl (by decide) rfl ?_
      refine e_goto (tgt := 5) dX3_inCharge_70 (by decide) ?_
      exact e_loc [4, 3, 0, 1, 2] rfl (ih (p + 1) _ b' (by rw [hx]; exact nI_1 p) (by omega) j1 j2)
    have keep : ¬ (ll p = level ∧ rk kv (lw p) ≤ rk kv num) → x_E mX3_inCharge (d + 2) 0 0 67 [(4, .int x), (3, .int b), (0, .ref m), (1, .int (nI level)), (2, .int (nI num))] [] h (fun rv h' => rv = [.int (nI p0)] ∧ h' = h) := by
      intro hn
      refine nxt b (fun q => i1 ?_) (fun q => ?_)
      · have : p ≠ p0 := fun e => hn (by rw [e]; exact ⟨c2, c3'⟩)
        omega
      · rcases i2 (by omega) with r | ⟨r, r1, r2⟩
        · exact Or.inl r
        · exact Or.inr ⟨r, by omega, r2⟩
    refine e_iload dX3_inCharge_5 rfl ?_
    refine e_aload_n dX3_inCharge_7 rfl ?_
    refine e_get dX3_inCharge_8 fX3_65 m0 rfl ?_
    refine e_icmp_ge (tgt := 73) dX3_inCharge_11 (by decide) (fun c => absurd c (by rw [hx]; exact nI_ge (by omega) (by omega))) (fun _ => ?_)
    refine e_aload_n dX3_inCharge_14 rfl ?_
    refine e_get dX3_inCharge_15 fX3_39 m0 rfl ?_
    refine e_iload dX3_inCharge_18 rfl ?_
    refine e_iald dX3_inCharge_20 m9 rfl hx (af_get _ (show p < 60 by omega)) ?_
    refine e_iload_n dX3_inCharge_21 rfl ?_
    refine e_icmp_ne (tgt := 67) dX3_inCharge_22 (by decide) (fun d1 => ?_) (fun d1 => ?_)
    · exact e_loc [4, 3, 0, 1, 2] rfl (keep (fun q => d1 (by rw [q.1])))
    have e1 : ll p = level := (nI_c (by omega) (by omega)).mp d1
    refine e_aload_n dX3_inCharge_25 rfl ?_
    refine e_aload_n dX3_inCharge_26 rfl ?_
    refine e_get dX3_inCharge_27 fX3_36 m0 rfl ?_
    refine e_iload dX3_inCharge_30 rfl ?_
    refine e_iald dX3_inCharge_32 m8 rfl hx (af_get _ (show p < 60 by omega)) ?_
    refine e_iload_n dX3_inCharge_33 rfl ?_
    refine e_V2d dX3_inCharge_34 gX3_68 m0 rfl (by omega) (Nat.le_of_ble_eq_true rfl) rfl rfl (con_order d h m (lw p) num hm' g1 hnum) ?_
    refine e_if_gt (tgt := 67) dX3_inCharge_37 (by decide) (fun d2 => ?_) (fun d2 => ?_)
    · have := c3_p.mp d2
      exact e_loc [4, 3, 0, 1, 2] rfl (keep (fun q => by omega))
    have e2 : rk kv (lw p) ≤ rk kv num := by
      rcases Nat.lt_or_ge (rk kv num) (rk kv (lw p)) with q | q
      · exact absurd (c3_p.mpr (by omega)) d2
      · exact q
    have take : (p0 < p → False) → x_E mX3_inCharge (d + 2) 0 0 64 [(4, .int x), (3, .int b), (0, .ref m), (1, .int (nI level)), (2, .int (nI num))] [] h (fun rv h' => rv = [.int (nI p0)] ∧ h' = h) := by
      intro hn
      refine e_iload dX3_inCharge_64 rfl ?_
      refine e_istore_n dX3_inCharge_66 (by decide) rfl ?_
      refine e_loc [4, 3, 0, 1, 2] rfl (nxt x (fun q => ?_) (fun q => Or.inr ⟨p, by omega, hx, e1, e2⟩))
      have : p = p0 := by
        rcases Nat.lt_or_ge p0 p with r | r
        · exact absurd r hn
        · omega
      rw [hx, this]
    refine e_iload_n dX3_inCharge_40 rfl ?_
    refine e_if_lt (tgt := 64) dX3_inCharge_41 (by decide) (fun d3 => ?_) (fun d3 => ?_)
    · refine e_loc [4, 3, 0, 1, 2] rfl (take (fun q => ?_))
      rw [i1 q] at d3
      exact absurd d3 (nI_pos (by omega))
    · by_cases hq : p0 < p
      · have hb : b = nI p0 := i1 hq
        refine e_aload_n dX3_inCharge_44 rfl ?_
        refine e_aload_n dX3_inCharge_45 rfl ?_
        refine e_get dX3_inCharge_46 fX3_36 m0 rfl ?_
        refine e_iload dX3_inCharge_49 rfl ?_
        refine e_iald dX3_inCharge_51 m8 rfl hx (af_get _ (show p < 60 by omega)) ?_
        refine e_aload_n dX3_inCharge_52 rfl ?_
        refine e_get dX3_inCharge_53 fX3_36 m0 rfl ?_
        refine e_iload_n dX3_inCharge_56 rfl ?_
        refine e_iald dX3_inCharge_57 m8 rfl hb (af_get _ (show p0 < 60 by omega)) ?_
        refine e_V2d dX3_inCharge_58 gX3_68 m0 rfl (by omega) (Nat.le_of_ble_eq_true rfl) rfl rfl (con_order d h m (lw p) (lw p0) hm' g1 (b4 p0 c1).1) ?_
        have := c4 p (by omega) e1 e2 (by omega)
        refine e_if_le (tgt := 67) dX3_inCharge_61 (by decide) (fun _ => ?_) (fun c => ?_)
        · exact e_loc [4, 3, 0, 1, 2] rfl (nxt b (fun _ => hb) (fun q => absurd q (by omega)))
        · refine absurd ?_ c
          rw [c3_lt (by omega)]
          decide
      · rcases i2 hq with r | ⟨r, r1, r2, r3, r4⟩
        · exact absurd (by rw [r]; decide) d3
        · refine e_aload_n dX3_inCharge_44 rfl ?_
          refine e_aload_n dX3_inCharge_45 rfl ?_
          refine e_get dX3_inCharge_46 fX3_36 m0 rfl ?_
          refine e_iload dX3_inCharge_49 rfl ?_
          refine e_iald dX3_inCharge_51 m8 rfl hx (af_get _ (show p < 60 by omega)) ?_
          refine e_aload_n dX3_inCharge_52 rfl ?_
          refine e_get dX3_inCharge_53 fX3_36 m0 rfl ?_
          refine e_iload_n dX3_inCharge_56 rfl ?_
          refine e_iald dX3_inCharge_57 m8 rfl r2 (af_get _ (show r < 60 by omega)) ?_
          refine e_V2d dX3_inCharge_58 gX3_68 m0 rfl (by omega) (Nat.le_of_ble_eq_true rfl) rfl rfl (con_order d h m (lw p) (lw r) hm' g1 (b4 r (by omega)).1) ?_
          refine e_if_le (tgt := 67) dX3_inCharge_61 (by decide) (fun c => ?_) (fun _ => ?_)
          · refine e_loc [4, 3, 0, 1, 2] rfl (nxt b (fun q => ?_) (fun q => Or.inr ⟨r, by omega, r2, r3, r4⟩))
            have hpp : p = p0 := by omega
            have := c4 r (by omega) r3 r4 (by omega)
            rw [hpp, c3_gt (by omega)] at c
            exact absurd c (by decide)
          · exact e_loc [4, 3, 0, 1, 2] rfl (take hq)
theorem con_inCharge (d : Nat) (h : xH) (m level num p0 : Nat) {kv : Nat → xE} {it il lw ll : Nat → Nat} {ow : Nat → Bool} {cm : Nat → Nat} {ks ni nl lv tk : Nat} {se lf : Int32} {ub : Bool} {sd : Int32} {ck : Nat} {cb : Bool} {hn : Nat} (hm : x_mm h m (kv, it, il, lw, ll, ow, cm) (ks, ni, nl, lv, tk, se, lf, ub, sd, ck, cb, hn)) (hB : mB it il lw ll ni nl) (hnum : num < 513) (hlev : level < 64) (hC : isC kv lw ll nl level num p0) : x_D mX3_inCharge (d + 2) 0 0 [.ref m, .int (nI level), .int (nI num)] h [.int (nI p0)] h := by
  refine e_enter (by decide) (Nat.le_of_ble_eq_true rfl) ?_
  refine e_iconst (v := (-1)) dX3_inCharge_0 (by decide) ?_
  refine e_istore_n dX3_inCharge_1 (by decide) rfl ?_
  refine e_iconst (v := 0) dX3_inCharge_2 (by decide) ?_
  refine e_istore dX3_inCharge_3 (by decide) rfl ?_
  exact e_loc [4, 3, 0, 1, 2] rfl (ic_lo d h m level num p0 hm hB hnum hlev hC nl 0 0 (-1) rfl (by omega) (fun q => absurd q (by omega)) (fun _ => Or.inl rfl))
/-- how many below n -/
def cT (P : Nat → Bool) : Nat → Nat
  | 0 => 0
  | n + 1 => cT P n + (if P n then 1 else 0)
theorem cT_le (P : Nat → Bool) (n : Nat) : cT P n ≤ n := by
  induction n with
  | zero => exact Nat.le_refl _
  | succ n ih => unfold cT; split <;> omega
theorem cT_cg {P P' : Nat → Bool} {n : Nat} (h : ∀ i, i < n → P i = P' i) : cT P n = cT P' n := by
  induction n with
  | zero => rfl
  | succ n ih => unfold cT; rw [ih (fun i hi => h i (by omega)), h n (by omega)]
theorem cT_s (P : Nat → Bool) {i : Nat} {x : Int32} (hx : x = nI (cT P i)) (hp : P i = true) : x + 1 = nI (cT P (i + 1)) := by
  rw [hx, show cT P (i + 1) = cT P i + 1 by simp [cT, hp]]; exact nI_1 _
theorem cT_n (P : Nat → Bool) {i : Nat} {x : Int32} (hx : x = nI (cT P i)) (hp : ¬ P i = true) : x = nI (cT P (i + 1)) := by
  rw [hx, show cT P (i + 1) = cT P i by simp [cT, hp]]
/-- the item i is of the page's level, and the page is in charge of it -/
def inP (il ic : Nat → Nat) (lvl page : Nat) (i : Nat) : Bool := decide (il i = lvl) && decide (ic i = page)
theorem fi_lo (d : Nat) (h : xH) (m page : Nat) (ic : Nat → Nat) {kv : Nat → xE} {it il lw ll : Nat → Nat} {ow : Nat → Bool} {cm : Nat → Nat} {ks ni nl lv tk : Nat} {se lf : Int32} {ub : Bool} {sd : Int32} {ck : Nat} {cb : Bool} {hn : Nat} (hm : x_mm h m (kv, it, il, lw, ll, ow, cm) (ks, ni, nl, lv, tk, se, lf, ub, sd, ck, cb, hn)) (hB : mB it il lw ll ni nl) (hpg : page < nl) (hic : ∀ i, i < ni → il i = ll page → isC kv lw ll nl (ll page) (it i) (ic i)) :
    ∀ (k i : Nat) (x n : Int32), x = nI i → i + k = ni → n = nI (cT (inP il ic (ll page) page) i) →
    x_E mX3_filled (d + 3) 0 0 4 [(3, .int x), (2, .int n), (0, .ref m), (1, .int (nI page))] [] h (fun rv h' => rv = [.int (nI (cT (inP il ic (ll page) page) ni))] ∧ h' = h) := by
  have hm' := hm
  have hB' := hB
  obtain ⟨m0, m1, m2, m3, m4, m5, m6, m7, m8, m9, m10, m11⟩ := hm
  obtain ⟨b1, b2, b3, b4⟩ := hB
  intro k
  induction k with
  | zero =>
    intro i x n hx hi hn
    refine e_iload_n dX3_filled_4 rfl ?_
    refine e_aload_n dX3_filled_5 rfl ?_
    refine e_get dX3_filled_6 fX3_72 m0 rfl ?_
    refine e_icmp_ge (tgt := 56) dX3_filled_9 (by decide) (fun _ => ?_) (fun c => absurd (by rw [hx]; exact nI_le (by omega) (by omega)) c)
    refine e_iload_n dX3_filled_56 rfl ?_
    exact e_iret dX3_filled_57 rfl rfl ⟨by rw [hn, show i = ni by omega], rfl⟩
  | succ k ih =>
    intro i x n hx hi hn
    obtain ⟨g1, g2⟩ := b3 i (by omega)
    obtain ⟨g3, g4⟩ := b4 page hpg
    have nxt : ∀ n', n' = nI (cT (inP il ic (ll page) page) (i + 1)) → x_E mX3_filled (d + 3) 0 0 50 [(3, .int x), (2, .int n'), (0, .ref m), (1, .int (nI page))] [] h (fun rv h' => rv = [.int (nI (cT (inP il ic (ll page) page) ni))] ∧ h' = h) := by
      intro n' hn'
      refine e_iinc dX3_filled_50 rfl rfl (by decide) rfl ?_
      refine e_goto (tgt := 4) dX3_filled_53 (by decide) ?_
      exact e_loc [3, 2, 0, 1] rfl (ih (i + 1) _ n' (by rw [hx]; exact nI_1 i) (by omega) hn')
    refine e_iload_n dX3_filled_4 rfl ?_
    refine e_aload_n dX3_filled_5 rfl ?_
    refine e_get dX3_filled_6 fX3_72 m0 rfl ?_
    refine e_icmp_ge (tgt := 56) dX3_filled_9 (by decide) (fun c => absurd c (by rw [hx]; exact nI_ge (by omega) (by omega))) (fun _ => ?_)
    refine e_aload_n dX3_filled_12 rfl ?_
    refine e_get dX3_filled_13 fX3_33 m0 rfl ?_
    refine e_iload_n dX3_filled_16 rfl ?_
    refine e_iald dX3_filled_17 m7 rfl hx (af_get _ (show i < 600 by omega)) ?_
    refine e_aload_n dX3_filled_18 rfl ?_
    refine e_get dX3_filled_19 fX3_39 m0 rfl ?_
    refine e_iload_n dX3_filled_22 rfl ?_
    refine e_iald dX3_filled_23 m9 rfl rfl (af_get _ (show page < 60 by omega)) ?_
    refine e_icmp_ne (tgt := 50) dX3_filled_24 (by decide) (fun d1 => ?_) (fun d1 => ?_)
    · refine e_loc [3, 2, 0, 1] rfl (nxt n (cT_n _ hn ?_))
      have : ¬ il i = ll page := fun q => d1 (by rw [q])
      simp [inP, this]
    have e1 : il i = ll page := (nI_c (by omega) (by omega)).mp d1
    have hC := hic i (by omega) e1
    refine e_aload_n dX3_filled_27 rfl ?_
    refine e_aload_n dX3_filled_28 rfl ?_
    refine e_get dX3_filled_29 fX3_33 m0 rfl ?_
    refine e_iload_n dX3_filled_32 rfl ?_
    refine e_iald dX3_filled_33 m7 rfl hx (af_get _ (show i < 600 by omega)) ?_
    refine e_aload_n dX3_filled_34 rfl ?_
    refine e_get dX3_filled_35 fX3_30 m0 rfl ?_
    refine e_iload_n dX3_filled_38 rfl ?_
    refine e_iald dX3_filled_39 m6 rfl hx (af_get _ (show i < 600 by omega)) ?_
    rw [e1]
    refine e_V2d dX3_filled_40 gX3_75 m0 rfl (by omega) (Nat.le_of_ble_eq_true rfl) rfl rfl (con_inCharge d h m (ll page) (it i) (ic i) hm' hB' g1 g4 hC) ?_
    have hcp := hC.1
    refine e_iload_n dX3_filled_43 rfl ?_
    refine e_icmp_ne (tgt := 50) dX3_filled_44 (by decide) (fun d2 => ?_) (fun d2 => ?_)
    · refine e_loc [3, 2, 0, 1] rfl (nxt n (cT_n _ hn ?_))
      have : ¬ ic i = page := fun q => d2 (by rw [q])
      simp [inP, this]
    · have e2 : ic i = page := (nI_c (by omega) (by omega)).mp d2
      refine e_iinc dX3_filled_47 rfl rfl (by decide) rfl ?_
      exact e_loc [3, 2, 0, 1] rfl (nxt _ (cT_s _ hn (by simp [inP, e1, e2])))
theorem con_filled (d : Nat) (h : xH) (m page : Nat) (ic : Nat → Nat) {kv : Nat → xE} {it il lw ll : Nat → Nat} {ow : Nat → Bool} {cm : Nat → Nat} {ks ni nl lv tk : Nat} {se lf : Int32} {ub : Bool} {sd : Int32} {ck : Nat} {cb : Bool} {hn : Nat} (hm : x_mm h m (kv, it, il, lw, ll, ow, cm) (ks, ni, nl, lv, tk, se, lf, ub, sd, ck, cb, hn)) (hB : mB it il lw ll ni nl) (hpg : page < nl) (hic : ∀ i, i < ni → il i = ll page → isC kv lw ll nl (ll page) (it i) (ic i)) : x_D mX3_filled (d + 3) 0 0 [.ref m, .int (nI page)] h [.int (nI (cT (inP il ic (ll page) page) ni))] h := by
  refine e_enter (by decide) (Nat.le_of_ble_eq_true rfl) ?_
  refine e_iconst (v := 0) dX3_filled_0 (by decide) ?_
  refine e_istore_n dX3_filled_1 (by decide) rfl ?_
  refine e_iconst (v := 0) dX3_filled_2 (by decide) ?_
  refine e_istore_n dX3_filled_3 (by decide) rfl ?_
  exact e_loc [3, 2, 0, 1] rfl (fi_lo d h m page ic hm hB hpg hic ni 0 0 0 rfl (by omega) rfl)
/-- the item j of the page stands before the item i -/
def inL (kv : Nat → xE) (it il ic : Nat → Nat) (lvl page i : Nat) (j : Nat) : Bool := inP il ic lvl page j && decide (rk kv (it j) < rk kv (it i))
theorem sx_in (d : Nat) (h : xH) (m page i : Nat) (ic : Nat → Nat) {kv : Nat → xE} {it il lw ll : Nat → Nat} {ow : Nat → Bool} {cm : Nat → Nat} {ks ni nl lv tk : Nat} {se lf : Int32} {ub : Bool} {sd : Int32} {ck : Nat} {cb : Bool} {hn : Nat} (hm : x_mm h m (kv, it, il, lw, ll, ow, cm) (ks, ni, nl, lv, tk, se, lf, ub, sd, ck, cb, hn)) (hB : mB it il lw ll ni nl) (hpg : page < nl) (hic : ∀ i, i < ni → il i = ll page → isC kv lw ll nl (ll page) (it i) (ic i)) (hi : i < ni) (hil : il i = ll page) (Q : List Value → xH → Prop)
    (fin : ∀ l, x_lk l 0 = some (.ref m) → x_lk l 1 = some (.int (nI page)) → x_lk l 2 = some (.int (nI i)) → x_lk l 3 = some (.int (nI (cT (inL kv it il ic (ll page) page i) ni))) → x_E mX3_sixth (d + 3) 0 0 126 l [] h Q) :
    ∀ (k j : Nat) (x n : Int32), x = nI j → j + k = ni → n = nI (cT (inL kv it il ic (ll page) page i) j) →
    x_E mX3_sixth (d + 3) 0 0 50 [(4, .int x), (3, .int n), (2, .int (nI i)), (0, .ref m), (1, .int (nI page))] [] h Q := by
  have hm' := hm
  have hB' := hB
  obtain ⟨m0, m1, m2, m3, m4, m5, m6, m7, m8, m9, m10, m11⟩ := hm
  obtain ⟨b1, b2, b3, b4⟩ := hB
  intro k
  induction k with
  | zero =>
    intro j x n hx hj hn
    refine e_iload dX3_sixth_50 rfl ?_
    refine e_aload_n dX3_sixth_52 rfl ?_
    refine e_get dX3_sixth_53 fX3_72 m0 rfl ?_
    refine e_icmp_ge (tgt := 126) dX3_sixth_56 (by decide) (fun _ => ?_) (fun c => absurd (by rw [hx]; exact nI_le (by omega) (by omega)) c)
    refine fin _ rfl rfl rfl ?_
    rw [hn, show j = ni by omega]
    rfl
  | succ k ih =>
    intro j x n hx hj hn
    obtain ⟨g1, g2⟩ := b3 j (by omega)
    obtain ⟨g3, g4⟩ := b4 page hpg
    obtain ⟨g5, g6⟩ := b3 i hi
    have nxt : ∀ n', n' = nI (cT (inL kv it il ic (ll page) page i) (j + 1)) → x_E mX3_sixth (d + 3) 0 0 120 [(4, .int x), (3, .int n'), (2, .int (nI i)), (0, .ref m), (1, .int (nI page))] [] h Q := by
      intro n' hn'
      refine e_iinc dX3_sixth_120 rfl rfl (by decide) rfl ?_
      refine e_goto (tgt := 50) dX3_sixth_123 (by decide) ?_
      exact e_loc [4, 3, 2, 0, 1] rfl (ih (j + 1) _ n' (by rw [hx]; exact nI_1 j) (by omega) hn')
    refine e_iload dX3_sixth_50 rfl ?_
    refine e_aload_n dX3_sixth_52 rfl ?_
    refine e_get dX3_sixth_53 fX3_72 m0 rfl ?_
    refine e_icmp_ge (tgt := 126) dX3_sixth_56 (by decide) (fun c => absurd c (by rw [hx]; exact nI_ge (by omega) (by omega))) (fun _ => ?_)
    refine e_aload_n dX3_sixth_59 rfl ?_
    refine e_get dX3_sixth_60 fX3_33 m0 rfl ?_
    refine e_iload dX3_sixth_63 rfl ?_
    refine e_iald dX3_sixth_65 m7 rfl hx (af_get _ (show j < 600 by omega)) ?_
    refine e_aload_n dX3_sixth_66 rfl ?_
    refine e_get dX3_sixth_67 fX3_33 m0 rfl ?_
    refine e_iload_n dX3_sixth_70 rfl ?_
    refine e_iald dX3_sixth_71 m7 rfl rfl (af_get _ (show i < 600 by omega)) ?_
    refine e_icmp_ne (tgt := 120) dX3_sixth_72 (by decide) (fun d1 => ?_) (fun d1 => ?_)
    · refine e_loc [4, 3, 2, 0, 1] rfl (nxt n (cT_n _ hn ?_))
      have : ¬ il j = ll page := fun q => d1 (by rw [q, hil])
      simp [inL, inP, this]
    have e1 : il j = ll page := hil ▸ (nI_c (by omega) (by omega)).mp d1
    have hC := hic j (by omega) e1
    refine e_aload_n dX3_sixth_75 rfl ?_
    refine e_aload_n dX3_sixth_76 rfl ?_
    refine e_get dX3_sixth_77 fX3_33 m0 rfl ?_
    refine e_iload dX3_sixth_80 rfl ?_
    refine e_iald dX3_sixth_82 m7 rfl hx (af_get _ (show j < 600 by omega)) ?_
    refine e_aload_n dX3_sixth_83 rfl ?_
    refine e_get dX3_sixth_84 fX3_30 m0 rfl ?_
    refine e_iload dX3_sixth_87 rfl ?_
    refine e_iald dX3_sixth_89 m6 rfl hx (af_get _ (show j < 600 by omega)) ?_
    rw [e1]
    refine e_V2d dX3_sixth_90 gX3_75 m0 rfl (by omega) (Nat.le_of_ble_eq_true rfl) rfl rfl (con_inCharge d h m (ll page) (it j) (ic j) hm' hB' g1 g4 hC) ?_
    have hcp := hC.1
    refine e_iload_n dX3_sixth_93 rfl ?_
    refine e_icmp_ne (tgt := 120) dX3_sixth_94 (by decide) (fun d2 => ?_) (fun d2 => ?_)
    · refine e_loc [4, 3, 2, 0, 1] rfl (nxt n (cT_n _ hn ?_))
      have : ¬ ic j = page := fun q => d2 (by rw [q])
      simp [inL, inP, this]
    have e2 : ic j = page := (nI_c (by omega) (by omega)).mp d2
    refine e_aload_n dX3_sixth_97 rfl ?_
    refine e_aload_n dX3_sixth_98 rfl ?_
    refine e_get dX3_sixth_99 fX3_30 m0 rfl ?_
    refine e_iload dX3_sixth_102 rfl ?_
    refine e_iald dX3_sixth_104 m6 rfl hx (af_get _ (show j < 600 by omega)) ?_
    refine e_aload_n dX3_sixth_105 rfl ?_
    refine e_get dX3_sixth_106 fX3_30 m0 rfl ?_
    refine e_iload_n dX3_sixth_109 rfl ?_
    refine e_iald dX3_sixth_110 m6 rfl rfl (af_get _ (show i < 600 by omega)) ?_
    refine e_V2d dX3_sixth_111 gX3_68 m0 rfl (by omega) (Nat.le_of_ble_eq_true rfl) rfl rfl (con_order (d + 1) h m (it j) (it i) hm' g1 g5) ?_
    refine e_if_ge (tgt := 120) dX3_sixth_114 (by decide) (fun d3 => ?_) (fun d3 => ?_)
    · refine e_loc [4, 3, 2, 0, 1] rfl (nxt n (cT_n _ hn ?_))
      have : ¬ rk kv (it j) < rk kv (it i) := fun q => absurd d3 (by rw [c3_lt (by omega)]; decide)
      simp [inL, inP, this]
    · have e3 : rk kv (it j) < rk kv (it i) := by
        have := c3_n.mp (Int32.not_le.mp d3)
        omega
      refine e_iinc dX3_sixth_117 rfl rfl (by decide) rfl ?_
      exact e_loc [4, 3, 2, 0, 1] rfl (nxt _ (cT_s _ hn (by simp [inL, inP, e1, e2, e3])))
theorem sx_lo (d : Nat) (h : xH) (m page i0 : Nat) (ic : Nat → Nat) {kv : Nat → xE} {it il lw ll : Nat → Nat} {ow : Nat → Bool} {cm : Nat → Nat} {ks ni nl lv tk : Nat} {se lf : Int32} {ub : Bool} {sd : Int32} {ck : Nat} {cb : Bool} {hn : Nat} (hm : x_mm h m (kv, it, il, lw, ll, ow, cm) (ks, ni, nl, lv, tk, se, lf, ub, sd, ck, cb, hn)) (hB : mB it il lw ll ni nl) (hpg : page < nl) (hic : ∀ i, i < ni → il i = ll page → isC kv lw ll nl (ll page) (it i) (ic i)) (hi0 : i0 < ni) (hs : inP il ic (ll page) page i0 = true) (hs5 : cT (inL kv it il ic (ll page) page i0) ni = 5) (hun : ∀ i, i < i0 → inP il ic (ll page) page i = true → cT (inL kv it il ic (ll page) page i) ni ≠ 5) :
    ∀ (k i : Nat) (x : Int32), x = nI i → i + k = i0 →
    x_E mX3_sixth (d + 3) 0 0 2 [(2, .int x), (0, .ref m), (1, .int (nI page))] [] h (fun rv h' => rv = [.int (nI (it i0))] ∧ h' = h) := by
  have hm' := hm
  have hB' := hB
  obtain ⟨m0, m1, m2, m3, m4, m5, m6, m7, m8, m9, m10, m11⟩ := hm
  obtain ⟨b1, b2, b3, b4⟩ := hB
  obtain ⟨g3, g4⟩ := b4 page hpg
  intro k
  induction k with
  | zero =>
    intro i x hx hi
    have e0 : i = i0 := by omega
    subst e0
    have hs' : il i = ll page ∧ ic i = page := by simpa [inP] using hs
    obtain ⟨g1, g2⟩ := b3 i hi0
    have hC := hic i hi0 hs'.1
    refine e_iload_n dX3_sixth_2 rfl ?_
    refine e_aload_n dX3_sixth_3 rfl ?_
    refine e_get dX3_sixth_4 fX3_72 m0 rfl ?_
    refine e_icmp_ge (tgt := 144) dX3_sixth_7 (by decide) (fun c => absurd c (by rw [hx]; exact nI_ge (by omega) (by omega))) (fun _ => ?_)
    refine e_aload_n dX3_sixth_10 rfl ?_
    refine e_get dX3_sixth_11 fX3_33 m0 rfl ?_
    refine e_iload_n dX3_sixth_14 rfl ?_
    refine e_iald dX3_sixth_15 m7 rfl hx (af_get _ (show i < 600 by omega)) ?_
    refine e_aload_n dX3_sixth_16 rfl ?_
    refine e_get dX3_sixth_17 fX3_39 m0 rfl ?_
    refine e_iload_n dX3_sixth_20 rfl ?_
    refine e_iald dX3_sixth_21 m9 rfl rfl (af_get _ (show page < 60 by omega)) ?_
    refine e_icmp_ne (tgt := 138) dX3_sixth_22 (by decide) (fun c => absurd (by rw [hs'.1]) c) (fun _ => ?_)
    refine e_aload_n dX3_sixth_25 rfl ?_
    refine e_aload_n dX3_sixth_26 rfl ?_
    refine e_get dX3_sixth_27 fX3_33 m0 rfl ?_
    refine e_iload_n dX3_sixth_30 rfl ?_
    refine e_iald dX3_sixth_31 m7 rfl hx (af_get _ (show i < 600 by omega)) ?_
    refine e_aload_n dX3_sixth_32 rfl ?_
    refine e_get dX3_sixth_33 fX3_30 m0 rfl ?_
    refine e_iload_n dX3_sixth_36 rfl ?_
    refine e_iald dX3_sixth_37 m6 rfl hx (af_get _ (show i < 600 by omega)) ?_
    rw [hs'.1]
    refine e_V2d dX3_sixth_38 gX3_75 m0 rfl (by omega) (Nat.le_of_ble_eq_true rfl) rfl rfl (con_inCharge d h m (ll page) (it i) (ic i) hm' hB' g1 g4 hC) ?_
    refine e_iload_n dX3_sixth_41 rfl ?_
    refine e_icmp_ne (tgt := 138) dX3_sixth_42 (by decide) (fun c => absurd (by rw [hs'.2]) c) (fun _ => ?_)
    refine e_iconst (v := 0) dX3_sixth_45 (by decide) ?_
    refine e_istore_n dX3_sixth_46 (by decide) rfl ?_
    refine e_iconst (v := 0) dX3_sixth_47 (by decide) ?_
    refine e_istore dX3_sixth_48 (by decide) rfl ?_
    subst hx
    refine e_loc [4, 3, 2, 0, 1] rfl (sx_in d h m page i ic hm' hB' hpg hic hi0 hs'.1 _ (fun l l0 l1 l2 l3 => ?_) ni 0 0 0 rfl (by omega) rfl)
    rw [hs5] at l3
    refine e_iload_n dX3_sixth_126 l3 ?_
    refine e_iconst (v := 5) dX3_sixth_127 (by decide) ?_
    refine e_icmp_ne (tgt := 138) dX3_sixth_128 (by decide) (fun c => absurd rfl c) (fun _ => ?_)
    refine e_aload_n dX3_sixth_131 l0 ?_
    refine e_get dX3_sixth_132 fX3_30 m0 rfl ?_
    refine e_iload_n dX3_sixth_135 l2 ?_
    refine e_iald dX3_sixth_136 m6 rfl rfl (af_get _ (show i < 600 by omega)) ?_
    exact e_iret dX3_sixth_137 rfl rfl ⟨rfl, rfl⟩
  | succ k ih =>
    intro i x hx hi
    obtain ⟨g1, g2⟩ := b3 i (by omega)
    have nxt : x_E mX3_sixth (d + 3) 0 0 138 [(2, .int x), (0, .ref m), (1, .int (nI page))] [] h (fun rv h' => rv = [.int (nI (it i0))] ∧ h' = h) := by
      refine e_iinc dX3_sixth_138 rfl rfl (by decide) rfl ?_
      refine e_goto (tgt := 2) dX3_sixth_141 (by decide) ?_
      exact e_loc [2, 0, 1] rfl (ih (i + 1) _ (by rw [hx]; exact nI_1 i) (by omega))
    refine e_iload_n dX3_sixth_2 rfl ?_
    refine e_aload_n dX3_sixth_3 rfl ?_
    refine e_get dX3_sixth_4 fX3_72 m0 rfl ?_
    refine e_icmp_ge (tgt := 144) dX3_sixth_7 (by decide) (fun c => absurd c (by rw [hx]; exact nI_ge (by omega) (by omega))) (fun _ => ?_)
    refine e_aload_n dX3_sixth_10 rfl ?_
    refine e_get dX3_sixth_11 fX3_33 m0 rfl ?_
    refine e_iload_n dX3_sixth_14 rfl ?_
    refine e_iald dX3_sixth_15 m7 rfl hx (af_get _ (show i < 600 by omega)) ?_
    refine e_aload_n dX3_sixth_16 rfl ?_
    refine e_get dX3_sixth_17 fX3_39 m0 rfl ?_
    refine e_iload_n dX3_sixth_20 rfl ?_
    refine e_iald dX3_sixth_21 m9 rfl rfl (af_get _ (show page < 60 by omega)) ?_
    refine e_icmp_ne (tgt := 138) dX3_sixth_22 (by decide) (fun d1 => ?_) (fun d1 => ?_)
    · exact e_loc [2, 0, 1] rfl nxt
    have e1 : il i = ll page := (nI_c (by omega) (by omega)).mp d1
    have hC := hic i (by omega) e1
    refine e_aload_n dX3_sixth_25 rfl ?_
    refine e_aload_n dX3_sixth_26 rfl ?_
    refine e_get dX3_sixth_27 fX3_33 m0 rfl ?_
    refine e_iload_n dX3_sixth_30 rfl ?_
    refine e_iald dX3_sixth_31 m7 rfl hx (af_get _ (show i < 600 by omega)) ?_
    refine e_aload_n dX3_sixth_32 rfl ?_
    refine e_get dX3_sixth_33 fX3_30 m0 rfl ?_
    refine e_iload_n dX3_sixth_36 rfl ?_
    refine e_iald dX3_sixth_37 m6 rfl hx (af_get _ (show i < 600 by omega)) ?_
    rw [e1]
    refine e_V2d dX3_sixth_38 gX3_75 m0 rfl (by omega) (Nat.le_of_ble_eq_true rfl) rfl rfl (con_inCharge d h m (ll page) (it i) (ic i) hm' hB' g1 g4 hC) ?_
    have hcp := hC.1
    refine e_iload_n dX3_sixth_41 rfl ?_
    refine e_icmp_ne (tgt := 138) dX3_sixth_42 (by decide) (fun d2 => ?_) (fun d2 => ?_)
    · exact e_loc [2, 0, 1] rfl nxt
    have e2 : ic i = page := (nI_c (by omega) (by omega)).mp d2
    have hn5 := hun i (by omega) (by simp [inP, e1, e2])
    have hle := cT_le (inL kv it il ic (ll page) page i) ni
    refine e_iconst (v := 0) dX3_sixth_45 (by decide) ?_
    refine e_istore_n dX3_sixth_46 (by decide) rfl ?_
    refine e_iconst (v := 0) dX3_sixth_47 (by decide) ?_
    refine e_istore dX3_sixth_48 (by decide) rfl ?_
    subst hx
    refine e_loc [4, 3, 2, 0, 1] rfl (sx_in d h m page i ic hm' hB' hpg hic (by omega) e1 _ (fun l l0 l1 l2 l3 => ?_) ni 0 0 0 rfl (by omega) rfl)
    refine e_iload_n dX3_sixth_126 l3 ?_
    refine e_iconst (v := 5) dX3_sixth_127 (by decide) ?_
    refine e_icmp_ne (tgt := 138) dX3_sixth_128 (by decide) (fun _ => ?_) (fun c => absurd ((nI_c (b := 5) (by omega) (by omega)).mp c) hn5)
    refine e_loc [2, 0, 1] ?_ nxt
    simp only [x_sel, List.filterMap_cons, List.filterMap_nil, l0, l1, l2, Option.map_some]
theorem con_sixth (d : Nat) (h : xH) (m page i0 : Nat) (ic : Nat → Nat) {kv : Nat → xE} {it il lw ll : Nat → Nat} {ow : Nat → Bool} {cm : Nat → Nat} {ks ni nl lv tk : Nat} {se lf : Int32} {ub : Bool} {sd : Int32} {ck : Nat} {cb : Bool} {hn : Nat} (hm : x_mm h m (kv, it, il, lw, ll, ow, cm) (ks, ni, nl, lv, tk, se, lf, ub, sd, ck, cb, hn)) (hB : mB it il lw ll ni nl) (hpg : page < nl) (hic : ∀ i, i < ni → il i = ll page → isC kv lw ll nl (ll page) (it i) (ic i)) (hi0 : i0 < ni) (hs : inP il ic (ll page) page i0 = true) (hs5 : cT (inL kv it il ic (ll page) page i0) ni = 5) (hun : ∀ i, i < i0 → inP il ic (ll page) page i = true → cT (inL kv it il ic (ll page) page i) ni ≠ 5) : x_D mX3_sixth (d + 3) 0 0 [.ref m, .int (nI page)] h [.int (nI (it i0))] h := by
  refine e_enter (by decide) (Nat.le_of_ble_eq_true rfl) ?_
  refine e_iconst (v := 0) dX3_sixth_0 (by decide) ?_
  refine e_istore_n dX3_sixth_1 (by decide) rfl ?_
  exact e_loc [2, 0, 1] rfl (sx_lo d h m page i0 ic hm hB hpg hic hi0 hs hs5 hun i0 0 0 rfl (by omega))
end
section
/-! the reference: more that reads, and what writes -/
theorem bI_z {b : Bool} (h : bI b = 0) : b = false := by
  cases b with
  | false => rfl
  | true => exact absurd h (by decide)
theorem bI_nz {b : Bool} (h : ¬ bI b = 0) : b = true := by
  cases b with
  | false => exact absurd rfl h
  | true => rfl
def mCl (m : Nat) (s : xS) : List Value := match s with
  | (ks, ni, nl, lv, tk, se, lf, ub, sd, ck, cb, hn) => [.ref (m + 1), .ref (m + 2), .ref (m + 3), .ref (m + 4), .ref (m + 5), .int (nI ks), .ref (m + 6), .ref (m + 7), .int (nI ni), .ref (m + 8), .ref (m + 9), .ref (m + 10), .int (nI nl), .int (nI lv), .int (nI tk), .int se, .int lf, .int (bI ub), .ref (m + 11), .int sd, .int (nI ck), .int (bI cb), .int (nI hn)]
theorem mC_l (m : Nat) (s : xS) : mC m s = .inr (3, mCl m s) := rfl
theorem e_putM {y : xM} {d kc ks0 pc : Nat} {l : List (Nat × Value)} {st : List Value} {h : xH} {Q : List Value → xH → Prop} {idx k m : Nat} {ty : FieldType} {s s' : xS} {v v' : Value} (hd : decode y.2.1 pc = .ok (.putfield idx, 3)) (hF : x_Fd y.1.cls idx 3 k ty false) (hm : h.2 m = some (mC m s)) (hv : x_ok ty v') (e : v = v') (he : (mCl m s).set k v' = mCl m s') (kk : x_E y d kc ks0 (pc + 3) l st (x_up h m (mC m s')) Q) : x_E y d kc ks0 pc l (v :: .ref m :: st) h Q := by
  subst e
  refine e_put (fs := mCl m s) hd hF hm hv ?_
  rw [he]
  exact kk
theorem x_mm.s {h : xH} {m : Nat} {A : xA} {s : xS} (hm : x_mm h m A s) (s' : xS) : x_mm (x_up h m (mC m s')) m A s' := by
  obtain ⟨kv, it, il, lw, ll, ow, cm⟩ := A
  obtain ⟨m0, m1, m2, m3, m4, m5, m6, m7, m8, m9, m10, m11⟩ := hm
  exact ⟨x_up_s _ _ _, x_up_n m1 (by omega), x_up_n m2 (by omega), x_up_n m3 (by omega), x_up_n m4 (by omega), x_up_n m5 (by omega), x_up_n m6 (by omega), x_up_n m7 (by omega), x_up_n m8 (by omega), x_up_n m9 (by omega), x_up_n m10 (by omega), x_up_n m11 (by omega)⟩
theorem x_mm.it {h : xH} {m : Nat} {s : xS} {kv : Nat → xE} {it il lw ll cm : Nat → Nat} {ow : Nat → Bool} (hm : x_mm h m (kv, it, il, lw, ll, ow, cm) s) (it' : Nat → Nat) : x_mm (x_up h (m + 6) (aI 600 it')) m (kv, it', il, lw, ll, ow, cm) s := by
  obtain ⟨m0, m1, m2, m3, m4, m5, m6, m7, m8, m9, m10, m11⟩ := hm
  exact ⟨x_up_n m0 (by omega), x_up_n m1 (by omega), x_up_n m2 (by omega), x_up_n m3 (by omega), x_up_n m4 (by omega), x_up_n m5 (by omega), x_up_s _ _ _, x_up_n m7 (by omega), x_up_n m8 (by omega), x_up_n m9 (by omega), x_up_n m10 (by omega), x_up_n m11 (by omega)⟩
theorem x_mm.il {h : xH} {m : Nat} {s : xS} {kv : Nat → xE} {it il lw ll cm : Nat → Nat} {ow : Nat → Bool} (hm : x_mm h m (kv, it, il, lw, ll, ow, cm) s) (il' : Nat → Nat) : x_mm (x_up h (m + 7) (aI 600 il')) m (kv, it, il', lw, ll, ow, cm) s := by
  obtain ⟨m0, m1, m2, m3, m4, m5, m6, m7, m8, m9, m10, m11⟩ := hm
  exact ⟨x_up_n m0 (by omega), x_up_n m1 (by omega), x_up_n m2 (by omega), x_up_n m3 (by omega), x_up_n m4 (by omega), x_up_n m5 (by omega), x_up_n m6 (by omega), x_up_s _ _ _, x_up_n m8 (by omega), x_up_n m9 (by omega), x_up_n m10 (by omega), x_up_n m11 (by omega)⟩
theorem x_mm.lw {h : xH} {m : Nat} {s : xS} {kv : Nat → xE} {it il lw ll cm : Nat → Nat} {ow : Nat → Bool} (hm : x_mm h m (kv, it, il, lw, ll, ow, cm) s) (lw' : Nat → Nat) : x_mm (x_up h (m + 8) (aI 60 lw')) m (kv, it, il, lw', ll, ow, cm) s := by
  obtain ⟨m0, m1, m2, m3, m4, m5, m6, m7, m8, m9, m10, m11⟩ := hm
  exact ⟨x_up_n m0 (by omega), x_up_n m1 (by omega), x_up_n m2 (by omega), x_up_n m3 (by omega), x_up_n m4 (by omega), x_up_n m5 (by omega), x_up_n m6 (by omega), x_up_n m7 (by omega), x_up_s _ _ _, x_up_n m9 (by omega), x_up_n m10 (by omega), x_up_n m11 (by omega)⟩
theorem x_mm.ll {h : xH} {m : Nat} {s : xS} {kv : Nat → xE} {it il lw ll cm : Nat → Nat} {ow : Nat → Bool} (hm : x_mm h m (kv, it, il, lw, ll, ow, cm) s) (ll' : Nat → Nat) : x_mm (x_up h (m + 9) (aI 60 ll')) m (kv, it, il, lw, ll', ow, cm) s := by
  obtain ⟨m0, m1, m2, m3, m4, m5, m6, m7, m8, m9, m10, m11⟩ := hm
  exact ⟨x_up_n m0 (by omega), x_up_n m1 (by omega), x_up_n m2 (by omega), x_up_n m3 (by omega), x_up_n m4 (by omega), x_up_n m5 (by omega), x_up_n m6 (by omega), x_up_n m7 (by omega), x_up_n m8 (by omega), x_up_s _ _ _, x_up_n m10 (by omega), x_up_n m11 (by omega)⟩
theorem x_mm.ow {h : xH} {m : Nat} {s : xS} {kv : Nat → xE} {it il lw ll cm : Nat → Nat} {ow : Nat → Bool} (hm : x_mm h m (kv, it, il, lw, ll, ow, cm) s) (ow' : Nat → Bool) : x_mm (x_up h (m + 10) (aZ 60 ow')) m (kv, it, il, lw, ll, ow', cm) s := by
  obtain ⟨m0, m1, m2, m3, m4, m5, m6, m7, m8, m9, m10, m11⟩ := hm
  exact ⟨x_up_n m0 (by omega), x_up_n m1 (by omega), x_up_n m2 (by omega), x_up_n m3 (by omega), x_up_n m4 (by omega), x_up_n m5 (by omega), x_up_n m6 (by omega), x_up_n m7 (by omega), x_up_n m8 (by omega), x_up_n m9 (by omega), x_up_s _ _ _, x_up_n m11 (by omega)⟩
theorem x_mm.cm {h : xH} {m : Nat} {s : xS} {kv : Nat → xE} {it il lw ll cm : Nat → Nat} {ow : Nat → Bool} (hm : x_mm h m (kv, it, il, lw, ll, ow, cm) s) (cm' : Nat → Nat) : x_mm (x_up h (m + 11) (aI 32 cm')) m (kv, it, il, lw, ll, ow, cm') s := by
  obtain ⟨m0, m1, m2, m3, m4, m5, m6, m7, m8, m9, m10, m11⟩ := hm
  exact ⟨x_up_n m0 (by omega), x_up_n m1 (by omega), x_up_n m2 (by omega), x_up_n m3 (by omega), x_up_n m4 (by omega), x_up_n m5 (by omega), x_up_n m6 (by omega), x_up_n m7 (by omega), x_up_n m8 (by omega), x_up_n m9 (by omega), x_up_n m10 (by omega), x_up_s _ _ _⟩
def kvu (kv : Nat → xE) (k : Nat) (e : xE) : Nat → xE := fun q => if q = k then e else kv q
theorem con_numbered (d : Nat) (h : xH) (m : Nat) (e : xE) {kv : Nat → xE} {it il lw ll : Nat → Nat} {ow : Nat → Bool} {cm : Nat → Nat} {ks ni nl lv tk : Nat} {se lf : Int32} {ub : Bool} {sd : Int32} {ck : Nat} {cb : Bool} {hn : Nat} (hm : x_mm h m (kv, it, il, lw, ll, ow, cm) (ks, ni, nl, lv, tk, se, lf, ub, sd, ck, cb, hn)) (hks : ks < 513) : x_Con mX3_numbered d 0 0 [.ref m, .long e.1, .long e.2.1, .long e.2.2.1, .long e.2.2.2.1, .int e.2.2.2.2] h (fun rv h' => rv = [.int (nI ks)] ∧ x_mm h' m (kvu kv ks e, it, il, lw, ll, ow, cm) (ks, ni, nl, lv, tk, se, lf, ub, sd, ck, cb, hn) ∧ x_mf m h h') := by
  obtain ⟨m0, m1, m2, m3, m4, m5, m6, m7, m8, m9, m10, m11⟩ := hm
  refine e_enter (by decide) (Nat.le_of_ble_eq_true rfl) ?_
  refine e_aload_n dX3_numbered_0 rfl ?_
  refine e_get dX3_numbered_1 fX3_7 m0 rfl ?_
  refine e_aload_n dX3_numbered_4 rfl ?_
  refine e_get dX3_numbered_5 fX3_26 m0 rfl ?_
  refine e_lload_n dX3_numbered_8 rfl ?_
  refine e_lastF dX3_numbered_9 m1 rfl hks ?_
  have m0 := x_up_n (a := m + 1) (c := aL 513 (fun q => if q = ks then e.1 else (kv q).1)) m0 (by omega)
  refine e_aload_n dX3_numbered_10 rfl ?_
  refine e_get dX3_numbered_11 fX3_13 m0 rfl ?_
  refine e_aload_n dX3_numbered_14 rfl ?_
  refine e_get dX3_numbered_15 fX3_26 m0 rfl ?_
  refine e_lload_n dX3_numbered_18 rfl ?_
  refine e_lastF dX3_numbered_19 (x_up_n m2 (by omega)) rfl hks ?_
  have m0 := x_up_n (a := m + 2) (c := aL 513 (fun q => if q = ks then e.2.1 else (kv q).2.1)) m0 (by omega)
  refine e_aload_n dX3_numbered_20 rfl ?_
  refine e_get dX3_numbered_21 fX3_16 m0 rfl ?_
  refine e_aload_n dX3_numbered_24 rfl ?_
  refine e_get dX3_numbered_25 fX3_26 m0 rfl ?_
  refine e_lload dX3_numbered_28 rfl ?_
  refine e_lastF dX3_numbered_30 (x_up_n (x_up_n m3 (by omega)) (by omega)) rfl hks ?_
  have m0 := x_up_n (a := m + 3) (c := aL 513 (fun q => if q = ks then e.2.2.1 else (kv q).2.2.1)) m0 (by omega)
  refine e_aload_n dX3_numbered_31 rfl ?_
  refine e_get dX3_numbered_32 fX3_19 m0 rfl ?_
  refine e_aload_n dX3_numbered_35 rfl ?_
  refine e_get dX3_numbered_36 fX3_26 m0 rfl ?_
  refine e_lload dX3_numbered_39 rfl ?_
  refine e_lastF dX3_numbered_41 (x_up_n (x_up_n (x_up_n m4 (by omega)) (by omega)) (by omega)) rfl hks ?_
  have m0 := x_up_n (a := m + 4) (c := aL 513 (fun q => if q = ks then e.2.2.2.1 else (kv q).2.2.2.1)) m0 (by omega)
  refine e_aload_n dX3_numbered_42 rfl ?_
  refine e_get dX3_numbered_43 fX3_22 m0 rfl ?_
  refine e_aload_n dX3_numbered_46 rfl ?_
  refine e_get dX3_numbered_47 fX3_26 m0 rfl ?_
  refine e_iload dX3_numbered_50 rfl ?_
  refine e_iastJ dX3_numbered_52 (x_up_n (x_up_n (x_up_n (x_up_n m5 (by omega)) (by omega)) (by omega)) (by omega)) rfl hks ?_
  have m0 := x_up_n (a := m + 5) (c := aJ 513 (fun q => if q = ks then e.2.2.2.2 else (kv q).2.2.2.2)) m0 (by omega)
  refine e_aload_n dX3_numbered_53 rfl ?_
  refine e_get dX3_numbered_54 fX3_26 m0 rfl ?_
  refine e_iret dX3_numbered_57 rfl rfl ⟨rfl, ⟨m0, ?_, ?_, ?_, ?_, ?_, ?_, ?_, ?_, ?_, ?_, ?_⟩, ?_⟩
  · rw [x_up_n (x_up_n (x_up_n (x_up_n (x_up_s _ _ _) (by omega)) (by omega)) (by omega)) (by omega)]
    congr 2; funext q; unfold kvu; by_cases hq : q = ks <;> simp [hq]
  · rw [x_up_n (x_up_n (x_up_n (x_up_s _ _ _) (by omega)) (by omega)) (by omega)]
    congr 2; funext q; unfold kvu; by_cases hq : q = ks <;> simp [hq]
  · rw [x_up_n (x_up_n (x_up_s _ _ _) (by omega)) (by omega)]
    congr 2; funext q; unfold kvu; by_cases hq : q = ks <;> simp [hq]
  · rw [x_up_n (x_up_s _ _ _) (by omega)]
    congr 2; funext q; unfold kvu; by_cases hq : q = ks <;> simp [hq]
  · rw [x_up_s]
    congr 2; funext q; unfold kvu; by_cases hq : q = ks <;> simp [hq]
  · exact x_up_n (x_up_n (x_up_n (x_up_n (x_up_n m6 (by omega)) (by omega)) (by omega)) (by omega)) (by omega)
  · exact x_up_n (x_up_n (x_up_n (x_up_n (x_up_n m7 (by omega)) (by omega)) (by omega)) (by omega)) (by omega)
  · exact x_up_n (x_up_n (x_up_n (x_up_n (x_up_n m8 (by omega)) (by omega)) (by omega)) (by omega)) (by omega)
  · exact x_up_n (x_up_n (x_up_n (x_up_n (x_up_n m9 (by omega)) (by omega)) (by omega)) (by omega)) (by omega)
  · exact x_up_n (x_up_n (x_up_n (x_up_n (x_up_n m10 (by omega)) (by omega)) (by omega)) (by omega)) (by omega)
  · exact x_up_n (x_up_n (x_up_n (x_up_n (x_up_n m11 (by omega)) (by omega)) (by omega)) (by omega)) (by omega)
  · exact ((((x_mf.rf.up (by omega)).up (by omega)).up (by omega)).up (by omega)).up (by omega)
theorem con_addPage (d : Nat) (h : xH) (m level num : Nat) {kv : Nat → xE} {it il lw ll : Nat → Nat} {ow : Nat → Bool} {cm : Nat → Nat} {ks ni nl lv tk : Nat} {se lf : Int32} {ub : Bool} {sd : Int32} {ck : Nat} {cb : Bool} {hn : Nat} (hm : x_mm h m (kv, it, il, lw, ll, ow, cm) (ks, ni, nl, lv, tk, se, lf, ub, sd, ck, cb, hn)) (hnl : nl < 60) : x_Con mX3_addPage d 0 0 [.ref m, .int (nI level), .int (nI num)] h (fun rv h' => rv = [] ∧ x_mm h' m (kv, it, il, fu lw nl num, fu ll nl level, (fun q => if q = nl then false else ow q), cm) (ks, ni, nl + 1, lv, tk, se, lf, ub, sd, ck, cb, hn) ∧ x_mf m h h') := by
  have m0 := hm.1
  refine e_enter (by decide) (Nat.le_of_ble_eq_true rfl) ?_
  refine e_aload_n dX3_addPage_0 rfl ?_
  refine e_get dX3_addPage_1 fX3_36 m0 rfl ?_
  refine e_aload_n dX3_addPage_4 rfl ?_
  refine e_get dX3_addPage_5 fX3_65 m0 rfl ?_
  refine e_iload_n dX3_addPage_8 rfl ?_
  refine e_iastI dX3_addPage_9 hm.2.2.2.2.2.2.2.2.1 rfl hnl rfl ?_
  have hm := hm.lw (fu lw nl num)
  have m0 := hm.1
  refine e_aload_n dX3_addPage_10 rfl ?_
  refine e_get dX3_addPage_11 fX3_39 m0 rfl ?_
  refine e_aload_n dX3_addPage_14 rfl ?_
  refine e_get dX3_addPage_15 fX3_65 m0 rfl ?_
  refine e_iload_n dX3_addPage_18 rfl ?_
  refine e_iastI dX3_addPage_19 hm.2.2.2.2.2.2.2.2.2.1 rfl hnl rfl ?_
  have hm := hm.ll (fu ll nl level)
  have m0 := hm.1
  refine e_aload_n dX3_addPage_20 rfl ?_
  refine e_get dX3_addPage_21 fX3_42 m0 rfl ?_
  refine e_aload_n dX3_addPage_24 rfl ?_
  refine e_get dX3_addPage_25 fX3_65 m0 rfl ?_
  refine e_iconst (v := 0) dX3_addPage_28 (by decide) ?_
  refine e_zastF (z := false) dX3_addPage_29 hm.2.2.2.2.2.2.2.2.2.2.1 rfl hnl rfl ?_
  have hm := hm.ow (fun q => if q = nl then false else ow q)
  have m0 := hm.1
  refine e_aload_n dX3_addPage_30 rfl ?_
  refine e_dup dX3_addPage_31 rfl ?_
  refine e_get dX3_addPage_32 fX3_65 m0 rfl ?_
  refine e_iconst (v := 1) dX3_addPage_35 (by decide) ?_
  refine e_iadd dX3_addPage_36 ?_
  refine e_putM (s' := (ks, ni, nl + 1, lv, tk, se, lf, ub, sd, ck, cb, hn)) dX3_addPage_37 fX3_65 m0 (by exact ⟨rfl, rfl⟩) (congrArg Value.int (nI_1 nl)) rfl ?_
  exact e_ret dX3_addPage_40 rfl ⟨rfl, hm.s _, (((x_mf.rf.up (by omega)).up (by omega)).up (by omega)).up0⟩
theorem con_addItem (d : Nat) (h : xH) (m level num : Nat) {kv : Nat → xE} {it il lw ll : Nat → Nat} {ow : Nat → Bool} {cm : Nat → Nat} {ks ni nl lv tk : Nat} {se lf : Int32} {ub : Bool} {sd : Int32} {ck : Nat} {cb : Bool} {hn : Nat} (hm : x_mm h m (kv, it, il, lw, ll, ow, cm) (ks, ni, nl, lv, tk, se, lf, ub, sd, ck, cb, hn)) (hni : ni < 600) : x_Con mX3_addItem d 0 0 [.ref m, .int (nI level), .int (nI num)] h (fun rv h' => rv = [] ∧ x_mm h' m (kv, fu it ni num, fu il ni level, lw, ll, ow, cm) (ks, ni + 1, nl, lv, tk, se, lf, ub, sd, ck, cb, hn) ∧ x_mf m h h') := by
  have m0 := hm.1
  refine e_enter (by decide) (Nat.le_of_ble_eq_true rfl) ?_
  refine e_aload_n dX3_addItem_0 rfl ?_
  refine e_get dX3_addItem_1 fX3_30 m0 rfl ?_
  refine e_aload_n dX3_addItem_4 rfl ?_
  refine e_get dX3_addItem_5 fX3_72 m0 rfl ?_
  refine e_iload_n dX3_addItem_8 rfl ?_
  refine e_iastI dX3_addItem_9 hm.2.2.2.2.2.2.1 rfl hni rfl ?_
  have hm := hm.it (fu it ni num)
  have m0 := hm.1
  refine e_aload_n dX3_addItem_10 rfl ?_
  refine e_get dX3_addItem_11 fX3_33 m0 rfl ?_
  refine e_aload_n dX3_addItem_14 rfl ?_
  refine e_get dX3_addItem_15 fX3_72 m0 rfl ?_
  refine e_iload_n dX3_addItem_18 rfl ?_
  refine e_iastI dX3_addItem_19 hm.2.2.2.2.2.2.2.1 rfl hni rfl ?_
  have hm := hm.il (fu il ni level)
  have m0 := hm.1
  refine e_aload_n dX3_addItem_20 rfl ?_
  refine e_dup dX3_addItem_21 rfl ?_
  refine e_get dX3_addItem_22 fX3_72 m0 rfl ?_
  refine e_iconst (v := 1) dX3_addItem_25 (by decide) ?_
  refine e_iadd dX3_addItem_26 ?_
  refine e_putM (s' := (ks, ni + 1, nl, lv, tk, se, lf, ub, sd, ck, cb, hn)) dX3_addItem_27 fX3_72 m0 (by exact ⟨rfl, rfl⟩) (congrArg Value.int (nI_1 ni)) rfl ?_
  exact e_ret dX3_addItem_30 rfl ⟨rfl, hm.s _, ((x_mf.rf.up (by omega)).up (by omega)).up0⟩
/-- words are set: (sets, left, unbounded) behind it, and whether all were -/
def sW (n : Int32) (q : Int32 × Int32 × Bool) : Bool × (Int32 × Int32 × Bool) := if q.2.2 then (true, q.1 + n, q.2.1, true) else if n ≤ q.2.1 then (true, q.1 + n, q.2.1 - n, false) else (false, q.1 + q.2.1, q.2.1, true)
theorem con_set (d : Nat) (h : xH) (m : Nat) (n : Int32) {kv : Nat → xE} {it il lw ll : Nat → Nat} {ow : Nat → Bool} {cm : Nat → Nat} {ks ni nl lv tk : Nat} {se lf : Int32} {ub : Bool} {sd : Int32} {ck : Nat} {cb : Bool} {hn : Nat} (hm : x_mm h m (kv, it, il, lw, ll, ow, cm) (ks, ni, nl, lv, tk, se, lf, ub, sd, ck, cb, hn)) : x_Con mX3_set d 0 0 [.ref m, .int n] h (fun rv h' => rv = [.int (bI (sW n (se, lf, ub)).1)] ∧ x_mm h' m (kv, it, il, lw, ll, ow, cm) (ks, ni, nl, lv, tk, (sW n (se, lf, ub)).2.1, (sW n (se, lf, ub)).2.2.1, (sW n (se, lf, ub)).2.2.2, sd, ck, cb, hn) ∧ x_mf m h h') := by
  have m0 := hm.1
  refine e_enter (by decide) (Nat.le_of_ble_eq_true rfl) ?_
  refine e_aload_n dX3_set_0 rfl ?_
  refine e_get dX3_set_1 fX3_49 m0 rfl ?_
  refine e_if_eq (tgt := 19) dX3_set_4 (by decide) (fun c1 => ?_) (fun c1 => ?_)
  · have hub : ub = false := bI_z c1
    subst hub
    refine e_iload_n dX3_set_19 rfl ?_
    refine e_aload_n dX3_set_20 rfl ?_
    refine e_get dX3_set_21 fX3_81 m0 rfl ?_
    refine e_icmp_gt (tgt := 49) dX3_set_24 (by decide) (fun c2 => ?_) (fun c2 => ?_)
    · have e0 : sW n (se, lf, false) = (false, se + lf, lf, true) := by unfold sW; rw [if_neg Bool.false_ne_true, if_neg (Int32.not_le.mpr c2)]
      rw [e0]
      refine e_aload_n dX3_set_49 rfl ?_
      refine e_dup dX3_set_50 rfl ?_
      refine e_get dX3_set_51 fX3_78 m0 rfl ?_
      refine e_aload_n dX3_set_54 rfl ?_
      refine e_get dX3_set_55 fX3_81 m0 rfl ?_
      refine e_iadd dX3_set_58 ?_
      refine e_putM (s' := (ks, ni, nl, lv, tk, se + lf, lf, false, sd, ck, cb, hn)) dX3_set_59 fX3_78 m0 (by exact ⟨rfl, rfl⟩) rfl rfl ?_
      have hm := hm.s (ks, ni, nl, lv, tk, se + lf, lf, false, sd, ck, cb, hn)
      have m0 := hm.1
      refine e_aload_n dX3_set_62 rfl ?_
      refine e_iconst (v := 1) dX3_set_63 (by decide) ?_
      refine e_putM (s' := (ks, ni, nl, lv, tk, se + lf, lf, true, sd, ck, cb, hn)) dX3_set_64 fX3_49 m0 (by exact ⟨rfl, rfl⟩) rfl rfl ?_
      refine e_iconst (v := 0) dX3_set_67 (by decide) ?_
      exact e_iret dX3_set_68 rfl rfl ⟨rfl, hm.s _, x_mf.rf.up0.up0⟩
    · have e0 : sW n (se, lf, false) = (true, se + n, lf - n, false) := by unfold sW; rw [if_neg Bool.false_ne_true, if_pos (Int32.not_lt.mp c2)]
      rw [e0]
      refine e_aload_n dX3_set_27 rfl ?_
      refine e_dup dX3_set_28 rfl ?_
      refine e_get dX3_set_29 fX3_78 m0 rfl ?_
      refine e_iload_n dX3_set_32 rfl ?_
      refine e_iadd dX3_set_33 ?_
      refine e_putM (s' := (ks, ni, nl, lv, tk, se + n, lf, false, sd, ck, cb, hn)) dX3_set_34 fX3_78 m0 (by exact ⟨rfl, rfl⟩) rfl rfl ?_
      have hm := hm.s (ks, ni, nl, lv, tk, se + n, lf, false, sd, ck, cb, hn)
      have m0 := hm.1
      refine e_aload_n dX3_set_37 rfl ?_
      refine e_dup dX3_set_38 rfl ?_
      refine e_get dX3_set_39 fX3_81 m0 rfl ?_
      refine e_iload_n dX3_set_42 rfl ?_
      refine e_isub dX3_set_43 ?_
      refine e_putM (s' := (ks, ni, nl, lv, tk, se + n, lf - n, false, sd, ck, cb, hn)) dX3_set_44 fX3_81 m0 (by exact ⟨rfl, rfl⟩) rfl rfl ?_
      refine e_iconst (v := 1) dX3_set_47 (by decide) ?_
      exact e_iret dX3_set_48 rfl rfl ⟨rfl, hm.s _, x_mf.rf.up0.up0⟩
  · have hub : ub = true := bI_nz c1
    subst hub
    have e0 : sW n (se, lf, true) = (true, se + n, lf, true) := by unfold sW; rw [if_pos rfl]
    rw [e0]
    refine e_aload_n dX3_set_7 rfl ?_
    refine e_dup dX3_set_8 rfl ?_
    refine e_get dX3_set_9 fX3_78 m0 rfl ?_
    refine e_iload_n dX3_set_12 rfl ?_
    refine e_iadd dX3_set_13 ?_
    refine e_putM (s' := (ks, ni, nl, lv, tk, se + n, lf, true, sd, ck, cb, hn)) dX3_set_14 fX3_78 m0 (by exact ⟨rfl, rfl⟩) rfl rfl ?_
    refine e_iconst (v := 1) dX3_set_17 (by decide) ?_
    exact e_iret dX3_set_18 rfl rfl ⟨rfl, hm.s _, x_mf.rf.up0⟩
end
section
/-! the reference: the cursor -/
theorem con_mcharge (d : Nat) (h : xH) (m : Nat) (n : Int32) {kv : Nat → xE} {it il lw ll : Nat → Nat} {ow : Nat → Bool} {cm : Nat → Nat} {ks ni nl lv tk : Nat} {se lf : Int32} {ub : Bool} {sd : Int32} {ck : Nat} {cb : Bool} {hn : Nat} (hm : x_mm h m (kv, it, il, lw, ll, ow, cm) (ks, ni, nl, lv, tk, se, lf, ub, sd, ck, cb, hn)) : x_Con mX3_charge d 0 0 [.ref m, .int n] h (fun rv h' => x_mf m h h' ∧ (if n < 0 ∨ 999 < n then rv = [.int 0] ∧ h' = h else rv = [.int 1] ∧ x_mm h' m (kv, it, il, lw, ll, ow, cm) (ks, ni, nl, lv, tk, se, n, false, sd, ck, cb, hn))) := by
  have m0 := hm.1
  refine e_enter (by decide) (Nat.le_of_ble_eq_true rfl) ?_
  refine e_iload_n dX3_charge_0 rfl ?_
  refine e_if_lt (tgt := 11) dX3_charge_1 (by decide) (fun c1 => ?_) (fun c1 => ?_)
  · refine e_iconst (v := 0) dX3_charge_11 (by decide) ?_
    exact e_iret dX3_charge_12 rfl rfl ⟨x_mf.rf, by rw [if_pos (Or.inl c1)]; exact ⟨rfl, rfl⟩⟩
  · refine e_iload_n dX3_charge_4 rfl ?_
    refine e_sipush (v := 999) dX3_charge_5 (by decide) ?_
    refine e_icmp_le (tgt := 13) dX3_charge_8 (by decide) (fun c2 => ?_) (fun c2 => ?_)
    · refine e_aload_n dX3_charge_13 rfl ?_
      refine e_iload_n dX3_charge_14 rfl ?_
      refine e_putM (s' := (ks, ni, nl, lv, tk, se, n, ub, sd, ck, cb, hn)) dX3_charge_15 fX3_81 m0 (by exact ⟨rfl, rfl⟩) rfl rfl ?_
      have hm := hm.s (ks, ni, nl, lv, tk, se, n, ub, sd, ck, cb, hn)
      have m0 := hm.1
      refine e_aload_n dX3_charge_18 rfl ?_
      refine e_iconst (v := 0) dX3_charge_19 (by decide) ?_
      refine e_putM (s' := (ks, ni, nl, lv, tk, se, n, false, sd, ck, cb, hn)) dX3_charge_20 fX3_49 m0 (by exact ⟨rfl, rfl⟩) rfl rfl ?_
      refine e_iconst (v := 1) dX3_charge_23 (by decide) ?_
      refine e_iret dX3_charge_24 rfl rfl ⟨x_mf.rf.up0.up0, ?_⟩
      rw [if_neg (fun q => q.elim c1 (fun q => absurd c2 (Int32.not_le.mpr q)))]
      exact ⟨rfl, hm.s _⟩
    · refine e_iconst (v := 0) dX3_charge_11 (by decide) ?_
      exact e_iret dX3_charge_12 rfl rfl ⟨x_mf.rf, by rw [if_pos (Or.inr (Int32.not_le.mp c2))]; exact ⟨rfl, rfl⟩⟩
theorem con_stand (d : Nat) (h : xH) (m num : Nat) (b : Bool) {kv : Nat → xE} {it il lw ll : Nat → Nat} {ow : Nat → Bool} {cm : Nat → Nat} {ks ni nl lv tk : Nat} {se lf : Int32} {ub : Bool} {sd : Int32} {ck : Nat} {cb : Bool} {hn : Nat} (hm : x_mm h m (kv, it, il, lw, ll, ow, cm) (ks, ni, nl, lv, tk, se, lf, ub, sd, ck, cb, hn)) : x_Con mX3_stand d 0 0 [.ref m, .int (nI num), .int (bI b)] h (fun rv h' => rv = [] ∧ x_mm h' m (kv, it, il, lw, ll, ow, cm) (ks, ni, nl, lv, tk, se, lf, ub, 0, num, b, hn) ∧ x_mf m h h') := by
  have m0 := hm.1
  refine e_enter (by decide) (Nat.le_of_ble_eq_true rfl) ?_
  refine e_aload_n dX3_stand_0 rfl ?_
  refine e_iconst (v := 0) dX3_stand_1 (by decide) ?_
  refine e_putM (s' := (ks, ni, nl, lv, tk, se, lf, ub, 0, ck, cb, hn)) dX3_stand_2 fX3_137 m0 (by exact ⟨rfl, rfl⟩) rfl rfl ?_
  have hm := hm.s (ks, ni, nl, lv, tk, se, lf, ub, 0, ck, cb, hn)
  have m0 := hm.1
  refine e_aload_n dX3_stand_5 rfl ?_
  refine e_iload_n dX3_stand_6 rfl ?_
  refine e_putM (s' := (ks, ni, nl, lv, tk, se, lf, ub, 0, num, cb, hn)) dX3_stand_7 fX3_140 m0 (by exact ⟨rfl, rfl⟩) rfl rfl ?_
  have hm := hm.s (ks, ni, nl, lv, tk, se, lf, ub, 0, num, cb, hn)
  have m0 := hm.1
  refine e_aload_n dX3_stand_10 rfl ?_
  refine e_iload_n dX3_stand_11 rfl ?_
  refine e_putM (s' := (ks, ni, nl, lv, tk, se, lf, ub, 0, num, b, hn)) dX3_stand_12 fX3_143 m0 (by cases b <;> exact ⟨rfl, rfl⟩) rfl rfl ?_
  exact e_ret dX3_stand_15 rfl ⟨rfl, hm.s _, x_mf.rf.up0.up0.up0⟩
theorem con_mfirst (d : Nat) (h : xH) (m : Nat) {kv : Nat → xE} {it il lw ll : Nat → Nat} {ow : Nat → Bool} {cm : Nat → Nat} {ks ni nl lv tk : Nat} {se lf : Int32} {ub : Bool} {sd : Int32} {ck : Nat} {cb : Bool} {hn : Nat} (hm : x_mm h m (kv, it, il, lw, ll, ow, cm) (ks, ni, nl, lv, tk, se, lf, ub, sd, ck, cb, hn)) : x_Con mX3_first d 0 0 [.ref m] h (fun rv h' => rv = [] ∧ x_mm h' m (kv, it, il, lw, ll, ow, cm) (ks, ni, nl, lv, tk, se, lf, ub, -1, ck, cb, hn) ∧ x_mf m h h') := by
  have m0 := hm.1
  refine e_enter (by decide) (Nat.le_of_ble_eq_true rfl) ?_
  refine e_aload_n dX3_first_0 rfl ?_
  refine e_iconst (v := (-1)) dX3_first_1 (by decide) ?_
  refine e_putM (s' := (ks, ni, nl, lv, tk, se, lf, ub, -1, ck, cb, hn)) dX3_first_2 fX3_137 m0 (by exact ⟨rfl, rfl⟩) rfl rfl ?_
  exact e_ret dX3_first_5 rfl ⟨rfl, hm.s _, x_mf.rf.up0⟩
theorem con_mlast (d : Nat) (h : xH) (m : Nat) {kv : Nat → xE} {it il lw ll : Nat → Nat} {ow : Nat → Bool} {cm : Nat → Nat} {ks ni nl lv tk : Nat} {se lf : Int32} {ub : Bool} {sd : Int32} {ck : Nat} {cb : Bool} {hn : Nat} (hm : x_mm h m (kv, it, il, lw, ll, ow, cm) (ks, ni, nl, lv, tk, se, lf, ub, sd, ck, cb, hn)) : x_Con mX3_last d 0 0 [.ref m] h (fun rv h' => rv = [] ∧ x_mm h' m (kv, it, il, lw, ll, ow, cm) (ks, ni, nl, lv, tk, se, lf, ub, 1, ck, cb, hn) ∧ x_mf m h h') := by
  have m0 := hm.1
  refine e_enter (by decide) (Nat.le_of_ble_eq_true rfl) ?_
  refine e_aload_n dX3_last_0 rfl ?_
  refine e_iconst (v := 1) dX3_last_1 (by decide) ?_
  refine e_putM (s' := (ks, ni, nl, lv, tk, se, lf, ub, 1, ck, cb, hn)) dX3_last_2 fX3_137 m0 (by exact ⟨rfl, rfl⟩) rfl rfl ?_
  exact e_ret dX3_last_5 rfl ⟨rfl, hm.s _, x_mf.rf.up0⟩
/-- is the key behind the cursor -/
def bh (kv : Nat → xE) (sd : Int32) (ck : Nat) (cb : Bool) (num : Nat) : Bool := if sd = 0 then decide (rk kv ck + (if cb then 1 else 0) ≤ rk kv num) else decide (sd < 0)
theorem con_behind (d : Nat) (h : xH) (m num : Nat) {kv : Nat → xE} {it il lw ll : Nat → Nat} {ow : Nat → Bool} {cm : Nat → Nat} {ks ni nl lv tk : Nat} {se lf : Int32} {ub : Bool} {sd : Int32} {ck : Nat} {cb : Bool} {hn : Nat} (hm : x_mm h m (kv, it, il, lw, ll, ow, cm) (ks, ni, nl, lv, tk, se, lf, ub, sd, ck, cb, hn)) (hnum : num < 513) (hck : ck < 513) : x_D mX3_behind (d + 2) 0 0 [.ref m, .int (nI num)] h [.int (bI (bh kv sd ck cb num))] h := by
  have m0 := hm.1
  refine e_enter (by decide) (Nat.le_of_ble_eq_true rfl) ?_
  refine e_aload_n dX3_behind_0 rfl ?_
  refine e_get dX3_behind_1 fX3_137 m0 rfl ?_
  refine e_if_eq (tgt := 20) dX3_behind_4 (by decide) (fun c1 => ?_) (fun c1 => ?_)
  · refine e_aload_n dX3_behind_20 rfl ?_
    refine e_iload_n dX3_behind_21 rfl ?_
    refine e_aload_n dX3_behind_22 rfl ?_
    refine e_get dX3_behind_23 fX3_140 m0 rfl ?_
    refine e_V2d dX3_behind_26 gX3_68 m0 rfl (by omega) (Nat.le_of_ble_eq_true rfl) rfl rfl (con_order d h m num ck hm hnum hck) ?_
    refine e_istore_n dX3_behind_29 (by decide) rfl ?_
    refine e_iload_n dX3_behind_30 rfl ?_
    refine e_if_gt (tgt := 45) dX3_behind_31 (by decide) (fun c2 => ?_) (fun c2 => ?_)
    · refine e_iconst (v := 1) dX3_behind_45 (by decide) ?_
      refine e_goto (tgt := 50) dX3_behind_46 (by decide) ?_
      refine e_iret dX3_behind_50 rfl rfl ⟨?_, rfl⟩
      have := c3_p.mp c2
      unfold bh
      rw [if_pos c1, decide_eq_true (by split <;> omega)]
      rfl
    · have hle : rk kv num ≤ rk kv ck := by
        rcases Nat.lt_or_ge (rk kv ck) (rk kv num) with q | q
        · exact absurd (c3_p.mpr (by omega)) c2
        · exact q
      refine e_iload_n dX3_behind_34 rfl ?_
      refine e_if_ne (tgt := 49) dX3_behind_35 (by decide) (fun c4 => ?_) (fun c4 => ?_)
      · refine e_iconst (v := 0) dX3_behind_49 (by decide) ?_
        refine e_iret dX3_behind_50 rfl rfl ⟨?_, rfl⟩
        have : rk kv num ≠ rk kv ck := fun q => c4 (c3_z.mpr (by rw [q]))
        unfold bh
        rw [if_pos c1, decide_eq_false (by split <;> omega)]
        rfl
      · have := c3_z.mp c4
        refine e_aload_n dX3_behind_38 rfl ?_
        refine e_get dX3_behind_39 fX3_143 m0 rfl ?_
        refine e_if_ne (tgt := 49) dX3_behind_42 (by decide) (fun c5 => ?_) (fun c5 => ?_)
        · have hcb := bI_nz c5
          refine e_iconst (v := 0) dX3_behind_49 (by decide) ?_
          refine e_iret dX3_behind_50 rfl rfl ⟨?_, rfl⟩
          unfold bh
          rw [if_pos c1, hcb, decide_eq_false (by rw [if_pos rfl]; omega)]
          rfl
        · have hcb := bI_z c5
          refine e_iconst (v := 1) dX3_behind_45 (by decide) ?_
          refine e_goto (tgt := 50) dX3_behind_46 (by decide) ?_
          refine e_iret dX3_behind_50 rfl rfl ⟨?_, rfl⟩
          unfold bh
          rw [if_pos c1, hcb, decide_eq_true (by rw [if_neg Bool.false_ne_true]; omega)]
          rfl
  · refine e_aload_n dX3_behind_7 rfl ?_
    refine e_get dX3_behind_8 fX3_137 m0 rfl ?_
    refine e_if_ge (tgt := 18) dX3_behind_11 (by decide) (fun c2 => ?_) (fun c2 => ?_)
    · refine e_iconst (v := 0) dX3_behind_18 (by decide) ?_
      refine e_iret dX3_behind_19 rfl rfl ⟨?_, rfl⟩
      unfold bh
      rw [if_neg c1, decide_eq_false (Int32.not_lt.mpr c2)]
      rfl
    · refine e_iconst (v := 1) dX3_behind_14 (by decide) ?_
      refine e_goto (tgt := 19) dX3_behind_15 (by decide) ?_
      refine e_iret dX3_behind_19 rfl rfl ⟨?_, rfl⟩
      unfold bh
      rw [if_neg c1, decide_eq_true (Int32.not_le.mp c2)]
      rfl

def is_next (kv : Nat → xE) (it il : Nat → Nat) (ni : Nat) (sd : Int32) (ck : Nat) (cb : Bool) (i0 : Nat) : Prop := i0 < ni ∧ il i0 = 0 ∧ bh kv sd ck cb (it i0) = true ∧ ∀ i, i < ni → il i = 0 → bh kv sd ck cb (it i) = true → i ≠ i0 → rk kv (it i0) < rk kv (it i)
theorem next_lo (d : Nat) (h : xH) (m : Nat) (o : Option Nat) {kv : Nat → xE} {it il lw ll : Nat → Nat} {ow : Nat → Bool} {cm : Nat → Nat} {ks ni nl lv tk : Nat} {se lf : Int32} {ub : Bool} {sd : Int32} {ck : Nat} {cb : Bool} {hn : Nat} (hm : x_mm h m (kv, it, il, lw, ll, ow, cm) (ks, ni, nl, lv, tk, se, lf, ub, sd, ck, cb, hn)) (hB : mB it il lw ll ni nl) (hck : ck < 513) (ho : ∀ i0, o = some i0 → is_next kv it il ni sd ck cb i0) (hno : o = none → ∀ i, i < ni → il i = 0 → ¬ (bh kv sd ck cb (it i) = true)) (Q : List Value → xH → Prop)
    (fin : ∀ l b, x_lk l 0 = some (.ref m) → x_lk l 1 = some (.int b) → (∀ i0, o = some i0 → b = nI (it i0)) → (o = none → b = -1) → x_E mX3_next (d + 3) 0 0 65 l [] h Q) :
    ∀ (k i : Nat) (x b : Int32), x = nI i → i + k = ni → (∀ i0, o = some i0 → i0 < i → b = nI (it i0)) → ((∀ i0, o = some i0 → ¬ i0 < i) → b = -1 ∨ ∃ q, q < i ∧ b = nI (it q) ∧ il q = 0 ∧ bh kv sd ck cb (it q) = true) →
    x_E mX3_next (d + 3) 0 0 4 [(2, .int x), (1, .int b), (0, .ref m)] [] h Q := by
  have hm' := hm
  have hB' := hB
  obtain ⟨m0, m1, m2, m3, m4, m5, m6, m7, m8, m9, m10, m11⟩ := hm
  obtain ⟨b1, b2, b3, b4⟩ := hB
  intro k
  induction k with
  | zero =>
    intro i x b hx hi i1 i2
    refine e_iload_n dX3_next_4 rfl ?_
    refine e_aload_n dX3_next_5 rfl ?_
    refine e_get dX3_next_6 fX3_72 m0 rfl ?_
    refine e_icmp_ge (tgt := 65) dX3_next_9 (by decide) (fun _ => ?_) (fun c => absurd (by rw [hx]; exact nI_le (by omega) (by omega)) c)
    refine fin _ b rfl rfl (fun i0 e => i1 i0 e ?_) (fun e => ?_)
    · have := (ho i0 e).1
      omega
    · rcases i2 (fun i0 q => by rw [e] at q; cases q) with r | ⟨q, q1, q2, q3, q4⟩
      · exact r
      · exact absurd q4 (hno e q (by omega) q3)
  | succ k ih =>
    intro i x b hx hi i1 i2
    obtain ⟨g1, g2⟩ := b3 i (by omega)
    have nxt : ∀ b', (∀ i0, o = some i0 → i0 < i + 1 → b' = nI (it i0)) → ((∀ i0, o = some i0 → ¬ i0 < i + 1) → b' = -1 ∨ ∃ q, q < i + 1 ∧ b' = nI (it q) ∧ il q = 0 ∧ bh kv sd ck cb (it q) = true) → x_E mX3_next (d + 3) 0 0 59 [(2, .int x), (1, .int b'), (0, .ref m)] [] h Q := by
      intro b' j1 j2
      refine e_iinc dX3_next_59 rfl rfl (by decide) rfl ?_
      refine e_goto (tgt := 4) dX3_next_62 (by decide) ?_
      exact e_loc [2, 1, 0] rfl (ih (i + 1) _ b' (by rw [hx]; exact nI_1 i) (by omega) j1 j2)
    have keep : ¬ (il i = 0 ∧ bh kv sd ck cb (it i) = true) → x_E mX3_next (d + 3) 0 0 59 [(2, .int x), (1, .int b), (0, .ref m)] [] h Q := by
      intro hn
      refine nxt b (fun i0 e q => i1 i0 e ?_) (fun q => ?_)
      · have : i ≠ i0 := fun e2 => hn (by rw [e2]; exact ⟨(ho i0 e).2.1, (ho i0 e).2.2.1⟩)
        omega
      · rcases i2 (fun i0 e r => q i0 e (by omega)) with r | ⟨r, r1, r2⟩
        · exact Or.inl r
        · exact Or.inr ⟨r, by omega, r2⟩
    refine e_iload_n dX3_next_4 rfl ?_
    refine e_aload_n dX3_next_5 rfl ?_
    refine e_get dX3_next_6 fX3_72 m0 rfl ?_
    refine e_icmp_ge (tgt := 65) dX3_next_9 (by decide) (fun c => absurd c (by rw [hx]; exact nI_ge (by omega) (by omega))) (fun _ => ?_)
    refine e_aload_n dX3_next_12 rfl ?_
    refine e_get dX3_next_13 fX3_33 m0 rfl ?_
    refine e_iload_n dX3_next_16 rfl ?_
    refine e_iald dX3_next_17 m7 rfl hx (af_get _ (show i < 600 by omega)) ?_
    refine e_if_ne (tgt := 59) dX3_next_18 (by decide) (fun d1 => ?_) (fun d1 => ?_)
    · exact e_loc [2, 1, 0] rfl (keep (fun q => d1 (by rw [q.1]; rfl)))
    have e1 : il i = 0 := (nI_c (b := 0) (by omega) (by omega)).mp d1
    refine e_aload_n dX3_next_21 rfl ?_
    refine e_aload_n dX3_next_22 rfl ?_
    refine e_get dX3_next_23 fX3_30 m0 rfl ?_
    refine e_iload_n dX3_next_26 rfl ?_
    refine e_iald dX3_next_27 m6 rfl hx (af_get _ (show i < 600 by omega)) ?_
    refine e_V1d dX3_next_28 gX3_146 m0 rfl (by omega) (Nat.le_of_ble_eq_true rfl) rfl rfl (con_behind d h m (it i) hm' g1 hck) ?_
    refine e_if_eq (tgt := 59) dX3_next_31 (by decide) (fun d2 => ?_) (fun d2 => ?_)
    · exact e_loc [2, 1, 0] rfl (keep (fun q => by have := q.2; rw [this] at d2; exact absurd d2 (by decide)))
    have e2 : bh kv sd ck cb (it i) = true := bI_nz d2
    have take : (∀ i0, o = some i0 → i0 < i → False) → x_E mX3_next (d + 3) 0 0 52 [(2, .int x), (1, .int b), (0, .ref m)] [] h Q := by
      intro hn
      refine e_aload_n dX3_next_52 rfl ?_
      refine e_get dX3_next_53 fX3_30 m0 rfl ?_
      refine e_iload_n dX3_next_56 rfl ?_
      refine e_iald dX3_next_57 m6 rfl hx (af_get _ (show i < 600 by omega)) ?_
      refine e_istore_n dX3_next_58 (by decide) rfl ?_
      refine e_loc [2, 1, 0] rfl (nxt _ (fun i0 e q => ?_) (fun q => Or.inr ⟨i, by omega, rfl, e1, e2⟩))
      have : i = i0 := by
        rcases Nat.lt_or_ge i0 i with r | r
        · exact absurd r (hn i0 e)
        · omega
      rw [this]
    refine e_iload_n dX3_next_34 rfl ?_
    refine e_if_lt (tgt := 52) dX3_next_35 (by decide) (fun d3 => ?_) (fun d3 => ?_)
    · refine e_loc [2, 1, 0] rfl (take (fun i0 e q => ?_))
      rw [i1 i0 e q] at d3
      exact absurd d3 (nI_pos (by have := (b3 i0 (ho i0 e).1).1; omega))
    · by_cases hq : ∃ i0, o = some i0 ∧ i0 < i
      · obtain ⟨i0, ho0, hlt⟩ := hq
        have hb : b = nI (it i0) := i1 i0 ho0 hlt
        subst hb
        have hI := ho i0 ho0
        refine e_aload_n dX3_next_38 rfl ?_
        refine e_aload_n dX3_next_39 rfl ?_
        refine e_get dX3_next_40 fX3_30 m0 rfl ?_
        refine e_iload_n dX3_next_43 rfl ?_
        refine e_iald dX3_next_44 m6 rfl hx (af_get _ (show i < 600 by omega)) ?_
        refine e_iload_n dX3_next_45 rfl ?_
        refine e_V2d dX3_next_46 gX3_68 m0 rfl (by omega) (Nat.le_of_ble_eq_true rfl) rfl rfl (con_order (d + 1) h m (it i) (it i0) hm' g1 (b3 i0 hI.1).1) ?_
        have := hI.2.2.2 i (by omega) e1 e2 (by omega)
        refine e_if_ge (tgt := 59) dX3_next_49 (by decide) (fun _ => ?_) (fun c => ?_)
        · exact e_loc [2, 1, 0] rfl (nxt _ (fun i1 e _ => by rw [ho0] at e; cases e; rfl) (fun q => absurd (by omega) (q i0 ho0)))
        · refine absurd ?_ c
          rw [c3_gt (by omega)]
          decide
      · rcases i2 (fun i0 e r => hq ⟨i0, e, r⟩) with r | ⟨r, r1, r2, r3, r4⟩
        · exact absurd (by rw [r]; decide) d3
        · subst r2
          refine e_aload_n dX3_next_38 rfl ?_
          refine e_aload_n dX3_next_39 rfl ?_
          refine e_get dX3_next_40 fX3_30 m0 rfl ?_
          refine e_iload_n dX3_next_43 rfl ?_
          refine e_iald dX3_next_44 m6 rfl hx (af_get _ (show i < 600 by omega)) ?_
          refine e_iload_n dX3_next_45 rfl ?_
          refine e_V2d dX3_next_46 gX3_68 m0 rfl (by omega) (Nat.le_of_ble_eq_true rfl) rfl rfl (con_order (d + 1) h m (it i) (it r) hm' g1 (b3 r (by omega)).1) ?_
          refine e_if_ge (tgt := 59) dX3_next_49 (by decide) (fun c => ?_) (fun _ => ?_)
          · refine e_loc [2, 1, 0] rfl (nxt _ (fun i0 e q => ?_) (fun q => Or.inr ⟨r, by omega, rfl, r3, r4⟩))
            have hii : i = i0 := by
              rcases Nat.lt_or_ge i0 i with z | z
              · exact absurd ⟨i0, e, z⟩ hq
              · omega
            have := (ho i0 e).2.2.2 r (by omega) r3 r4 (by omega)
            rw [hii, c3_lt (by omega)] at c
            exact absurd c (by decide)
          · exact e_loc [2, 1, 0] rfl (take (fun i0 e q => hq ⟨i0, e, q⟩))
theorem con_mnext (d : Nat) (h : xH) (m : Nat) (o : Option Nat) {kv : Nat → xE} {it il lw ll : Nat → Nat} {ow : Nat → Bool} {cm : Nat → Nat} {ks ni nl lv tk : Nat} {se lf : Int32} {ub : Bool} {sd : Int32} {ck : Nat} {cb : Bool} {hn : Nat} (hm : x_mm h m (kv, it, il, lw, ll, ow, cm) (ks, ni, nl, lv, tk, se, lf, ub, sd, ck, cb, hn)) (hB : mB it il lw ll ni nl) (hck : ck < 513) (ho : ∀ i0, o = some i0 → is_next kv it il ni sd ck cb i0) (hno : o = none → ∀ i, i < ni → il i = 0 → ¬ (bh kv sd ck cb (it i) = true)) : x_Con mX3_next (d + 3) 0 0 [.ref m] h (fun rv h' => x_mf m h h' ∧ (match o with
    | none => rv = [.int 0] ∧ h' = h
    | some i0 => rv = [.int 1] ∧ x_mm h' m (kv, it, il, lw, ll, ow, cm) (ks, ni, nl, lv, tk, se, lf, ub, 0, it i0, true, it i0))) := by
  refine e_enter (by decide) (Nat.le_of_ble_eq_true rfl) ?_
  refine e_iconst (v := (-1)) dX3_next_0 (by decide) ?_
  refine e_istore_n dX3_next_1 (by decide) rfl ?_
  refine e_iconst (v := 0) dX3_next_2 (by decide) ?_
  refine e_istore_n dX3_next_3 (by decide) rfl ?_
  refine e_loc [2, 1, 0] rfl (next_lo d h m o hm hB hck ho hno _ (fun l b l0 l1 f1 f2 => ?_) ni 0 0 (-1) rfl (by omega) (fun i0 _ q => absurd q (by omega)) (fun _ => Or.inl rfl))
  refine e_iload_n dX3_next_65 l1 ?_
  cases o with
  | none =>
    have hb := f2 rfl
    subst hb
    refine e_if_ge (tgt := 71) dX3_next_66 (by decide) (fun c => absurd c (by decide)) (fun _ => ?_)
    refine e_iconst (v := 0) dX3_next_69 (by decide) ?_
    exact e_iret dX3_next_70 rfl rfl ⟨x_mf.rf, rfl, rfl⟩
  | some i0 =>
    have hb := f1 i0 rfl
    subst hb
    have hlt := (hB.2.2.1 i0 (ho i0 rfl).1).1
    have m0 := hm.1
    refine e_if_ge (tgt := 71) dX3_next_66 (by decide) (fun _ => ?_) (fun c => absurd (nI_pos' (by omega)) c)
    refine e_aload_n dX3_next_71 l0 ?_
    refine e_iload_n dX3_next_72 l1 ?_
    refine e_putM (s' := (ks, ni, nl, lv, tk, se, lf, ub, sd, ck, cb, it i0)) dX3_next_73 fX3_53 m0 (by exact ⟨rfl, rfl⟩) rfl rfl ?_
    have hm2 := hm.s (ks, ni, nl, lv, tk, se, lf, ub, sd, ck, cb, it i0)
    refine e_aload_n dX3_next_76 l0 ?_
    refine e_iload_n dX3_next_77 l1 ?_
    refine e_iconst (v := 1) dX3_next_78 (by decide) ?_
    refine e_V2 dX3_next_79 gX3_133 hm2.1 rfl (by omega) (Nat.le_of_ble_eq_true rfl) rfl rfl (con_stand (d + 2) _ m (it i0) true hm2) ?_
    rintro _ h2 ⟨rfl, hm3, hf3⟩
    refine e_iconst (v := 1) dX3_next_82 (by decide) ?_
    exact e_iret dX3_next_83 rfl rfl ⟨x_mf.rf.up0.tr hf3, rfl, hm3⟩

def is_back (kv : Nat → xE) (it il : Nat → Nat) (ni : Nat) (sd : Int32) (ck : Nat) (cb : Bool) (i0 : Nat) : Prop := i0 < ni ∧ il i0 = 0 ∧ ¬ bh kv sd ck cb (it i0) = true ∧ ∀ i, i < ni → il i = 0 → ¬ bh kv sd ck cb (it i) = true → i ≠ i0 → rk kv (it i) < rk kv (it i0)
theorem back_lo (d : Nat) (h : xH) (m : Nat) (o : Option Nat) {kv : Nat → xE} {it il lw ll : Nat → Nat} {ow : Nat → Bool} {cm : Nat → Nat} {ks ni nl lv tk : Nat} {se lf : Int32} {ub : Bool} {sd : Int32} {ck : Nat} {cb : Bool} {hn : Nat} (hm : x_mm h m (kv, it, il, lw, ll, ow, cm) (ks, ni, nl, lv, tk, se, lf, ub, sd, ck, cb, hn)) (hB : mB it il lw ll ni nl) (hck : ck < 513) (ho : ∀ i0, o = some i0 → is_back kv it il ni sd ck cb i0) (hno : o = none → ∀ i, i < ni → il i = 0 → ¬ (¬ bh kv sd ck cb (it i) = true)) (Q : List Value → xH → Prop)
    (fin : ∀ l b, x_lk l 0 = some (.ref m) → x_lk l 1 = some (.int b) → (∀ i0, o = some i0 → b = nI (it i0)) → (o = none → b = -1) → x_E mX3_back (d + 3) 0 0 65 l [] h Q) :
    ∀ (k i : Nat) (x b : Int32), x = nI i → i + k = ni → (∀ i0, o = some i0 → i0 < i → b = nI (it i0)) → ((∀ i0, o = some i0 → ¬ i0 < i) → b = -1 ∨ ∃ q, q < i ∧ b = nI (it q) ∧ il q = 0 ∧ ¬ bh kv sd ck cb (it q) = true) →
    x_E mX3_back (d + 3) 0 0 4 [(2, .int x), (1, .int b), (0, .ref m)] [] h Q := by
  have hm' := hm
  have hB' := hB
  obtain ⟨m0, m1, m2, m3, m4, m5, m6, m7, m8, m9, m10, m11⟩ := hm
  obtain ⟨b1, b2, b3, b4⟩ := hB
  intro k
  induction k with
  | zero =>
    intro i x b hx hi i1 i2
    refine e_iload_n dX3_back_4 rfl ?_
    refine e_aload_n dX3_back_5 rfl ?_
    refine e_get dX3_back_6 fX3_72 m0 rfl ?_
    refine e_icmp_ge (tgt := 65) dX3_back_9 (by decide) (fun _ => ?_) (fun c => absurd (by rw [hx]; exact nI_le (by omega) (by omega)) c)
    refine fin _ b rfl rfl (fun i0 e => i1 i0 e ?_) (fun e => ?_)
    · have := (ho i0 e).1
      omega
    · rcases i2 (fun i0 q => by rw [e] at q; cases q) with r | ⟨q, q1, q2, q3, q4⟩
      · exact r
      · exact absurd q4 (hno e q (by omega) q3)
  | succ k ih =>
    intro i x b hx hi i1 i2
    obtain ⟨g1, g2⟩ := b3 i (by omega)
    have nxt : ∀ b', (∀ i0, o = some i0 → i0 < i + 1 → b' = nI (it i0)) → ((∀ i0, o = some i0 → ¬ i0 < i + 1) → b' = -1 ∨ ∃ q, q < i + 1 ∧ b' = nI (it q) ∧ il q = 0 ∧ ¬ bh kv sd ck cb (it q) = true) → x_E mX3_back (d + 3) 0 0 59 [(2, .int x), (1, .int b'), (0, .ref m)] [] h Q := by
      intro b' j1 j2
      refine e_iinc dX3_back_59 rfl rfl (by decide) rfl ?_
      refine e_goto (tgt := 4) dX3_back_62 (by decide) ?_
      exact e_loc [2, 1, 0] rfl (ih (i + 1) _ b' (by rw [hx]; exact nI_1 i) (by omega) j1 j2)
    have keep : ¬ (il i = 0 ∧ ¬ bh kv sd ck cb (it i) = true) → x_E mX3_back (d + 3) 0 0 59 [(2, .int x), (1, .int b), (0, .ref m)] [] h Q := by
      intro hn
      refine nxt b (fun i0 e q => i1 i0 e ?_) (fun q => ?_)
      · have : i ≠ i0 := fun e2 => hn (by rw [e2]; exact ⟨(ho i0 e).2.1, (ho i0 e).2.2.1⟩)
        omega
      · rcases i2 (fun i0 e r => q i0 e (by omega)) with r | ⟨r, r1, r2⟩
        · exact Or.inl r
        · exact Or.inr ⟨r, by omega, r2⟩
    refine e_iload_n dX3_back_4 rfl ?_
    refine e_aload_n dX3_back_5 rfl ?_
    refine e_get dX3_back_6 fX3_72 m0 rfl ?_
    refine e_icmp_ge (tgt := 65) dX3_back_9 (by decide) (fun c => absurd c (by rw [hx]; exact nI_ge (by omega) (by omega))) (fun _ => ?_)
    refine e_aload_n dX3_back_12 rfl ?_
    refine e_get dX3_back_13 fX3_33 m0 rfl ?_
    refine e_iload_n dX3_back_16 rfl ?_
    refine e_iald dX3_back_17 m7 rfl hx (af_get _ (show i < 600 by omega)) ?_
    refine e_if_ne (tgt := 59) dX3_back_18 (by decide) (fun d1 => ?_) (fun d1 => ?_)
    · exact e_loc [2, 1, 0] rfl (keep (fun q => d1 (by rw [q.1]; rfl)))
    have e1 : il i = 0 := (nI_c (b := 0) (by omega) (by omega)).mp d1
    refine e_aload_n dX3_back_21 rfl ?_
    refine e_aload_n dX3_back_22 rfl ?_
    refine e_get dX3_back_23 fX3_30 m0 rfl ?_
    refine e_iload_n dX3_back_26 rfl ?_
    refine e_iald dX3_back_27 m6 rfl hx (af_get _ (show i < 600 by omega)) ?_
    refine e_V1d dX3_back_28 gX3_146 m0 rfl (by omega) (Nat.le_of_ble_eq_true rfl) rfl rfl (con_behind d h m (it i) hm' g1 hck) ?_
    refine e_if_ne (tgt := 59) dX3_back_31 (by decide) (fun d2 => ?_) (fun d2 => ?_)
    · exact e_loc [2, 1, 0] rfl (keep (fun q => q.2 (bI_nz d2)))
    have e2 : ¬ bh kv sd ck cb (it i) = true := by rw [bI_z d2]; decide
    have take : (∀ i0, o = some i0 → i0 < i → False) → x_E mX3_back (d + 3) 0 0 52 [(2, .int x), (1, .int b), (0, .ref m)] [] h Q := by
      intro hn
      refine e_aload_n dX3_back_52 rfl ?_
      refine e_get dX3_back_53 fX3_30 m0 rfl ?_
      refine e_iload_n dX3_back_56 rfl ?_
      refine e_iald dX3_back_57 m6 rfl hx (af_get _ (show i < 600 by omega)) ?_
      refine e_istore_n dX3_back_58 (by decide) rfl ?_
      refine e_loc [2, 1, 0] rfl (nxt _ (fun i0 e q => ?_) (fun q => Or.inr ⟨i, by omega, rfl, e1, e2⟩))
      have : i = i0 := by
        rcases Nat.lt_or_ge i0 i with r | r
        · exact absurd r (hn i0 e)
        · omega
      rw [this]
    refine e_iload_n dX3_back_34 rfl ?_
    refine e_if_lt (tgt := 52) dX3_back_35 (by decide) (fun d3 => ?_) (fun d3 => ?_)
    · refine e_loc [2, 1, 0] rfl (take (fun i0 e q => ?_))
      rw [i1 i0 e q] at d3
      exact absurd d3 (nI_pos (by have := (b3 i0 (ho i0 e).1).1; omega))
    · by_cases hq : ∃ i0, o = some i0 ∧ i0 < i
      · obtain ⟨i0, ho0, hlt⟩ := hq
        have hb : b = nI (it i0) := i1 i0 ho0 hlt
        subst hb
        have hI := ho i0 ho0
        refine e_aload_n dX3_back_38 rfl ?_
        refine e_aload_n dX3_back_39 rfl ?_
        refine e_get dX3_back_40 fX3_30 m0 rfl ?_
        refine e_iload_n dX3_back_43 rfl ?_
        refine e_iald dX3_back_44 m6 rfl hx (af_get _ (show i < 600 by omega)) ?_
        refine e_iload_n dX3_back_45 rfl ?_
        refine e_V2d dX3_back_46 gX3_68 m0 rfl (by omega) (Nat.le_of_ble_eq_true rfl) rfl rfl (con_order (d + 1) h m (it i) (it i0) hm' g1 (b3 i0 hI.1).1) ?_
        have := hI.2.2.2 i (by omega) e1 e2 (by omega)
        refine e_if_le (tgt := 59) dX3_back_49 (by decide) (fun _ => ?_) (fun c => ?_)
        · exact e_loc [2, 1, 0] rfl (nxt _ (fun i1 e _ => by rw [ho0] at e; cases e; rfl) (fun q => absurd (by omega) (q i0 ho0)))
        · refine absurd ?_ c
          rw [c3_lt (by omega)]
          decide
      · rcases i2 (fun i0 e r => hq ⟨i0, e, r⟩) with r | ⟨r, r1, r2, r3, r4⟩
        · exact absurd (by rw [r]; decide) d3
        · subst r2
          refine e_aload_n dX3_back_38 rfl ?_
          refine e_aload_n dX3_back_39 rfl ?_
          refine e_get dX3_back_40 fX3_30 m0 rfl ?_
          refine e_iload_n dX3_back_43 rfl ?_
          refine e_iald dX3_back_44 m6 rfl hx (af_get _ (show i < 600 by omega)) ?_
          refine e_iload_n dX3_back_45 rfl ?_
          refine e_V2d dX3_back_46 gX3_68 m0 rfl (by omega) (Nat.le_of_ble_eq_true rfl) rfl rfl (con_order (d + 1) h m (it i) (it r) hm' g1 (b3 r (by omega)).1) ?_
          refine e_if_le (tgt := 59) dX3_back_49 (by decide) (fun c => ?_) (fun _ => ?_)
          · refine e_loc [2, 1, 0] rfl (nxt _ (fun i0 e q => ?_) (fun q => Or.inr ⟨r, by omega, rfl, r3, r4⟩))
            have hii : i = i0 := by
              rcases Nat.lt_or_ge i0 i with z | z
              · exact absurd ⟨i0, e, z⟩ hq
              · omega
            have := (ho i0 e).2.2.2 r (by omega) r3 r4 (by omega)
            rw [hii, c3_gt (by omega)] at c
            exact absurd c (by decide)
          · exact e_loc [2, 1, 0] rfl (take (fun i0 e q => hq ⟨i0, e, q⟩))
theorem con_mback (d : Nat) (h : xH) (m : Nat) (o : Option Nat) {kv : Nat → xE} {it il lw ll : Nat → Nat} {ow : Nat → Bool} {cm : Nat → Nat} {ks ni nl lv tk : Nat} {se lf : Int32} {ub : Bool} {sd : Int32} {ck : Nat} {cb : Bool} {hn : Nat} (hm : x_mm h m (kv, it, il, lw, ll, ow, cm) (ks, ni, nl, lv, tk, se, lf, ub, sd, ck, cb, hn)) (hB : mB it il lw ll ni nl) (hck : ck < 513) (ho : ∀ i0, o = some i0 → is_back kv it il ni sd ck cb i0) (hno : o = none → ∀ i, i < ni → il i = 0 → ¬ (¬ bh kv sd ck cb (it i) = true)) : x_Con mX3_back (d + 3) 0 0 [.ref m] h (fun rv h' => x_mf m h h' ∧ (match o with
    | none => rv = [.int 0] ∧ h' = h
    | some i0 => rv = [.int 1] ∧ x_mm h' m (kv, it, il, lw, ll, ow, cm) (ks, ni, nl, lv, tk, se, lf, ub, 0, it i0, false, it i0))) := by
  refine e_enter (by decide) (Nat.le_of_ble_eq_true rfl) ?_
  refine e_iconst (v := (-1)) dX3_back_0 (by decide) ?_
  refine e_istore_n dX3_back_1 (by decide) rfl ?_
  refine e_iconst (v := 0) dX3_back_2 (by decide) ?_
  refine e_istore_n dX3_back_3 (by decide) rfl ?_
  refine e_loc [2, 1, 0] rfl (back_lo d h m o hm hB hck ho hno _ (fun l b l0 l1 f1 f2 => ?_) ni 0 0 (-1) rfl (by omega) (fun i0 _ q => absurd q (by omega)) (fun _ => Or.inl rfl))
  refine e_iload_n dX3_back_65 l1 ?_
  cases o with
  | none =>
    have hb := f2 rfl
    subst hb
    refine e_if_ge (tgt := 71) dX3_back_66 (by decide) (fun c => absurd c (by decide)) (fun _ => ?_)
    refine e_iconst (v := 0) dX3_back_69 (by decide) ?_
    exact e_iret dX3_back_70 rfl rfl ⟨x_mf.rf, rfl, rfl⟩
  | some i0 =>
    have hb := f1 i0 rfl
    subst hb
    have hlt := (hB.2.2.1 i0 (ho i0 rfl).1).1
    have m0 := hm.1
    refine e_if_ge (tgt := 71) dX3_back_66 (by decide) (fun _ => ?_) (fun c => absurd (nI_pos' (by omega)) c)
    refine e_aload_n dX3_back_71 l0 ?_
    refine e_iload_n dX3_back_72 l1 ?_
    refine e_putM (s' := (ks, ni, nl, lv, tk, se, lf, ub, sd, ck, cb, it i0)) dX3_back_73 fX3_53 m0 (by exact ⟨rfl, rfl⟩) rfl rfl ?_
    have hm2 := hm.s (ks, ni, nl, lv, tk, se, lf, ub, sd, ck, cb, it i0)
    refine e_aload_n dX3_back_76 l0 ?_
    refine e_iload_n dX3_back_77 l1 ?_
    refine e_iconst (v := 0) dX3_back_78 (by decide) ?_
    refine e_V2 dX3_back_79 gX3_133 hm2.1 rfl (by omega) (Nat.le_of_ble_eq_true rfl) rfl rfl (con_stand (d + 2) _ m (it i0) false hm2) ?_
    rintro _ h2 ⟨rfl, hm3, hf3⟩
    refine e_iconst (v := 1) dX3_back_82 (by decide) ?_
    exact e_iret dX3_back_83 rfl rfl ⟨x_mf.rf.up0.tr hf3, rfl, hm3⟩
end
section
/-! the reference: questions, seek, clear, has, remove -/
def hit (kv : Nat → xE) (it il : Nat → Nat) (num i : Nat) : Prop := il i = 0 ∧ rk kv (it i) = rk kv num
def isI (kv : Nat → xE) (it il : Nat → Nat) (ni num : Nat) (o : Option Nat) : Prop := match o with
  | none => ∀ i, i < ni → ¬ hit kv it il num i
  | some i0 => i0 < ni ∧ hit kv it il num i0 ∧ ∀ i, i < i0 → ¬ hit kv it il num i
def oI (o : Option Nat) : Int32 := match o with
  | none => -1
  | some i => nI i
theorem io_lo (d : Nat) (h : xH) (m num : Nat) (o : Option Nat) {kv : Nat → xE} {it il lw ll : Nat → Nat} {ow : Nat → Bool} {cm : Nat → Nat} {ks ni nl lv tk : Nat} {se lf : Int32} {ub : Bool} {sd : Int32} {ck : Nat} {cb : Bool} {hn : Nat} (hm : x_mm h m (kv, it, il, lw, ll, ow, cm) (ks, ni, nl, lv, tk, se, lf, ub, sd, ck, cb, hn)) (hB : mB it il lw ll ni nl) (hnum : num < 513) (ho : isI kv it il ni num o) :
    ∀ (k i : Nat) (x : Int32), x = nI i → i + k = o.getD ni → x_E mX3_itemOf (d + 2) 0 0 2 [(2, .int x), (0, .ref m), (1, .int (nI num))] [] h (fun rv h' => rv = [.int (oI o)] ∧ h' = h) := by
  have hm' := hm
  obtain ⟨m0, m1, m2, m3, m4, m5, m6, m7, m8, m9, m10, m11⟩ := hm
  obtain ⟨b1, b2, b3, b4⟩ := hB
  intro k
  induction k with
  | zero =>
    intro i x hx hi
    cases o with
    | none =>
      simp only [Option.getD_none] at hi
      refine e_iload_n dX3_itemOf_2 rfl ?_
      refine e_aload_n dX3_itemOf_3 rfl ?_
      refine e_get dX3_itemOf_4 fX3_72 m0 rfl ?_
      refine e_icmp_ge (tgt := 41) dX3_itemOf_7 (by decide) (fun _ => ?_) (fun c => absurd (by rw [hx]; exact nI_le (by omega) (by omega)) c)
      refine e_iconst (v := (-1)) dX3_itemOf_41 (by decide) ?_
      exact e_iret dX3_itemOf_42 rfl rfl ⟨rfl, rfl⟩
    | some i0 =>
      simp only [Option.getD_some] at hi
      have e0 : i = i0 := by omega
      subst e0
      obtain ⟨o1, ⟨o2, o3⟩, o4⟩ := ho
      refine e_iload_n dX3_itemOf_2 rfl ?_
      refine e_aload_n dX3_itemOf_3 rfl ?_
      refine e_get dX3_itemOf_4 fX3_72 m0 rfl ?_
      refine e_icmp_ge (tgt := 41) dX3_itemOf_7 (by decide) (fun c => absurd c (by rw [hx]; exact nI_ge (by omega) (by omega))) (fun _ => ?_)
      refine e_aload_n dX3_itemOf_10 rfl ?_
      refine e_get dX3_itemOf_11 fX3_33 m0 rfl ?_
      refine e_iload_n dX3_itemOf_14 rfl ?_
      refine e_iald dX3_itemOf_15 m7 rfl hx (af_get _ (show i < 600 by omega)) ?_
      refine e_if_ne (tgt := 35) dX3_itemOf_16 (by decide) (fun c => absurd (by rw [o2]; rfl) c) (fun _ => ?_)
      refine e_aload_n dX3_itemOf_19 rfl ?_
      refine e_aload_n dX3_itemOf_20 rfl ?_
      refine e_get dX3_itemOf_21 fX3_30 m0 rfl ?_
      refine e_iload_n dX3_itemOf_24 rfl ?_
      refine e_iald dX3_itemOf_25 m6 rfl hx (af_get _ (show i < 600 by omega)) ?_
      refine e_iload_n dX3_itemOf_26 rfl ?_
      refine e_V2d dX3_itemOf_27 gX3_68 m0 rfl (by omega) (Nat.le_of_ble_eq_true rfl) rfl rfl (con_order d h m (it i) num hm' (b3 i o1).1 hnum) ?_
      refine e_if_ne (tgt := 35) dX3_itemOf_30 (by decide) (fun c => absurd (c3_z.mpr (by rw [o3])) c) (fun _ => ?_)
      refine e_iload_n dX3_itemOf_33 rfl ?_
      exact e_iret dX3_itemOf_34 rfl rfl ⟨by rw [hx]; rfl, rfl⟩
  | succ k ih =>
    intro i x hx hi
    have hni : i < ni ∧ ¬ hit kv it il num i := by
      cases o with
      | none => simp only [Option.getD_none] at hi; exact ⟨by omega, ho i (by omega)⟩
      | some i0 => simp only [Option.getD_some] at hi; exact ⟨by have := ho.1; omega, ho.2.2 i (by omega)⟩
    have nxt : x_E mX3_itemOf (d + 2) 0 0 35 [(2, .int x), (0, .ref m), (1, .int (nI num))] [] h (fun rv h' => rv = [.int (oI o)] ∧ h' = h) := by
      refine e_iinc dX3_itemOf_35 rfl rfl (by decide) rfl ?_
      refine e_goto (tgt := 2) dX3_itemOf_38 (by decide) ?_
      exact e_loc [2, 0, 1] rfl (ih (i + 1) _ (by rw [hx]; exact nI_1 i) (by omega))
    refine e_iload_n dX3_itemOf_2 rfl ?_
    refine e_aload_n dX3_itemOf_3 rfl ?_
    refine e_get dX3_itemOf_4 fX3_72 m0 rfl ?_
    refine e_icmp_ge (tgt := 41) dX3_itemOf_7 (by decide) (fun c => absurd c (by rw [hx]; exact nI_ge (by omega) (by omega))) (fun _ => ?_)
    refine e_aload_n dX3_itemOf_10 rfl ?_
    refine e_get dX3_itemOf_11 fX3_33 m0 rfl ?_
    refine e_iload_n dX3_itemOf_14 rfl ?_
    refine e_iald dX3_itemOf_15 m7 rfl hx (af_get _ (show i < 600 by omega)) ?_
    refine e_if_ne (tgt := 35) dX3_itemOf_16 (by decide) (fun d1 => ?_) (fun d1 => ?_)
    · exact e_loc [2, 0, 1] rfl nxt
    have e1 : il i = 0 := (nI_c (b := 0) (by have := (b3 i hni.1).2; omega) (by omega)).mp d1
    refine e_aload_n dX3_itemOf_19 rfl ?_
    refine e_aload_n dX3_itemOf_20 rfl ?_
    refine e_get dX3_itemOf_21 fX3_30 m0 rfl ?_
    refine e_iload_n dX3_itemOf_24 rfl ?_
    refine e_iald dX3_itemOf_25 m6 rfl hx (af_get _ (show i < 600 by omega)) ?_
    refine e_iload_n dX3_itemOf_26 rfl ?_
    refine e_V2d dX3_itemOf_27 gX3_68 m0 rfl (by omega) (Nat.le_of_ble_eq_true rfl) rfl rfl (con_order d h m (it i) num hm' (b3 i hni.1).1 hnum) ?_
    refine e_if_ne (tgt := 35) dX3_itemOf_30 (by decide) (fun d2 => ?_) (fun d2 => ?_)
    · exact e_loc [2, 0, 1] rfl nxt
    · exact absurd ⟨e1, by have := c3_z.mp d2; omega⟩ hni.2
theorem con_itemOf (d : Nat) (h : xH) (m num : Nat) (o : Option Nat) {kv : Nat → xE} {it il lw ll : Nat → Nat} {ow : Nat → Bool} {cm : Nat → Nat} {ks ni nl lv tk : Nat} {se lf : Int32} {ub : Bool} {sd : Int32} {ck : Nat} {cb : Bool} {hn : Nat} (hm : x_mm h m (kv, it, il, lw, ll, ow, cm) (ks, ni, nl, lv, tk, se, lf, ub, sd, ck, cb, hn)) (hB : mB it il lw ll ni nl) (hnum : num < 513) (ho : isI kv it il ni num o) : x_D mX3_itemOf (d + 2) 0 0 [.ref m, .int (nI num)] h [.int (oI o)] h := by
  refine e_enter (by decide) (Nat.le_of_ble_eq_true rfl) ?_
  refine e_iconst (v := 0) dX3_itemOf_0 (by decide) ?_
  refine e_istore_n dX3_itemOf_1 (by decide) rfl ?_
  exact e_loc [2, 0, 1] rfl (io_lo d h m num o hm hB hnum ho (o.getD ni) 0 0 rfl (by omega))
theorem eo_lo (d : Nat) (h : xH) (m L : Nat) {kv : Nat → xE} {it il lw ll : Nat → Nat} {ow : Nat → Bool} {cm : Nat → Nat} {ks ni nl lv tk : Nat} {se lf : Int32} {ub : Bool} {sd : Int32} {ck : Nat} {cb : Bool} {hn : Nat} (hm : x_mm h m (kv, it, il, lw, ll, ow, cm) (ks, ni, nl, lv, tk, se, lf, ub, sd, ck, cb, hn)) (hB : mB it il lw ll ni nl) (hL : L < 64) :
    ∀ (k i : Nat) (x n : Int32), x = nI i → i + k = ni → n = nI (cT (fun i => decide (il i = L)) i) →
    x_E mX3_entriesOf d 0 0 4 [(3, .int x), (2, .int n), (0, .ref m), (1, .int (nI L))] [] h (fun rv h' => rv = [.int (nI (cT (fun i => decide (il i = L)) ni))] ∧ h' = h) := by
  obtain ⟨m0, m1, m2, m3, m4, m5, m6, m7, m8, m9, m10, m11⟩ := hm
  obtain ⟨b1, b2, b3, b4⟩ := hB
  intro k
  induction k with
  | zero =>
    intro i x n hx hi hn
    refine e_iload_n dX3_entriesOf_4 rfl ?_
    refine e_aload_n dX3_entriesOf_5 rfl ?_
    refine e_get dX3_entriesOf_6 fX3_72 m0 rfl ?_
    refine e_icmp_ge (tgt := 31) dX3_entriesOf_9 (by decide) (fun _ => ?_) (fun c => absurd (by rw [hx]; exact nI_le (by omega) (by omega)) c)
    refine e_iload_n dX3_entriesOf_31 rfl ?_
    exact e_iret dX3_entriesOf_32 rfl rfl ⟨by rw [hn, show i = ni by omega], rfl⟩
  | succ k ih =>
    intro i x n hx hi hn
    obtain ⟨g1, g2⟩ := b3 i (by omega)
    have nxt : ∀ n', n' = nI (cT (fun i => decide (il i = L)) (i + 1)) → x_E mX3_entriesOf d 0 0 25 [(3, .int x), (2, .int n'), (0, .ref m), (1, .int (nI L))] [] h (fun rv h' => rv = [.int (nI (cT (fun i => decide (il i = L)) ni))] ∧ h' = h) := by
      intro n' hn'
      refine e_iinc dX3_entriesOf_25 rfl rfl (by decide) rfl ?_
      refine e_goto (tgt := 4) dX3_entriesOf_28 (by decide) ?_
      exact e_loc [3, 2, 0, 1] rfl (ih (i + 1) _ n' (by rw [hx]; exact nI_1 i) (by omega) hn')
    refine e_iload_n dX3_entriesOf_4 rfl ?_
    refine e_aload_n dX3_entriesOf_5 rfl ?_
    refine e_get dX3_entriesOf_6 fX3_72 m0 rfl ?_
    refine e_icmp_ge (tgt := 31) dX3_entriesOf_9 (by decide) (fun c => absurd c (by rw [hx]; exact nI_ge (by omega) (by omega))) (fun _ => ?_)
    refine e_aload_n dX3_entriesOf_12 rfl ?_
    refine e_get dX3_entriesOf_13 fX3_33 m0 rfl ?_
    refine e_iload_n dX3_entriesOf_16 rfl ?_
    refine e_iald dX3_entriesOf_17 m7 rfl hx (af_get _ (show i < 600 by omega)) ?_
    refine e_iload_n dX3_entriesOf_18 rfl ?_
    refine e_icmp_ne (tgt := 25) dX3_entriesOf_19 (by decide) (fun d1 => ?_) (fun d1 => ?_)
    · refine e_loc [3, 2, 0, 1] rfl (nxt n (cT_n _ hn ?_))
      have : ¬ il i = L := fun q => d1 (by rw [q])
      simp [this]
    · have e1 : il i = L := (nI_c (by omega) (by omega)).mp d1
      refine e_iinc dX3_entriesOf_22 rfl rfl (by decide) rfl ?_
      exact e_loc [3, 2, 0, 1] rfl (nxt _ (cT_s _ hn (by simp [e1])))
theorem con_entriesOf (d : Nat) (h : xH) (m L : Nat) {kv : Nat → xE} {it il lw ll : Nat → Nat} {ow : Nat → Bool} {cm : Nat → Nat} {ks ni nl lv tk : Nat} {se lf : Int32} {ub : Bool} {sd : Int32} {ck : Nat} {cb : Bool} {hn : Nat} (hm : x_mm h m (kv, it, il, lw, ll, ow, cm) (ks, ni, nl, lv, tk, se, lf, ub, sd, ck, cb, hn)) (hB : mB it il lw ll ni nl) (hL : L < 64) : x_D mX3_entriesOf d 0 0 [.ref m, .int (nI L)] h [.int (nI (cT (fun i => decide (il i = L)) ni))] h := by
  refine e_enter (by decide) (Nat.le_of_ble_eq_true rfl) ?_
  refine e_iconst (v := 0) dX3_entriesOf_0 (by decide) ?_
  refine e_istore_n dX3_entriesOf_1 (by decide) rfl ?_
  refine e_iconst (v := 0) dX3_entriesOf_2 (by decide) ?_
  refine e_istore_n dX3_entriesOf_3 (by decide) rfl ?_
  exact e_loc [3, 2, 0, 1] rfl (eo_lo d h m L hm hB hL ni 0 0 0 rfl (by omega) rfl)
/-- the page q stands left of the page p -/
def lft (kv : Nat → xE) (lw ll : Nat → Nat) (p q : Nat) : Bool := decide (ll q = ll p) && decide (rk kv (lw q) < rk kv (lw p))
theorem lo_lo (d : Nat) (h : xH) (m p : Nat) {kv : Nat → xE} {it il lw ll : Nat → Nat} {ow : Nat → Bool} {cm : Nat → Nat} {ks ni nl lv tk : Nat} {se lf : Int32} {ub : Bool} {sd : Int32} {ck : Nat} {cb : Bool} {hn : Nat} (hm : x_mm h m (kv, it, il, lw, ll, ow, cm) (ks, ni, nl, lv, tk, se, lf, ub, sd, ck, cb, hn)) (hB : mB it il lw ll ni nl) (hp : p < nl) :
    ∀ (k i : Nat) (x n : Int32), x = nI i → i + k = nl → n = nI (cT (lft kv lw ll p) i) →
    x_E mX3_leftOf (d + 2) 0 0 4 [(3, .int x), (2, .int n), (0, .ref m), (1, .int (nI p))] [] h (fun rv h' => rv = [.int (nI (cT (lft kv lw ll p) nl))] ∧ h' = h) := by
  have hm' := hm
  obtain ⟨m0, m1, m2, m3, m4, m5, m6, m7, m8, m9, m10, m11⟩ := hm
  obtain ⟨b1, b2, b3, b4⟩ := hB
  intro k
  induction k with
  | zero =>
    intro i x n hx hi hn
    refine e_iload_n dX3_leftOf_4 rfl ?_
    refine e_aload_n dX3_leftOf_5 rfl ?_
    refine e_get dX3_leftOf_6 fX3_65 m0 rfl ?_
    refine e_icmp_ge (tgt := 55) dX3_leftOf_9 (by decide) (fun _ => ?_) (fun c => absurd (by rw [hx]; exact nI_le (by omega) (by omega)) c)
    refine e_iload_n dX3_leftOf_55 rfl ?_
    exact e_iret dX3_leftOf_56 rfl rfl ⟨by rw [hn, show i = nl by omega], rfl⟩
  | succ k ih =>
    intro i x n hx hi hn
    obtain ⟨g1, g2⟩ := b4 i (by omega)
    obtain ⟨g3, g4⟩ := b4 p hp
    have nxt : ∀ n', n' = nI (cT (lft kv lw ll p) (i + 1)) → x_E mX3_leftOf (d + 2) 0 0 49 [(3, .int x), (2, .int n'), (0, .ref m), (1, .int (nI p))] [] h (fun rv h' => rv = [.int (nI (cT (lft kv lw ll p) nl))] ∧ h' = h) := by
      intro n' hn'
      refine e_iinc dX3_leftOf_49 rfl rfl (by decide) rfl ?_
      refine e_goto (tgt := 4) dX3_leftOf_52 (by decide) ?_
      exact e_loc [3, 2, 0, 1] rfl (ih (i + 1) _ n' (by rw [hx]; exact nI_1 i) (by omega) hn')
    refine e_iload_n dX3_leftOf_4 rfl ?_
    refine e_aload_n dX3_leftOf_5 rfl ?_
    refine e_get dX3_leftOf_6 fX3_65 m0 rfl ?_
    refine e_icmp_ge (tgt := 55) dX3_leftOf_9 (by decide) (fun c => absurd c (by rw [hx]; exact nI_ge (by omega) (by omega))) (fun _ => ?_)
    refine e_aload_n dX3_leftOf_12 rfl ?_
    refine e_get dX3_leftOf_13 fX3_39 m0 rfl ?_
    refine e_iload_n dX3_leftOf_16 rfl ?_
    refine e_iald dX3_leftOf_17 m9 rfl hx (af_get _ (show i < 60 by omega)) ?_
    refine e_aload_n dX3_leftOf_18 rfl ?_
    refine e_get dX3_leftOf_19 fX3_39 m0 rfl ?_
    refine e_iload_n dX3_leftOf_22 rfl ?_
    refine e_iald dX3_leftOf_23 m9 rfl rfl (af_get _ (show p < 60 by omega)) ?_
    refine e_icmp_ne (tgt := 49) dX3_leftOf_24 (by decide) (fun d1 => ?_) (fun d1 => ?_)
    · refine e_loc [3, 2, 0, 1] rfl (nxt n (cT_n _ hn ?_))
      have : ¬ ll i = ll p := fun q => d1 (by rw [q])
      simp [lft, this]
    have e1 : ll i = ll p := (nI_c (by omega) (by omega)).mp d1
    refine e_aload_n dX3_leftOf_27 rfl ?_
    refine e_aload_n dX3_leftOf_28 rfl ?_
    refine e_get dX3_leftOf_29 fX3_36 m0 rfl ?_
    refine e_iload_n dX3_leftOf_32 rfl ?_
    refine e_iald dX3_leftOf_33 m8 rfl hx (af_get _ (show i < 60 by omega)) ?_
    refine e_aload_n dX3_leftOf_34 rfl ?_
    refine e_get dX3_leftOf_35 fX3_36 m0 rfl ?_
    refine e_iload_n dX3_leftOf_38 rfl ?_
    refine e_iald dX3_leftOf_39 m8 rfl rfl (af_get _ (show p < 60 by omega)) ?_
    refine e_V2d dX3_leftOf_40 gX3_68 m0 rfl (by omega) (Nat.le_of_ble_eq_true rfl) rfl rfl (con_order d h m (lw i) (lw p) hm' g1 g3) ?_
    refine e_if_ge (tgt := 49) dX3_leftOf_43 (by decide) (fun d3 => ?_) (fun d3 => ?_)
    · refine e_loc [3, 2, 0, 1] rfl (nxt n (cT_n _ hn ?_))
      have : ¬ rk kv (lw i) < rk kv (lw p) := fun q => absurd d3 (by rw [c3_lt (by omega)]; decide)
      simp [lft, this]
    · have e3 : rk kv (lw i) < rk kv (lw p) := by
        have := c3_n.mp (Int32.not_le.mp d3)
        omega
      refine e_iinc dX3_leftOf_46 rfl rfl (by decide) rfl ?_
      exact e_loc [3, 2, 0, 1] rfl (nxt _ (cT_s _ hn (by simp [lft, e1, e3])))
theorem con_leftOf (d : Nat) (h : xH) (m p : Nat) {kv : Nat → xE} {it il lw ll : Nat → Nat} {ow : Nat → Bool} {cm : Nat → Nat} {ks ni nl lv tk : Nat} {se lf : Int32} {ub : Bool} {sd : Int32} {ck : Nat} {cb : Bool} {hn : Nat} (hm : x_mm h m (kv, it, il, lw, ll, ow, cm) (ks, ni, nl, lv, tk, se, lf, ub, sd, ck, cb, hn)) (hB : mB it il lw ll ni nl) (hp : p < nl) : x_D mX3_leftOf (d + 2) 0 0 [.ref m, .int (nI p)] h [.int (nI (cT (lft kv lw ll p) nl))] h := by
  refine e_enter (by decide) (Nat.le_of_ble_eq_true rfl) ?_
  refine e_iconst (v := 0) dX3_leftOf_0 (by decide) ?_
  refine e_istore_n dX3_leftOf_1 (by decide) rfl ?_
  refine e_iconst (v := 0) dX3_leftOf_2 (by decide) ?_
  refine e_istore_n dX3_leftOf_3 (by decide) rfl ?_
  exact e_loc [3, 2, 0, 1] rfl (lo_lo d h m p hm hB hp nl 0 0 0 rfl (by omega) rfl)
theorem con_mplace (d : Nat) (h : xH) (m : Nat) {kv : Nat → xE} {it il lw ll : Nat → Nat} {ow : Nat → Bool} {cm : Nat → Nat} {ks ni nl lv tk : Nat} {se lf : Int32} {ub : Bool} {sd : Int32} {ck : Nat} {cb : Bool} {hn : Nat} (hm : x_mm h m (kv, it, il, lw, ll, ow, cm) (ks, ni, nl, lv, tk, se, lf, ub, sd, ck, cb, hn)) (hhn : hn < 513) : x_D mX3_place d 0 0 [.ref m] h [.int (kv hn).2.2.2.2] h := by
  have m0 := hm.1
  have m5 := hm.2.2.2.2.2.1
  refine e_enter (by decide) (Nat.le_of_ble_eq_true rfl) ?_
  refine e_aload_n dX3_place_0 rfl ?_
  refine e_get dX3_place_1 fX3_22 m0 rfl ?_
  refine e_aload_n dX3_place_4 rfl ?_
  refine e_get dX3_place_5 fX3_53 m0 rfl ?_
  refine e_iald dX3_place_8 m5 rfl rfl (af_get _ hhn) ?_
  exact e_iret dX3_place_9 rfl rfl ⟨rfl, rfl⟩
def wd (e : xE) (k : Int32) : Int64 := if k = 0 then e.1 else if k = 1 then e.2.1 else if k = 2 then e.2.2.1 else if k = 3 then e.2.2.2.1 else 0
theorem k03 {k : Int32} (h0 : ¬ k = 0) (h1 : ¬ k = 1) (h2 : ¬ k = 2) (h3 : ¬ k = 3) : k.toInt < 0 ∨ 3 < k.toInt := by
  have e0 : k.toInt ≠ 0 := fun q => h0 (Int32.toInt_inj.mp q)
  have e1 : k.toInt ≠ 1 := fun q => h1 (Int32.toInt_inj.mp q)
  have e2 : k.toInt ≠ 2 := fun q => h2 (Int32.toInt_inj.mp q)
  have e3 : k.toInt ≠ 3 := fun q => h3 (Int32.toInt_inj.mp q)
  omega
theorem con_mword (d : Nat) (h : xH) (m : Nat) (k : Int32) {kv : Nat → xE} {it il lw ll : Nat → Nat} {ow : Nat → Bool} {cm : Nat → Nat} {ks ni nl lv tk : Nat} {se lf : Int32} {ub : Bool} {sd : Int32} {ck : Nat} {cb : Bool} {hn : Nat} (hm : x_mm h m (kv, it, il, lw, ll, ow, cm) (ks, ni, nl, lv, tk, se, lf, ub, sd, ck, cb, hn)) (hhn : hn < 513) : x_D mX3_word d 0 0 [.ref m, .int k] h [.long (wd (kv hn) k)] h := by
  obtain ⟨m0, m1, m2, m3, m4, -⟩ := hm
  refine e_enter (by decide) (Nat.le_of_ble_eq_true rfl) ?_
  refine e_iload_n dX3_word_0 rfl ?_
  by_cases h0 : k = 0
  · subst h0
    refine e_tableIn (tgt := 32) dX3_word_1 (by decide) (by decide) rfl (by decide) ?_
    refine e_aload_n dX3_word_32 rfl ?_
    refine e_get dX3_word_33 fX3_7 m0 rfl ?_
    refine e_aload_n dX3_word_36 rfl ?_
    refine e_get dX3_word_37 fX3_53 m0 rfl ?_
    refine e_lald dX3_word_40 m1 rfl rfl (af_get _ hhn) ?_
    exact e_lret dX3_word_41 rfl ⟨by simp [wd], rfl⟩
  by_cases h1 : k = 1
  · subst h1
    refine e_tableIn (tgt := 42) dX3_word_1 (by decide) (by decide) rfl (by decide) ?_
    refine e_aload_n dX3_word_42 rfl ?_
    refine e_get dX3_word_43 fX3_13 m0 rfl ?_
    refine e_aload_n dX3_word_46 rfl ?_
    refine e_get dX3_word_47 fX3_53 m0 rfl ?_
    refine e_lald dX3_word_50 m2 rfl rfl (af_get _ hhn) ?_
    exact e_lret dX3_word_51 rfl ⟨by simp [wd], rfl⟩
  by_cases h2 : k = 2
  · subst h2
    refine e_tableIn (tgt := 52) dX3_word_1 (by decide) (by decide) rfl (by decide) ?_
    refine e_aload_n dX3_word_52 rfl ?_
    refine e_get dX3_word_53 fX3_16 m0 rfl ?_
    refine e_aload_n dX3_word_56 rfl ?_
    refine e_get dX3_word_57 fX3_53 m0 rfl ?_
    refine e_lald dX3_word_60 m3 rfl rfl (af_get _ hhn) ?_
    exact e_lret dX3_word_61 rfl ⟨by simp [wd], rfl⟩
  by_cases h3 : k = 3
  · subst h3
    refine e_tableIn (tgt := 62) dX3_word_1 (by decide) (by decide) rfl (by decide) ?_
    refine e_aload_n dX3_word_62 rfl ?_
    refine e_get dX3_word_63 fX3_19 m0 rfl ?_
    refine e_aload_n dX3_word_66 rfl ?_
    refine e_get dX3_word_67 fX3_53 m0 rfl ?_
    refine e_lald dX3_word_70 m4 rfl rfl (af_get _ hhn) ?_
    exact e_lret dX3_word_71 rfl ⟨by simp [wd], rfl⟩
  · refine e_tableOut (tgt := 72) dX3_word_1 (k03 h0 h1 h2 h3) (by decide) ?_
    refine e_lconst (v := 0) dX3_word_72 (by decide) ?_
    exact e_lret dX3_word_73 rfl ⟨by simp [wd, h0, h1, h2, h3], rfl⟩
theorem con_mcount (d : Nat) (h : xH) (m : Nat) (k : Int32) {kv : Nat → xE} {it il lw ll : Nat → Nat} {ow : Nat → Bool} {cm : Nat → Nat} {ks ni nl lv tk : Nat} {se lf : Int32} {ub : Bool} {sd : Int32} {ck : Nat} {cb : Bool} {hn : Nat} (hm : x_mm h m (kv, it, il, lw, ll, ow, cm) (ks, ni, nl, lv, tk, se, lf, ub, sd, ck, cb, hn)) (hB : mB it il lw ll ni nl) : x_D mX3_count (d + 1) 0 0 [.ref m, .int k] h [.int (if k = 0 then nI lv else if k = 1 then nI tk else if k = 2 then se else if k = 3 then nI (cT (fun i => decide (il i = 0)) ni) else -1)] h := by
  have m0 := hm.1
  refine e_enter (by decide) (Nat.le_of_ble_eq_true rfl) ?_
  refine e_iload_n dX3_count_0 rfl ?_
  by_cases h0 : k = 0
  · subst h0
    refine e_tableIn (tgt := 32) dX3_count_1 (by decide) (by decide) rfl (by decide) ?_
    refine e_aload_n dX3_count_32 rfl ?_
    refine e_get dX3_count_33 fX3_88 m0 rfl ?_
    exact e_iret dX3_count_36 rfl rfl ⟨by simp, rfl⟩
  by_cases h1 : k = 1
  · subst h1
    refine e_tableIn (tgt := 37) dX3_count_1 (by decide) (by decide) rfl (by decide) ?_
    refine e_aload_n dX3_count_37 rfl ?_
    refine e_get dX3_count_38 fX3_123 m0 rfl ?_
    exact e_iret dX3_count_41 rfl rfl ⟨by simp, rfl⟩
  by_cases h2 : k = 2
  · subst h2
    refine e_tableIn (tgt := 42) dX3_count_1 (by decide) (by decide) rfl (by decide) ?_
    refine e_aload_n dX3_count_42 rfl ?_
    refine e_get dX3_count_43 fX3_78 m0 rfl ?_
    exact e_iret dX3_count_46 rfl rfl ⟨by simp, rfl⟩
  by_cases h3 : k = 3
  · subst h3
    refine e_tableIn (tgt := 47) dX3_count_1 (by decide) (by decide) rfl (by decide) ?_
    refine e_aload_n dX3_count_47 rfl ?_
    refine e_iconst (v := 0) dX3_count_48 (by decide) ?_
    refine e_V1d dX3_count_49 gX3_149 m0 rfl (by omega) (Nat.le_of_ble_eq_true rfl) rfl rfl (con_entriesOf d h m 0 hm hB (by omega)) ?_
    exact e_iret dX3_count_52 rfl rfl ⟨by simp, rfl⟩
  · refine e_tableOut (tgt := 53) dX3_count_1 (k03 h0 h1 h2 h3) (by decide) ?_
    refine e_iconst (v := (-1)) dX3_count_53 (by decide) ?_
    exact e_iret dX3_count_54 rfl rfl ⟨by simp [h0, h1, h2, h3], rfl⟩
theorem con_mseek (d : Nat) (h : xH) (m : Nat) (e : xE) (he : e.2.2.2.2 = 0) {kv : Nat → xE} {it il lw ll : Nat → Nat} {ow : Nat → Bool} {cm : Nat → Nat} {ks ni nl lv tk : Nat} {se lf : Int32} {ub : Bool} {sd : Int32} {ck : Nat} {cb : Bool} {hn : Nat} (hm : x_mm h m (kv, it, il, lw, ll, ow, cm) (ks, ni, nl, lv, tk, se, lf, ub, sd, ck, cb, hn)) (hks : ks < 513) : x_Con mX3_seek (d + 1) 0 0 [.ref m, .long e.1, .long e.2.1, .long e.2.2.1, .long e.2.2.2.1] h (fun rv h' => rv = [] ∧ x_mm h' m (kvu kv ks e, it, il, lw, ll, ow, cm) (ks + 1, ni, nl, lv, tk, se, lf, ub, 0, ks, false, hn) ∧ x_mf m h h') := by
  have m0 := hm.1
  refine e_enter (by decide) (Nat.le_of_ble_eq_true rfl) ?_
  refine e_aload_n dX3_seek_0 rfl ?_
  refine e_aload_n dX3_seek_1 rfl ?_
  refine e_lload_n dX3_seek_2 rfl ?_
  refine e_lload_n dX3_seek_3 rfl ?_
  refine e_lload dX3_seek_4 rfl ?_
  refine e_lload dX3_seek_6 rfl ?_
  refine e_iconst (v := 0) dX3_seek_8 (by decide) ?_
  refine e_V5 dX3_seek_9 gX3_113 m0 rfl (by omega) (Nat.le_of_ble_eq_true rfl) rfl rfl (he ▸ con_numbered d h m e hm hks) ?_
  rintro _ h2 ⟨rfl, hm2, hf2⟩
  refine e_iconst (v := 0) dX3_seek_12 (by decide) ?_
  refine e_V2 dX3_seek_13 gX3_133 hm2.1 rfl (by omega) (Nat.le_of_ble_eq_true rfl) rfl rfl (con_stand d h2 m ks false hm2) ?_
  rintro _ h3 ⟨rfl, hm3, hf3⟩
  have m0 := hm3.1
  refine e_aload_n dX3_seek_16 rfl ?_
  refine e_dup dX3_seek_17 rfl ?_
  refine e_get dX3_seek_18 fX3_26 m0 rfl ?_
  refine e_iconst (v := 1) dX3_seek_21 (by decide) ?_
  refine e_iadd dX3_seek_22 ?_
  refine e_putM (s' := (ks + 1, ni, nl, lv, tk, se, lf, ub, 0, ks, false, hn)) dX3_seek_23 fX3_26 m0 (by exact ⟨rfl, rfl⟩) (congrArg Value.int (nI_1 ks)) rfl ?_
  exact e_ret dX3_seek_26 rfl ⟨rfl, hm3.s _, (hf2.tr hf3).up0⟩
theorem con_mclear (d : Nat) (h : xH) (m : Nat) {kv : Nat → xE} {it il lw ll : Nat → Nat} {ow : Nat → Bool} {cm : Nat → Nat} {ks ni nl lv tk : Nat} {se lf : Int32} {ub : Bool} {sd : Int32} {ck : Nat} {cb : Bool} {hn : Nat} (hm : x_mm h m (kv, it, il, lw, ll, ow, cm) (ks, ni, nl, lv, tk, se, lf, ub, sd, ck, cb, hn)) : x_Con mX3_clear (d + 1) 0 0 [.ref m] h (fun rv h' => rv = [] ∧ x_mm h' m (kv, it, il, fu lw 0 0, fu ll 0 0, (fun q => if q = 0 then false else ow q), cm) (ks, 0, 1, 1, 1, se + 3, lf, ub, -1, ck, cb, hn) ∧ x_mf m h h') := by
  have m0 := hm.1
  refine e_enter (by decide) (Nat.le_of_ble_eq_true rfl) ?_
  refine e_aload_n dX3_clear_0 rfl ?_
  refine e_iconst (v := 0) dX3_clear_1 (by decide) ?_
  refine e_putM (s' := (ks, 0, nl, lv, tk, se, lf, ub, sd, ck, cb, hn)) dX3_clear_2 fX3_72 m0 (by exact ⟨rfl, rfl⟩) rfl rfl ?_
  have hm := hm.s (ks, 0, nl, lv, tk, se, lf, ub, sd, ck, cb, hn)
  have m0 := hm.1
  refine e_aload_n dX3_clear_5 rfl ?_
  refine e_iconst (v := 0) dX3_clear_6 (by decide) ?_
  refine e_putM (s' := (ks, 0, 0, lv, tk, se, lf, ub, sd, ck, cb, hn)) dX3_clear_7 fX3_65 m0 (by exact ⟨rfl, rfl⟩) rfl rfl ?_
  have hm := hm.s (ks, 0, 0, lv, tk, se, lf, ub, sd, ck, cb, hn)
  refine e_aload_n dX3_clear_10 rfl ?_
  refine e_iconst (v := 0) dX3_clear_11 (by decide) ?_
  refine e_iconst (v := 0) dX3_clear_12 (by decide) ?_
  refine e_V2 dX3_clear_13 gX3_98 hm.1 rfl (by omega) (Nat.le_of_ble_eq_true rfl) rfl rfl (con_addPage d _ m 0 0 hm (by omega)) ?_
  rintro _ h3 ⟨rfl, hm3, hf3⟩
  have m0 := hm3.1
  refine e_aload_n dX3_clear_16 rfl ?_
  refine e_iconst (v := 1) dX3_clear_17 (by decide) ?_
  refine e_putM (s' := (ks, 0, 0 + 1, 1, tk, se, lf, ub, sd, ck, cb, hn)) dX3_clear_18 fX3_88 m0 (by exact ⟨rfl, rfl⟩) rfl rfl ?_
  have hm := hm3.s (ks, 0, 0 + 1, 1, tk, se, lf, ub, sd, ck, cb, hn)
  have m0 := hm.1
  refine e_aload_n dX3_clear_21 rfl ?_
  refine e_iconst (v := 1) dX3_clear_22 (by decide) ?_
  refine e_putM (s' := (ks, 0, 0 + 1, 1, 1, se, lf, ub, sd, ck, cb, hn)) dX3_clear_23 fX3_123 m0 (by exact ⟨rfl, rfl⟩) rfl rfl ?_
  have hm := hm.s (ks, 0, 0 + 1, 1, 1, se, lf, ub, sd, ck, cb, hn)
  have m0 := hm.1
  refine e_aload_n dX3_clear_26 rfl ?_
  refine e_dup dX3_clear_27 rfl ?_
  refine e_get dX3_clear_28 fX3_78 m0 rfl ?_
  refine e_iconst (v := 3) dX3_clear_31 (by decide) ?_
  refine e_iadd dX3_clear_32 ?_
  refine e_putM (s' := (ks, 0, 0 + 1, 1, 1, se + 3, lf, ub, sd, ck, cb, hn)) dX3_clear_33 fX3_78 m0 (by exact ⟨rfl, rfl⟩) rfl rfl ?_
  have hm := hm.s (ks, 0, 0 + 1, 1, 1, se + 3, lf, ub, sd, ck, cb, hn)
  refine e_aload_n dX3_clear_36 rfl ?_
  refine e_V0 dX3_clear_37 gX3_130 hm.1 rfl (by omega) (Nat.le_of_ble_eq_true rfl) rfl rfl (con_mfirst d _ m hm) ?_
  rintro _ h4 ⟨rfl, hm4, hf4⟩
  exact e_ret dX3_clear_40 rfl ⟨rfl, hm4, ((x_mf.rf.up0.up0.tr hf3).up0.up0.up0).tr hf4⟩
theorem con_mhas (d : Nat) (h : xH) (m : Nat) (e : xE) (o : Option Nat) {kv : Nat → xE} {it il lw ll : Nat → Nat} {ow : Nat → Bool} {cm : Nat → Nat} {ks ni nl lv tk : Nat} {se lf : Int32} {ub : Bool} {sd : Int32} {ck : Nat} {cb : Bool} {hn : Nat} (hm : x_mm h m (kv, it, il, lw, ll, ow, cm) (ks, ni, nl, lv, tk, se, lf, ub, sd, ck, cb, hn)) (hB : mB it il lw ll ni nl) (hks : ks < 513) (ho : isI (kvu kv ks e) it il ni ks o) : x_Con mX3_has (d + 3) 0 0 [.ref m, .long e.1, .long e.2.1, .long e.2.2.1, .long e.2.2.2.1, .int e.2.2.2.2] h (fun rv h' => rv = [.int (bI o.isSome)] ∧ x_mm h' m (kvu kv ks e, it, il, lw, ll, ow, cm) (ks, ni, nl, lv, tk, se, lf, ub, sd, ck, cb, hn) ∧ x_mf m h h') := by
  have m0 := hm.1
  refine e_enter (by decide) (Nat.le_of_ble_eq_true rfl) ?_
  refine e_aload_n dX3_has_0 rfl ?_
  refine e_aload_n dX3_has_1 rfl ?_
  refine e_lload_n dX3_has_2 rfl ?_
  refine e_lload_n dX3_has_3 rfl ?_
  refine e_lload dX3_has_4 rfl ?_
  refine e_lload dX3_has_6 rfl ?_
  refine e_iload dX3_has_8 rfl ?_
  refine e_V5 dX3_has_10 gX3_113 m0 rfl (by omega) (Nat.le_of_ble_eq_true rfl) rfl rfl (con_numbered (d + 2) h m e hm hks) ?_
  rintro _ h2 ⟨rfl, hm2, hf2⟩
  refine e_V1d dX3_has_13 gX3_117 hm2.1 rfl (by omega) (Nat.le_of_ble_eq_true rfl) rfl rfl (con_itemOf d h2 m ks o hm2 hB hks ho) ?_
  cases o with
  | none =>
    refine e_if_lt (tgt := 23) dX3_has_16 (by decide) (fun _ => ?_) (fun c => absurd (by decide) c)
    refine e_iconst (v := 0) dX3_has_23 (by decide) ?_
    exact e_iret dX3_has_24 rfl rfl ⟨rfl, hm2, hf2⟩
  | some i0 =>
    have hi0 : i0 < ni := ho.1
    have := hB.1
    refine e_if_lt (tgt := 23) dX3_has_16 (by decide) (fun c => absurd c (nI_pos (by omega))) (fun _ => ?_)
    refine e_iconst (v := 1) dX3_has_19 (by decide) ?_
    refine e_goto (tgt := 24) dX3_has_20 (by decide) ?_
    exact e_iret dX3_has_24 rfl rfl ⟨rfl, hm2, hf2⟩
theorem con_mremove (d : Nat) (h : xH) (m p0 : Nat) (e : xE) (o : Option Nat) {kv : Nat → xE} {it il lw ll : Nat → Nat} {ow : Nat → Bool} {cm : Nat → Nat} {ks ni nl lv tk : Nat} {se lf : Int32} {ub : Bool} {sd : Int32} {ck : Nat} {cb : Bool} {hn : Nat} (hm : x_mm h m (kv, it, il, lw, ll, ow, cm) (ks, ni, nl, lv, tk, se, lf, ub, sd, ck, cb, hn)) (hB : mB it il lw ll ni nl) (hks : ks < 513) (ho : isI (kvu kv ks e) it il ni ks o) (hC : o.isSome = true → isC (kvu kv ks e) lw ll nl 0 ks p0) : x_Con mX3_remove (d + 3) 0 0 [.ref m, .long e.1, .long e.2.1, .long e.2.2.1, .long e.2.2.2.1, .int e.2.2.2.2] h (fun rv h' => x_mf m h h' ∧ (match o with
    | none => rv = [.int 0] ∧ x_mm h' m (kvu kv ks e, it, il, lw, ll, ow, cm) (ks, ni, nl, lv, tk, se, lf, ub, sd, ck, cb, hn)
    | some i0 => if (sW 1 (se, lf, ub)).1 then rv = [.int 1] ∧ x_mm h' m (kvu kv ks e, fu it i0 (it (ni - 1)), fu il i0 (il (ni - 1)), lw, ll, (fun q => if q = p0 then false else ow q), cm) (ks, ni - 1, nl, lv, tk, (sW 1 (se, lf, ub)).2.1, (sW 1 (se, lf, ub)).2.2.1, (sW 1 (se, lf, ub)).2.2.2, sd, ck, cb, hn)
      else rv = [.int (-2)] ∧ x_mm h' m (kvu kv ks e, it, il, lw, ll, ow, cm) (ks, ni, nl, lv, tk, (sW 1 (se, lf, ub)).2.1, (sW 1 (se, lf, ub)).2.2.1, (sW 1 (se, lf, ub)).2.2.2, sd, ck, cb, hn))) := by
  have m0 := hm.1
  refine e_enter (by decide) (Nat.le_of_ble_eq_true rfl) ?_
  refine e_aload_n dX3_remove_0 rfl ?_
  refine e_lload_n dX3_remove_1 rfl ?_
  refine e_lload_n dX3_remove_2 rfl ?_
  refine e_lload dX3_remove_3 rfl ?_
  refine e_lload dX3_remove_5 rfl ?_
  refine e_iload dX3_remove_7 rfl ?_
  refine e_V5 dX3_remove_9 gX3_113 m0 rfl (by omega) (Nat.le_of_ble_eq_true rfl) rfl rfl (con_numbered (d + 2) h m e hm hks) ?_
  rintro _ h2 ⟨rfl, hm2, hf2⟩
  refine e_istore dX3_remove_12 (by decide) rfl ?_
  refine e_aload_n dX3_remove_14 rfl ?_
  refine e_iload dX3_remove_15 rfl ?_
  refine e_V1d dX3_remove_17 gX3_117 hm2.1 rfl (by omega) (Nat.le_of_ble_eq_true rfl) rfl rfl (con_itemOf d h2 m ks o hm2 hB hks ho) ?_
  refine e_istore dX3_remove_20 (by decide) rfl ?_
  refine e_iload dX3_remove_22 rfl ?_
  cases o with
  | none =>
    refine e_if_ge (tgt := 29) dX3_remove_24 (by decide) (fun c => absurd c (by decide)) (fun _ => ?_)
    refine e_iconst (v := 0) dX3_remove_27 (by decide) ?_
    exact e_iret dX3_remove_28 rfl rfl ⟨hf2, rfl, hm2⟩
  | some i0 =>
    have hi0 : i0 < ni := ho.1
    have hn6 := hB.1
    have hn60 := hB.2.1
    have hp0 := (hC rfl).1
    obtain ⟨n', hn'⟩ : ∃ n', ni = n' + 1 := ⟨ni - 1, by omega⟩
    refine e_if_ge (tgt := 29) dX3_remove_24 (by decide) (fun _ => ?_) (fun c => absurd (nI_pos' (by omega)) c)
    refine e_aload_n dX3_remove_29 rfl ?_
    refine e_iconst (v := 1) dX3_remove_30 (by decide) ?_
    refine e_V1 dX3_remove_31 gX3_94 hm2.1 rfl (by omega) (Nat.le_of_ble_eq_true rfl) rfl rfl (con_set (d + 2) h2 m 1 hm2) ?_
    rintro _ h3 ⟨rfl, hm3, hf3⟩
    refine e_if_ne (tgt := 40) dX3_remove_34 (by decide) (fun c => ?_) (fun c => ?_)
    · have hT := bI_nz c
      have m0 := hm3.1
      refine e_aload_n dX3_remove_40 rfl ?_
      refine e_get dX3_remove_41 fX3_42 m0 rfl ?_
      refine e_aload_n dX3_remove_44 rfl ?_
      refine e_iconst (v := 0) dX3_remove_45 (by decide) ?_
      refine e_iload dX3_remove_46 rfl ?_
      refine e_V2d dX3_remove_48 gX3_75 m0 rfl (by omega) (Nat.le_of_ble_eq_true rfl) rfl rfl (con_inCharge (d := d) h3 m 0 ks p0 hm3 hB hks (by omega) (hC rfl)) ?_
      refine e_iconst (v := 0) dX3_remove_51 (by decide) ?_
      refine e_zastF (z := false) dX3_remove_52 hm3.2.2.2.2.2.2.2.2.2.2.1 rfl (show p0 < 60 by omega) rfl ?_
      have hm4 := hm3.ow (fun q => if q = p0 then false else ow q)
      have m0 := hm4.1
      refine e_aload_n dX3_remove_53 rfl ?_
      refine e_dup dX3_remove_54 rfl ?_
      refine e_get dX3_remove_55 fX3_72 m0 rfl ?_
      refine e_iconst (v := 1) dX3_remove_58 (by decide) ?_
      refine e_isub dX3_remove_59 ?_
      refine e_putM (s' := (ks, ni - 1, nl, lv, tk, (sW 1 (se, lf, ub)).2.1, (sW 1 (se, lf, ub)).2.2.1, (sW 1 (se, lf, ub)).2.2.2, sd, ck, cb, hn)) dX3_remove_60 fX3_72 m0 (by exact ⟨rfl, rfl⟩) (congrArg Value.int (by rw [hn']; exact nI_pred n')) rfl ?_
      have hm5 := hm4.s (ks, ni - 1, nl, lv, tk, (sW 1 (se, lf, ub)).2.1, (sW 1 (se, lf, ub)).2.2.1, (sW 1 (se, lf, ub)).2.2.2, sd, ck, cb, hn)
      have m0 := hm5.1
      have m6 := hm5.2.2.2.2.2.2.1
      refine e_aload_n dX3_remove_63 rfl ?_
      refine e_get dX3_remove_64 fX3_30 m0 rfl ?_
      refine e_iload dX3_remove_67 rfl ?_
      refine e_aload_n dX3_remove_69 rfl ?_
      refine e_get dX3_remove_70 fX3_30 m0 rfl ?_
      refine e_aload_n dX3_remove_73 rfl ?_
      refine e_get dX3_remove_74 fX3_72 m0 rfl ?_
      refine e_iald dX3_remove_77 m6 rfl rfl (af_get _ (show ni - 1 < 600 by omega)) ?_
      refine e_iastI dX3_remove_78 m6 rfl (show i0 < 600 by omega) rfl ?_
      have hm6 := hm5.it (fu it i0 (it (ni - 1)))
      have m0 := hm6.1
      have m7 := hm6.2.2.2.2.2.2.2.1
      refine e_aload_n dX3_remove_79 rfl ?_
      refine e_get dX3_remove_80 fX3_33 m0 rfl ?_
      refine e_iload dX3_remove_83 rfl ?_
      refine e_aload_n dX3_remove_85 rfl ?_
      refine e_get dX3_remove_86 fX3_33 m0 rfl ?_
      refine e_aload_n dX3_remove_89 rfl ?_
      refine e_get dX3_remove_90 fX3_72 m0 rfl ?_
      refine e_iald dX3_remove_93 m7 rfl rfl (af_get _ (show ni - 1 < 600 by omega)) ?_
      refine e_iastI dX3_remove_94 m7 rfl (show i0 < 600 by omega) rfl ?_
      refine e_iconst (v := 1) dX3_remove_95 (by decide) ?_
      refine e_iret dX3_remove_96 rfl rfl ⟨(((hf2.tr hf3).up (by omega)).up0.up (by omega)).up (by omega), ?_⟩
      dsimp only
      rw [if_pos hT]
      exact ⟨rfl, hm6.il _⟩
    · have hT := bI_z c
      refine e_bipush (v := (-2)) dX3_remove_37 (by decide) ?_
      refine e_iret dX3_remove_39 rfl rfl ⟨hf2.tr hf3, ?_⟩
      dsimp only
      rw [if_neg (by rw [hT]; exact Bool.false_ne_true)]
      exact ⟨rfl, hm3⟩
end
section
/-! the reference: split, enter, level, the constructor -/
theorem ifp {b : Bool} {p q : Prop} (h : b = true) (x : p) : if b then p else q := by rw [if_pos h]; exact x
theorem ifn {b : Bool} {p q : Prop} (h : b = false) (x : q) : if b then p else q := by rw [if_neg (by rw [h]; exact Bool.false_ne_true)]; exact x
theorem con_splitT (d : Nat) (h : xH) (m level page num : Nat) {kv : Nat → xE} {it il lw ll : Nat → Nat} {ow : Nat → Bool} {cm : Nat → Nat} {ks ni nl lv tk : Nat} {se lf : Int32} {ub : Bool} {sd : Int32} {ck : Nat} {cb : Bool} {hn : Nat} (hm : x_mm h m (kv, it, il, lw, ll, ow, cm) (ks, ni, nl, lv, tk, se, lf, ub, sd, ck, cb, hn)) (hlv : lv = level + 1) (hl64 : level < 64) (hnl : nl + 1 < 60) (hni : ni + 1 < 600) : x_Con mX3_split (d + 1) 0 0 [.ref m, .int (nI level), .int (nI page), .int (nI num)] h (fun rv h' => x_mf m h h' ∧ (if (sW 145 (se, lf, ub)).1 then rv = [.int 1] ∧ x_mm h' m (kv, fu (fu it ni 0) (ni + 1) num, fu (fu il ni (level + 1)) (ni + 1) (level + 1), fu (fu lw nl num) (nl + 1) 0, fu (fu ll nl level) (nl + 1) (level + 1), (fun q => if q = nl + 1 then false else if q = nl then false else ow q), cm) (ks, ni + 1 + 1, nl + 1 + 1, lv + 1, tk, (sW 145 (se, lf, ub)).2.1, (sW 145 (se, lf, ub)).2.2.1, (sW 145 (se, lf, ub)).2.2.2, sd, ck, cb, hn)
    else rv = [.int 0] ∧ x_mm h' m (kv, it, il, lw, ll, ow, cm) (ks, ni, nl, lv, tk, (sW 145 (se, lf, ub)).2.1, (sW 145 (se, lf, ub)).2.2.1, (sW 145 (se, lf, ub)).2.2.2, sd, ck, cb, hn))) := by
  have m0 := hm.1
  refine e_enter (by decide) (Nat.le_of_ble_eq_true rfl) ?_
  refine e_iload_n dX3_split_0 rfl ?_
  refine e_aload_n dX3_split_1 rfl ?_
  refine e_get dX3_split_2 fX3_88 m0 rfl ?_
  refine e_iconst (v := 1) dX3_split_5 (by decide) ?_
  refine e_isub dX3_split_6 ?_
  refine e_icmp_ne (tgt := 64) dX3_split_7 (by decide) (fun c => absurd (by rw [hlv]; exact (nI_pred level).symm) c) (fun _ => ?_)
  refine e_aload_n dX3_split_10 rfl ?_
  refine e_sipush (v := 145) dX3_split_11 (by decide) ?_
  refine e_V1 dX3_split_14 gX3_94 m0 rfl (by omega) (Nat.le_of_ble_eq_true rfl) rfl rfl (con_set d h m 145 hm) ?_
  rintro _ h2 ⟨rfl, hm2, hf2⟩
  refine e_if_ne (tgt := 22) dX3_split_17 (by decide) (fun c => ?_) (fun c => ?_)
  · have hT := bI_nz c
    refine e_aload_n dX3_split_22 rfl ?_
    refine e_iload_n dX3_split_23 rfl ?_
    refine e_iload_n dX3_split_24 rfl ?_
    refine e_V2 dX3_split_25 gX3_98 hm2.1 rfl (by omega) (Nat.le_of_ble_eq_true rfl) rfl rfl (con_addPage d h2 m level num hm2 (by omega)) ?_
    rintro _ h3 ⟨rfl, hm3, hf3⟩
    have m0 := hm3.1
    refine e_aload_n dX3_split_28 rfl ?_
    refine e_dup dX3_split_29 rfl ?_
    refine e_get dX3_split_30 fX3_88 m0 rfl ?_
    refine e_iconst (v := 1) dX3_split_33 (by decide) ?_
    refine e_iadd dX3_split_34 ?_
    refine e_putM (s' := (ks, ni, nl + 1, lv + 1, tk, (sW 145 (se, lf, ub)).2.1, (sW 145 (se, lf, ub)).2.2.1, (sW 145 (se, lf, ub)).2.2.2, sd, ck, cb, hn)) dX3_split_35 fX3_88 m0 (by exact ⟨rfl, rfl⟩) (congrArg Value.int (nI_1 lv)) rfl ?_
    have hm4 := hm3.s (ks, ni, nl + 1, lv + 1, tk, (sW 145 (se, lf, ub)).2.1, (sW 145 (se, lf, ub)).2.2.1, (sW 145 (se, lf, ub)).2.2.2, sd, ck, cb, hn)
    refine e_aload_n dX3_split_38 rfl ?_
    refine e_iload_n dX3_split_39 rfl ?_
    refine e_iconst (v := 1) dX3_split_40 (by decide) ?_
    refine e_iadd dX3_split_41 ?_
    refine e_iconst (v := 0) dX3_split_42 (by decide) ?_
    rw [nI_1]
    refine e_V2 dX3_split_43 gX3_98 hm4.1 rfl (by omega) (Nat.le_of_ble_eq_true rfl) rfl rfl (con_addPage d _ m (level + 1) 0 hm4 (by omega)) ?_
    rintro _ h5 ⟨rfl, hm5, hf5⟩
    refine e_aload_n dX3_split_46 rfl ?_
    refine e_iload_n dX3_split_47 rfl ?_
    refine e_iconst (v := 1) dX3_split_48 (by decide) ?_
    refine e_iadd dX3_split_49 ?_
    refine e_iconst (v := 0) dX3_split_50 (by decide) ?_
    rw [nI_1]
    refine e_V2 dX3_split_51 gX3_102 hm5.1 rfl (by omega) (Nat.le_of_ble_eq_true rfl) rfl rfl (con_addItem d h5 m (level + 1) 0 hm5 (by omega)) ?_
    rintro _ h6 ⟨rfl, hm6, hf6⟩
    refine e_aload_n dX3_split_54 rfl ?_
    refine e_iload_n dX3_split_55 rfl ?_
    refine e_iconst (v := 1) dX3_split_56 (by decide) ?_
    refine e_iadd dX3_split_57 ?_
    refine e_iload_n dX3_split_58 rfl ?_
    rw [nI_1]
    refine e_V2 dX3_split_59 gX3_102 hm6.1 rfl (by omega) (Nat.le_of_ble_eq_true rfl) rfl rfl (con_addItem d h6 m (level + 1) num hm6 (by omega)) ?_
    rintro _ h7 ⟨rfl, hm7, hf7⟩
    refine e_iconst (v := 1) dX3_split_62 (by decide) ?_
    exact e_iret dX3_split_63 rfl rfl ⟨((((hf2.tr hf3).up0).tr hf5).tr hf6).tr hf7, ifp hT ⟨rfl, hm7⟩⟩
  · have hT := bI_z c
    refine e_iconst (v := 0) dX3_split_20 (by decide) ?_
    exact e_iret dX3_split_21 rfl rfl ⟨hf2, ifn hT ⟨rfl, hm2⟩⟩
theorem con_splitN (d : Nat) (h : xH) (m level page num : Nat) {kv : Nat → xE} {it il lw ll : Nat → Nat} {ow : Nat → Bool} {cm : Nat → Nat} {ks ni nl lv tk : Nat} {se lf : Int32} {ub : Bool} {sd : Int32} {ck : Nat} {cb : Bool} {hn : Nat} (hm : x_mm h m (kv, it, il, lw, ll, ow, cm) (ks, ni, nl, lv, tk, se, lf, ub, sd, ck, cb, hn)) (hlv : level + 1 < lv) (hl64 : lv < 64) (hnl : nl < 60) (hpg : page < 60) (q1 q2 : Bool × (Int32 × Int32 × Bool)) (e1 : q1 = sW 63 (se, lf, ub)) (e2 : q2 = sW 1 q1.2) : x_Con mX3_split (d + 1) 0 0 [.ref m, .int (nI level), .int (nI page), .int (nI num)] h (fun rv h' => x_mf m h h' ∧ (if q1.1 then (if q2.1 then rv = [.int 1] ∧ x_mm h' m (kv, it, il, fu lw nl num, fu ll nl level, (fun q => if q = nl then false else ow q), cm) (ks, ni, nl + 1, lv, tk, q2.2.1, q2.2.2.1, q2.2.2.2, sd, ck, cb, hn) else rv = [.int 0] ∧ x_mm h' m (kv, it, il, fu lw nl num, fu ll nl level, (fun q => if q = page then true else if q = nl then false else ow q), cm) (ks, ni, nl + 1, lv, tk, q2.2.1, q2.2.2.1, q2.2.2.2, sd, ck, cb, hn))
    else rv = [.int 0] ∧ x_mm h' m (kv, it, il, lw, ll, ow, cm) (ks, ni, nl, lv, tk, q1.2.1, q1.2.2.1, q1.2.2.2, sd, ck, cb, hn))) := by
  subst e1
  have m0 := hm.1
  obtain ⟨n', hn'⟩ : ∃ n', lv = n' + 1 := ⟨lv - 1, by omega⟩
  refine e_enter (by decide) (Nat.le_of_ble_eq_true rfl) ?_
  refine e_iload_n dX3_split_0 rfl ?_
  refine e_aload_n dX3_split_1 rfl ?_
  refine e_get dX3_split_2 fX3_88 m0 rfl ?_
  refine e_iconst (v := 1) dX3_split_5 (by decide) ?_
  refine e_isub dX3_split_6 ?_
  refine e_icmp_ne (tgt := 64) dX3_split_7 (by decide) (fun _ => ?_) (fun c => ?_)
  · refine e_aload_n dX3_split_64 rfl ?_
    refine e_bipush (v := 63) dX3_split_65 (by decide) ?_
    refine e_V1 dX3_split_67 gX3_94 m0 rfl (by omega) (Nat.le_of_ble_eq_true rfl) rfl rfl (con_set d h m 63 hm) ?_
    rintro _ h2 ⟨rfl, hm2, hf2⟩
    refine e_if_ne (tgt := 75) dX3_split_70 (by decide) (fun c => ?_) (fun c => ?_)
    · have hT := bI_nz c
      refine e_aload_n dX3_split_75 rfl ?_
      refine e_iload_n dX3_split_76 rfl ?_
      refine e_iload_n dX3_split_77 rfl ?_
      refine e_V2 dX3_split_78 gX3_98 hm2.1 rfl (by omega) (Nat.le_of_ble_eq_true rfl) rfl rfl (con_addPage d h2 m level num hm2 (by omega)) ?_
      rintro _ h3 ⟨rfl, hm3, hf3⟩
      refine e_aload_n dX3_split_81 rfl ?_
      refine e_iconst (v := 1) dX3_split_82 (by decide) ?_
      refine e_V1 dX3_split_83 gX3_94 hm3.1 rfl (by omega) (Nat.le_of_ble_eq_true rfl) rfl rfl (con_set d h3 m 1 hm3) ?_
      rintro _ h4 ⟨rfl, hm4, hf4⟩
      have hq : q2 = sW 1 ((sW 63 (se, lf, ub)).2.1, (sW 63 (se, lf, ub)).2.2.1, (sW 63 (se, lf, ub)).2.2.2) := e2
      rw [← hq] at hm4 ⊢
      refine e_if_eq (tgt := 91) dX3_split_86 (by decide) (fun c => ?_) (fun c => ?_)
      · have hT2 := bI_z c
        have m0 := hm4.1
        refine e_aload_n dX3_split_91 rfl ?_
        refine e_get dX3_split_92 fX3_42 m0 rfl ?_
        refine e_iload_n dX3_split_95 rfl ?_
        refine e_iconst (v := 1) dX3_split_96 (by decide) ?_
        refine e_zastF (z := true) dX3_split_97 hm4.2.2.2.2.2.2.2.2.2.2.1 rfl hpg rfl ?_
        refine e_iconst (v := 0) dX3_split_98 (by decide) ?_
        exact e_iret dX3_split_99 rfl rfl ⟨((hf2.tr hf3).tr hf4).up (by omega), ifp hT (ifn hT2 ⟨rfl, hm4.ow _⟩)⟩
      · have hT2 := bI_nz c
        refine e_iconst (v := 1) dX3_split_89 (by decide) ?_
        exact e_iret dX3_split_90 rfl rfl ⟨(hf2.tr hf3).tr hf4, ifp hT (ifp hT2 ⟨rfl, hm4⟩)⟩
    · have hT := bI_z c
      refine e_iconst (v := 0) dX3_split_73 (by decide) ?_
      exact e_iret dX3_split_74 rfl rfl ⟨hf2, ifn hT ⟨rfl, hm2⟩⟩
  · rw [hn', nI_pred] at c
    exact absurd ((nI_c (by omega) (by omega)).mp c) (by omega)
theorem ow_id {ow : Nat → Bool} {p : Nat} (h : ow p = false) : (fun q => if q = p then false else ow q) = ow := by
  funext q
  by_cases e : q = p
  · subst e; simp [h]
  · simp [e]
theorem con_enter (d : Nat) (h : xH) (m level num p0 : Nat) {kv : Nat → xE} {it il lw ll : Nat → Nat} {ow : Nat → Bool} {cm : Nat → Nat} {ks ni nl lv tk : Nat} {se lf : Int32} {ub : Bool} {sd : Int32} {ck : Nat} {cb : Bool} {hn : Nat} (hm : x_mm h m (kv, it, il, lw, ll, ow, cm) (ks, ni, nl, lv, tk, se, lf, ub, sd, ck, cb, hn)) (hB : mB it il lw ll ni nl) (hni : ni < 600) (hnum : num < 513) (hlev : level < 64) (hC : isC kv lw ll nl level num p0) (q1 q2 : Bool × (Int32 × Int32 × Bool)) (e1 : q1 = if ow p0 then sW 1 (se, lf, ub) else (true, se, lf, ub)) (e2 : q2 = sW 11 q1.2) : x_Con mX3_enter (d + 3) 0 0 [.ref m, .int (nI level), .int (nI num)] h (fun rv h' => x_mf m h h' ∧ (if q1.1 then (if q2.1 then rv = [.int 1] ∧ x_mm h' m (kv, fu it ni num, fu il ni level, lw, ll, (fun q => if q = p0 then false else ow q), cm) (ks, ni + 1, nl, lv, tk, q2.2.1, q2.2.2.1, q2.2.2.2, sd, ck, cb, hn) else rv = [.int 0] ∧ x_mm h' m (kv, it, il, lw, ll, (fun q => if q = p0 then false else ow q), cm) (ks, ni, nl, lv, tk, q2.2.1, q2.2.2.1, q2.2.2.2, sd, ck, cb, hn))
    else rv = [.int 0] ∧ x_mm h' m (kv, it, il, lw, ll, ow, cm) (ks, ni, nl, lv, tk, q1.2.1, q1.2.2.1, q1.2.2.2, sd, ck, cb, hn))) := by
  have m0 := hm.1
  have hp60 : p0 < 60 := by have := hC.1; have := hB.2.1; omega
  refine e_enter (by decide) (Nat.le_of_ble_eq_true rfl) ?_
  refine e_aload_n dX3_enter_0 rfl ?_
  refine e_iload_n dX3_enter_1 rfl ?_
  refine e_iload_n dX3_enter_2 rfl ?_
  refine e_V2d dX3_enter_3 gX3_75 m0 rfl (by omega) (Nat.le_of_ble_eq_true rfl) rfl rfl (con_inCharge (d := d) h m level num p0 hm hB hnum hlev hC) ?_
  have m10 := hm.2.2.2.2.2.2.2.2.2.2.1
  refine e_istore_n dX3_enter_6 (by decide) rfl ?_
  refine e_aload_n dX3_enter_7 rfl ?_
  refine e_get dX3_enter_8 fX3_42 m0 rfl ?_
  refine e_iload_n dX3_enter_11 rfl ?_
  refine e_zald dX3_enter_12 m10 rfl rfl (af_get _ hp60) ?_
  have rest : ∀ (l : List (Nat × Value)) (h2 : xH), x_lk l 0 = some (.ref m) → x_lk l 1 = some (.int (nI level)) → x_lk l 2 = some (.int (nI num)) → q1.1 = true → x_mm h2 m (kv, it, il, lw, ll, (fun q => if q = p0 then false else ow q), cm) (ks, ni, nl, lv, tk, q1.2.1, q1.2.2.1, q1.2.2.2, sd, ck, cb, hn) → x_mf m h h2 →
      x_E mX3_enter (d + 3) 0 0 33 l [] h2 (fun rv h' => x_mf m h h' ∧ (if q1.1 then (if q2.1 then rv = [.int 1] ∧ x_mm h' m (kv, fu it ni num, fu il ni level, lw, ll, (fun q => if q = p0 then false else ow q), cm) (ks, ni + 1, nl, lv, tk, q2.2.1, q2.2.2.1, q2.2.2.2, sd, ck, cb, hn) else rv = [.int 0] ∧ x_mm h' m (kv, it, il, lw, ll, (fun q => if q = p0 then false else ow q), cm) (ks, ni, nl, lv, tk, q2.2.1, q2.2.2.1, q2.2.2.2, sd, ck, cb, hn))
        else rv = [.int 0] ∧ x_mm h' m (kv, it, il, lw, ll, ow, cm) (ks, ni, nl, lv, tk, q1.2.1, q1.2.2.1, q1.2.2.2, sd, ck, cb, hn))) := by
    intro l h2 l0 l1 l2 hq1 hm2 hf2
    refine e_aload_n dX3_enter_33 l0 ?_
    refine e_bipush (v := 11) dX3_enter_34 (by decide) ?_
    refine e_V1 dX3_enter_36 gX3_94 hm2.1 rfl (by omega) (Nat.le_of_ble_eq_true rfl) rfl rfl (con_set (d + 2) h2 m 11 hm2) ?_
    rintro _ h3 ⟨rfl, hm3, hf3⟩
    have hq : q2 = sW 11 (q1.2.1, q1.2.2.1, q1.2.2.2) := e2
    rw [← hq] at hm3 ⊢
    refine e_if_ne (tgt := 44) dX3_enter_39 (by decide) (fun c => ?_) (fun c => ?_)
    · have hT := bI_nz c
      refine e_aload_n dX3_enter_44 l0 ?_
      refine e_iload_n dX3_enter_45 l1 ?_
      refine e_iload_n dX3_enter_46 l2 ?_
      refine e_V2 dX3_enter_47 gX3_102 hm3.1 rfl (by omega) (Nat.le_of_ble_eq_true rfl) rfl rfl (con_addItem (d + 2) h3 m level num hm3 hni) ?_
      rintro _ h4 ⟨rfl, hm4, hf4⟩
      refine e_iconst (v := 1) dX3_enter_50 (by decide) ?_
      exact e_iret dX3_enter_51 rfl rfl ⟨(hf2.tr hf3).tr hf4, ifp hq1 (ifp hT ⟨rfl, hm4⟩)⟩
    · have hT := bI_z c
      refine e_iconst (v := 0) dX3_enter_42 (by decide) ?_
      exact e_iret dX3_enter_43 rfl rfl ⟨hf2.tr hf3, ifp hq1 (ifn hT ⟨rfl, hm3⟩)⟩
  refine e_if_eq (tgt := 33) dX3_enter_13 (by decide) (fun c => ?_) (fun c => ?_)
  · have hO : ow p0 = false := bI_z c
    rw [hO, if_neg Bool.false_ne_true] at e1
    refine rest _ h rfl rfl rfl (by rw [e1]) ?_ x_mf.rf
    rw [ow_id hO, e1]
    exact hm
  · have hO : ow p0 = true := bI_nz c
    rw [hO, if_pos rfl] at e1
    refine e_aload_n dX3_enter_16 rfl ?_
    refine e_iconst (v := 1) dX3_enter_17 (by decide) ?_
    refine e_V1 dX3_enter_18 gX3_94 m0 rfl (by omega) (Nat.le_of_ble_eq_true rfl) rfl rfl (con_set (d + 2) h m 1 hm) ?_
    rintro _ h2 ⟨rfl, hm2, hf2⟩
    rw [← e1] at hm2 ⊢
    refine e_if_ne (tgt := 26) dX3_enter_21 (by decide) (fun c => ?_) (fun c => ?_)
    · have hT := bI_nz c
      have m0 := hm2.1
      refine e_aload_n dX3_enter_26 rfl ?_
      refine e_get dX3_enter_27 fX3_42 m0 rfl ?_
      refine e_iload_n dX3_enter_30 rfl ?_
      refine e_iconst (v := 0) dX3_enter_31 (by decide) ?_
      refine e_zastF (z := false) dX3_enter_32 hm2.2.2.2.2.2.2.2.2.2.2.1 rfl hp60 rfl ?_
      exact rest _ _ rfl rfl rfl hT (hm2.ow _) (hf2.up (by omega))
    · have hT := bI_z c
      refine e_iconst (v := 0) dX3_enter_24 (by decide) ?_
      exact e_iret dX3_enter_25 rfl rfl ⟨hf2, ifn hT ⟨rfl, hm2⟩⟩
end
section
/-! the tree as lists: levels of pages (low, owing, items), keys are numbers, 0 the lowest -/
abbrev Pg : Type := Nat × Bool × List Nat
abbrev Tr : Type := List (List Pg)
def lvK (c : List Pg) : Prop := (∃ p t, c = p :: t ∧ p.1 = 0) ∧ c.Pairwise (fun p q => p.1 < q.1 ∧ ∀ x ∈ p.2.2, x < q.1) ∧ ∀ p ∈ c, p.2.2.Pairwise (· < ·) ∧ (∀ x ∈ p.2.2, p.1 ≤ x) ∧ p.2.2.length ≤ 10
def zp (v : Nat) : List Pg → List Pg × Pg × List Pg
  | [] => ([], (0, false, []), [])
  | [p] => ([], p, [])
  | p :: q :: t => if v < q.1 then ([], p, q :: t) else (p :: (zp v (q :: t)).1, (zp v (q :: t)).2)
def InC (c : List Pg) (v : Nat) (c1 : List Pg) (p : Pg) (c2 : List Pg) : Prop := c = c1 ++ p :: c2 ∧ p.1 ≤ v ∧ (∀ q ∈ c1, q.1 < p.1) ∧ ∀ q ∈ c2, v < q.1
theorem zp_eq {v : Nat} {p : Pg} {c2 : List Pg} (hp : p.1 ≤ v) (h2 : ∀ q ∈ c2, v < q.1) : ∀ c1 : List Pg, (∀ q ∈ c1, q.1 ≤ v) → zp v (c1 ++ p :: c2) = (c1, p, c2) := by
  intro c1
  induction c1 with
  | nil =>
    intro _
    match c2, h2 with
    | [], _ => rfl
    | q :: t, h2 => simp only [List.nil_append, zp]; rw [if_pos (h2 q List.mem_cons_self)]
  | cons a t ih =>
    intro h1
    have ih' := ih (fun q hq => h1 q (List.mem_cons_of_mem _ hq))
    match t, ih', h1 with
    | [], ih', _ =>
      simp only [List.cons_append, List.nil_append, zp] at ih' ⊢
      rw [if_neg (by omega), ih']
    | b :: t, ih', h1 =>
      have hb := h1 b (List.mem_cons_of_mem _ List.mem_cons_self)
      simp only [List.cons_append, zp] at ih' ⊢
      rw [if_neg (by omega), ih']
theorem InC.zp {c c1 c2 : List Pg} {v : Nat} {p : Pg} (h : InC c v c1 p c2) : zp v c = (c1, p, c2) := by
  obtain ⟨rfl, h1, h2, h3⟩ := h
  exact zp_eq h1 h3 c1 (fun q hq => by have := h2 q hq; omega)
theorem inC_ex {v : Nat} : ∀ {c : List Pg}, (∃ p t, c = p :: t ∧ p.1 ≤ v) → c.Pairwise (fun p q => p.1 < q.1 ∧ ∀ x ∈ p.2.2, x < q.1) → ∃ c1 p c2, InC c v c1 p c2 := by
  intro c
  induction c with
  | nil => rintro ⟨p, t, h, -⟩; cases h
  | cons a t ih =>
    rintro ⟨p, t', h, hp⟩ hw
    cases h
    match t, ih, hw with
    | [], _, _ => exact ⟨[], a, [], rfl, hp, (fun q h => by cases h), (fun q h => by cases h)⟩
    | b :: t, ih, hw =>
      have hw' := List.pairwise_cons.mp hw
      by_cases hb : b.1 ≤ v
      · obtain ⟨c1, p, c2, e, i1, i2, i3⟩ := ih ⟨b, t, rfl, hb⟩ hw'.2
        refine ⟨a :: c1, p, c2, by rw [List.cons_append, ← e], i1, fun q hq => ?_, i3⟩
        rcases List.mem_cons.mp hq with rfl | hq
        · exact (hw'.1 p (by rw [e]; exact List.mem_append_right _ List.mem_cons_self)).1
        · exact i2 q hq
      · refine ⟨[], a, b :: t, rfl, hp, fun q h => (by cases h), fun q hq => ?_⟩
        rcases List.mem_cons.mp hq with rfl | hq
        · omega
        · have := ((List.pairwise_cons.mp hw'.2).1 q hq).1
          omega
theorem lvK.ex {c : List Pg} (h : lvK c) (v : Nat) : ∃ c1 p c2, InC c v c1 p c2 := by
  obtain ⟨⟨p, t, e, hp⟩, hw, -⟩ := h
  exact inC_ex ⟨p, t, e, by omega⟩ hw
/-- the page in charge of one of its own items is itself -/
theorem inC_own {c c1 c2 : List Pg} {p : Pg} {x : Nat} (h : lvK c) (e : c = c1 ++ p :: c2) (hx : x ∈ p.2.2) : InC c x c1 p c2 := by
  obtain ⟨-, hw, hk⟩ := h
  refine ⟨e, (hk p (by rw [e]; exact List.mem_append_right _ List.mem_cons_self)).2.1 x hx, fun q hq => ?_, fun q hq => ?_⟩
  · rw [e] at hw
    exact ((List.pairwise_append.mp hw).2.2 q hq p List.mem_cons_self).1
  · rw [e] at hw
    have h2 := (List.pairwise_append.mp hw).2.1
    exact ((List.pairwise_cons.mp h2).1 q hq).2 x hx
theorem InC.un {c c1 c2 d1 d2 : List Pg} {p q : Pg} {v : Nat} (h : InC c v c1 p c2) (h' : InC c v d1 q d2) : c1 = d1 ∧ p = q ∧ c2 = d2 := by
  have e := h.zp.symm.trans h'.zp
  exact ⟨congrArg (fun z => z.1) e, congrArg (fun z => z.2.1) e, congrArg (fun z => z.2.2) e⟩
/-- a page's low is its own -/
theorem lvK.low {c : List Pg} (h : lvK c) {p q : Pg} (hp : p ∈ c) (hq : q ∈ c) (e : p.1 = q.1) : p = q := by
  obtain ⟨c1, c2, e1⟩ := List.append_of_mem hp
  have hw := h.2.1
  rw [e1] at hw hq
  have hw2 := List.pairwise_append.mp hw
  rcases List.mem_append.mp hq with hq | hq
  · have := (hw2.2.2 q hq p List.mem_cons_self).1
    omega
  · rcases List.mem_cons.mp hq with rfl | hq
    · rfl
    · have := ((List.pairwise_cons.mp hw2.2.1).1 q hq).1
      omega
theorem cT_filter (P : Nat → Bool) (n : Nat) : cT P n = ((List.range n).filter P).length := by
  induction n with
  | zero => rfl
  | succ n ih =>
    rw [List.range_succ, List.filter_append, List.length_append, ← ih]
    show cT P n + (if P n then 1 else 0) = _
    by_cases h : P n = true
    · rw [if_pos h]; simp [h]
    · rw [if_neg h]; simp [h]
theorem nd_map {f : Nat → Nat} : ∀ {l : List Nat}, l.Nodup → (∀ i ∈ l, ∀ j ∈ l, f i = f j → i = j) → (l.map f).Nodup := by
  intro l
  induction l with
  | nil => intro _ _; exact List.nodup_nil
  | cons a t ih =>
    intro h hi
    have h' := List.nodup_cons.mp h
    rw [List.map_cons, List.nodup_cons]
    refine ⟨fun q => ?_, ih h'.2 (fun i hi' j hj e => hi i (List.mem_cons_of_mem _ hi') j (List.mem_cons_of_mem _ hj) e)⟩
    obtain ⟨b, hb, e⟩ := List.mem_map.mp q
    have := hi b (List.mem_cons_of_mem _ hb) a List.mem_cons_self e
    exact h'.1 (this ▸ hb)
/-- counting by a list without doubles -/
theorem cT_card {P : Nat → Bool} {n : Nat} {f : Nat → Nat} {L : List Nat} (h1 : ∀ i, i < n → P i = true → f i ∈ L) (h2 : ∀ x ∈ L, ∃ i, i < n ∧ P i = true ∧ f i = x) (h3 : ∀ i j, i < n → j < n → P i = true → P j = true → f i = f j → i = j) (hL : L.Nodup) : cT P n = L.length := by
  rw [cT_filter]
  have hp : (((List.range n).filter P).map f).Perm L := by
    refine (List.perm_ext_iff_of_nodup (nd_map (List.Pairwise.filter _ List.nodup_range) ?_) hL).mpr (fun x => ?_)
    · intro i hi j hj e
      have a := List.mem_filter.mp hi
      have b := List.mem_filter.mp hj
      exact h3 i j (List.mem_range.mp a.1) (List.mem_range.mp b.1) a.2 b.2 e
    · constructor
      · intro hx
        obtain ⟨i, hi, rfl⟩ := List.mem_map.mp hx
        have a := List.mem_filter.mp hi
        exact h1 i (List.mem_range.mp a.1) a.2
      · intro hx
        obtain ⟨i, a, b, c⟩ := h2 x hx
        exact List.mem_map.mpr ⟨i, List.mem_filter.mpr ⟨List.mem_range.mpr a, b⟩, c⟩
  have := hp.length_eq
  rw [List.length_map] at this
  exact this
theorem sort_nd {l : List Nat} (h : l.Pairwise (· < ·)) : l.Nodup := h.imp (fun q => Nat.ne_of_lt q)
/-- in a rising list what is below the one at k is what stands ahead of it -/
theorem sort_take {l : List Nat} (h : l.Pairwise (· < ·)) {k x : Nat} (hk : l[k]? = some x) (z : Nat) : (z ∈ l ∧ z < x) ↔ z ∈ l.take k := by
  have e : l = l.take k ++ x :: l.drop (k + 1) := by
    have hlt := (List.getElem?_eq_some_iff.mp hk).1
    have hx := (List.getElem?_eq_some_iff.mp hk).2
    rw [← hx, List.getElem_cons_drop, List.take_append_drop]
  constructor
  · rintro ⟨h1, h2⟩
    rw [e] at h1 h
    rcases List.mem_append.mp h1 with q | q
    · exact q
    · rcases List.mem_cons.mp q with rfl | q
      · omega
      · have := (List.pairwise_cons.mp (List.pairwise_append.mp h).2.1).1 z q
        omega
  · intro q
    refine ⟨List.mem_of_mem_take q, ?_⟩
    rw [e] at h
    exact (List.pairwise_append.mp h).2.2 z q x List.mem_cons_self
end
section
/-! the reference's rows hold the tree -/
def inI (S : Tr) (l x : Nat) : Prop := ∃ c g, S[l]? = some c ∧ g ∈ c ∧ x ∈ g.2.2
def inLw (S : Tr) (l k : Nat) (o : Bool) : Prop := ∃ c g, S[l]? = some c ∧ g ∈ c ∧ g.1 = k ∧ g.2.1 = o
def nC (c : List Pg) : Nat := (c.map (fun g => g.2.2.length)).sum
def nIt (S : Tr) : Nat := (S.map nC).sum
def nPg (S : Tr) : Nat := (S.map List.length).sum
def RR (S : Tr) (kv : Nat → xE) (it il lw ll : Nat → Nat) (ow : Nat → Bool) (ks ni nl : Nat) : Prop :=
  (∀ i, i < ni → inI S (il i) (rk kv (it i)) ∧ it i < ks) ∧ (∀ l x, inI S l x → ∃ i, i < ni ∧ il i = l ∧ rk kv (it i) = x) ∧ (∀ i j, i < ni → j < ni → il i = il j → rk kv (it i) = rk kv (it j) → i = j) ∧
  (∀ p, p < nl → inLw S (ll p) (rk kv (lw p)) (ow p) ∧ lw p < ks) ∧ (∀ l c g, S[l]? = some c → g ∈ c → ∃ p, p < nl ∧ ll p = l ∧ rk kv (lw p) = g.1) ∧ (∀ p q, p < nl → q < nl → ll p = ll q → rk kv (lw p) = rk kv (lw q) → p = q) ∧ ni = nIt S ∧ nl = nPg S ∧ 1 ≤ ks
def trK (S : Tr) : Prop := (∀ (l : Nat) c, S[l]? = some c → lvK c) ∧ (∃ n g, S.length = n + 1 ∧ S[n]? = some [g] ∧ g.2.1 = false) ∧ (∀ (l : Nat) c, S[l]? = some c → l + 1 < S.length → 2 ≤ c.length) ∧ (∀ (l : Nat) c g, S[l + 1]? = some c → g ∈ c → g.2.2.head? = some g.1) ∧ (∀ l x, inI S (l + 1) x → ∃ c g, S[l]? = some c ∧ g ∈ c ∧ g.1 = x) ∧ ∀ x, inI S 0 x → 0 < x
theorem nPg_ge : ∀ (S : Tr), (∀ (l : Nat) c, S[l]? = some c → l + 1 < S.length → 2 ≤ c.length) → (∃ n g, S.length = n + 1 ∧ S[n]? = some [g]) → 2 * S.length ≤ nPg S + 1 := by
  intro S
  induction S with
  | nil => rintro - ⟨n, g, h, -⟩; simp at h
  | cons c t ih =>
    intro h1 h2
    obtain ⟨n, g, e1, e2⟩ := h2
    cases t with
    | nil =>
      have : n = 0 := by simp at e1; omega
      subst this
      simp at e2
      subst e2
      simp [nPg]
    | cons b t =>
      have hn : n = t.length + 1 := by simp at e1; omega
      have i1 := ih (fun l c h hl => h1 (l + 1) c (by simpa using h) (by simp at hl ⊢; omega)) ⟨t.length, g, by simp, by rw [hn] at e2; simpa using e2⟩
      have i2 := h1 0 c rfl (by simp)
      simp only [nPg, List.map_cons, List.sum_cons, List.length_cons] at i1 ⊢
      omega
theorem nC_le : ∀ (c : List Pg), (∀ g ∈ c, g.2.2.length ≤ 10) → nC c ≤ 10 * c.length := by
  intro c
  induction c with
  | nil => intro _; simp [nC]
  | cons a t ih =>
    intro h
    have i1 := ih (fun g hg => h g (List.mem_cons_of_mem _ hg))
    have i2 := h a List.mem_cons_self
    simp only [nC, List.map_cons, List.sum_cons, List.length_cons] at i1 ⊢
    omega
theorem nIt_le : ∀ (S : Tr), (∀ c ∈ S, ∀ g ∈ c, g.2.2.length ≤ 10) → nIt S ≤ 10 * nPg S := by
  intro S
  induction S with
  | nil => intro _; simp [nIt]
  | cons a t ih =>
    intro h
    have i1 := ih (fun c hc => h c (List.mem_cons_of_mem _ hc))
    have i2 := nC_le a (h a List.mem_cons_self)
    simp only [nIt, nPg, List.map_cons, List.sum_cons] at i1 ⊢
    omega
theorem nC_app (c1 c2 : List Pg) : nC (c1 ++ c2) = nC c1 + nC c2 := by simp [nC]
theorem sum_app (f : List Pg → Nat) (S1 S2 : Tr) (c : List Pg) : ((S1 ++ c :: S2).map f).sum = (S1.map f).sum + f c + (S2.map f).sum := by
  simp only [List.map_append, List.map_cons, List.sum_append, List.sum_cons]
  omega
theorem lv_split {S : Tr} {l : Nat} {c : List Pg} (h : S[l]? = some c) : ∃ S1 S2, S = S1 ++ c :: S2 ∧ S1.length = l := by
  have hlt := (List.getElem?_eq_some_iff.mp h).1
  have hx := (List.getElem?_eq_some_iff.mp h).2
  refine ⟨S.take l, S.drop (l + 1), ?_, by rw [List.length_take]; omega⟩
  rw [← hx, List.getElem_cons_drop, List.take_append_drop]
theorem trK.ten {S : Tr} (h : trK S) : ∀ c ∈ S, ∀ g ∈ c, g.2.2.length ≤ 10 := by
  intro c hc g hg
  obtain ⟨l, hl⟩ := List.getElem?_of_mem hc
  exact ((h.1 l c hl).2.2 g hg).2.2
/-- room for an item where a page isn't full -/
theorem nIt_lt {S : Tr} (h : trK S) {l : Nat} {c c1 c2 : List Pg} {g : Pg} (hl : S[l]? = some c) (e : c = c1 ++ g :: c2) (hg : g.2.2.length < 10) : nIt S < 10 * nPg S := by
  obtain ⟨S1, S2, e1, -⟩ := lv_split hl
  have ht := h.ten
  have a1 := nIt_le S1 (fun d hd => ht d (by rw [e1]; exact List.mem_append_left _ hd))
  have a2 := nIt_le S2 (fun d hd => ht d (by rw [e1]; exact List.mem_append_right _ (List.mem_cons_of_mem _ hd)))
  have hc := ht c (by rw [e1]; exact List.mem_append_right _ List.mem_cons_self)
  have b1 := nC_le c1 (fun q hq => hc q (by rw [e]; exact List.mem_append_left _ hq))
  have b2 := nC_le c2 (fun q hq => hc q (by rw [e]; exact List.mem_append_right _ (List.mem_cons_of_mem _ hq)))
  have b3 : nC c = nC c1 + (g.2.2.length + nC c2) := by rw [e, nC_app]; rfl
  have b4 : c.length = c1.length + (c2.length + 1) := by rw [e]; simp
  unfold nIt nPg at *
  rw [e1, sum_app, sum_app]
  omega
theorem RR.mB {S : Tr} {kv : Nat → xE} {it il lw ll : Nat → Nat} {ow : Nat → Bool} {ks ni nl : Nat} (h : RR S kv it il lw ll ow ks ni nl) (hT : trK S) (h60 : nPg S ≤ 60) (hks : ks ≤ 513) : mB it il lw ll ni nl ∧ S.length ≤ 30 := by
  have h30 := nPg_ge S hT.2.2.1 (by obtain ⟨n, g, q1, q2, -⟩ := hT.2.1; exact ⟨n, g, q1, q2⟩)
  have h10 := nIt_le S hT.ten
  obtain ⟨r1, r2, r3, r4, r5, r6, r7, r8, r9⟩ := h
  refine ⟨⟨by omega, by omega, fun i hi => ?_, fun p hp => ?_⟩, by omega⟩
  · obtain ⟨⟨c, g, hc, -, -⟩, q⟩ := r1 i hi
    have := (List.getElem?_eq_some_iff.mp hc).1
    omega
  · obtain ⟨⟨c, g, hc, -, -⟩, q⟩ := r4 p hp
    have := (List.getElem?_eq_some_iff.mp hc).1
    omega
section RL
variable {S : Tr} {kv : Nat → xE} {it il lw ll : Nat → Nat} {ow : Nat → Bool} {ks ni nl : Nat}
/-- the page in charge, among the reference's -/
theorem rr_isC (h : RR S kv it il lw ll ow ks ni nl) (hT : trK S) {l num : Nat} {c c1 c2 : List Pg} {g : Pg} (hl : S[l]? = some c) (hC : InC c (rk kv num) c1 g c2) : ∃ p0, isC kv lw ll nl l num p0 ∧ rk kv (lw p0) = g.1 ∧ ow p0 = g.2.1 := by
  obtain ⟨r1, r2, r3, r4, r5, r6, r7, r8, r9⟩ := h
  obtain ⟨e, i1, i2, i3⟩ := hC
  have hg : g ∈ c := by rw [e]; exact List.mem_append_right _ List.mem_cons_self
  obtain ⟨p0, p1, p2, p3⟩ := r5 l c g hl hg
  have same : ∀ q, q < nl → ll q = l → ∃ g', g' ∈ c ∧ g'.1 = rk kv (lw q) ∧ g'.2.1 = ow q := by
    intro q hq hlq
    obtain ⟨⟨c', g', hc', hg', e1, e2⟩, -⟩ := r4 q hq
    rw [hlq, hl] at hc'
    cases hc'
    exact ⟨g', hg', e1, e2⟩
  refine ⟨p0, ⟨p1, p2, by rw [p3]; exact i1, fun q hq hlq hle hne => ?_⟩, p3, ?_⟩
  · obtain ⟨g', hg', e1, -⟩ := same q hq hlq
    rw [p3, ← e1]
    rw [e] at hg'
    rcases List.mem_append.mp hg' with z | z
    · exact i2 g' z
    · rcases List.mem_cons.mp z with rfl | z
      · exact absurd (r6 q p0 hq p1 (hlq.trans p2.symm) (by rw [p3, e1])) hne
      · have := i3 g' z
        omega
  · obtain ⟨g', hg', e1, e2⟩ := same p0 p1 p2
    have := (hT.1 l c hl).low hg' hg (by rw [e1, p3])
    rw [← e2, this]
theorem isC.un {l num p q : Nat} (h : isC kv lw ll nl l num p) (h' : isC kv lw ll nl l num q) : p = q := by
  by_cases e : p = q
  · exact e
  · have a := h.2.2.2 q h'.1 h'.2.1 h'.2.2.1 (Ne.symm e)
    have b := h'.2.2.2 p h.1 h.2.1 h.2.2.1 e
    omega
/-- of each item the page in charge -/
theorem rr_ic (h : RR S kv it il lw ll ow ks ni nl) (hT : trK S) : ∃ ic : Nat → Nat, ∀ i, i < ni → isC kv lw ll nl (il i) (it i) (ic i) := by
  have ex : ∀ i, ∃ p, i < ni → isC kv lw ll nl (il i) (it i) p := by
    intro i
    by_cases hi : i < ni
    · obtain ⟨⟨c, g, hc, -, -⟩, -⟩ := h.1 i hi
      obtain ⟨c1, g', c2, hI⟩ := (hT.1 _ c hc).ex (rk kv (it i))
      obtain ⟨p0, hp, -⟩ := rr_isC h hT hc hI
      exact ⟨p0, fun _ => hp⟩
    · exact ⟨0, fun q => absurd q hi⟩
  exact ⟨fun i => Classical.choose (ex i), fun i hi => Classical.choose_spec (ex i) hi⟩
/-- an item is in a page just if the page is in charge of it -/
theorem rr_inP (h : RR S kv it il lw ll ow ks ni nl) (hT : trK S) {ic : Nat → Nat} (hic : ∀ i, i < ni → isC kv lw ll nl (il i) (it i) (ic i)) {l p0 : Nat} {c c1 c2 : List Pg} {g : Pg} (hl : S[l]? = some c) (e : c = c1 ++ g :: c2) (hp0 : p0 < nl) (hp1 : ll p0 = l) (hp2 : rk kv (lw p0) = g.1) {i : Nat} (hi : i < ni) : inP il ic l p0 i = true ↔ il i = l ∧ rk kv (it i) ∈ g.2.2 := by
  have hk := hT.1 l c hl
  have hg : g ∈ c := by rw [e]; exact List.mem_append_right _ List.mem_cons_self
  constructor
  · intro hP
    have hP' : il i = l ∧ ic i = p0 := by simpa [inP] using hP
    obtain ⟨⟨c', g', hc', hg', hx⟩, -⟩ := h.1 i hi
    rw [hP'.1, hl] at hc'
    cases hc'
    obtain ⟨d1, d2, e2⟩ := List.append_of_mem hg'
    obtain ⟨p', q1, q2, -⟩ := rr_isC h hT hl (inC_own hk e2 hx)
    have q3 := hic i hi
    rw [hP'.1] at q3
    have e3 := isC.un q1 q3
    rw [hP'.2] at e3
    have : g' = g := hk.low hg' hg (by rw [← q2, e3, hp2])
    subst this
    exact ⟨hP'.1, hx⟩
  · rintro ⟨h1, hx⟩
    obtain ⟨p', q1, q2, -⟩ := rr_isC h hT hl (inC_own hk e hx)
    have q3 := hic i hi
    rw [h1] at q3
    have e3 := isC.un q1 q3
    have e4 : p' = p0 := h.2.2.2.2.2.1 p' p0 q1.1 hp0 (q1.2.1.trans hp1.symm) (by rw [q2, hp2])
    simp [inP, h1, ← e3, e4]
theorem rr_filled (h : RR S kv it il lw ll ow ks ni nl) (hT : trK S) {ic : Nat → Nat} (hic : ∀ i, i < ni → isC kv lw ll nl (il i) (it i) (ic i)) {l p0 : Nat} {c c1 c2 : List Pg} {g : Pg} (hl : S[l]? = some c) (e : c = c1 ++ g :: c2) (hp0 : p0 < nl) (hp1 : ll p0 = l) (hp2 : rk kv (lw p0) = g.1) : cT (inP il ic l p0) ni = g.2.2.length := by
  have hk := hT.1 l c hl
  have hg : g ∈ c := by rw [e]; exact List.mem_append_right _ List.mem_cons_self
  have hP := fun {i : Nat} (hi : i < ni) => rr_inP h hT hic hl e hp0 hp1 hp2 hi
  refine cT_card (f := fun i => rk kv (it i)) (fun i hi q => ((hP hi).mp q).2) (fun x hx => ?_) (fun i j hi hj a b q => h.2.2.1 i j hi hj (((hP hi).mp a).1.trans ((hP hj).mp b).1.symm) q) (sort_nd (hk.2.2 g hg).1)
  obtain ⟨i, i1, i2, i3⟩ := h.2.1 l x ⟨c, g, hl, hg, hx⟩
  exact ⟨i, i1, (hP i1).mpr ⟨i2, by rw [i3]; exact hx⟩, i3⟩
theorem rr_inL (h : RR S kv it il lw ll ow ks ni nl) (hT : trK S) {ic : Nat → Nat} (hic : ∀ i, i < ni → isC kv lw ll nl (il i) (it i) (ic i)) {l p0 : Nat} {c c1 c2 : List Pg} {g : Pg} (hl : S[l]? = some c) (e : c = c1 ++ g :: c2) (hp0 : p0 < nl) (hp1 : ll p0 = l) (hp2 : rk kv (lw p0) = g.1) {i k : Nat} (hk' : g.2.2[k]? = some (rk kv (it i))) : cT (inL kv it il ic l p0 i) ni = k := by
  have hk := hT.1 l c hl
  have hg : g ∈ c := by rw [e]; exact List.mem_append_right _ List.mem_cons_self
  have hP := fun {i : Nat} (hi : i < ni) => rr_inP h hT hic hl e hp0 hp1 hp2 hi
  have hs := sort_take (hk.2.2 g hg).1 hk'
  have hlt := (List.getElem?_eq_some_iff.mp hk').1
  have hL : ∀ j, inL kv it il ic l p0 i j = true ↔ inP il ic l p0 j = true ∧ rk kv (it j) < rk kv (it i) := fun j => by simp [inL]
  have := cT_card (P := inL kv it il ic l p0 i) (n := ni) (f := fun i => rk kv (it i)) (L := g.2.2.take k) (fun j hj q => (hs _).mp ⟨((hP hj).mp ((hL j).mp q).1).2, ((hL j).mp q).2⟩) (fun x hx => ?_) (fun a b ha hb qa qb q => h.2.2.1 a b ha hb (((hP ha).mp ((hL a).mp qa).1).1.trans ((hP hb).mp ((hL b).mp qb).1).1.symm) q) ((sort_nd (hk.2.2 g hg).1).sublist (List.take_sublist _ _))
  · rw [this, List.length_take]
    omega
  · have hx' := (hs x).mpr hx
    obtain ⟨j, i1, i2, i3⟩ := h.2.1 l x ⟨c, g, hl, hg, hx'.1⟩
    exact ⟨j, i1, (hL j).mpr ⟨(hP i1).mpr ⟨i2, by rw [i3]; exact hx'.1⟩, by rw [i3]; exact hx'.2⟩, i3⟩
theorem rr_sixth (h : RR S kv it il lw ll ow ks ni nl) (hT : trK S) {ic : Nat → Nat} (hic : ∀ i, i < ni → isC kv lw ll nl (il i) (it i) (ic i)) {l p0 x : Nat} {c c1 c2 : List Pg} {g : Pg} (hl : S[l]? = some c) (e : c = c1 ++ g :: c2) (hp0 : p0 < nl) (hp1 : ll p0 = l) (hp2 : rk kv (lw p0) = g.1) (hx : g.2.2[5]? = some x) : ∃ i0, i0 < ni ∧ rk kv (it i0) = x ∧ inP il ic l p0 i0 = true ∧ cT (inL kv it il ic l p0 i0) ni = 5 ∧ ∀ i, i < i0 → inP il ic l p0 i = true → cT (inL kv it il ic l p0 i) ni ≠ 5 := by
  have hk := hT.1 l c hl
  have hg : g ∈ c := by rw [e]; exact List.mem_append_right _ List.mem_cons_self
  have hxm : x ∈ g.2.2 := List.mem_of_getElem? hx
  have hP := fun {i : Nat} (hi : i < ni) => rr_inP h hT hic hl e hp0 hp1 hp2 hi
  obtain ⟨i0, i1, i2, i3⟩ := h.2.1 l x ⟨c, g, hl, hg, hxm⟩
  refine ⟨i0, i1, i3, (hP i1).mpr ⟨i2, by rw [i3]; exact hxm⟩, rr_inL h hT hic hl e hp0 hp1 hp2 (by rw [i3]; exact hx), fun i hi q => ?_⟩
  have hin := (hP (show i < ni by omega)).mp q
  obtain ⟨k, hk2⟩ := List.getElem?_of_mem hin.2
  rw [rr_inL h hT hic hl e hp0 hp1 hp2 hk2]
  intro e5
  subst e5
  rw [hx] at hk2
  have := h.2.2.1 i i0 (by omega) i1 (hin.1.trans i2.symm) (by rw [i3]; exact (Option.some.inj hk2).symm)
  omega
theorem rr_itemOf (h : RR S kv it il lw ll ow ks ni nl) (num : Nat) : (inI S 0 (rk kv num) → ∃ i0, isI kv it il ni num (some i0)) ∧ (¬ inI S 0 (rk kv num) → isI kv it il ni num none) := by
  constructor
  · intro hin
    obtain ⟨i0, i1, i2, i3⟩ := h.2.1 0 _ hin
    refine ⟨i0, i1, ⟨i2, i3⟩, fun i hi q => ?_⟩
    have := h.2.2.1 i i0 (by omega) i1 (q.1.trans i2.symm) (q.2.trans i3.symm)
    omega
  · intro hn i hi q
    have := (h.1 i hi).1
    rw [q.1, q.2] at this
    exact hn this
/-- the pages of a level, counted by a list of lows -/
theorem rr_pages (h : RR S kv it il lw ll ow ks ni nl) {l : Nat} {c : List Pg} (hl : S[l]? = some c) {P : Nat → Bool} {L : List Nat} (hP : ∀ p, p < nl → (P p = true ↔ ll p = l ∧ rk kv (lw p) ∈ L)) (hL : L.Nodup) (hsub : ∀ x ∈ L, ∃ g ∈ c, g.1 = x) : cT P nl = L.length := by
  refine cT_card (f := fun p => rk kv (lw p)) (fun p hp q => ((hP p hp).mp q).2) (fun x hx => ?_) (fun a b ha hb qa qb q => h.2.2.2.2.2.1 a b ha hb (((hP a ha).mp qa).1.trans ((hP b hb).mp qb).1.symm) q) hL
  obtain ⟨g, hg, rfl⟩ := hsub x hx
  obtain ⟨p, p1, p2, p3⟩ := h.2.2.2.2.1 l c g hl hg
  exact ⟨p, p1, (hP p p1).mpr ⟨p2, by rw [p3]; exact hx⟩, p3⟩
theorem low_nd {c : List Pg} (h : c.Pairwise (fun p q => p.1 < q.1 ∧ ∀ x ∈ p.2.2, x < q.1)) : (c.map (fun g => g.1)).Nodup := by
  refine sort_nd ?_
  rw [List.pairwise_map]
  exact h.imp (fun q => q.1)
theorem rr_npages (h : RR S kv it il lw ll ow ks ni nl) (hT : trK S) {l : Nat} {c : List Pg} (hl : S[l]? = some c) : cT (fun p => decide (ll p = l)) nl = c.length := by
  have := rr_pages h hl (P := fun p => decide (ll p = l)) (L := c.map (fun g => g.1)) (fun p hp => ?_) (low_nd (hT.1 l c hl).2.1) (fun x hx => by obtain ⟨g, hg, e⟩ := List.mem_map.mp hx; exact ⟨g, hg, e⟩)
  · rw [this, List.length_map]
  · simp only [decide_eq_true_eq]
    constructor
    · intro q
      obtain ⟨⟨c', g, hc', hg, e1, -⟩, -⟩ := h.2.2.2.1 p hp
      rw [q, hl] at hc'
      cases hc'
      exact ⟨q, List.mem_map.mpr ⟨g, hg, e1⟩⟩
    · exact fun q => q.1
theorem rr_left (h : RR S kv it il lw ll ow ks ni nl) (hT : trK S) {l p0 : Nat} {c c1 c2 : List Pg} {g : Pg} (hl : S[l]? = some c) (e : c = c1 ++ g :: c2) (hp1 : ll p0 = l) (hp2 : rk kv (lw p0) = g.1) : cT (lft kv lw ll p0) nl = c1.length := by
  have hw := (hT.1 l c hl).2.1
  rw [e] at hw
  have hw2 := List.pairwise_append.mp hw
  have := rr_pages h hl (P := lft kv lw ll p0) (L := c1.map (fun g => g.1)) (fun p hp => ?_) (low_nd hw2.1) (fun x hx => by obtain ⟨q, hq, e'⟩ := List.mem_map.mp hx; exact ⟨q, by rw [e]; exact List.mem_append_left _ hq, e'⟩)
  · rw [this, List.length_map]
  · have hb : lft kv lw ll p0 p = true ↔ ll p = l ∧ rk kv (lw p) < g.1 := by simp [lft, hp1, hp2]
    rw [hb]
    constructor
    · rintro ⟨q1, q2⟩
      obtain ⟨⟨c', g', hc', hg', e1, -⟩, -⟩ := h.2.2.2.1 p hp
      rw [q1, hl] at hc'
      cases hc'
      refine ⟨q1, List.mem_map.mpr ⟨g', ?_, e1⟩⟩
      rw [e] at hg'
      rcases List.mem_append.mp hg' with z | z
      · exact z
      · rcases List.mem_cons.mp z with rfl | z
        · omega
        · have := ((List.pairwise_cons.mp hw2.2.1).1 g' z).1
          omega
    · rintro ⟨q1, q2⟩
      obtain ⟨g', hg', e1⟩ := List.mem_map.mp q2
      have := (hw2.2.2 g' hg' g List.mem_cons_self).1
      exact ⟨q1, by omega⟩
theorem flat_sort : ∀ {c : List Pg}, c.Pairwise (fun p q => p.1 < q.1 ∧ ∀ x ∈ p.2.2, x < q.1) → (∀ g ∈ c, g.2.2.Pairwise (· < ·) ∧ (∀ x ∈ g.2.2, g.1 ≤ x) ∧ g.2.2.length ≤ 10) → (c.flatMap (fun g => g.2.2)).Pairwise (· < ·) := by
  intro c
  induction c with
  | nil => intro _ _; exact List.Pairwise.nil
  | cons a t ih =>
    intro hw hk
    have hw' := List.pairwise_cons.mp hw
    rw [List.flatMap_cons, List.pairwise_append]
    refine ⟨(hk a List.mem_cons_self).1, ih hw'.2 (fun g hg => hk g (List.mem_cons_of_mem _ hg)), fun x hx y hy => ?_⟩
    obtain ⟨g, hg, hy'⟩ := List.mem_flatMap.mp hy
    have h1 := (hw'.1 g hg).2 x hx
    have h2 := (hk g (List.mem_cons_of_mem _ hg)).2.1 y hy'
    omega
theorem nC_flat (c : List Pg) : (c.flatMap (fun g => g.2.2)).length = nC c := by
  rw [List.length_flatMap]
  rfl
theorem rr_entries (h : RR S kv it il lw ll ow ks ni nl) (hT : trK S) {l : Nat} {c : List Pg} (hl : S[l]? = some c) : cT (fun i => decide (il i = l)) ni = nC c := by
  have hk := hT.1 l c hl
  rw [← nC_flat]
  refine cT_card (f := fun i => rk kv (it i)) (fun i hi q => ?_) (fun x hx => ?_) (fun i j hi hj a b q => h.2.2.1 i j hi hj ?_ q) (sort_nd (flat_sort hk.2.1 hk.2.2))
  · simp only [decide_eq_true_eq] at q
    obtain ⟨⟨c', g, hc', hg, hx⟩, -⟩ := h.1 i hi
    rw [q, hl] at hc'
    cases hc'
    exact List.mem_flatMap.mpr ⟨g, hg, hx⟩
  · obtain ⟨g, hg, hx'⟩ := List.mem_flatMap.mp hx
    obtain ⟨i, i1, i2, i3⟩ := h.2.1 l x ⟨c, g, hl, hg, hx'⟩
    exact ⟨i, i1, by simp [i2], i3⟩
  · simp only [decide_eq_true_eq] at a b
    rw [a, b]
end RL
end
section
/-! the reference's rows are kept by its writes -/
section RO
variable {S S' : Tr} {kv : Nat → xE} {it il lw ll : Nat → Nat} {ow : Nat → Bool} {ks ni nl : Nat}
theorem rk_kvu {kv : Nat → xE} {k i : Nat} (e : xE) (h : i ≠ k) : rk (kvu kv k e) i = rk kv i := by
  unfold rk kvu
  by_cases h0 : i = 0
  · rw [if_pos h0, if_pos h0]
  · rw [if_neg h0, if_neg h0, if_neg h]
theorem rr_kv (h : RR S kv it il lw ll ow ks ni nl) (e : xE) : RR S (kvu kv ks e) it il lw ll ow ks ni nl := by
  obtain ⟨r1, r2, r3, r4, r5, r6, r7, r8, r9⟩ := h
  have k1 : ∀ i, i < ni → rk (kvu kv ks e) (it i) = rk kv (it i) := fun i hi => rk_kvu e (by have := (r1 i hi).2; omega)
  have k2 : ∀ p, p < nl → rk (kvu kv ks e) (lw p) = rk kv (lw p) := fun p hp => rk_kvu e (by have := (r4 p hp).2; omega)
  refine ⟨fun i hi => by rw [k1 i hi]; exact r1 i hi, fun l x hx => ?_, fun i j hi hj a b => r3 i j hi hj a (by rw [← k1 i hi, ← k1 j hj]; exact b), fun p hp => by rw [k2 p hp]; exact r4 p hp, fun l c g hl hg => ?_, fun p q hp hq a b => r6 p q hp hq a (by rw [← k2 p hp, ← k2 q hq]; exact b), r7, r8, r9⟩
  · obtain ⟨i, i1, i2, i3⟩ := r2 l x hx
    exact ⟨i, i1, i2, by rw [k1 i i1]; exact i3⟩
  · obtain ⟨p, p1, p2, p3⟩ := r5 l c g hl hg
    exact ⟨p, p1, p2, by rw [k2 p p1]; exact p3⟩
theorem rr_ks (h : RR S kv it il lw ll ow ks ni nl) : RR S kv it il lw ll ow (ks + 1) ni nl := by
  obtain ⟨r1, r2, r3, r4, r5, r6, r7, r8, r9⟩ := h
  exact ⟨fun i hi => ⟨(r1 i hi).1, by have := (r1 i hi).2; omega⟩, r2, r3, fun p hp => ⟨(r4 p hp).1, by have := (r4 p hp).2; omega⟩, r5, r6, r7, r8, by omega⟩
theorem fu_s (f : Nat → Nat) (k z : Nat) : fu f k z k = z := by simp [fu]
theorem fu_n {f : Nat → Nat} {k z j : Nat} (h : j ≠ k) : fu f k z j = f j := by simp [fu, h]
theorem inLw_of {l : Nat} {c : List Pg} {g : Pg} (hl : S[l]? = some c) (hg : g ∈ c) : inLw S l g.1 g.2.1 := ⟨c, g, hl, hg, rfl, rfl⟩
theorem rr_addPage (h : RR S kv it il lw ll ow ks ni nl) {l num x : Nat} (hI : ∀ l' y, inI S' l' y ↔ inI S l' y) (hL : ∀ l' k o, inLw S' l' k o ↔ inLw S l' k o ∨ (l' = l ∧ k = x ∧ o = false)) (hnew : ∀ o, ¬ inLw S l x o) (hx : rk kv num = x) (hn : num < ks) (c1 : nIt S' = nIt S) (c2 : nPg S' = nPg S + 1) : RR S' kv it il (fu lw nl num) (fu ll nl l) (fun q => if q = nl then false else ow q) ks ni (nl + 1) := by
  obtain ⟨r1, r2, r3, r4, r5, r6, r7, r8, r9⟩ := h
  have old : ∀ p, p < nl → fu lw nl num p = lw p ∧ fu ll nl l p = ll p := fun p hp => ⟨fu_n (by omega), fu_n (by omega)⟩
  refine ⟨fun i hi => ⟨(hI _ _).mpr (r1 i hi).1, (r1 i hi).2⟩, fun l' y hy => r2 l' y ((hI _ _).mp hy), r3, fun p hp => ?_, fun l' c g hl hg => ?_, fun p q hp hq a b => ?_, by rw [c1]; exact r7, by rw [c2, r8], r9⟩
  · by_cases e : p = nl
    · subst e
      rw [fu_s, fu_s]
      simp only [if_true]
      exact ⟨(hL _ _ _).mpr (Or.inr ⟨rfl, hx, rfl⟩), hn⟩
    · obtain ⟨o1, o2⟩ := old p (by omega)
      rw [o1, o2]
      simp only [e, if_false]
      exact ⟨(hL _ _ _).mpr (Or.inl (r4 p (by omega)).1), (r4 p (by omega)).2⟩
  · rcases (hL l' g.1 g.2.1).mp (inLw_of hl hg) with ⟨c', g', hc', hg', e1, e2⟩ | ⟨e1, e2, e3⟩
    · obtain ⟨p, p1, p2, p3⟩ := r5 l' c' g' hc' hg'
      obtain ⟨o1, o2⟩ := old p p1
      exact ⟨p, by omega, by rw [o2]; exact p2, by rw [o1, p3, e1]⟩
    · exact ⟨nl, by omega, by rw [fu_s, e1], by rw [fu_s, hx, e2]⟩
  · have lowne : ∀ q, q < nl → ll q = l → rk kv (lw q) = x → False := fun q hq e1 e2 => by
      have := (r4 q hq).1
      rw [e1, e2] at this
      exact hnew _ this
    by_cases ep : p = nl
    · by_cases eq : q = nl
      · rw [ep, eq]
      · obtain ⟨o1, o2⟩ := old q (by omega)
        rw [ep, fu_s, o2] at a
        rw [ep, fu_s, o1] at b
        exact (lowne q (by omega) a.symm (by rw [← b]; exact hx)).elim
    · obtain ⟨o1, o2⟩ := old p (by omega)
      by_cases eq : q = nl
      · rw [eq, fu_s, o2] at a
        rw [eq, fu_s, o1] at b
        exact (lowne p (by omega) a (by rw [b]; exact hx)).elim
      · obtain ⟨o3, o4⟩ := old q (by omega)
        rw [o2, o4] at a
        rw [o1, o3] at b
        exact r6 p q (by omega) (by omega) a b
theorem rr_addItem (h : RR S kv it il lw ll ow ks ni nl) {l num x : Nat} (hI : ∀ l' y, inI S' l' y ↔ inI S l' y ∨ (l' = l ∧ y = x)) (hL : ∀ l' k o, inLw S' l' k o ↔ inLw S l' k o) (hnew : ¬ inI S l x) (hx : rk kv num = x) (hn : num < ks) (c1 : nIt S' = nIt S + 1) (c2 : nPg S' = nPg S) : RR S' kv (fu it ni num) (fu il ni l) lw ll ow ks (ni + 1) nl := by
  obtain ⟨r1, r2, r3, r4, r5, r6, r7, r8, r9⟩ := h
  have old : ∀ p, p < ni → fu it ni num p = it p ∧ fu il ni l p = il p := fun p hp => ⟨fu_n (by omega), fu_n (by omega)⟩
  refine ⟨fun p hp => ?_, fun l' y hy => ?_, fun p q hp hq a b => ?_, fun p hp => ⟨(hL _ _ _).mpr (r4 p hp).1, (r4 p hp).2⟩, fun l' c g hl hg => ?_, r6, by rw [c1, r7], by rw [c2]; exact r8, r9⟩
  · by_cases e : p = ni
    · subst e
      rw [fu_s, fu_s]
      exact ⟨(hI _ _).mpr (Or.inr ⟨rfl, hx⟩), hn⟩
    · obtain ⟨o1, o2⟩ := old p (by omega)
      rw [o1, o2]
      exact ⟨(hI _ _).mpr (Or.inl (r1 p (by omega)).1), (r1 p (by omega)).2⟩
  · rcases (hI l' y).mp hy with q | ⟨e1, e2⟩
    · obtain ⟨p, p1, p2, p3⟩ := r2 l' y q
      obtain ⟨o1, o2⟩ := old p p1
      exact ⟨p, by omega, by rw [o2]; exact p2, by rw [o1, p3]⟩
    · exact ⟨ni, by omega, by rw [fu_s, e1], by rw [fu_s, hx, e2]⟩
  · have itne : ∀ q, q < ni → il q = l → rk kv (it q) = x → False := fun q hq e1 e2 => by
      have := (r1 q hq).1
      rw [e1, e2] at this
      exact hnew this
    by_cases ep : p = ni
    · by_cases eq : q = ni
      · rw [ep, eq]
      · obtain ⟨o1, o2⟩ := old q (by omega)
        rw [ep, fu_s, o2] at a
        rw [ep, fu_s, o1] at b
        exact (itne q (by omega) a.symm (by rw [← b]; exact hx)).elim
    · obtain ⟨o1, o2⟩ := old p (by omega)
      by_cases eq : q = ni
      · rw [eq, fu_s, o2] at a
        rw [eq, fu_s, o1] at b
        exact (itne p (by omega) a (by rw [b]; exact hx)).elim
      · obtain ⟨o3, o4⟩ := old q (by omega)
        rw [o2, o4] at a
        rw [o1, o3] at b
        exact r3 p q (by omega) (by omega) a b
  · obtain ⟨c', g', hc', hg', e1, e2⟩ := (hL l' g.1 g.2.1).mp (inLw_of hl hg)
    obtain ⟨p, p1, p2, p3⟩ := r5 l' c' g' hc' hg'
    exact ⟨p, p1, p2, by rw [p3, e1]⟩
theorem rr_owe (h : RR S kv it il lw ll ow ks ni nl) {l x p0 : Nat} {b : Bool} (hI : ∀ l' y, inI S' l' y ↔ inI S l' y) (hL : ∀ l' k o, inLw S' l' k o ↔ (inLw S l' k o ∧ ¬ (l' = l ∧ k = x)) ∨ (l' = l ∧ k = x ∧ o = b)) (hp0 : p0 < nl) (h1 : ll p0 = l) (h2 : rk kv (lw p0) = x) (c1 : nIt S' = nIt S) (c2 : nPg S' = nPg S) : RR S' kv it il lw ll (fun q => if q = p0 then b else ow q) ks ni nl := by
  obtain ⟨r1, r2, r3, r4, r5, r6, r7, r8, r9⟩ := h
  refine ⟨fun i hi => ⟨(hI _ _).mpr (r1 i hi).1, (r1 i hi).2⟩, fun l' y hy => r2 l' y ((hI _ _).mp hy), r3, fun p hp => ?_, fun l' c g hl hg => ?_, r6, by rw [c1]; exact r7, by rw [c2]; exact r8, r9⟩
  · refine ⟨(hL _ _ _).mpr ?_, (r4 p hp).2⟩
    by_cases e : p = p0
    · subst e
      simp only [if_true]
      exact Or.inr ⟨h1, h2, trivial⟩
    · simp only [e, if_false]
      refine Or.inl ⟨(r4 p hp).1, fun q => e ?_⟩
      exact r6 p p0 hp hp0 (q.1.trans h1.symm) (q.2.trans h2.symm)
  · rcases (hL l' g.1 g.2.1).mp (inLw_of hl hg) with ⟨⟨c', g', hc', hg', e1, e2⟩, -⟩ | ⟨e1, e2, e3⟩
    · obtain ⟨p, p1, p2, p3⟩ := r5 l' c' g' hc' hg'
      exact ⟨p, p1, p2, by rw [p3, e1]⟩
    · exact ⟨p0, hp0, by rw [h1, e1], by rw [h2, e2]⟩
theorem rr_remove (h : RR S kv it il lw ll ow ks ni nl) {l x i0 : Nat} (hI : ∀ l' y, inI S' l' y ↔ inI S l' y ∧ ¬ (l' = l ∧ y = x)) (hL : ∀ l' k o, inLw S' l' k o ↔ inLw S l' k o) (hi0 : i0 < ni) (h1 : il i0 = l) (h2 : rk kv (it i0) = x) (c1 : nIt S' + 1 = nIt S) (c2 : nPg S' = nPg S) : RR S' kv (fu it i0 (it (ni - 1))) (fu il i0 (il (ni - 1))) lw ll ow ks (ni - 1) nl := by
  obtain ⟨r1, r2, r3, r4, r5, r6, r7, r8, r9⟩ := h
  -- where an old place is now
  have new : ∀ p, p < ni - 1 → ∃ q, q < ni ∧ q ≠ i0 ∧ fu it i0 (it (ni - 1)) p = it q ∧ fu il i0 (il (ni - 1)) p = il q ∧ (p = i0 → q = ni - 1) ∧ (p ≠ i0 → q = p) := by
    intro p hp
    by_cases e : p = i0
    · subst e
      exact ⟨ni - 1, by omega, by omega, fu_s _ _ _, fu_s _ _ _, fun _ => rfl, fun q => absurd rfl q⟩
    · exact ⟨p, by omega, e, fu_n e, fu_n e, fun q => absurd q e, fun _ => rfl⟩
  refine ⟨fun p hp => ?_, fun l' y hy => ?_, fun p q hp hq a b => ?_, fun p hp => ⟨(hL _ _ _).mpr (r4 p hp).1, (r4 p hp).2⟩, fun l' c g hl hg => ?_, r6, by omega, by rw [c2]; exact r8, r9⟩
  · obtain ⟨q, q1, q2, q3, q4, -⟩ := new p hp
    rw [q3, q4]
    refine ⟨(hI _ _).mpr ⟨(r1 q q1).1, fun z => q2 ?_⟩, (r1 q q1).2⟩
    exact r3 q i0 q1 hi0 (z.1.trans h1.symm) (z.2.trans h2.symm)
  · obtain ⟨y1, y2⟩ := (hI l' y).mp hy
    obtain ⟨i, i1, i2, i3⟩ := r2 l' y y1
    have hne : i ≠ i0 := fun e => y2 ⟨by rw [← i2, e, h1], by rw [← i3, e, h2]⟩
    by_cases e : i = ni - 1
    · refine ⟨i0, by omega, ?_, ?_⟩
      · rw [fu_s, ← e]; exact i2
      · rw [fu_s, ← e]; exact i3
    · exact ⟨i, by omega, by rw [fu_n hne]; exact i2, by rw [fu_n hne]; exact i3⟩
  · obtain ⟨p', a1, a2, a3, a4, a5, a6⟩ := new p hp
    obtain ⟨q', b1, b2, b3, b4, b5, b6⟩ := new q hq
    rw [a4, b4] at a
    rw [a3, b3] at b
    have e := r3 p' q' a1 b1 a b
    by_cases ep : p = i0
    · by_cases eq : q = i0
      · rw [ep, eq]
      · have := a5 ep; have := b6 eq; omega
    · by_cases eq : q = i0
      · have := a6 ep; have := b5 eq; omega
      · have := a6 ep; have := b6 eq; omega
  · obtain ⟨c', g', hc', hg', e1, e2⟩ := (hL l' g.1 g.2.1).mp (inLw_of hl hg)
    obtain ⟨p, p1, p2, p3⟩ := r5 l' c' g' hc' hg'
    exact ⟨p, p1, p2, by rw [p3, e1]⟩
end RO
end
section
/-! a page of a level is replaced by others -/
def sSet (S : Tr) (l : Nat) (c1 gs c2 : List Pg) : Tr := S.set l (c1 ++ (gs ++ c2))
section LS
variable {S : Tr} {l : Nat} {c1 c2 gs : List Pg} {g : Pg}
theorem ss_len : (sSet S l c1 gs c2).length = S.length := by simp [sSet]
theorem ss_at (hl : S[l]? = some (c1 ++ g :: c2)) : (sSet S l c1 gs c2)[l]? = some (c1 ++ (gs ++ c2)) := by
  have hlt := (List.getElem?_eq_some_iff.mp hl).1
  simp [sSet, hlt]
theorem ss_ne {l' : Nat} (h : l' ≠ l) : (sSet S l c1 gs c2)[l']? = S[l']? := by
  simp [sSet, List.getElem?_set_ne (Ne.symm h)]
theorem ss_I (hl : S[l]? = some (c1 ++ g :: c2)) (l' x : Nat) : inI (sSet S l c1 gs c2) l' x ↔ (l' ≠ l ∧ inI S l' x) ∨ (l' = l ∧ ((∃ q ∈ c1, x ∈ q.2.2) ∨ (∃ q ∈ gs, x ∈ q.2.2) ∨ ∃ q ∈ c2, x ∈ q.2.2)) := by
  by_cases e : l' = l
  · subst e
    constructor
    · rintro ⟨c, q, hc, hq, hx⟩
      rw [ss_at hl] at hc
      cases hc
      refine Or.inr ⟨rfl, ?_⟩
      rcases List.mem_append.mp hq with z | z
      · exact Or.inl ⟨q, z, hx⟩
      · rcases List.mem_append.mp z with z | z
        · exact Or.inr (Or.inl ⟨q, z, hx⟩)
        · exact Or.inr (Or.inr ⟨q, z, hx⟩)
    · rintro (⟨z, -⟩ | ⟨-, z⟩)
      · exact absurd rfl z
      · rcases z with ⟨q, z, hx⟩ | ⟨q, z, hx⟩ | ⟨q, z, hx⟩
        · exact ⟨_, q, ss_at hl, List.mem_append_left _ z, hx⟩
        · exact ⟨_, q, ss_at hl, List.mem_append_right _ (List.mem_append_left _ z), hx⟩
        · exact ⟨_, q, ss_at hl, List.mem_append_right _ (List.mem_append_right _ z), hx⟩
  · unfold inI
    rw [ss_ne e]
    exact ⟨fun h => Or.inl ⟨e, h⟩, fun h => h.elim (fun z => z.2) (fun z => absurd z.1 e)⟩
theorem ss_L (hl : S[l]? = some (c1 ++ g :: c2)) (l' k : Nat) (o : Bool) : inLw (sSet S l c1 gs c2) l' k o ↔ (l' ≠ l ∧ inLw S l' k o) ∨ (l' = l ∧ ((∃ q ∈ c1, q.1 = k ∧ q.2.1 = o) ∨ (∃ q ∈ gs, q.1 = k ∧ q.2.1 = o) ∨ ∃ q ∈ c2, q.1 = k ∧ q.2.1 = o)) := by
  by_cases e : l' = l
  · subst e
    constructor
    · rintro ⟨c, q, hc, hq, hx⟩
      rw [ss_at hl] at hc
      cases hc
      refine Or.inr ⟨rfl, ?_⟩
      rcases List.mem_append.mp hq with z | z
      · exact Or.inl ⟨q, z, hx⟩
      · rcases List.mem_append.mp z with z | z
        · exact Or.inr (Or.inl ⟨q, z, hx⟩)
        · exact Or.inr (Or.inr ⟨q, z, hx⟩)
    · rintro (⟨z, -⟩ | ⟨-, z⟩)
      · exact absurd rfl z
      · rcases z with ⟨q, z, hx⟩ | ⟨q, z, hx⟩ | ⟨q, z, hx⟩
        · exact ⟨_, q, ss_at hl, List.mem_append_left _ z, hx⟩
        · exact ⟨_, q, ss_at hl, List.mem_append_right _ (List.mem_append_left _ z), hx⟩
        · exact ⟨_, q, ss_at hl, List.mem_append_right _ (List.mem_append_right _ z), hx⟩
  · unfold inLw
    rw [ss_ne e]
    exact ⟨fun h => Or.inl ⟨e, h⟩, fun h => h.elim (fun z => z.2) (fun z => absurd z.1 e)⟩
theorem at_I (hl : S[l]? = some (c1 ++ g :: c2)) (x : Nat) : inI S l x ↔ (∃ q ∈ c1, x ∈ q.2.2) ∨ x ∈ g.2.2 ∨ ∃ q ∈ c2, x ∈ q.2.2 := by
  constructor
  · rintro ⟨c, q, hc, hq, hx⟩
    rw [hl] at hc
    cases hc
    rcases List.mem_append.mp hq with z | z
    · exact Or.inl ⟨q, z, hx⟩
    · rcases List.mem_cons.mp z with rfl | z
      · exact Or.inr (Or.inl hx)
      · exact Or.inr (Or.inr ⟨q, z, hx⟩)
  · rintro (⟨q, z, hx⟩ | hx | ⟨q, z, hx⟩)
    · exact ⟨_, q, hl, List.mem_append_left _ z, hx⟩
    · exact ⟨_, g, hl, List.mem_append_right _ List.mem_cons_self, hx⟩
    · exact ⟨_, q, hl, List.mem_append_right _ (List.mem_cons_of_mem _ z), hx⟩
theorem at_L (hl : S[l]? = some (c1 ++ g :: c2)) (k : Nat) (o : Bool) : inLw S l k o ↔ (∃ q ∈ c1, q.1 = k ∧ q.2.1 = o) ∨ (g.1 = k ∧ g.2.1 = o) ∨ ∃ q ∈ c2, q.1 = k ∧ q.2.1 = o := by
  constructor
  · rintro ⟨c, q, hc, hq, hx⟩
    rw [hl] at hc
    cases hc
    rcases List.mem_append.mp hq with z | z
    · exact Or.inl ⟨q, z, hx⟩
    · rcases List.mem_cons.mp z with rfl | z
      · exact Or.inr (Or.inl hx)
      · exact Or.inr (Or.inr ⟨q, z, hx⟩)
  · rintro (⟨q, z, hx⟩ | hx | ⟨q, z, hx⟩)
    · exact ⟨_, q, hl, List.mem_append_left _ z, hx⟩
    · exact ⟨_, g, hl, List.mem_append_right _ List.mem_cons_self, hx⟩
    · exact ⟨_, q, hl, List.mem_append_right _ (List.mem_cons_of_mem _ z), hx⟩
/-- the items stay -/
theorem ss_Isame (hl : S[l]? = some (c1 ++ g :: c2)) (h : ∀ x, (∃ q ∈ gs, x ∈ q.2.2) ↔ x ∈ g.2.2) (l' x : Nat) : inI (sSet S l c1 gs c2) l' x ↔ inI S l' x := by
  rw [ss_I hl]
  by_cases e : l' = l
  · subst e
    rw [at_I hl, h x]
    exact ⟨fun z => z.elim (fun z => absurd rfl z.1) (fun z => z.2), fun z => Or.inr ⟨rfl, z⟩⟩
  · exact ⟨fun z => z.elim (fun z => z.2) (fun z => absurd z.1 e), fun z => Or.inl ⟨e, z⟩⟩
theorem ss_Iadd (hl : S[l]? = some (c1 ++ g :: c2)) {v : Nat} (h : ∀ x, (∃ q ∈ gs, x ∈ q.2.2) ↔ x ∈ g.2.2 ∨ x = v) (l' x : Nat) : inI (sSet S l c1 gs c2) l' x ↔ inI S l' x ∨ (l' = l ∧ x = v) := by
  rw [ss_I hl]
  by_cases e : l' = l
  · subst e
    rw [at_I hl, h x]
    constructor
    · rintro (z | ⟨-, z | (z | z) | z⟩)
      · exact absurd rfl z.1
      · exact Or.inl (Or.inl z)
      · exact Or.inl (Or.inr (Or.inl z))
      · exact Or.inr ⟨rfl, z⟩
      · exact Or.inl (Or.inr (Or.inr z))
    · rintro ((z | z | z) | ⟨-, z⟩)
      · exact Or.inr ⟨rfl, Or.inl z⟩
      · exact Or.inr ⟨rfl, Or.inr (Or.inl (Or.inl z))⟩
      · exact Or.inr ⟨rfl, Or.inr (Or.inr z)⟩
      · exact Or.inr ⟨rfl, Or.inr (Or.inl (Or.inr z))⟩
  · constructor
    · rintro (z | z)
      · exact Or.inl z.2
      · exact absurd z.1 e
    · rintro (z | z)
      · exact Or.inl ⟨e, z⟩
      · exact absurd z.1 e
theorem ss_Idel (hl : S[l]? = some (c1 ++ g :: c2)) {v : Nat} (h : ∀ x, (∃ q ∈ gs, x ∈ q.2.2) ↔ x ∈ g.2.2 ∧ x ≠ v) (h1 : ∀ q ∈ c1, v ∉ q.2.2) (h2 : ∀ q ∈ c2, v ∉ q.2.2) (l' x : Nat) : inI (sSet S l c1 gs c2) l' x ↔ inI S l' x ∧ ¬ (l' = l ∧ x = v) := by
  rw [ss_I hl]
  by_cases e : l' = l
  · subst e
    rw [at_I hl, h x]
    constructor
    · rintro (z | ⟨-, ⟨q, z, hx⟩ | z | ⟨q, z, hx⟩⟩)
      · exact absurd rfl z.1
      · exact ⟨Or.inl ⟨q, z, hx⟩, fun y => h1 q z (y.2 ▸ hx)⟩
      · exact ⟨Or.inr (Or.inl z.1), fun y => z.2 y.2⟩
      · exact ⟨Or.inr (Or.inr ⟨q, z, hx⟩), fun y => h2 q z (y.2 ▸ hx)⟩
    · rintro ⟨z | z | z, y⟩
      · exact Or.inr ⟨rfl, Or.inl z⟩
      · exact Or.inr ⟨rfl, Or.inr (Or.inl ⟨z, fun w => y ⟨rfl, w⟩⟩)⟩
      · exact Or.inr ⟨rfl, Or.inr (Or.inr z)⟩
  · constructor
    · rintro (z | z)
      · exact ⟨z.2, fun y => e y.1⟩
      · exact absurd z.1 e
    · rintro ⟨z, -⟩
      exact Or.inl ⟨e, z⟩
theorem ss_nPg (hl : S[l]? = some (c1 ++ g :: c2)) : nPg (sSet S l c1 gs c2) + 1 = nPg S + gs.length := by
  obtain ⟨S1, S2, e, hlen⟩ := lv_split hl
  have e2 : sSet S l c1 gs c2 = S1 ++ (c1 ++ (gs ++ c2)) :: S2 := by
    unfold sSet
    rw [e, ← hlen]
    simp
  unfold nPg
  rw [e2, e, sum_app, sum_app]
  simp only [List.length_append, List.length_cons]
  omega
theorem ss_nIt (hl : S[l]? = some (c1 ++ g :: c2)) : nIt (sSet S l c1 gs c2) + g.2.2.length = nIt S + nC gs := by
  obtain ⟨S1, S2, e, hlen⟩ := lv_split hl
  have e2 : sSet S l c1 gs c2 = S1 ++ (c1 ++ (gs ++ c2)) :: S2 := by
    unfold sSet
    rw [e, ← hlen]
    simp
  unfold nIt
  rw [e2, e, sum_app, sum_app, nC_app, nC_app, nC_app]
  have : nC (g :: c2) = g.2.2.length + nC c2 := rfl
  rw [this]
  omega
/-- a level stays one when a page is replaced by pages that keep to its place -/
theorem lvK_rep (h : lvK (c1 ++ g :: c2)) (h0 : ∃ a t, gs = a :: t ∧ a.1 = g.1) (hw : gs.Pairwise (fun p q => p.1 < q.1 ∧ ∀ x ∈ p.2.2, x < q.1)) (hk : ∀ p ∈ gs, p.2.2.Pairwise (· < ·) ∧ (∀ x ∈ p.2.2, p.1 ≤ x) ∧ p.2.2.length ≤ 10) (hlo : ∀ p ∈ gs, g.1 ≤ p.1) (hhi : ∀ p ∈ gs, ∀ q ∈ c2, p.1 < q.1 ∧ ∀ x ∈ p.2.2, x < q.1) : lvK (c1 ++ (gs ++ c2)) := by
  obtain ⟨⟨p, t, e, hp⟩, h1, h2⟩ := h
  have w := List.pairwise_append.mp h1
  have w2 := List.pairwise_cons.mp w.2.1
  refine ⟨?_, ?_, fun q hq => ?_⟩
  · cases c1 with
    | nil =>
      obtain ⟨a, t', e', ha⟩ := h0
      simp only [List.nil_append] at e
      cases e
      exact ⟨a, t' ++ c2, by rw [e']; rfl, by rw [ha, hp]⟩
    | cons b c1 =>
      simp only [List.cons_append] at e
      have e1 : b = p := (List.cons.inj e).1
      exact ⟨b, c1 ++ (gs ++ c2), rfl, by rw [e1]; exact hp⟩
  · rw [List.pairwise_append, List.pairwise_append]
    refine ⟨w.1, ⟨hw, w2.2, fun p hp q hq => hhi p hp q hq⟩, fun p hp q hq => ?_⟩
    have hg := w.2.2 p hp g List.mem_cons_self
    rcases List.mem_append.mp hq with z | z
    · have := hlo q z
      exact ⟨by omega, fun x hx => by have := hg.2 x hx; omega⟩
    · exact w.2.2 p hp q (List.mem_cons_of_mem _ z)
  · rcases List.mem_append.mp hq with z | z
    · exact h2 q (List.mem_append_left _ z)
    · rcases List.mem_append.mp z with z | z
      · exact hk q z
      · exact h2 q (List.mem_append_right _ (List.mem_cons_of_mem _ z))
end LS
/-- a key comes into a rising list -/
def insK (v : Nat) : List Nat → List Nat
  | [] => [v]
  | x :: t => if x < v then x :: insK v t else v :: x :: t
theorem insK_mem (v x : Nat) : ∀ l : List Nat, x ∈ insK v l ↔ x ∈ l ∨ x = v := by
  intro l
  induction l with
  | nil => simp [insK]
  | cons a t ih =>
    unfold insK
    split
    · rw [List.mem_cons, List.mem_cons, ih, or_assoc]
    · rw [List.mem_cons, or_comm]
theorem insK_len (v : Nat) : ∀ l : List Nat, (insK v l).length = l.length + 1 := by
  intro l
  induction l with
  | nil => rfl
  | cons a t ih =>
    unfold insK
    split
    · simp [ih]
    · simp
theorem insK_sort {v : Nat} : ∀ {l : List Nat}, l.Pairwise (· < ·) → v ∉ l → (insK v l).Pairwise (· < ·) := by
  intro l
  induction l with
  | nil => intro _ _; simp [insK]
  | cons a t ih =>
    intro h hv
    have h' := List.pairwise_cons.mp h
    unfold insK
    split
    · rename_i hlt
      rw [List.pairwise_cons]
      refine ⟨fun y hy => ?_, ih h'.2 (fun q => hv (List.mem_cons_of_mem _ q))⟩
      rcases (insK_mem v y t).mp hy with z | z
      · exact h'.1 y z
      · omega
    · rename_i hlt
      have hne : v ≠ a := fun q => hv (q ▸ List.mem_cons_self)
      rw [List.pairwise_cons]
      refine ⟨fun y hy => ?_, h⟩
      rcases List.mem_cons.mp hy with rfl | z
      · omega
      · have := h'.1 y z
        omega
theorem insK_head {v x : Nat} {l : List Nat} (h : l.head? = some x) (hv : x < v) : (insK v l).head? = some x := by
  cases l with
  | nil => cases h
  | cons a t =>
    have : a = x := Option.some.inj h
    subst this
    unfold insK
    rw [if_pos hv]
    rfl
end
section
/-! the tree's operations: split, enter, remove; what they keep -/
/-- the two halves of a full page -/
def gL (g : Pg) (o : Bool) : Pg := (g.1, o, g.2.2.take 5)
def gR (g : Pg) : Pg := (g.2.2.getD 5 0, false, g.2.2.drop 5)
section SO
variable {S : Tr} {l : Nat} {c1 c2 : List Pg} {g : Pg}
theorem full5 {g : Pg} (h : g.2.2.length = 10) : ∃ x, g.2.2[5]? = some x ∧ g.2.2.getD 5 0 = x ∧ g.2.2 = g.2.2.take 5 ++ x :: g.2.2.drop 6 ∧ g.2.2.drop 5 = x :: g.2.2.drop 6 := by
  have hlt : 5 < g.2.2.length := by omega
  refine ⟨g.2.2[5], List.getElem?_eq_getElem hlt, by simp [List.getD_eq_getElem?_getD, hlt], ?_, ?_⟩
  · rw [List.getElem_cons_drop, List.take_append_drop]
  · rw [List.getElem_cons_drop]
theorem mem_halves (o : Bool) (g : Pg) (x : Nat) : (∃ q ∈ [gL g o, gR g], x ∈ q.2.2) ↔ x ∈ g.2.2 := by
  constructor
  · rintro ⟨q, hq, hx⟩
    rcases List.mem_cons.mp hq with rfl | hq
    · exact List.mem_of_mem_take hx
    · rw [List.mem_singleton.mp hq] at hx
      exact List.mem_of_mem_drop hx
  · intro hx
    rw [← List.take_append_drop 5 g.2.2] at hx
    rcases List.mem_append.mp hx with z | z
    · exact ⟨_, List.mem_cons_self, z⟩
    · exact ⟨_, List.mem_cons_of_mem _ List.mem_cons_self, z⟩
theorem lvK_split (o : Bool) (h : lvK (c1 ++ g :: c2)) (hg : g.2.2.length = 10) : lvK (c1 ++ ([gL g o, gR g] ++ c2)) ∧ g.1 < g.2.2.getD 5 0 := by
  have hk := h.2.2 g (List.mem_append_right _ List.mem_cons_self)
  have hw := List.pairwise_cons.mp (List.pairwise_append.mp h.2.1).2.1
  obtain ⟨x, hx1, hx2, hx3, hx4⟩ := full5 hg
  have hs := hk.1
  rw [hx3] at hs
  have hs2 := List.pairwise_append.mp hs
  have hxm : x ∈ g.2.2 := List.mem_of_getElem? hx1
  have hlt : g.1 < x := by
    have h5 : 0 < (g.2.2.take 5).length := by rw [List.length_take]; omega
    have hm := List.getElem_mem h5
    have a := hs2.2.2 _ hm x List.mem_cons_self
    have b := hk.2.1 _ (List.mem_of_mem_take hm)
    omega
  refine ⟨lvK_rep h ⟨gL g o, [gR g], rfl, rfl⟩ ?_ ?_ ?_ ?_, by rw [hx2]; exact hlt⟩
  · rw [List.pairwise_cons]
    refine ⟨fun q hq => ?_, List.pairwise_singleton _ _⟩
    rw [List.mem_singleton.mp hq]
    exact ⟨by show g.1 < g.2.2.getD 5 0; rw [hx2]; exact hlt, fun y hy => by show y < g.2.2.getD 5 0; rw [hx2]; exact hs2.2.2 y hy x List.mem_cons_self⟩
  · intro p hp
    rcases List.mem_cons.mp hp with rfl | hp
    · exact ⟨hs2.1, fun y hy => hk.2.1 y (List.mem_of_mem_take hy), by show (g.2.2.take 5).length ≤ 10; rw [List.length_take]; omega⟩
    · rw [List.mem_singleton.mp hp]
      refine ⟨by show (g.2.2.drop 5).Pairwise _; rw [hx4]; exact hs2.2.1, fun y hy => ?_, by show (g.2.2.drop 5).length ≤ 10; rw [List.length_drop]; omega⟩
      show g.2.2.getD 5 0 ≤ y
      have hy : y ∈ g.2.2.drop 5 := hy
      rw [hx2]
      rw [hx4] at hy
      rcases List.mem_cons.mp hy with z | z
      · omega
      · have := (List.pairwise_cons.mp hs2.2.1).1 y z
        omega
  · intro p hp
    rcases List.mem_cons.mp hp with rfl | hp
    · exact Nat.le_refl _
    · rw [List.mem_singleton.mp hp]
      show g.1 ≤ g.2.2.getD 5 0
      omega
  · intro p hp q hq
    have hq' := hw.1 q hq
    rcases List.mem_cons.mp hp with rfl | hp
    · exact ⟨hq'.1, fun y hy => hq'.2 y (List.mem_of_mem_take hy)⟩
    · rw [List.mem_singleton.mp hp]
      exact ⟨by show g.2.2.getD 5 0 < q.1; rw [hx2]; exact hq'.2 x hxm, fun y hy => hq'.2 y (List.mem_of_mem_drop hy)⟩
/-- changing a page of one level keeps the invariant -/
theorem trK_set {gs : List Pg} (h : trK S) (hl : S[l]? = some (c1 ++ g :: c2)) (hk : lvK (c1 ++ (gs ++ c2))) (htop : l + 1 = S.length → ∃ a, gs = [a] ∧ a.2.1 = false) (hlen : 1 ≤ gs.length) (hhd : 0 < l → ∀ a ∈ gs, a.2.2.head? = some a.1) (hlow : ∀ x, (∃ q ∈ c1 ++ g :: c2, q.1 = x) → ∃ q ∈ c1 ++ (gs ++ c2), q.1 = x) (hit : ∀ x, (∃ a ∈ gs, x ∈ a.2.2) → x ∈ g.2.2 ∨ ((0 < l → ∃ c q, S[l - 1]? = some c ∧ q ∈ c ∧ q.1 = x) ∧ 0 < x)) : trK (sSet S l c1 gs c2) := by
  obtain ⟨t1, ⟨n, g0, t2, t3, t30⟩, t4, t5, t6, t7⟩ := h
  have hlt := (List.getElem?_eq_some_iff.mp hl).1
  have items : ∀ l' x, inI (sSet S l c1 gs c2) l' x → inI S l' x ∨ (l' = l ∧ (0 < l → ∃ c q, S[l - 1]? = some c ∧ q ∈ c ∧ q.1 = x) ∧ 0 < x) := by
    intro l' x hx
    rcases (ss_I hl l' x).mp hx with ⟨-, z⟩ | ⟨rfl, z | z | z⟩
    · exact Or.inl z
    · exact Or.inl ((at_I hl x).mpr (Or.inl z))
    · rcases hit x z with y | y
      · exact Or.inl ((at_I hl x).mpr (Or.inr (Or.inl y)))
      · exact Or.inr ⟨rfl, y⟩
    · exact Or.inl ((at_I hl x).mpr (Or.inr (Or.inr z)))
  refine ⟨fun l' c hc => ?_, ?_, fun l' c hc hlt' => ?_, fun l' c q hc hq => ?_, fun l' x hx => ?_, fun x hx => ?_⟩
  · by_cases e : l' = l
    · subst e
      rw [ss_at hl] at hc
      cases hc
      exact hk
    · rw [ss_ne e] at hc
      exact t1 l' c hc
  · by_cases e : n = l
    · subst e
      obtain ⟨a, ha, ha0⟩ := htop t2.symm
      rw [hl] at t3
      have e3 : c1 ++ g :: c2 = [g0] := Option.some.inj t3
      have hc1 : c1 = [] := by
        cases c1 with
        | nil => rfl
        | cons b c1 => simp at e3
      subst hc1
      have hc2 : c2 = [] := by simp at e3; exact e3.2
      subst hc2
      exact ⟨n, a, by rw [ss_len]; exact t2, by rw [ss_at hl, ha]; rfl, ha0⟩
    · exact ⟨n, g0, by rw [ss_len]; exact t2, by rw [ss_ne e]; exact t3, t30⟩
  · rw [ss_len] at hlt'
    by_cases e : l' = l
    · subst e
      rw [ss_at hl] at hc
      cases hc
      have := t4 l' _ hl hlt'
      simp only [List.length_append, List.length_cons] at this ⊢
      omega
    · rw [ss_ne e] at hc
      exact t4 l' c hc hlt'
  · by_cases e : l' + 1 = l
    · subst e
      rw [ss_at hl] at hc
      cases hc
      rcases List.mem_append.mp hq with z | z
      · exact t5 l' _ q hl (List.mem_append_left _ z)
      · rcases List.mem_append.mp z with z | z
        · exact hhd (by omega) q z
        · exact t5 l' _ q hl (List.mem_append_right _ (List.mem_cons_of_mem _ z))
    · rw [ss_ne e] at hc
      exact t5 l' c q hc hq
  · have low : ∀ c q, S[l']? = some c → q ∈ c → q.1 = x → ∃ c q, (sSet S l c1 gs c2)[l']? = some c ∧ q ∈ c ∧ q.1 = x := by
      intro c q hc hq e1
      by_cases e : l' = l
      · subst e
        rw [hl] at hc
        cases hc
        obtain ⟨q', hq', e2⟩ := hlow x ⟨q, hq, e1⟩
        exact ⟨_, q', ss_at hl, hq', e2⟩
      · exact ⟨c, q, by rw [ss_ne e]; exact hc, hq, e1⟩
    rcases items (l' + 1) x hx with z | ⟨e, z, -⟩
    · obtain ⟨c, q, hc, hq, e1⟩ := t6 l' x z
      exact low c q hc hq e1
    · obtain ⟨c, q, hc, hq, e1⟩ := z (by omega)
      have : l - 1 = l' := by omega
      rw [this] at hc
      exact low c q hc hq e1
  · rcases items 0 x hx with z | ⟨-, -, z⟩
    · exact t7 x z
    · exact z
theorem head_take {l : List Nat} {x : Nat} (h : l.head? = some x) : (l.take 5).head? = some x := by
  cases l with
  | nil => cases h
  | cons a t => exact h
theorem trK_split (o : Bool) (h : trK S) (hl : S[l]? = some (c1 ++ g :: c2)) (hg : g.2.2.length = 10) (hnt : l + 1 < S.length) : trK (sSet S l c1 [gL g o, gR g] c2) := by
  obtain ⟨x, hx1, hx2, hx3, hx4⟩ := full5 hg
  refine trK_set h hl (lvK_split o (h.1 l _ hl) hg).1 (fun e => by omega) (by simp) (fun h0 a ha => ?_) (fun y hy => ?_) (fun y hy => Or.inl ((mem_halves o g y).mp hy))
  · obtain ⟨l', rfl⟩ : ∃ l', l = l' + 1 := ⟨l - 1, by omega⟩
    have hh := h.2.2.2.1 l' _ g hl (List.mem_append_right _ List.mem_cons_self)
    rcases List.mem_cons.mp ha with rfl | ha
    · exact head_take hh
    · rw [List.mem_singleton.mp ha]
      show (g.2.2.drop 5).head? = some (g.2.2.getD 5 0)
      rw [hx4, hx2]
      rfl
  · obtain ⟨q, hq, e⟩ := hy
    rcases List.mem_append.mp hq with z | z
    · exact ⟨q, List.mem_append_left _ z, e⟩
    · rcases List.mem_cons.mp z with rfl | z
      · exact ⟨gL q o, List.mem_append_right _ List.mem_cons_self, e⟩
      · exact ⟨q, List.mem_append_right _ (List.mem_append_right _ z), e⟩
/-- only the owing changes -/
theorem trK_ow (o : Bool) (h : trK S) (hl : S[l]? = some (c1 ++ g :: c2)) (ho : l + 1 = S.length → o = false) : trK (sSet S l c1 [(g.1, o, g.2.2)] c2) := by
  have hk := h.1 l _ hl
  have hw := List.pairwise_cons.mp (List.pairwise_append.mp hk.2.1).2.1
  refine trK_set h hl (lvK_rep hk ⟨_, [], rfl, rfl⟩ (List.pairwise_singleton _ _) (fun p hp => ?_) (fun p hp => ?_) (fun p hp q hq => ?_)) (fun e => ⟨_, rfl, ho e⟩) (by simp) (fun h0 a ha => ?_) (fun y hy => ?_) (fun y hy => ?_)
  · rw [List.mem_singleton.mp hp]; exact hk.2.2 g (List.mem_append_right _ List.mem_cons_self)
  · rw [List.mem_singleton.mp hp]; exact Nat.le_refl _
  · rw [List.mem_singleton.mp hp]; exact hw.1 q hq
  · rw [List.mem_singleton.mp ha]
    obtain ⟨l', rfl⟩ : ∃ l', l = l' + 1 := ⟨l - 1, by omega⟩
    exact h.2.2.2.1 l' _ g hl (List.mem_append_right _ List.mem_cons_self)
  · obtain ⟨q, hq, e⟩ := hy
    rcases List.mem_append.mp hq with z | z
    · exact ⟨q, List.mem_append_left _ z, e⟩
    · rcases List.mem_cons.mp z with rfl | z
      · exact ⟨(q.1, o, q.2.2), List.mem_append_right _ List.mem_cons_self, e⟩
      · exact ⟨q, List.mem_append_right _ (List.mem_append_right _ z), e⟩
  · obtain ⟨q, hq, hx⟩ := hy
    rw [List.mem_singleton.mp hq] at hx
    exact Or.inl hx
/-- a key comes into the page in charge -/
theorem trK_enter {v : Nat} (h : trK S) (hl : S[l]? = some (c1 ++ g :: c2)) (hC : InC (c1 ++ g :: c2) v c1 g c2) (hg : g.2.2.length < 10) (hv : v ∉ g.2.2) (hm : 0 < l → ∃ c q, S[l - 1]? = some c ∧ q ∈ c ∧ q.1 = v) (h0 : 0 < v) : trK (sSet S l c1 [(g.1, false, insK v g.2.2)] c2) := by
  have hk := h.1 l _ hl
  have hkg := hk.2.2 g (List.mem_append_right _ List.mem_cons_self)
  have hw := List.pairwise_cons.mp (List.pairwise_append.mp hk.2.1).2.1
  refine trK_set h hl (lvK_rep hk ⟨_, [], rfl, rfl⟩ (List.pairwise_singleton _ _) (fun p hp => ?_) (fun p hp => ?_) (fun p hp q hq => ?_)) (fun _ => ⟨_, rfl, rfl⟩) (by simp) (fun hl0 a ha => ?_) (fun y hy => ?_) (fun y hy => ?_)
  · rw [List.mem_singleton.mp hp]
    refine ⟨insK_sort hkg.1 hv, fun x hx => ?_, by show (insK v g.2.2).length ≤ 10; rw [insK_len]; omega⟩
    rcases (insK_mem v x _).mp hx with z | z
    · exact hkg.2.1 x z
    · rw [z]; exact hC.2.1
  · rw [List.mem_singleton.mp hp]; exact Nat.le_refl _
  · rw [List.mem_singleton.mp hp]
    refine ⟨(hw.1 q hq).1, fun x hx => ?_⟩
    rcases (insK_mem v x _).mp hx with z | z
    · exact (hw.1 q hq).2 x z
    · rw [z]; exact hC.2.2.2 q hq
  · rw [List.mem_singleton.mp ha]
    obtain ⟨l', rfl⟩ : ∃ l', l = l' + 1 := ⟨l - 1, by omega⟩
    have hh := h.2.2.2.1 l' _ g hl (List.mem_append_right _ List.mem_cons_self)
    refine insK_head hh ?_
    have h1 := hC.2.1
    have h2 : v ≠ g.1 := fun e => hv (by rw [e]; exact List.mem_of_mem_head? (by rw [hh]; exact rfl))
    omega
  · obtain ⟨q, hq, e⟩ := hy
    rcases List.mem_append.mp hq with z | z
    · exact ⟨q, List.mem_append_left _ z, e⟩
    · rcases List.mem_cons.mp z with rfl | z
      · exact ⟨(q.1, false, insK v q.2.2), List.mem_append_right _ List.mem_cons_self, e⟩
      · exact ⟨q, List.mem_append_right _ (List.mem_append_right _ z), e⟩
  · obtain ⟨q, hq, hx⟩ := hy
    rw [List.mem_singleton.mp hq] at hx
    rcases (insK_mem v y _).mp hx with z | z
    · exact Or.inl z
    · rw [z]; exact Or.inr ⟨hm, h0⟩
/-- an item of level 0 goes -/
theorem trK_del {v : Nat} (h : trK S) (hl : S[0]? = some (c1 ++ g :: c2)) : trK (sSet S 0 c1 [(g.1, false, g.2.2.filter (fun x => decide (x ≠ v)))] c2) := by
  have hk := h.1 0 _ hl
  have hkg := hk.2.2 g (List.mem_append_right _ List.mem_cons_self)
  have hw := List.pairwise_cons.mp (List.pairwise_append.mp hk.2.1).2.1
  refine trK_set h hl (lvK_rep hk ⟨_, [], rfl, rfl⟩ (List.pairwise_singleton _ _) (fun p hp => ?_) (fun p hp => ?_) (fun p hp q hq => ?_)) (fun _ => ⟨_, rfl, rfl⟩) (by simp) (fun hl0 a ha => absurd hl0 (by omega)) (fun y hy => ?_) (fun y hy => ?_)
  · rw [List.mem_singleton.mp hp]
    refine ⟨List.Pairwise.filter _ hkg.1, fun x hx => hkg.2.1 x (List.mem_filter.mp hx).1, ?_⟩
    show (g.2.2.filter _).length ≤ 10
    have := List.length_filter_le (fun x => decide (x ≠ v)) g.2.2
    omega
  · rw [List.mem_singleton.mp hp]; exact Nat.le_refl _
  · rw [List.mem_singleton.mp hp]
    exact ⟨(hw.1 q hq).1, fun x hx => (hw.1 q hq).2 x (List.mem_filter.mp hx).1⟩
  · obtain ⟨q, hq, e⟩ := hy
    rcases List.mem_append.mp hq with z | z
    · exact ⟨q, List.mem_append_left _ z, e⟩
    · rcases List.mem_cons.mp z with rfl | z
      · exact ⟨(q.1, false, q.2.2.filter (fun x => decide (x ≠ v))), List.mem_append_right _ List.mem_cons_self, e⟩
      · exact ⟨q, List.mem_append_right _ (List.mem_append_right _ z), e⟩
  · obtain ⟨q, hq, hx⟩ := hy
    rw [List.mem_singleton.mp hq] at hx
    exact Or.inl (List.mem_filter.mp hx).1
end SO
end
section
/-! adding, as one function of the tree for both sides; the reference's rows under its steps -/
abbrev qW : Type := Int32 × Int32 × Bool
def sRoot (S : Tr) (l : Nat) (g : Pg) : Tr := sSet S l [] [gL g false, gR g] [] ++ [[(0, false, [0, g.2.2.getD 5 0])]]
def lvl (S : Tr) (l : Nat) : List Pg := S.getD l []
def sEnt (l v : Nat) (S : Tr) (q : qW) : Bool × Tr × qW :=
  let z := zp v (lvl S l)
  let w1 : Bool × qW := if z.2.1.2.1 then sW 1 q else (true, q)
  if w1.1 then
    (if (sW 11 w1.2).1 then (true, sSet S l z.1 [(z.2.1.1, false, insK v z.2.1.2.2)] z.2.2, (sW 11 w1.2).2)
     else (false, sSet S l z.1 [(z.2.1.1, false, z.2.1.2.2)] z.2.2, (sW 11 w1.2).2))
  else (false, S, w1.2)
def sPut : Nat → Nat → Nat → Tr → qW → Bool × Tr × qW
  | 0, _, _, S, q => (false, S, q)
  | f + 1, l, v, S, q =>
    let z := zp v (lvl S l)
    let g := z.2.1
    let r : Bool × Tr × qW := if g.2.2.length < 10 then (true, S, q)
      else if l + 1 = S.length then (if (sW 145 q).1 then (true, sRoot S l g, (sW 145 q).2) else (false, S, (sW 145 q).2))
      else if (sW 63 q).1 then (if (sW 1 (sW 63 q).2).1 then sPut f (l + 1) (g.2.2.getD 5 0) (sSet S l z.1 [gL g g.2.1, gR g] z.2.2) (sW 1 (sW 63 q).2).2 else (false, sSet S l z.1 [gL g true, gR g] z.2.2, (sW 1 (sW 63 q).2).2))
      else (false, S, (sW 63 q).2)
    if r.1 then sEnt l v r.2.1 r.2.2 else r
section SP
variable {S : Tr} {l : Nat} {c1 c2 : List Pg} {g : Pg} {kv : Nat → xE} {it il lw ll : Nat → Nat} {ow : Nat → Bool} {ks ni nl : Nat}
theorem trK_root (h : trK S) (hl : S[l]? = some [g]) (htop : l + 1 = S.length) (hg : g.2.2.length = 10) : trK (sRoot S l g) := by
  obtain ⟨t1, ⟨n, g0, t2, t3, t30⟩, t4, t5, t6, t7⟩ := h
  have hnl : n = l := by omega
  subst hnl
  rw [hl] at t3
  have e0 : g = g0 := by simpa using t3
  subst e0
  have hl' : S[n]? = some ([] ++ g :: []) := hl
  have hsp := lvK_split false (t1 n _ hl') hg
  have hk0 := (t1 n _ hl).1
  have hg0 : g.1 = 0 := by obtain ⟨p, t, e, hp⟩ := hk0; simp at e; rw [e.1]; exact hp
  obtain ⟨x, hx1, hx2, hx3, hx4⟩ := full5 hg
  have len : (sSet S n [] [gL g false, gR g] []).length = n + 1 := by rw [ss_len]; exact t2
  have lo : ∀ l', l' < n + 1 → (sRoot S n g)[l']? = (sSet S n [] [gL g false, gR g] [])[l']? := fun l' h => by
    unfold sRoot
    rw [List.getElem?_append_left (by rw [len]; exact h)]
  have hi : (sRoot S n g)[n + 1]? = some [(0, false, [0, g.2.2.getD 5 0])] := by
    unfold sRoot
    rw [List.getElem?_append_right (by rw [len]; exact Nat.le_refl _), len, Nat.sub_self]
    rfl
  have no : ∀ l' c, (sRoot S n g)[l']? = some c → l' ≤ n + 1 := fun l' c h => by
    have := (List.getElem?_eq_some_iff.mp h).1
    simp only [sRoot, List.length_append, len, List.length_singleton] at this
    omega
  have atn : (sSet S n [] [gL g false, gR g] [])[n]? = some ([] ++ ([gL g false, gR g] ++ [])) := ss_at hl'
  have hlt : g.1 < g.2.2.getD 5 0 := hsp.2
  refine ⟨fun l' c hc => ?_, ⟨n + 1, _, by simp [sRoot, ss_len, t2], hi, rfl⟩, fun l' c hc hlt' => ?_, fun l' c q hc hq => ?_, fun l' y hy => ?_, fun y hy => ?_⟩
  · rcases Nat.lt_or_ge l' (n + 1) with z | z
    · rw [lo l' z] at hc
      by_cases e : l' = n
      · subst e
        rw [atn] at hc
        cases hc
        exact hsp.1
      · rw [ss_ne e] at hc
        exact t1 l' c hc
    · have : l' = n + 1 := by have := no l' c hc; omega
      subst this
      rw [hi] at hc
      cases hc
      refine ⟨⟨_, [], rfl, rfl⟩, List.pairwise_singleton _ _, fun p hp => ?_⟩
      rw [List.mem_singleton.mp hp]
      refine ⟨?_, fun _ _ => Nat.zero_le _, by show ([0, g.2.2.getD 5 0] : List Nat).length ≤ 10; simp⟩
      show ([0, g.2.2.getD 5 0] : List Nat).Pairwise _
      rw [List.pairwise_cons]
      refine ⟨fun a ha => ?_, List.pairwise_singleton _ _⟩
      rw [List.mem_singleton.mp ha]
      omega
  · have hlen : (sRoot S n g).length = n + 2 := by simp [sRoot, ss_len, t2]
    rw [hlen] at hlt'
    rw [lo l' (by omega)] at hc
    by_cases e : l' = n
    · subst e
      rw [atn] at hc
      cases hc
      exact Nat.le_refl 2
    · rw [ss_ne e] at hc
      exact t4 l' c hc (by omega)
  · rcases Nat.lt_or_ge (l' + 1) (n + 1) with z | z
    · rw [lo _ z] at hc
      by_cases e : l' + 1 = n
      · rw [e] at hc
        rw [atn] at hc
        cases hc
        have hh := t5 l' _ g (by rw [e]; exact hl) List.mem_cons_self
        rcases List.mem_cons.mp hq with rfl | hq
        · exact head_take hh
        · rw [List.mem_singleton.mp hq]
          show (g.2.2.drop 5).head? = some (g.2.2.getD 5 0)
          rw [hx4, hx2]
          rfl
      · rw [ss_ne e] at hc
        exact t5 l' c q hc hq
    · have : l' = n := by have := no _ c hc; omega
      subst this
      rw [hi] at hc
      cases hc
      rw [List.mem_singleton.mp hq]
      rfl
  · obtain ⟨c, q, hc, hq, hx⟩ := hy
    rcases Nat.lt_or_ge (l' + 1) (n + 1) with z | z
    · rw [lo _ z] at hc
      have hin : inI S (l' + 1) y := (ss_Isame hl' (mem_halves false g) (l' + 1) y).mp ⟨c, q, hc, hq, hx⟩
      obtain ⟨c', q', hc', hq', e⟩ := t6 l' y hin
      exact ⟨c', q', by rw [lo _ (by omega), ss_ne (by omega)]; exact hc', hq', e⟩
    · have : l' = n := by have := no _ c hc; omega
      subst this
      rw [hi] at hc
      cases hc
      rw [List.mem_singleton.mp hq] at hx
      rcases List.mem_cons.mp hx with e | hx
      · exact ⟨_, gL g false, by rw [lo _ (by omega)]; exact atn, List.mem_cons_self, by rw [e]; exact hg0⟩
      · exact ⟨_, gR g, by rw [lo _ (by omega)]; exact atn, List.mem_cons_of_mem _ List.mem_cons_self, (List.mem_singleton.mp hx).symm⟩
  · obtain ⟨c, q, hc, hq, hx⟩ := hy
    rw [lo 0 (by omega)] at hc
    exact t7 y ((ss_Isame hl' (mem_halves false g) 0 y).mp ⟨c, q, hc, hq, hx⟩)
theorem x5_new (h : lvK (c1 ++ g :: c2)) (hl : S[l]? = some (c1 ++ g :: c2)) (hg : g.2.2.length = 10) (o : Bool) : ¬ inLw S l (g.2.2.getD 5 0) o := by
  have hlt := (lvK_split false h hg).2
  obtain ⟨x, hx1, hx2, -, -⟩ := full5 hg
  have hxm : x ∈ g.2.2 := List.mem_of_getElem? hx1
  have w := List.pairwise_append.mp h.2.1
  have w2 := List.pairwise_cons.mp w.2.1
  rw [at_L hl]
  rintro (⟨q, hq, e, -⟩ | ⟨e, -⟩ | ⟨q, hq, e, -⟩)
  · have := (w.2.2 q hq g List.mem_cons_self).1
    omega
  · omega
  · have := (w2.1 q hq).2 x hxm
    omega
theorem rr_split (h : RR S kv it il lw ll ow ks ni nl) (hT : trK S) (hl : S[l]? = some (c1 ++ g :: c2)) (hg : g.2.2.length = 10) {num : Nat} (hx : rk kv num = g.2.2.getD 5 0) (hn : num < ks) : RR (sSet S l c1 [gL g g.2.1, gR g] c2) kv it il (fu lw nl num) (fu ll nl l) (fun q => if q = nl then false else ow q) ks ni (nl + 1) := by
  refine rr_addPage h (x := g.2.2.getD 5 0) (ss_Isame hl (mem_halves _ g)) (fun l' k o => ?_) (x5_new (hT.1 l _ hl) hl hg) hx hn ?_ ?_
  · rw [ss_L hl]
    by_cases e : l' = l
    · subst e
      rw [at_L hl]
      constructor
      · rintro (z | ⟨-, z | ⟨q, hq, z1, z2⟩ | z⟩)
        · exact absurd rfl z.1
        · exact Or.inl (Or.inl z)
        · rcases List.mem_cons.mp hq with rfl | hq
          · exact Or.inl (Or.inr (Or.inl ⟨z1, z2⟩))
          · rw [List.mem_singleton.mp hq] at z1 z2
            exact Or.inr ⟨rfl, z1.symm, z2.symm⟩
        · exact Or.inl (Or.inr (Or.inr z))
      · rintro ((z | z | z) | ⟨-, z1, z2⟩)
        · exact Or.inr ⟨rfl, Or.inl z⟩
        · exact Or.inr ⟨rfl, Or.inr (Or.inl ⟨_, List.mem_cons_self, z⟩)⟩
        · exact Or.inr ⟨rfl, Or.inr (Or.inr z)⟩
        · exact Or.inr ⟨rfl, Or.inr (Or.inl ⟨_, List.mem_cons_of_mem _ List.mem_cons_self, z1.symm, z2.symm⟩)⟩
    · constructor
      · rintro (z | z)
        · exact Or.inl z.2
        · exact absurd z.1 e
      · rintro (z | z)
        · exact Or.inl ⟨e, z⟩
        · exact absurd z.1 e
  · have := ss_nIt (gs := [gL g g.2.1, gR g]) hl
    have e : nC [gL g g.2.1, gR g] = g.2.2.length := by
      simp only [nC, List.map_cons, List.map_nil, List.sum_cons, List.sum_nil, gL, gR, List.length_take, List.length_drop]
      omega
    omega
  · have := ss_nPg (gs := [gL g g.2.1, gR g]) hl
    simp only [List.length_cons, List.length_nil] at this
    omega
theorem rr_owe1 (hT : trK S) (hl : S[l]? = some (c1 ++ g :: c2)) (hg : g.2.2.length = 10) {p0 : Nat} (hp0 : p0 < nl) (h1 : ll p0 = l) (h2 : rk kv (lw p0) = g.1) (h : RR (sSet S l c1 [gL g g.2.1, gR g] c2) kv it il lw ll ow ks ni nl) : RR (sSet S l c1 [gL g true, gR g] c2) kv it il lw ll (fun q => if q = p0 then true else ow q) ks ni nl := by
  have hk := hT.1 l _ hl
  have hlt := (lvK_split false hk hg).2
  have w := List.pairwise_append.mp hk.2.1
  have w2 := List.pairwise_cons.mp w.2.1
  refine rr_owe (l := l) (x := g.1) (b := true) h (fun l' y => ?_) (fun l' k o => ?_) hp0 h1 h2 ?_ ?_
  · rw [ss_Isame hl (mem_halves _ g), ss_Isame hl (mem_halves _ g)]
  · rw [ss_L hl, ss_L hl]
    by_cases e : l' = l
    · subst e
      constructor
      · rintro (z | ⟨-, ⟨q, hq, z1, z2⟩ | ⟨q, hq, z1, z2⟩ | ⟨q, hq, z1, z2⟩⟩)
        · exact absurd rfl z.1
        · have := (w.2.2 q hq g List.mem_cons_self).1
          exact Or.inl ⟨Or.inr ⟨rfl, Or.inl ⟨q, hq, z1, z2⟩⟩, fun y => by omega⟩
        · rcases List.mem_cons.mp hq with rfl | hq
          · exact Or.inr ⟨rfl, z1.symm, z2.symm⟩
          · rw [List.mem_singleton.mp hq] at z1 z2
            have z1' : g.2.2.getD 5 0 = k := z1
            exact Or.inl ⟨Or.inr ⟨rfl, Or.inr (Or.inl ⟨_, List.mem_cons_of_mem _ List.mem_cons_self, z1, z2⟩)⟩, fun y => by omega⟩
        · have := (w2.1 q hq).1
          exact Or.inl ⟨Or.inr ⟨rfl, Or.inr (Or.inr ⟨q, hq, z1, z2⟩)⟩, fun y => by omega⟩
      · rintro (⟨z | ⟨-, z | ⟨q, hq, z1, z2⟩ | z⟩, y⟩ | ⟨-, z1, z2⟩)
        · exact absurd rfl z.1
        · exact Or.inr ⟨rfl, Or.inl z⟩
        · rcases List.mem_cons.mp hq with rfl | hq
          · exact absurd ⟨rfl, z1.symm⟩ y
          · exact Or.inr ⟨rfl, Or.inr (Or.inl ⟨q, List.mem_cons_of_mem _ hq, z1, z2⟩)⟩
        · exact Or.inr ⟨rfl, Or.inr (Or.inr z)⟩
        · exact Or.inr ⟨rfl, Or.inr (Or.inl ⟨_, List.mem_cons_self, z1.symm, z2.symm⟩)⟩
    · constructor
      · rintro (z | z)
        · exact Or.inl ⟨Or.inl z, fun y => e y.1⟩
        · exact absurd z.1 e
      · rintro (⟨z | z, -⟩ | z)
        · exact Or.inl z
        · exact absurd z.1 e
        · exact absurd z.1 e
  · have a := ss_nIt (gs := [gL g g.2.1, gR g]) hl
    have b := ss_nIt (gs := [gL g true, gR g]) hl
    have e : nC [gL g g.2.1, gR g] = nC [gL g true, gR g] := rfl
    omega
  · have a := ss_nPg (gs := [gL g g.2.1, gR g]) hl
    have b := ss_nPg (gs := [gL g true, gR g]) hl
    simp only [List.length_cons, List.length_nil] at a b
    omega
theorem ow_L (hk : lvK (c1 ++ g :: c2)) (hl : S[l]? = some (c1 ++ g :: c2)) (b : Bool) (xs : List Nat) (l' k : Nat) (o : Bool) : inLw (sSet S l c1 [(g.1, b, xs)] c2) l' k o ↔ (inLw S l' k o ∧ ¬ (l' = l ∧ k = g.1)) ∨ (l' = l ∧ k = g.1 ∧ o = b) := by
  have w := List.pairwise_append.mp hk.2.1
  have w2 := List.pairwise_cons.mp w.2.1
  rw [ss_L hl]
  by_cases e : l' = l
  · subst e
    rw [at_L hl]
    constructor
    · rintro (z | ⟨-, ⟨q, hq, z1, z2⟩ | ⟨q, hq, z1, z2⟩ | ⟨q, hq, z1, z2⟩⟩)
      · exact absurd rfl z.1
      · have := (w.2.2 q hq g List.mem_cons_self).1
        exact Or.inl ⟨Or.inl ⟨q, hq, z1, z2⟩, fun y => by omega⟩
      · rw [List.mem_singleton.mp hq] at z1 z2
        exact Or.inr ⟨rfl, z1.symm, z2.symm⟩
      · have := (w2.1 q hq).1
        exact Or.inl ⟨Or.inr (Or.inr ⟨q, hq, z1, z2⟩), fun y => by omega⟩
    · rintro (⟨z | z | z, y⟩ | ⟨-, z1, z2⟩)
      · exact Or.inr ⟨rfl, Or.inl z⟩
      · exact absurd ⟨rfl, z.1.symm⟩ y
      · exact Or.inr ⟨rfl, Or.inr (Or.inr z)⟩
      · exact Or.inr ⟨rfl, Or.inr (Or.inl ⟨_, List.mem_singleton.mpr rfl, z1.symm, z2.symm⟩)⟩
  · constructor
    · rintro (z | z)
      · exact Or.inl ⟨z.2, fun y => e y.1⟩
      · exact absurd z.1 e
    · rintro (⟨z, -⟩ | z)
      · exact Or.inl ⟨e, z⟩
      · exact absurd z.1 e
theorem rr_ow0 (h : RR S kv it il lw ll ow ks ni nl) (hT : trK S) (hl : S[l]? = some (c1 ++ g :: c2)) {p0 : Nat} (hp0 : p0 < nl) (h1 : ll p0 = l) (h2 : rk kv (lw p0) = g.1) (b : Bool) : RR (sSet S l c1 [(g.1, b, g.2.2)] c2) kv it il lw ll (fun q => if q = p0 then b else ow q) ks ni nl := by
  refine rr_owe (l := l) (x := g.1) (b := b) h (fun l' y => ss_Isame hl (fun x => by simp) l' y) (ow_L (hT.1 l _ hl) hl b g.2.2) hp0 h1 h2 ?_ ?_
  · have := ss_nIt (gs := [(g.1, b, g.2.2)]) hl
    have e : nC [(g.1, b, g.2.2)] = g.2.2.length := by simp [nC]
    omega
  · have := ss_nPg (gs := [(g.1, b, g.2.2)]) hl
    simp only [List.length_cons, List.length_nil] at this
    omega
theorem ss_ss (c1 c2 gs gs' : List Pg) (S : Tr) (l : Nat) : sSet (sSet S l c1 gs c2) l c1 gs' c2 = sSet S l c1 gs' c2 := by simp [sSet]
/-- the one that is in charge has the key, if any -/
theorem inI_own (hk : lvK (c1 ++ g :: c2)) (hl : S[l]? = some (c1 ++ g :: c2)) {v : Nat} (hC : InC (c1 ++ g :: c2) v c1 g c2) : inI S l v ↔ v ∈ g.2.2 := by
  rw [at_I hl]
  constructor
  · have w := List.pairwise_append.mp hk.2.1
    rintro (⟨q, hq, hx⟩ | hx | ⟨q, hq, hx⟩)
    · have := (w.2.2 q hq g List.mem_cons_self).2 v hx
      have := hC.2.1
      omega
    · exact hx
    · have := hC.2.2.2 q hq
      have := (hk.2.2 q (List.mem_append_right _ (List.mem_cons_of_mem _ hq))).2.1 v hx
      omega
  · exact fun h => Or.inr (Or.inl h)
theorem rr_enter (h : RR S kv it il lw ll ow ks ni nl) (hT : trK S) (hl : S[l]? = some (c1 ++ g :: c2)) {v num p0 : Nat} (hC : InC (c1 ++ g :: c2) v c1 g c2) (hv : v ∉ g.2.2) (hx : rk kv num = v) (hn : num < ks) (hp0 : p0 < nl) (h1 : ll p0 = l) (h2 : rk kv (lw p0) = g.1) : RR (sSet S l c1 [(g.1, false, insK v g.2.2)] c2) kv (fu it ni num) (fu il ni l) lw ll (fun q => if q = p0 then false else ow q) ks (ni + 1) nl := by
  have hk := hT.1 l _ hl
  have h0 := rr_ow0 h hT hl hp0 h1 h2 false
  have hl0 : (sSet S l c1 [(g.1, false, g.2.2)] c2)[l]? = some (c1 ++ (g.1, false, g.2.2) :: c2) := ss_at hl
  have eS : sSet S l c1 [(g.1, false, insK v g.2.2)] c2 = sSet (sSet S l c1 [(g.1, false, g.2.2)] c2) l c1 [(g.1, false, insK v g.2.2)] c2 := (ss_ss c1 c2 _ _ S l).symm
  rw [eS]
  refine rr_addItem h0 (x := v) (ss_Iadd hl0 (fun x => ?_)) (fun l' k o => ?_) ?_ hx hn ?_ ?_
  · constructor
    · rintro ⟨q, hq, hx⟩
      rw [List.mem_singleton.mp hq] at hx
      exact (insK_mem v x _).mp hx
    · exact fun z => ⟨_, List.mem_singleton.mpr rfl, (insK_mem v x _).mpr z⟩
  · rw [ss_ss, ow_L hk hl, ow_L hk hl]
  · rw [ss_Isame hl (fun x => by simp), inI_own hk hl hC]
    exact hv
  · have := ss_nIt (gs := [(g.1, false, insK v g.2.2)]) hl0
    have e : nC [(g.1, false, insK v g.2.2)] = g.2.2.length + 1 := by simp [nC, insK_len]
    have e2 : ((g.1, false, g.2.2) : Pg).2.2.length = g.2.2.length := rfl
    omega
  · have := ss_nPg (gs := [(g.1, false, insK v g.2.2)]) hl0
    simp only [List.length_cons, List.length_nil] at this
    omega
theorem inI_app (S : Tr) (c : List Pg) (l' x : Nat) : inI (S ++ [c]) l' x ↔ inI S l' x ∨ (l' = S.length ∧ ∃ q ∈ c, x ∈ q.2.2) := by
  constructor
  · rintro ⟨c', q, hc, hq, hx⟩
    rcases Nat.lt_or_ge l' S.length with z | z
    · rw [List.getElem?_append_left z] at hc
      exact Or.inl ⟨c', q, hc, hq, hx⟩
    · have hlt := (List.getElem?_eq_some_iff.mp hc).1
      have e : l' = S.length := by simp at hlt; omega
      subst e
      rw [List.getElem?_append_right (Nat.le_refl _), Nat.sub_self] at hc
      have : c = c' := Option.some.inj hc
      subst this
      exact Or.inr ⟨rfl, q, hq, hx⟩
  · rintro (⟨c', q, hc, hq, hx⟩ | ⟨rfl, q, hq, hx⟩)
    · have hlt := (List.getElem?_eq_some_iff.mp hc).1
      exact ⟨c', q, by rw [List.getElem?_append_left hlt]; exact hc, hq, hx⟩
    · exact ⟨c, q, by rw [List.getElem?_append_right (Nat.le_refl _), Nat.sub_self]; rfl, hq, hx⟩
theorem inLw_app (S : Tr) (c : List Pg) (l' k : Nat) (o : Bool) : inLw (S ++ [c]) l' k o ↔ inLw S l' k o ∨ (l' = S.length ∧ ∃ q ∈ c, q.1 = k ∧ q.2.1 = o) := by
  constructor
  · rintro ⟨c', q, hc, hq, hx⟩
    rcases Nat.lt_or_ge l' S.length with z | z
    · rw [List.getElem?_append_left z] at hc
      exact Or.inl ⟨c', q, hc, hq, hx⟩
    · have hlt := (List.getElem?_eq_some_iff.mp hc).1
      have e : l' = S.length := by simp at hlt; omega
      subst e
      rw [List.getElem?_append_right (Nat.le_refl _), Nat.sub_self] at hc
      have : c = c' := Option.some.inj hc
      subst this
      exact Or.inr ⟨rfl, q, hq, hx⟩
  · rintro (⟨c', q, hc, hq, hx⟩ | ⟨rfl, q, hq, hx⟩)
    · have hlt := (List.getElem?_eq_some_iff.mp hc).1
      exact ⟨c', q, by rw [List.getElem?_append_left hlt]; exact hc, hq, hx⟩
    · exact ⟨c, q, by rw [List.getElem?_append_right (Nat.le_refl _), Nat.sub_self]; rfl, hq, hx⟩
theorem inI_lt {S : Tr} {l x : Nat} (h : inI S l x) : l < S.length := by
  obtain ⟨c, q, hc, -⟩ := h
  exact (List.getElem?_eq_some_iff.mp hc).1
theorem inLw_lt {S : Tr} {l k : Nat} {o : Bool} (h : inLw S l k o) : l < S.length := by
  obtain ⟨c, q, hc, -⟩ := h
  exact (List.getElem?_eq_some_iff.mp hc).1
theorem n_app (S : Tr) (c : List Pg) : nIt (S ++ [c]) = nIt S + nC c ∧ nPg (S ++ [c]) = nPg S + c.length := by simp [nIt, nPg]
theorem rk_0 (kv : Nat → xE) : rk kv 0 = 0 := rfl
theorem rr_root (h : RR S kv it il lw ll ow ks ni nl) (hT : trK S) (hl : S[l]? = some [g]) (htop : l + 1 = S.length) (hg : g.2.2.length = 10) {num : Nat} (hx : rk kv num = g.2.2.getD 5 0) (hn : num < ks) : RR (sRoot S l g) kv (fu (fu it ni 0) (ni + 1) num) (fu (fu il ni (l + 1)) (ni + 1) (l + 1)) (fu (fu lw nl num) (nl + 1) 0) (fu (fu ll nl l) (nl + 1) (l + 1)) (fun q => if q = nl + 1 then false else if q = nl then false else ow q) ks (ni + 1 + 1) (nl + 1 + 1) := by
  have hks := h.2.2.2.2.2.2.2.2
  have hl' : S[l]? = some ([] ++ g :: []) := hl
  obtain ⟨n, g0, t2, t3, t30⟩ := hT.2.1
  have hnl : n = l := by omega
  subst hnl
  rw [hl] at t3
  have e0 : g = g0 := by simpa using t3
  subst e0
  have hlt := (lvK_split false (hT.1 n _ hl') hg).2
  -- step 1: the split
  have s1 := rr_split h hT hl' hg hx hn
  rw [t30] at s1
  -- step 2: the new root, still without marks
  have len : (sSet S n [] [gL g false, gR g] []).length = n + 1 := by rw [ss_len]; exact t2
  have a0 := n_app (sSet S n [] [gL g false, gR g] []) [(0, false, [])]
  have s2 := rr_addPage (S' := sSet S n [] [gL g false, gR g] [] ++ [[(0, false, [])]]) s1 (l := n + 1) (num := 0) (x := 0) (fun l' y => by rw [inI_app]; simp) (fun l' k o => by
    rw [inLw_app, len]
    constructor
    · rintro (z | ⟨e, q, hq, z1, z2⟩)
      · exact Or.inl z
      · rw [List.mem_singleton.mp hq] at z1 z2
        exact Or.inr ⟨e, z1.symm, z2.symm⟩
    · rintro (z | ⟨e, z1, z2⟩)
      · exact Or.inl z
      · exact Or.inr ⟨e, _, List.mem_singleton.mpr rfl, z1.symm, z2.symm⟩) (fun o q => by have := inLw_lt q; omega) (rk_0 kv) (by omega) (by rw [a0.1]; rfl) (by rw [a0.2]; rfl)
  -- step 3, 4: its two marks
  have a1 := n_app (sSet S n [] [gL g false, gR g] []) [(0, false, [0])]
  have s3 := rr_addItem (S' := sSet S n [] [gL g false, gR g] [] ++ [[(0, false, [0])]]) s2 (l := n + 1) (num := 0) (x := 0) (fun l' y => by
    rw [inI_app, inI_app, len]
    simp) (fun l' k o => by rw [inLw_app, inLw_app]; simp) (fun q => by
      rw [inI_app, len] at q
      rcases q with q | ⟨-, q, hq, hx⟩
      · have := inI_lt q; omega
      · rw [List.mem_singleton.mp hq] at hx; cases hx) (rk_0 kv) (by omega) (by rw [a1.1, a0.1]; rfl) (by rw [a1.2, a0.2]; rfl)
  have a2 := n_app (sSet S n [] [gL g false, gR g] []) [(0, false, [0, g.2.2.getD 5 0])]
  have s4 := rr_addItem (S' := sRoot S n g) s3 (l := n + 1) (num := num) (x := g.2.2.getD 5 0) (fun l' y => by
    unfold sRoot
    rw [inI_app, inI_app, len]
    constructor
    · rintro (z | ⟨e, q, hq, z⟩)
      · exact Or.inl (Or.inl z)
      · rw [List.mem_singleton.mp hq] at z
        rcases List.mem_cons.mp z with z | z
        · exact Or.inl (Or.inr ⟨e, _, List.mem_singleton.mpr rfl, by rw [z]; exact List.mem_cons_self⟩)
        · exact Or.inr ⟨e, List.mem_singleton.mp z⟩
    · rintro ((z | ⟨e, q, hq, z⟩) | ⟨e, z⟩)
      · exact Or.inl z
      · rw [List.mem_singleton.mp hq] at z
        exact Or.inr ⟨e, _, List.mem_singleton.mpr rfl, by rw [List.mem_singleton.mp z]; exact List.mem_cons_self⟩
      · exact Or.inr ⟨e, _, List.mem_singleton.mpr rfl, by rw [z]; exact List.mem_cons_of_mem _ List.mem_cons_self⟩) (fun l' k o => by unfold sRoot; rw [inLw_app, inLw_app]; simp) (fun q => by
      rw [inI_app, len] at q
      rcases q with q | ⟨-, q, hq, hx⟩
      · have := inI_lt q; omega
      · rw [List.mem_singleton.mp hq] at hx
        have := List.mem_singleton.mp hx
        omega) hx hn (by unfold sRoot; rw [a2.1, a1.1]; rfl) (by unfold sRoot; rw [a2.2, a1.2]; rfl)
  exact s4
theorem filt_len {l : List Nat} (h : l.Pairwise (· < ·)) {v : Nat} (hv : v ∈ l) : (l.filter (fun x => decide (x ≠ v))).length + 1 = l.length := by
  induction l with
  | nil => cases hv
  | cons a t ih =>
    have h' := List.pairwise_cons.mp h
    by_cases e : a = v
    · subst e
      have : (t.filter (fun x => decide (x ≠ a))) = t := List.filter_eq_self.mpr (fun x hx => by have := h'.1 x hx; simp; omega)
      rw [List.filter_cons_of_neg (by simp), this]
      rfl
    · rw [List.filter_cons_of_pos (by simp [e])]
      have := ih h'.2 ((List.mem_cons.mp hv).resolve_left (Ne.symm e))
      simp only [List.length_cons]
      omega
theorem rr_del (h : RR S kv it il lw ll ow ks ni nl) (hT : trK S) (hl : S[0]? = some (c1 ++ g :: c2)) {v i0 p0 : Nat} (hC : InC (c1 ++ g :: c2) v c1 g c2) (hv : v ∈ g.2.2) (hi0 : i0 < ni) (hi1 : il i0 = 0) (hi2 : rk kv (it i0) = v) (hp0 : p0 < nl) (h1 : ll p0 = 0) (h2 : rk kv (lw p0) = g.1) : RR (sSet S 0 c1 [(g.1, false, g.2.2.filter (fun x => decide (x ≠ v)))] c2) kv (fu it i0 (it (ni - 1))) (fu il i0 (il (ni - 1))) lw ll (fun q => if q = p0 then false else ow q) ks (ni - 1) nl := by
  have hk := hT.1 0 _ hl
  have w := List.pairwise_append.mp hk.2.1
  have h0 := rr_ow0 h hT hl hp0 h1 h2 false
  have hl0 : (sSet S 0 c1 [(g.1, false, g.2.2)] c2)[0]? = some (c1 ++ (g.1, false, g.2.2) :: c2) := ss_at hl
  have eS : sSet S 0 c1 [(g.1, false, g.2.2.filter (fun x => decide (x ≠ v)))] c2 = sSet (sSet S 0 c1 [(g.1, false, g.2.2)] c2) 0 c1 [(g.1, false, g.2.2.filter (fun x => decide (x ≠ v)))] c2 := (ss_ss c1 c2 _ _ S 0).symm
  rw [eS]
  have hf := filt_len (hk.2.2 g (List.mem_append_right _ List.mem_cons_self)).1 hv
  refine rr_remove h0 (l := 0) (x := v) (ss_Idel hl0 (fun x => ?_) (fun q hq hx => ?_) (fun q hq hx => ?_)) (fun l' k o => ?_) hi0 hi1 hi2 ?_ ?_
  · constructor
    · rintro ⟨q, hq, hx⟩
      rw [List.mem_singleton.mp hq] at hx
      have := List.mem_filter.mp hx
      exact ⟨this.1, by simpa using this.2⟩
    · exact fun z => ⟨_, List.mem_singleton.mpr rfl, List.mem_filter.mpr ⟨z.1, by simpa using z.2⟩⟩
  · have := (w.2.2 q hq g List.mem_cons_self).2 v hx
    have := hC.2.1
    omega
  · have := hC.2.2.2 q hq
    have := (hk.2.2 q (List.mem_append_right _ (List.mem_cons_of_mem _ hq))).2.1 v hx
    omega
  · rw [ss_ss, ow_L hk hl, ow_L hk hl]
  · have := ss_nIt (gs := [(g.1, false, g.2.2.filter (fun x => decide (x ≠ v)))]) hl0
    have e : nC [(g.1, false, g.2.2.filter (fun x => decide (x ≠ v)))] = (g.2.2.filter (fun x => decide (x ≠ v))).length := by simp [nC]
    have e2 : ((g.1, false, g.2.2) : Pg).2.2.length = g.2.2.length := rfl
    omega
  · have := ss_nPg (gs := [(g.1, false, g.2.2.filter (fun x => decide (x ≠ v)))]) hl0
    simp only [List.length_cons, List.length_nil] at this
    omega
def S0 : Tr := [[(0, false, [])]]
theorem trK_0 : trK S0 := by
  have one : ∀ (l : Nat) c, S0[l]? = some c → l = 0 ∧ c = [(0, false, [])] := fun l c h => by
    have hlt := (List.getElem?_eq_some_iff.mp h).1
    have : l = 0 := by simp [S0] at hlt; omega
    subst this
    exact ⟨rfl, (Option.some.inj h).symm⟩
  have no : ∀ l x, ¬ inI S0 l x := by
    rintro l x ⟨c, q, hc, hq, hx⟩
    rw [(one l c hc).2] at hq
    rw [List.mem_singleton.mp hq] at hx
    cases hx
  refine ⟨fun l c h => ?_, ⟨0, _, rfl, rfl, rfl⟩, fun l c h hlt => ?_, fun l c q h hq => ?_, fun l x h => absurd h (no _ _), fun x h => absurd h (no _ _)⟩
  · rw [(one l c h).2]
    refine ⟨⟨_, [], rfl, rfl⟩, List.pairwise_singleton _ _, fun p hp => ?_⟩
    rw [List.mem_singleton.mp hp]
    exact ⟨List.Pairwise.nil, fun x hx => (by cases hx), by decide⟩
  · simp [S0] at hlt
  · have := (one _ c h).1
    omega
theorem rr_0 (hks : 1 ≤ ks) (hw : lw 0 = 0) (hlv : ll 0 = 0) (how : ow 0 = false) : RR S0 kv it il lw ll ow ks 0 1 := by
  have one : ∀ (l : Nat) c, S0[l]? = some c → l = 0 ∧ c = [(0, false, [])] := fun l c h => by
    have hlt := (List.getElem?_eq_some_iff.mp h).1
    have : l = 0 := by simp [S0] at hlt; omega
    subst this
    exact ⟨rfl, (Option.some.inj h).symm⟩
  refine ⟨fun i hi => absurd hi (by omega), ?_, fun i j hi => absurd hi (by omega), fun p hp => ?_, fun l c q h hq => ?_, fun p q hp hq _ _ => by omega, rfl, rfl, hks⟩
  · rintro l x ⟨c, q, hc, hq, hx⟩
    rw [(one l c hc).2] at hq
    rw [List.mem_singleton.mp hq] at hx
    cases hx
  · have : p = 0 := by omega
    subst this
    rw [hw, hlv, how]
    exact ⟨⟨_, _, rfl, List.mem_singleton.mpr rfl, rfl, rfl⟩, by omega⟩
  · obtain ⟨e1, e2⟩ := one l c h
    subst e1
    rw [e2] at hq
    rw [List.mem_singleton.mp hq]
    exact ⟨0, by omega, hlv, by rw [hw]; rfl⟩
end SP
end
section
/-! the reference with its tree: enter, split, perform -/
def MS (h : xH) (m : Nat) (S : Tr) (q : qW) (kv : Nat → xE) (cm : Nat → Nat) (ks tk : Nat) (sd : Int32) (ck : Nat) (cb : Bool) (hn : Nat) : Prop :=
  ∃ (it il lw ll : Nat → Nat) (ow : Nat → Bool) (ni nl : Nat), x_mm h m (kv, it, il, lw, ll, ow, cm) (ks, ni, nl, S.length, tk, q.1, q.2.1, q.2.2, sd, ck, cb, hn) ∧ RR S kv it il lw ll ow ks ni nl
theorem lvl_at {S : Tr} {l : Nat} {c : List Pg} (h : S[l]? = some c) : lvl S l = c := by simp [lvl, List.getD_eq_getElem?_getD, h]
section MP
variable {kv : Nat → xE} {cm : Nat → Nat} {ks tk : Nat} {sd : Int32} {ck : Nat} {cb : Bool} {hn : Nat} {q : qW} {S : Tr} {h : xH}
theorem con_enterS (d m l num v : Nat) {c1 c2 : List Pg} {g : Pg} (hM : MS h m S q kv cm ks tk sd ck cb hn) (hT : trK S) (h60 : nPg S ≤ 60) (hks : ks ≤ 513) (hl : S[l]? = some (c1 ++ g :: c2)) (hC : InC (c1 ++ g :: c2) v c1 g c2) (hg : g.2.2.length < 10) (hv : v ∉ g.2.2) (hx : rk kv num = v) (hn' : num < ks) :
    x_Con mX3_enter (d + 3) 0 0 [.ref m, .int (nI l), .int (nI num)] h (fun rv h' => x_mf m h h' ∧ rv = [.int (bI (sEnt l v S q).1)] ∧ MS h' m (sEnt l v S q).2.1 (sEnt l v S q).2.2 kv cm ks tk sd ck cb hn) := by
  obtain ⟨it, il, lw, ll, ow, ni, nl, hm, hR⟩ := hM
  obtain ⟨hB, h30⟩ := hR.mB hT h60 hks
  obtain ⟨p0, hI, hp2, hpo⟩ := rr_isC hR hT (num := num) hl (by rw [hx]; exact hC)
  have hlt := (List.getElem?_eq_some_iff.mp hl).1
  have hnlt := nIt_lt hT hl rfl hg
  have hni := hR.2.2.2.2.2.2.1
  obtain ⟨w1, hw1⟩ : ∃ w : Bool × qW, w = (if g.2.1 then sW 1 q else (true, q)) := ⟨_, rfl⟩
  have hz : zp v (lvl S l) = (c1, g, c2) := by rw [lvl_at hl]; exact hC.zp
  have hE : sEnt l v S q = if w1.1 then (if (sW 11 w1.2).1 then (true, sSet S l c1 [(g.1, false, insK v g.2.2)] c2, (sW 11 w1.2).2) else (false, sSet S l c1 [(g.1, false, g.2.2)] c2, (sW 11 w1.2).2)) else (false, S, w1.2) := by
    unfold sEnt
    simp only [hz, ← hw1]
  rw [hE]
  refine (con_enter d h m l num p0 hm hB (by omega) (by omega) (by omega) hI w1 (sW 11 w1.2) (by rw [hpo]; exact hw1) rfl).mono (fun rv h' ⟨hf, hq⟩ => ⟨hf, ?_⟩)
  by_cases e1 : w1.1 = true
  · rw [if_pos e1] at hq ⊢
    by_cases e2 : (sW 11 w1.2).1 = true
    · rw [if_pos e2] at hq ⊢
      refine ⟨hq.1, _, _, _, _, _, _, _, ?_, rr_enter hR hT hl hC hv hx hn' hI.1 hI.2.1 hp2⟩
      rw [ss_len]
      exact hq.2
    · rw [if_neg e2] at hq ⊢
      refine ⟨hq.1, _, _, _, _, _, _, _, ?_, rr_ow0 hR hT hl hI.1 hI.2.1 hp2 false⟩
      rw [ss_len]
      exact hq.2
  · rw [if_neg e1] at hq ⊢
    exact ⟨hq.1, _, _, _, _, _, _, _, hq.2, hR⟩
theorem con_splitNS (d m l page num : Nat) {c1 c2 : List Pg} {g : Pg} (hM : MS h m S q kv cm ks tk sd ck cb hn) (hT : trK S) (h60 : nPg S < 60) (hks : ks ≤ 513) (hl : S[l]? = some (c1 ++ g :: c2)) (hg : g.2.2.length = 10) (hnt : l + 1 < S.length) (hx : rk kv num = g.2.2.getD 5 0) (hn' : num < ks)
    (hpg : ∀ it il lw ll ow ni nl, x_mm h m (kv, it, il, lw, ll, ow, cm) (ks, ni, nl, S.length, tk, q.1, q.2.1, q.2.2, sd, ck, cb, hn) → RR S kv it il lw ll ow ks ni nl → page < nl ∧ ll page = l ∧ rk kv (lw page) = g.1) :
    x_Con mX3_split (d + 1) 0 0 [.ref m, .int (nI l), .int (nI page), .int (nI num)] h (fun rv h' => x_mf m h h' ∧ (if (sW 63 q).1 then (if (sW 1 (sW 63 q).2).1 then rv = [.int 1] ∧ MS h' m (sSet S l c1 [gL g g.2.1, gR g] c2) (sW 1 (sW 63 q).2).2 kv cm ks tk sd ck cb hn else rv = [.int 0] ∧ MS h' m (sSet S l c1 [gL g true, gR g] c2) (sW 1 (sW 63 q).2).2 kv cm ks tk sd ck cb hn) else rv = [.int 0] ∧ MS h' m S (sW 63 q).2 kv cm ks tk sd ck cb hn)) := by
  obtain ⟨it, il, lw, ll, ow, ni, nl, hm, hR⟩ := hM
  obtain ⟨hB, h30⟩ := hR.mB hT (by omega) hks
  obtain ⟨p1, p2, p3⟩ := hpg _ _ _ _ _ _ _ hm hR
  have hnl := hR.2.2.2.2.2.2.2.1
  refine (con_splitN d h m l page num hm hnt (by omega) (by omega) (by omega) _ _ rfl rfl).mono (fun rv h' ⟨hf, hq⟩ => ⟨hf, ?_⟩)
  split at hq
  · rename_i e1
    have hs := rr_split hR hT hl hg hx hn'
    split at hq
    · rename_i e2
      refine ifp e1 (ifp e2 ⟨hq.1, _, _, _, _, _, _, _, ?_, hs⟩)
      rw [ss_len]
      exact hq.2
    · rename_i e2
      refine ifp e1 (ifn (by simpa using e2) ⟨hq.1, _, _, _, _, _, _, _, ?_, rr_owe1 hT hl hg (p0 := page) (by omega) ?_ ?_ hs⟩)
      · rw [ss_len]
        exact hq.2
      · rw [fu_n (by omega)]; exact p2
      · rw [fu_n (by omega)]; exact p3
  · rename_i e1
    exact ifn (by simpa using e1) ⟨hq.1, _, _, _, _, _, _, _, hq.2, hR⟩
theorem con_splitTS (d m l page num : Nat) {g : Pg} (hM : MS h m S q kv cm ks tk sd ck cb hn) (hT : trK S) (h60 : nPg S + 2 ≤ 60) (hks : ks ≤ 513) (hl : S[l]? = some [g]) (hg : g.2.2.length = 10) (htop : l + 1 = S.length) (hx : rk kv num = g.2.2.getD 5 0) (hn' : num < ks) :
    x_Con mX3_split (d + 1) 0 0 [.ref m, .int (nI l), .int (nI page), .int (nI num)] h (fun rv h' => x_mf m h h' ∧ (if (sW 145 q).1 then rv = [.int 1] ∧ MS h' m (sRoot S l g) (sW 145 q).2 kv cm ks tk sd ck cb hn else rv = [.int 0] ∧ MS h' m S (sW 145 q).2 kv cm ks tk sd ck cb hn)) := by
  obtain ⟨it, il, lw, ll, ow, ni, nl, hm, hR⟩ := hM
  obtain ⟨hB, h30⟩ := hR.mB hT (by omega) hks
  have hnl := hR.2.2.2.2.2.2.2.1
  have hni := hR.2.2.2.2.2.2.1
  have h10 := nIt_le S hT.ten
  refine (con_splitT d h m l page num hm htop.symm (by omega) (by omega) (by omega)).mono (fun rv h' ⟨hf, hq⟩ => ⟨hf, ?_⟩)
  split at hq
  · rename_i e1
    refine ifp e1 ⟨hq.1, _, _, _, _, _, _, _, ?_, rr_root hR hT hl htop hg hx hn'⟩
    have : (sRoot S l g).length = S.length + 1 := by simp [sRoot, ss_len]
    rw [this]
    exact hq.2
  · rename_i e1
    exact ifn (by simpa using e1) ⟨hq.1, _, _, _, _, _, _, _, hq.2, hR⟩
end MP
end
section
/-! what adding keeps of the tree -/
def pth (S : Tr) (w : Nat → Nat) (l top : Nat) (rs : Bool) : Prop := top < S.length ∧ ∀ j, l ≤ j → j ≤ top → ∃ c1 g c2, S[j]? = some (c1 ++ g :: c2) ∧ InC (c1 ++ g :: c2) (w j) c1 g c2 ∧ w j ∉ g.2.2 ∧ 0 < w j ∧ (j < top → g.2.2.length = 10 ∧ w (j + 1) = g.2.2.getD 5 0) ∧ (j = top → if rs then g.2.2.length = 10 ∧ top + 1 = S.length else g.2.2.length < 10)
theorem pth.up {S S' : Tr} {w : Nat → Nat} {l top : Nat} {rs : Bool} (h : pth S w l top rs) (h1 : S'.length = S.length) (h2 : ∀ j, l < j → S'[j]? = S[j]?) : pth S' w (l + 1) top rs := by
  refine ⟨by rw [h1]; exact h.1, fun j hj ht => ?_⟩
  obtain ⟨c1, g, c2, a1, a2, a3, a4, a5, a6⟩ := h.2 j (by omega) ht
  exact ⟨c1, g, c2, by rw [h2 j (by omega)]; exact a1, a2, a3, a4, a5, by rw [h1]; exact a6⟩
section SQ
variable {S : Tr} {l : Nat} {c1 c2 : List Pg} {g : Pg} {v : Nat} {q : qW}
theorem sEnt_eq (hl : S[l]? = some (c1 ++ g :: c2)) (hC : InC (c1 ++ g :: c2) v c1 g c2) : (sEnt l v S q).2.1 = S ∨ (sEnt l v S q).2.1 = sSet S l c1 [(g.1, false, g.2.2)] c2 ∨ (sEnt l v S q).2.1 = sSet S l c1 [(g.1, false, insK v g.2.2)] c2 := by
  have hz : zp v (lvl S l) = (c1, g, c2) := by rw [lvl_at hl]; exact hC.zp
  unfold sEnt
  simp only [hz]
  by_cases e1 : ((if g.2.1 then sW 1 q else (true, q)) : Bool × qW).1 = true
  · rw [if_pos e1]
    by_cases e2 : (sW 11 ((if g.2.1 then sW 1 q else (true, q)) : Bool × qW).2).1 = true
    · rw [if_pos e2]; exact Or.inr (Or.inr rfl)
    · rw [if_neg e2]; exact Or.inr (Or.inl rfl)
  · rw [if_neg e1]; exact Or.inl rfl
theorem sEnt_ok (hT : trK S) (hl : S[l]? = some (c1 ++ g :: c2)) (hC : InC (c1 ++ g :: c2) v c1 g c2) (hg : g.2.2.length < 10) (hv : v ∉ g.2.2) (h0 : 0 < v) (hm : 0 < l → ∃ c q, S[l - 1]? = some c ∧ q ∈ c ∧ q.1 = v) : trK (sEnt l v S q).2.1 ∧ (∀ j, j ≠ l → (sEnt l v S q).2.1[j]? = S[j]?) ∧ (sEnt l v S q).2.1.length = S.length ∧ nPg (sEnt l v S q).2.1 = nPg S := by
  rcases sEnt_eq (q := q) hl hC with e | e | e
  · rw [e]; exact ⟨hT, fun _ _ => rfl, rfl, rfl⟩
  · rw [e]
    refine ⟨trK_ow false hT hl (fun _ => rfl), fun j hj => ss_ne hj, ss_len, ?_⟩
    have := ss_nPg (gs := [(g.1, false, g.2.2)]) hl
    simp only [List.length_cons, List.length_nil] at this
    omega
  · rw [e]
    refine ⟨trK_enter hT hl hC hg hv hm h0, fun j hj => ss_ne hj, ss_len, ?_⟩
    have := ss_nPg (gs := [(g.1, false, insK v g.2.2)]) hl
    simp only [List.length_cons, List.length_nil] at this
    omega
theorem sPut_eq (f : Nat) (hl : S[l]? = some (c1 ++ g :: c2)) (hC : InC (c1 ++ g :: c2) v c1 g c2) : sPut (f + 1) l v S q = (fun r : Bool × Tr × qW => if r.1 then sEnt l v r.2.1 r.2.2 else r) (if g.2.2.length < 10 then (true, S, q)
      else if l + 1 = S.length then (if (sW 145 q).1 then (true, sRoot S l g, (sW 145 q).2) else (false, S, (sW 145 q).2))
      else if (sW 63 q).1 then (if (sW 1 (sW 63 q).2).1 then sPut f (l + 1) (g.2.2.getD 5 0) (sSet S l c1 [gL g g.2.1, gR g] c2) (sW 1 (sW 63 q).2).2 else (false, sSet S l c1 [gL g true, gR g] c2, (sW 1 (sW 63 q).2).2))
      else (false, S, (sW 63 q).2)) := by
  have hz : zp v (lvl S l) = (c1, g, c2) := by rw [lvl_at hl]; exact hC.zp
  conv => lhs; unfold sPut
  simp only [hz]
/-- behind a split: where the key comes, five are, not the key -/
theorem half_C (hk : lvK (c1 ++ g :: c2)) (hC : InC (c1 ++ g :: c2) v c1 g c2) (hg : g.2.2.length = 10) (hv : v ∉ g.2.2) (o : Bool) : ∃ d1 g' d2, c1 ++ ([gL g o, gR g] ++ c2) = d1 ++ g' :: d2 ∧ InC (d1 ++ g' :: d2) v d1 g' d2 ∧ g'.2.2.length = 5 ∧ v ∉ g'.2.2 := by
  obtain ⟨x, hx1, hx2, hx3, hx4⟩ := full5 hg
  have hlt := (lvK_split o hk hg).2
  by_cases hvx : v < g.2.2.getD 5 0
  · refine ⟨c1, gL g o, gR g :: c2, rfl, ⟨rfl, hC.2.1, hC.2.2.1, fun q hq => ?_⟩, by show (g.2.2.take 5).length = 5; rw [List.length_take]; omega, fun h => hv (List.mem_of_mem_take h)⟩
    rcases List.mem_cons.mp hq with rfl | hq
    · exact hvx
    · exact hC.2.2.2 q hq
  · refine ⟨c1 ++ [gL g o], gR g, c2, by simp, ⟨rfl, by show g.2.2.getD 5 0 ≤ v; omega, fun q hq => ?_, hC.2.2.2⟩, by show (g.2.2.drop 5).length = 5; rw [List.length_drop]; omega, fun h => hv (List.mem_of_mem_drop h)⟩
    show q.1 < g.2.2.getD 5 0
    rcases List.mem_append.mp hq with z | z
    · have := hC.2.2.1 q z
      omega
    · rw [List.mem_singleton.mp z]
      exact hlt
end SQ
theorem sPut_ok (top : Nat) (w : Nat → Nat) (rs : Bool) : ∀ (k l f : Nat) (S : Tr) (q : qW), l + k = top → k < f → trK S → pth S w l top rs → (0 < l → ∃ c q, S[l - 1]? = some c ∧ q ∈ c ∧ q.1 = w l) →
    trK (sPut f l (w l) S q).2.1 ∧ (∀ j, j < l → (sPut f l (w l) S q).2.1[j]? = S[j]?) ∧ nPg (sPut f l (w l) S q).2.1 ≤ nPg S + k + (if rs then 2 else 0) := by
  intro k
  induction k with
  | zero =>
    intro l f S q hlk hf hT hP hm
    obtain ⟨f, rfl⟩ : ∃ f', f = f' + 1 := ⟨f - 1, by omega⟩
    obtain ⟨c1, g, c2, a1, a2, a3, a4, a5, a6⟩ := hP.2 l (Nat.le_refl _) (by omega)
    have a7 := a6 (by omega)
    rw [sPut_eq f a1 a2]
    cases rs with
    | false =>
      have a8 : g.2.2.length < 10 := a7
      rw [if_pos a8]
      show trK (sEnt l (w l) S q).2.1 ∧ _
      obtain ⟨e1, e2, e3, e4⟩ := sEnt_ok (q := q) hT a1 a2 a8 a3 a4 hm
      exact ⟨e1, fun j hj => e2 j (by omega), by show nPg (sEnt l (w l) S q).2.1 ≤ _; omega⟩
    | true =>
      have a8 : g.2.2.length = 10 ∧ top + 1 = S.length := a7
      have htop : l + 1 = S.length := by omega
      rw [if_neg (by omega), if_pos htop]
      obtain ⟨n, g0, t2, t3, t30⟩ := hT.2.1
      have : n = l := by omega
      subst this
      rw [a1] at t3
      have hc1 : c1 = [] := by
        cases c1 with
        | nil => rfl
        | cons b c1 => simp at t3
      subst hc1
      have hc2 : c2 = [] := by simp at t3; exact t3.2
      subst hc2
      by_cases e : (sW 145 q).1 = true
      · rw [if_pos e]
        show trK (sEnt n (w n) (sRoot S n g) (sW 145 q).2).2.1 ∧ (∀ j, j < n → (sEnt n (w n) (sRoot S n g) (sW 145 q).2).2.1[j]? = S[j]?) ∧ nPg (sEnt n (w n) (sRoot S n g) (sW 145 q).2).2.1 ≤ _
        have hTr := trK_root hT a1 htop a8.1
        obtain ⟨d1, g', d2, e1, e2, e3, e4⟩ := half_C (hT.1 n _ a1) a2 a8.1 a3 false
        have hat : (sRoot S n g)[n]? = some (d1 ++ g' :: d2) := by
          unfold sRoot
          rw [List.getElem?_append_left (by rw [ss_len]; omega), ss_at a1, e1]
        have low : ∀ j, j < n → (sRoot S n g)[j]? = S[j]? := fun j hj => by
          unfold sRoot
          rw [List.getElem?_append_left (by rw [ss_len]; omega), ss_ne (by omega)]
        obtain ⟨f1, f2, f3, f4⟩ := sEnt_ok (q := (sW 145 q).2) hTr hat e2 (by omega) e4 a4 (fun h0 => by rw [low _ (by omega)]; exact hm h0)
        refine ⟨f1, fun j hj => (f2 j (by omega)).trans (low j hj), ?_⟩
        rw [f4]
        have h1 := ss_nPg (gs := [gL g false, gR g]) a1
        have h2 := (n_app (sSet S n [] [gL g false, gR g] []) [(0, false, [0, g.2.2.getD 5 0])]).2
        simp only [List.length_cons, List.length_nil] at h1 h2
        unfold sRoot
        rw [if_pos rfl]
        omega
      · rw [if_neg e]
        exact ⟨hT, fun _ _ => rfl, by show nPg S ≤ _; omega⟩
  | succ k ih =>
    intro l f S q hlk hf hT hP hm
    obtain ⟨f, rfl⟩ : ∃ f', f = f' + 1 := ⟨f - 1, by omega⟩
    obtain ⟨c1, g, c2, a1, a2, a3, a4, a5, a6⟩ := hP.2 l (Nat.le_refl _) (by omega)
    obtain ⟨b1, b2⟩ := a5 (by omega)
    have htS := hP.1
    rw [sPut_eq f a1 a2, if_neg (by omega), if_neg (by omega)]
    by_cases e : (sW 63 q).1 = true
    · rw [if_pos e]
      by_cases e' : (sW 1 (sW 63 q).2).1 = true
      · rw [if_pos e', ← b2]
        have hTs := trK_split g.2.1 hT a1 b1 (by omega)
        have np := ss_nPg (gs := [gL g g.2.1, gR g]) a1
        simp only [List.length_cons, List.length_nil] at np
        obtain ⟨i1, i2, i3⟩ := ih (l + 1) f (sSet S l c1 [gL g g.2.1, gR g] c2) (sW 1 (sW 63 q).2).2 (by omega) (by omega) hTs (hP.up ss_len (fun j hj => ss_ne (by omega))) (fun _ => ⟨_, gR g, by rw [Nat.add_sub_cancel]; exact ss_at a1, List.mem_append_right _ (List.mem_cons_of_mem _ List.mem_cons_self), b2.symm⟩)
        obtain ⟨d1, g', d2, e1, e2, e3, e4⟩ := half_C (hT.1 l _ a1) a2 b1 a3 g.2.1
        generalize hr : sPut f (l + 1) (w (l + 1)) (sSet S l c1 [gL g g.2.1, gR g] c2) (sW 1 (sW 63 q).2).2 = r at i1 i2 i3 ⊢
        have hat : r.2.1[l]? = some (d1 ++ g' :: d2) := by rw [i2 l (by omega), ss_at a1, e1]
        by_cases er : r.1 = true
        · show trK (if r.1 then sEnt l (w l) r.2.1 r.2.2 else r).2.1 ∧ (∀ j, j < l → (if r.1 then sEnt l (w l) r.2.1 r.2.2 else r).2.1[j]? = S[j]?) ∧ nPg (if r.1 then sEnt l (w l) r.2.1 r.2.2 else r).2.1 ≤ _
          rw [if_pos er]
          obtain ⟨f1, f2, f3, f4⟩ := sEnt_ok (q := r.2.2) i1 hat e2 (by omega) e4 a4 (fun h0 => by rw [i2 _ (by omega), ss_ne (by omega)]; exact hm h0)
          exact ⟨f1, fun j hj => by rw [f2 j (by omega), i2 j (by omega), ss_ne (by omega)], by rw [f4]; omega⟩
        · show trK (if r.1 then sEnt l (w l) r.2.1 r.2.2 else r).2.1 ∧ (∀ j, j < l → (if r.1 then sEnt l (w l) r.2.1 r.2.2 else r).2.1[j]? = S[j]?) ∧ nPg (if r.1 then sEnt l (w l) r.2.1 r.2.2 else r).2.1 ≤ _
          rw [if_neg er]
          exact ⟨i1, fun j hj => by rw [i2 j (by omega), ss_ne (by omega)], by omega⟩
      · rw [if_neg e']
        have np := ss_nPg (gs := [gL g true, gR g]) a1
        simp only [List.length_cons, List.length_nil] at np
        exact ⟨trK_split true hT a1 b1 (by omega), fun j hj => ss_ne (by omega), by show nPg (sSet S l c1 [gL g true, gR g] c2) ≤ _; omega⟩
    · rw [if_neg e]
      exact ⟨hT, fun _ _ => rfl, by show nPg S ≤ _; omega⟩
end
section
/-! the reference: plan, perform, add -/
section MA
variable {kv : Nat → xE} {it il lw ll : Nat → Nat} {ow : Nat → Bool} {cm : Nat → Nat} {ks ni nl tk : Nat} {sd : Int32} {ck : Nat} {cb : Bool} {hn : Nat} {q : qW} {S : Tr} {h : xH}
theorem con_filledS (d m l p0 : Nat) {s : xS} {c1 c2 : List Pg} {g : Pg} (hs : ∃ lv tk se lf ub, s = (ks, ni, nl, lv, tk, se, lf, ub, sd, ck, cb, hn)) (hm : x_mm h m (kv, it, il, lw, ll, ow, cm) s) (hR : RR S kv it il lw ll ow ks ni nl) (hT : trK S) (h60 : nPg S ≤ 60) (hks : ks ≤ 513) (hl : S[l]? = some (c1 ++ g :: c2)) (hp0 : p0 < nl) (hp1 : ll p0 = l) (hp2 : rk kv (lw p0) = g.1) : x_D mX3_filled (d + 3) 0 0 [.ref m, .int (nI p0)] h [.int (nI g.2.2.length)] h := by
  obtain ⟨lv, tk, se, lf, ub, rfl⟩ := hs
  obtain ⟨hB, h30⟩ := hR.mB hT h60 hks
  obtain ⟨ic, hic⟩ := rr_ic hR hT
  have k := con_filled d h m p0 ic hm hB hp0 (fun i hi e => by have := hic i hi; rw [e] at this; exact this)
  rw [hp1, rr_filled hR hT hic hl rfl hp0 hp1 hp2] at k
  exact k
theorem con_sixthS (d m l p0 x : Nat) {s : xS} {c1 c2 : List Pg} {g : Pg} (hs : ∃ lv tk se lf ub, s = (ks, ni, nl, lv, tk, se, lf, ub, sd, ck, cb, hn)) (hm : x_mm h m (kv, it, il, lw, ll, ow, cm) s) (hR : RR S kv it il lw ll ow ks ni nl) (hT : trK S) (h60 : nPg S ≤ 60) (hks : ks ≤ 513) (hl : S[l]? = some (c1 ++ g :: c2)) (hp0 : p0 < nl) (hp1 : ll p0 = l) (hp2 : rk kv (lw p0) = g.1) (hx : g.2.2[5]? = some x) : ∃ num, num < ks ∧ rk kv num = x ∧ x_D mX3_sixth (d + 3) 0 0 [.ref m, .int (nI p0)] h [.int (nI num)] h := by
  obtain ⟨lv, tk, se, lf, ub, rfl⟩ := hs
  obtain ⟨hB, h30⟩ := hR.mB hT h60 hks
  obtain ⟨ic, hic⟩ := rr_ic hR hT
  obtain ⟨i0, i1, i2, i3, i4, i5⟩ := rr_sixth hR hT hic hl rfl hp0 hp1 hp2 hx
  refine ⟨it i0, (hR.1 i0 i1).2, i2, con_sixth d h m p0 i0 ic hm hB hp0 (fun i hi e => by have := hic i hi; rw [e] at this; exact this) i1 ?_ ?_ ?_⟩
  · rw [hp1]; exact i3
  · rw [hp1]; exact i4
  · rw [hp1]; exact i5
end MA
section MA2
variable {kv : Nat → xE} {ks tk : Nat} {sd : Int32} {ck : Nat} {cb : Bool} {hn : Nat} {q : qW} {S : Tr}
theorem plan_lo (d m num top : Nat) (w : Nat → Nat) (rs : Bool) (h0 : xH) (hT : trK S) (h60 : nPg S ≤ 60) (hks : ks < 513) (hP : pth S w 0 top rs) :
    ∀ (k j : Nat) (x : Int32) (h : xH) (cm : Nat → Nat), x = nI j → j + k = top → x_mf m h0 h → MS h m S q kv cm ks tk sd ck cb hn → (∀ i, i ≤ j → rk kv (cm i) = w i ∧ cm i ≤ ks) →
    x_E mX3_plan (d + 4) 0 0 11 [(3, .int x), (2, .int x), (0, .ref m), (1, .int (nI num))] [] h (fun rv h' => rv = [.int (nI top)] ∧ x_mf m h0 h' ∧ ∃ cm', MS h' m S q kv cm' ks tk sd ck cb hn ∧ ∀ i, i ≤ top → rk kv (cm' i) = w i ∧ cm' i ≤ ks) := by
  intro k
  induction k with
  | zero =>
    intro j x h cm hx hj hf hM hc
    have ej : j = top := by omega
    subst ej
    obtain ⟨c1, g, c2, a1, a2, a3, a4, a5, a6⟩ := hP.2 j (by omega) (Nat.le_refl _)
    have a7 := a6 rfl
    have hM' := hM
    obtain ⟨it, il, lw, ll, ow, ni, nl, hm, hR⟩ := hM
    obtain ⟨hB, h30⟩ := hR.mB hT h60 (by omega)
    have hP1 := hP.1
    obtain ⟨e1, e2⟩ := hc j (Nat.le_refl _)
    obtain ⟨p0, hI, hp2, hpo⟩ := rr_isC hR hT (num := cm j) a1 (by rw [e1]; exact a2)
    have m0 := hm.1
    have m11 := hm.2.2.2.2.2.2.2.2.2.2.2
    refine e_iload_n dX3_plan_11 rfl ?_
    refine e_bipush (v := 31) dX3_plan_12 (by decide) ?_
    refine e_icmp_ge (tgt := 76) dX3_plan_14 (by decide) (fun c => absurd c (by rw [hx]; exact nI_ge (b := 31) (by omega) (by decide))) (fun _ => ?_)
    subst hx
    refine e_aload_n dX3_plan_17 rfl ?_
    refine e_iload_n dX3_plan_18 rfl ?_
    refine e_aload_n dX3_plan_19 rfl ?_
    refine e_get dX3_plan_20 fX3_46 m0 rfl ?_
    refine e_iload_n dX3_plan_23 rfl ?_
    refine e_iald dX3_plan_24 m11 rfl rfl (af_get _ (show j < 32 by omega)) ?_
    refine e_V2d dX3_plan_25 gX3_75 m0 rfl (by omega) (Nat.le_of_ble_eq_true rfl) rfl rfl (con_inCharge (d + 1) h m j (cm j) p0 hm hB (by omega) (by omega) hI) ?_
    refine e_istore dX3_plan_28 (by decide) rfl ?_
    refine e_aload_n dX3_plan_30 rfl ?_
    refine e_iload dX3_plan_31 rfl ?_
    refine e_V1d dX3_plan_33 gX3_84 m0 rfl (by omega) (Nat.le_of_ble_eq_true rfl) rfl rfl (con_filledS d m j p0 ⟨_, _, _, _, _, rfl⟩ hm hR hT h60 (by omega) a1 hI.1 hI.2.1 hp2) ?_
    refine e_bipush (v := 10) dX3_plan_36 (by decide) ?_
    have fin : x_E mX3_plan (d + 4) 0 0 51 [(2, .int (nI j))] [] h (fun rv h' => rv = [.int (nI j)] ∧ x_mf m h0 h' ∧ ∃ cm', MS h' m S q kv cm' ks tk sd ck cb hn ∧ ∀ i, i ≤ j → rk kv (cm' i) = w i ∧ cm' i ≤ ks) := by
      refine e_iload_n dX3_plan_51 rfl ?_
      exact e_iret dX3_plan_52 rfl rfl ⟨rfl, hf, cm, hM', hc⟩
    cases rs with
    | false =>
      have a8 : g.2.2.length < 10 := a7
      refine e_icmp_lt (tgt := 51) dX3_plan_38 (by decide) (fun _ => ?_) (fun c => absurd (nI_lt (b := 10) a8 (by decide)) c)
      exact e_loc [2] rfl fin
    | true =>
      have a8 : g.2.2.length = 10 ∧ j + 1 = S.length := a7
      refine e_icmp_lt (tgt := 51) dX3_plan_38 (by decide) (fun c => absurd c (by rw [a8.1]; decide)) (fun _ => ?_)
      refine e_iload_n dX3_plan_41 rfl ?_
      refine e_aload_n dX3_plan_42 rfl ?_
      refine e_get dX3_plan_43 fX3_88 m0 rfl ?_
      refine e_iconst (v := 1) dX3_plan_46 (by decide) ?_
      refine e_isub dX3_plan_47 ?_
      refine e_icmp_ne (tgt := 53) dX3_plan_48 (by decide) (fun c => absurd (by rw [← a8.2]; exact (nI_pred j).symm) c) (fun _ => ?_)
      exact e_loc [2] rfl fin
  | succ k ih =>
    intro j x h cm hx hj hf hM hc
    obtain ⟨c1, g, c2, a1, a2, a3, a4, a5, a6⟩ := hP.2 j (by omega) (by omega)
    obtain ⟨b1, b2⟩ := a5 (by omega)
    obtain ⟨it, il, lw, ll, ow, ni, nl, hm, hR⟩ := hM
    obtain ⟨hB, h30⟩ := hR.mB hT h60 (by omega)
    have hP1 := hP.1
    obtain ⟨e1, e2⟩ := hc j (Nat.le_refl _)
    obtain ⟨p0, hI, hp2, hpo⟩ := rr_isC hR hT (num := cm j) a1 (by rw [e1]; exact a2)
    obtain ⟨x5, hx1, hx2, hx3, hx4⟩ := full5 b1
    obtain ⟨num6, n1, n2, n3⟩ := con_sixthS (d := d) (h := h) (m := m) (l := j) (p0 := p0) (x := x5) ⟨_, _, _, _, _, rfl⟩ hm hR hT h60 (by omega) a1 hI.1 hI.2.1 hp2 hx1
    have m0 := hm.1
    have m11 := hm.2.2.2.2.2.2.2.2.2.2.2
    refine e_iload_n dX3_plan_11 rfl ?_
    refine e_bipush (v := 31) dX3_plan_12 (by decide) ?_
    refine e_icmp_ge (tgt := 76) dX3_plan_14 (by decide) (fun c => absurd c (by rw [hx]; exact nI_ge (b := 31) (by omega) (by decide))) (fun _ => ?_)
    subst hx
    refine e_aload_n dX3_plan_17 rfl ?_
    refine e_iload_n dX3_plan_18 rfl ?_
    refine e_aload_n dX3_plan_19 rfl ?_
    refine e_get dX3_plan_20 fX3_46 m0 rfl ?_
    refine e_iload_n dX3_plan_23 rfl ?_
    refine e_iald dX3_plan_24 m11 rfl rfl (af_get _ (show j < 32 by omega)) ?_
    refine e_V2d dX3_plan_25 gX3_75 m0 rfl (by omega) (Nat.le_of_ble_eq_true rfl) rfl rfl (con_inCharge (d + 1) h m j (cm j) p0 hm hB (by omega) (by omega) hI) ?_
    refine e_istore dX3_plan_28 (by decide) rfl ?_
    refine e_aload_n dX3_plan_30 rfl ?_
    refine e_iload dX3_plan_31 rfl ?_
    refine e_V1d dX3_plan_33 gX3_84 m0 rfl (by omega) (Nat.le_of_ble_eq_true rfl) rfl rfl (con_filledS d m j p0 ⟨_, _, _, _, _, rfl⟩ hm hR hT h60 (by omega) a1 hI.1 hI.2.1 hp2) ?_
    refine e_bipush (v := 10) dX3_plan_36 (by decide) ?_
    refine e_icmp_lt (tgt := 51) dX3_plan_38 (by decide) (fun c => absurd c (by rw [b1]; decide)) (fun _ => ?_)
    refine e_iload_n dX3_plan_41 rfl ?_
    refine e_aload_n dX3_plan_42 rfl ?_
    refine e_get dX3_plan_43 fX3_88 m0 rfl ?_
    refine e_iconst (v := 1) dX3_plan_46 (by decide) ?_
    refine e_isub dX3_plan_47 ?_
    obtain ⟨n', hn'⟩ : ∃ n', S.length = n' + 1 := ⟨S.length - 1, by omega⟩
    refine e_icmp_ne (tgt := 53) dX3_plan_48 (by decide) (fun _ => ?_) (fun c => ?_)
    · refine e_aload_n dX3_plan_53 rfl ?_
      refine e_get dX3_plan_54 fX3_46 m0 rfl ?_
      refine e_iload_n dX3_plan_57 rfl ?_
      refine e_iconst (v := 1) dX3_plan_58 (by decide) ?_
      refine e_iadd dX3_plan_59 ?_
      refine e_aload_n dX3_plan_60 rfl ?_
      refine e_iload dX3_plan_61 rfl ?_
      refine e_V1d dX3_plan_63 gX3_91 m0 rfl (by omega) (Nat.le_of_ble_eq_true rfl) rfl rfl (n3) ?_
      refine e_iastI dX3_plan_66 m11 (nI_1 j) (show j + 1 < 32 by omega) rfl ?_
      have hm2 := hm.cm (fu cm (j + 1) num6)
      refine e_iinc dX3_plan_67 rfl rfl (by decide) rfl ?_
      refine e_iinc dX3_plan_70 rfl rfl (by decide) rfl ?_
      refine e_goto (tgt := 11) dX3_plan_73 (by decide) ?_
      refine e_loc [3, 2, 0, 1] rfl (ih (j + 1) _ _ (fu cm (j + 1) num6) (nI_1 j) (by omega) (hf.up (by omega)) ⟨it, il, lw, ll, ow, ni, nl, hm2, hR⟩ (fun i hi => ?_))
      by_cases ei : i = j + 1
      · subst ei
        rw [fu_s]
        exact ⟨by rw [n2, b2, hx2], by omega⟩
      · rw [fu_n ei]
        exact hc i (by omega)
    · rw [hn', nI_pred] at c
      exact absurd ((nI_c (by omega) (by omega)).mp c) (by omega)
theorem con_plan (d m num top : Nat) (w : Nat → Nat) (rs : Bool) (h : xH) (cm : Nat → Nat) (hT : trK S) (h60 : nPg S ≤ 60) (hks : ks < 513) (hP : pth S w 0 top rs) (hM : MS h m S q kv cm ks tk sd ck cb hn) (hw : rk kv num = w 0) (hnum : num ≤ ks) : x_Con mX3_plan (d + 4) 0 0 [.ref m, .int (nI num)] h (fun rv h' => rv = [.int (nI top)] ∧ x_mf m h h' ∧ ∃ cm', MS h' m S q kv cm' ks tk sd ck cb hn ∧ ∀ i, i ≤ top → rk kv (cm' i) = w i ∧ cm' i ≤ ks) := by
  refine e_enter (by decide) (Nat.le_of_ble_eq_true rfl) ?_
  obtain ⟨it, il, lw, ll, ow, ni, nl, hm, hR⟩ := hM
  have m0 := hm.1
  have m11 := hm.2.2.2.2.2.2.2.2.2.2.2
  refine e_aload_n dX3_plan_0 rfl ?_
  refine e_get dX3_plan_1 fX3_46 m0 rfl ?_
  refine e_iconst (v := 0) dX3_plan_4 (by decide) ?_
  refine e_iload_n dX3_plan_5 rfl ?_
  refine e_iastI dX3_plan_6 m11 (j := 0) rfl (by omega) rfl ?_
  have hm2 := hm.cm (fu cm 0 num)
  refine e_iconst (v := 0) dX3_plan_7 (by decide) ?_
  refine e_istore_n dX3_plan_8 (by decide) rfl ?_
  refine e_iconst (v := 0) dX3_plan_9 (by decide) ?_
  refine e_istore_n dX3_plan_10 (by decide) rfl ?_
  refine e_loc [3, 2, 0, 1] rfl (plan_lo d m num top w rs h hT h60 hks hP top 0 0 _ (fu cm 0 num) rfl (by omega) (x_mf.rf.up (by omega)) ⟨it, il, lw, ll, ow, ni, nl, hm2, hR⟩ (fun i hi => ?_))
  have : i = 0 := by omega
  subst this
  rw [fu_s]
  exact ⟨hw, hnum⟩
end MA2
end
section
/-! the reference: perform -/
section MF
variable {kv : Nat → xE} {cm : Nat → Nat} {ks tk : Nat} {sd : Int32} {ck : Nat} {cb : Bool} {hn : Nat}
theorem pf_en (d m l top : Nat) {S : Tr} {q : qW} {h h0 : xH} {w : Nat → Nat} {c1 c2 : List Pg} {g : Pg} {Q : List Value → xH → Prop} (hf : x_mf m h0 h) (hM : MS h m S q kv cm ks tk sd ck cb hn) (hT : trK S) (h60 : nPg S ≤ 60) (hks : ks ≤ 513) (hl : S[l]? = some (c1 ++ g :: c2)) (hC : InC (c1 ++ g :: c2) (w l) c1 g c2) (hg : g.2.2.length < 10) (hv : w l ∉ g.2.2) (hx : rk kv (cm l) = w l) (hn' : cm l < ks)
    (fail : ∀ h', x_mf m h0 h' → (sEnt l (w l) S q).1 = false → MS h' m (sEnt l (w l) S q).2.1 (sEnt l (w l) S q).2.2 kv cm ks tk sd ck cb hn → Q [.int 0] h')
    (succ : ∀ h', x_mf m h0 h' → (sEnt l (w l) S q).1 = true → MS h' m (sEnt l (w l) S q).2.1 (sEnt l (w l) S q).2.2 kv cm ks tk sd ck cb hn → x_E mX3_perform (d + 4) 0 0 64 [(4, .int (nI l + Int32.ofInt (-1))), (1, .int (nI top)), (0, .ref m)] [] h' Q) :
    x_E mX3_perform (d + 4) 0 0 64 [(4, .int (nI l)), (1, .int (nI top)), (0, .ref m)] [] h Q := by
  have hM' := hM
  obtain ⟨it, il, lw, ll, ow, ni, nl, hm, hR⟩ := hM
  obtain ⟨hB, h30⟩ := hR.mB hT h60 hks
  have hlt := (List.getElem?_eq_some_iff.mp hl).1
  have m0 := hm.1
  have m11 := hm.2.2.2.2.2.2.2.2.2.2.2
  refine e_iload dX3_perform_64 rfl ?_
  refine e_if_lt (tgt := 93) dX3_perform_66 (by decide) (fun c => absurd c (nI_pos (by omega))) (fun _ => ?_)
  refine e_aload_n dX3_perform_69 rfl ?_
  refine e_iload dX3_perform_70 rfl ?_
  refine e_aload_n dX3_perform_72 rfl ?_
  refine e_get dX3_perform_73 fX3_46 m0 rfl ?_
  refine e_iload dX3_perform_76 rfl ?_
  refine e_iald dX3_perform_78 m11 rfl rfl (af_get _ (show l < 32 by omega)) ?_
  refine e_V2 dX3_perform_79 gX3_109 m0 rfl (by omega) (Nat.le_of_ble_eq_true rfl) rfl rfl (con_enterS d m l (cm l) (w l) hM' hT h60 hks hl hC hg hv hx hn') ?_
  rintro _ h2 ⟨hf2, rfl, hM2⟩
  refine e_if_ne (tgt := 87) dX3_perform_82 (by decide) (fun c => ?_) (fun c => ?_)
  · refine e_iinc dX3_perform_87 rfl rfl (by decide) rfl ?_
    refine e_goto (tgt := 64) dX3_perform_90 (by decide) ?_
    exact e_loc [4, 1, 0] rfl (succ h2 (hf.tr hf2) (bI_nz c) hM2)
  · refine e_iconst (v := 0) dX3_perform_85 (by decide) ?_
    exact e_iret dX3_perform_86 rfl rfl (fail h2 (hf.tr hf2) (bI_z c) hM2)
theorem sPut_split {top : Nat} {w : Nat → Nat} {S : Tr} {l f : Nat} {c1 c2 : List Pg} {g : Pg} {q : qW} (a1 : S[l]? = some (c1 ++ g :: c2)) (a2 : InC (c1 ++ g :: c2) (w l) c1 g c2) (b1 : g.2.2.length = 10) (hnt : l + 1 < S.length) (b2 : w (l + 1) = g.2.2.getD 5 0) (e1 : (sW 63 q).1 = true) (e2 : (sW 1 (sW 63 q).2).1 = true) : sPut (f + 1) l (w l) S q = (fun r : Bool × Tr × qW => if r.1 then sEnt l (w l) r.2.1 r.2.2 else r) (sPut f (l + 1) (w (l + 1)) (sSet S l c1 [gL g g.2.1, gR g] c2) (sW 1 (sW 63 q).2).2) := by
  rw [sPut_eq f a1 a2, if_neg (by omega), if_neg (by omega), if_pos e1, if_pos e2, b2]
theorem pf_lo (d m top sp : Nat) (w : Nat → Nat) (rs : Bool) (h0 : xH) (Q : List Value → xH → Prop) (hsp : sp = if rs then top + 1 else top) (hcm : ∀ i, i ≤ top → rk kv (cm i) = w i ∧ cm i < ks) (hks : ks ≤ 513) :
    ∀ (k l : Nat) (S : Tr) (q : qW) (h : xH), l + k = top → trK S → pth S w l top rs → (0 < l → ∃ c q, S[l - 1]? = some c ∧ q ∈ c ∧ q.1 = w l) → nPg S + k + (if rs then 2 else 0) ≤ 60 → x_mf m h0 h → MS h m S q kv cm ks tk sd ck cb hn →
    (∀ h', x_mf m h0 h' → (sPut (k + 1) l (w l) S q).1 = false → MS h' m (sPut (k + 1) l (w l) S q).2.1 (sPut (k + 1) l (w l) S q).2.2 kv cm ks tk sd ck cb hn → Q [.int 0] h') →
    (∀ h', x_mf m h0 h' → (sPut (k + 1) l (w l) S q).1 = true → MS h' m (sPut (k + 1) l (w l) S q).2.1 (sPut (k + 1) l (w l) S q).2.2 kv cm ks tk sd ck cb hn → x_E mX3_perform (d + 4) 0 0 64 [(4, .int (nI l + Int32.ofInt (-1))), (1, .int (nI top)), (0, .ref m)] [] h' Q) →
    x_E mX3_perform (d + 4) 0 0 15 [(4, .int (nI l)), (3, .int (nI sp)), (1, .int (nI top)), (0, .ref m)] [] h Q := by
  intro k
  induction k with
  | zero =>
    intro l S q h hlk hT hP hmk h60 hf hM fail succ
    have el : l = top := by omega
    subst el
    obtain ⟨c1, g, c2, a1, a2, a3, a4, a5, a6⟩ := hP.2 l (Nat.le_refl _) (Nat.le_refl _)
    have a7 := a6 rfl
    obtain ⟨e1, e2⟩ := hcm l (Nat.le_refl _)
    have hM' := hM
    obtain ⟨it, il, lw, ll, ow, ni, nl, hm, hR⟩ := hM
    obtain ⟨hB, h30⟩ := hR.mB hT (by omega) hks
    have hlt := hP.1
    have m0 := hm.1
    have m11 := hm.2.2.2.2.2.2.2.2.2.2.2
    refine e_iload dX3_perform_15 rfl ?_
    refine e_iload_n dX3_perform_17 rfl ?_
    cases rs with
    | false =>
      have a8 : g.2.2.length < 10 := a7
      have hsp : sp = l := hsp
      subst hsp
      have hE : sPut (0 + 1) sp (w sp) S q = sEnt sp (w sp) S q := by rw [sPut_eq 0 a1 a2, if_pos a8]; rfl
      rw [hE] at fail succ
      refine e_icmp_ge (tgt := 61) dX3_perform_18 (by decide) (fun _ => ?_) (fun c => absurd (Int32.le_refl _) c)
      refine e_iload_n dX3_perform_61 rfl ?_
      refine e_istore dX3_perform_62 (by decide) rfl ?_
      exact e_loc [4, 1, 0] rfl (pf_en d m sp sp hf hM' hT (by simpa using h60) hks a1 a2 a8 a3 e1 e2 fail succ)
    | true =>
      have a8 : g.2.2.length = 10 ∧ l + 1 = S.length := a7
      have hsp : sp = l + 1 := hsp
      subst hsp
      have h60' : nPg S + 2 ≤ 60 := by simpa using h60
      obtain ⟨n, g0, t2, t3, t30⟩ := hT.2.1
      have en : n = l := by omega
      subst en
      rw [a1] at t3
      have hc1 : c1 = [] := by
        cases c1 with
        | nil => rfl
        | cons b c1 => simp at t3
      subst hc1
      have hc2 : c2 = [] := by simp at t3; exact t3.2
      subst hc2
      obtain ⟨p0, hI, hp2, hpo⟩ := rr_isC hR hT (num := cm n) a1 (by rw [e1]; exact a2)
      obtain ⟨x5, hx1, hx2, hx3, hx4⟩ := full5 a8.1
      obtain ⟨num6, n1, n2, n3⟩ := con_sixthS (d := d) (h := h) (m := m) (l := n) (p0 := p0) (x := x5) ⟨_, _, _, _, _, rfl⟩ hm hR hT (by omega) hks a1 hI.1 hI.2.1 hp2 hx1
      refine e_icmp_ge (tgt := 61) dX3_perform_18 (by decide) (fun c => absurd c (nI_ge (by omega) (by omega))) (fun _ => ?_)
      refine e_aload_n dX3_perform_21 rfl ?_
      refine e_iload dX3_perform_22 rfl ?_
      refine e_aload_n dX3_perform_24 rfl ?_
      refine e_get dX3_perform_25 fX3_46 m0 rfl ?_
      refine e_iload dX3_perform_28 rfl ?_
      refine e_iald dX3_perform_30 m11 rfl rfl (af_get _ (show n < 32 by omega)) ?_
      refine e_V2d dX3_perform_31 gX3_75 m0 rfl (by omega) (Nat.le_of_ble_eq_true rfl) rfl rfl (con_inCharge (d + 1) h m n (cm n) p0 hm hB (by omega) (by omega) hI) ?_
      refine e_istore dX3_perform_34 (by decide) rfl ?_
      refine e_aload_n dX3_perform_36 rfl ?_
      refine e_iload dX3_perform_37 rfl ?_
      refine e_iload dX3_perform_39 rfl ?_
      refine e_aload_n dX3_perform_41 rfl ?_
      refine e_iload dX3_perform_42 rfl ?_
      refine e_V1d dX3_perform_44 gX3_91 m0 rfl (by omega) (Nat.le_of_ble_eq_true rfl) rfl rfl (n3) ?_
      refine e_V3 dX3_perform_47 gX3_105 m0 rfl (by omega) (Nat.le_of_ble_eq_true rfl) rfl rfl (con_splitTS (d + 2) m n p0 num6 hM' hT h60' hks a1 a8.1 a8.2 (by rw [n2, hx2]) n1) ?_
      rintro rv h2 ⟨hf2, hq⟩
      by_cases e : (sW 145 q).1 = true
      · rw [if_pos e] at hq
        obtain ⟨rfl, hM2⟩ := hq
        have hTr := trK_root hT a1 a8.2 a8.1
        obtain ⟨d1, g', d2, i1, i2, i3, i4⟩ := half_C (hT.1 n _ a1) a2 a8.1 a3 false
        have hat : (sRoot S n g)[n]? = some (d1 ++ g' :: d2) := by
          unfold sRoot
          rw [List.getElem?_append_left (by rw [ss_len]; omega), ss_at a1, i1]
        have hE : sPut (0 + 1) n (w n) S q = sEnt n (w n) (sRoot S n g) (sW 145 q).2 := by rw [sPut_eq 0 a1 a2, if_neg (by omega), if_pos a8.2, if_pos e]; rfl
        rw [hE] at fail succ
        have hnp : nPg (sRoot S n g) ≤ 60 := by
          have h1 := ss_nPg (gs := [gL g false, gR g]) a1
          have h2 := (n_app (sSet S n [] [gL g false, gR g] []) [(0, false, [0, g.2.2.getD 5 0])]).2
          simp only [List.length_cons, List.length_nil] at h1 h2
          unfold sRoot
          omega
        refine e_if_ne (tgt := 55) dX3_perform_50 (by decide) (fun _ => ?_) (fun c => absurd c (by decide))
        refine e_iinc dX3_perform_55 rfl rfl (by decide) rfl ?_
        refine e_goto (tgt := 15) dX3_perform_58 (by decide) ?_
        refine e_iload dX3_perform_15 rfl ?_
        refine e_iload_n dX3_perform_17 rfl ?_
        refine e_icmp_ge (tgt := 61) dX3_perform_18 (by decide) (fun _ => ?_) (fun c => absurd (by rw [← nI_1]; exact Int32.le_refl _) c)
        refine e_iload_n dX3_perform_61 rfl ?_
        refine e_istore dX3_perform_62 (by decide) rfl ?_
        exact e_loc [4, 1, 0] rfl (pf_en d m n n (hf.tr hf2) hM2 hTr hnp hks hat i2 (by omega) i4 e1 e2 fail succ)
      · rw [if_neg e] at hq
        obtain ⟨rfl, hM2⟩ := hq
        have hE : sPut (0 + 1) n (w n) S q = (false, S, (sW 145 q).2) := by rw [sPut_eq 0 a1 a2, if_neg (by omega), if_pos a8.2, if_neg e]; rfl
        rw [hE] at fail
        refine e_if_ne (tgt := 55) dX3_perform_50 (by decide) (fun c => absurd rfl c) (fun _ => ?_)
        refine e_iconst (v := 0) dX3_perform_53 (by decide) ?_
        exact e_iret dX3_perform_54 rfl rfl (fail h2 (hf.tr hf2) rfl hM2)
  | succ k ih =>
    intro l S q h hlk hT hP hmk h60 hf hM fail succ
    obtain ⟨c1, g, c2, a1, a2, a3, a4, a5, a6⟩ := hP.2 l (Nat.le_refl _) (by omega)
    obtain ⟨b1, b2⟩ := a5 (by omega)
    obtain ⟨e1, e2⟩ := hcm l (by omega)
    have hM' := hM
    obtain ⟨it, il, lw, ll, ow, ni, nl, hm, hR⟩ := hM
    obtain ⟨hB, h30⟩ := hR.mB hT (by omega) hks
    have hlt := hP.1
    have hlsp : l < sp := by rw [hsp]; split <;> omega
    have hsp40 : sp < 40 := by rw [hsp]; split <;> omega
    have m0 := hm.1
    have m11 := hm.2.2.2.2.2.2.2.2.2.2.2
    obtain ⟨p0, hI, hp2, hpo⟩ := rr_isC hR hT (num := cm l) a1 (by rw [e1]; exact a2)
    obtain ⟨x5, hx1, hx2, hx3, hx4⟩ := full5 b1
    obtain ⟨num6, n1, n2, n3⟩ := con_sixthS (d := d) (h := h) (m := m) (l := l) (p0 := p0) (x := x5) ⟨_, _, _, _, _, rfl⟩ hm hR hT (by omega) hks a1 hI.1 hI.2.1 hp2 hx1
    have pgs : ∀ it il lw ll ow ni nl, x_mm h m (kv, it, il, lw, ll, ow, cm) (ks, ni, nl, S.length, tk, q.1, q.2.1, q.2.2, sd, ck, cb, hn) → RR S kv it il lw ll ow ks ni nl → p0 < nl ∧ ll p0 = l ∧ rk kv (lw p0) = g.1 := by
      intro it' il' lw' ll' ow' ni' nl' hm' hR'
      have z0 : mC m (ks, ni', nl', S.length, tk, q.1, q.2.1, q.2.2, sd, ck, cb, hn) = mC m (ks, ni, nl, S.length, tk, q.1, q.2.1, q.2.2, sd, ck, cb, hn) := Option.some.inj (hm'.1.symm.trans hm.1)
      have z1 : nI nl' = nI nl := by simp only [mC, Sum.inr.injEq, Prod.mk.injEq, List.cons.injEq, Value.int.injEq] at z0; exact z0.2.2.2.2.2.2.2.2.2.2.2.2.2.1
      have z2 : nl' = nl := (nI_c (by have := hR'.2.2.2.2.2.2.2.1; omega) (by have := hR.2.2.2.2.2.2.2.1; omega)).mp z1
      have hp60 : p0 < 60 := by have := hI.1; have := hR.2.2.2.2.2.2.2.1; omega
      have z3 : aI 60 ll' = aI 60 ll := Option.some.inj (hm'.2.2.2.2.2.2.2.2.2.1.symm.trans hm.2.2.2.2.2.2.2.2.2.1)
      have z4 : aI 60 lw' = aI 60 lw := Option.some.inj (hm'.2.2.2.2.2.2.2.2.1.symm.trans hm.2.2.2.2.2.2.2.2.1)
      have at' : ∀ f f' : Nat → Nat, aI 60 f' = aI 60 f → nI (f' p0) = nI (f p0) := by
        intro f f' e
        have e' : af 60 (fun j => .int (nI (f' j))) = af 60 (fun j => .int (nI (f j))) := by simp only [aI, Sum.inl.injEq, Prod.mk.injEq] at e; exact e.2
        have := congrArg (fun z : List Value => z[p0]?) e'
        simp only [af_get _ hp60, Option.some.injEq, Value.int.injEq] at this
        exact this
      have hB' := (hR'.mB hT (by omega) hks).1
      have y1 := (hB'.2.2.2 p0 (by rw [z2]; exact hI.1))
      have y2 := (hB.2.2.2 p0 hI.1)
      have x1 : ll' p0 = ll p0 := (nI_c (by omega) (by omega)).mp (at' ll ll' z3)
      have x2 : lw' p0 = lw p0 := (nI_c (by omega) (by omega)).mp (at' lw lw' z4)
      exact ⟨by rw [z2]; exact hI.1, by rw [x1]; exact hI.2.1, by rw [x2]; exact hp2⟩
    refine e_iload dX3_perform_15 rfl ?_
    refine e_iload_n dX3_perform_17 rfl ?_
    refine e_icmp_ge (tgt := 61) dX3_perform_18 (by decide) (fun c => absurd c (nI_ge hlsp (by omega))) (fun _ => ?_)
    refine e_aload_n dX3_perform_21 rfl ?_
    refine e_iload dX3_perform_22 rfl ?_
    refine e_aload_n dX3_perform_24 rfl ?_
    refine e_get dX3_perform_25 fX3_46 m0 rfl ?_
    refine e_iload dX3_perform_28 rfl ?_
    refine e_iald dX3_perform_30 m11 rfl rfl (af_get _ (show l < 32 by omega)) ?_
    refine e_V2d dX3_perform_31 gX3_75 m0 rfl (by omega) (Nat.le_of_ble_eq_true rfl) rfl rfl (con_inCharge (d + 1) h m l (cm l) p0 hm hB (by omega) (by omega) hI) ?_
    refine e_istore dX3_perform_34 (by decide) rfl ?_
    refine e_aload_n dX3_perform_36 rfl ?_
    refine e_iload dX3_perform_37 rfl ?_
    refine e_iload dX3_perform_39 rfl ?_
    refine e_aload_n dX3_perform_41 rfl ?_
    refine e_iload dX3_perform_42 rfl ?_
    refine e_V1d dX3_perform_44 gX3_91 m0 rfl (by omega) (Nat.le_of_ble_eq_true rfl) rfl rfl (n3) ?_
    refine e_V3 dX3_perform_47 gX3_105 m0 rfl (by omega) (Nat.le_of_ble_eq_true rfl) rfl rfl (con_splitNS (d + 2) m l p0 num6 hM' hT (by omega) hks a1 b1 (by omega) (by rw [n2, hx2]) n1 pgs) ?_
    rintro rv h2 ⟨hf2, hq⟩
    by_cases e : (sW 63 q).1 = true
    · rw [if_pos e] at hq
      by_cases e' : (sW 1 (sW 63 q).2).1 = true
      · rw [if_pos e'] at hq
        obtain ⟨rfl, hM2⟩ := hq
        have hTs := trK_split g.2.1 hT a1 b1 (by omega)
        have np := ss_nPg (gs := [gL g g.2.1, gR g]) a1
        simp only [List.length_cons, List.length_nil] at np
        have hPu := hP.up (S' := sSet S l c1 [gL g g.2.1, gR g] c2) ss_len (fun j hj => ss_ne (by omega))
        have hlow : 0 < l + 1 → ∃ c q, (sSet S l c1 [gL g g.2.1, gR g] c2)[l + 1 - 1]? = some c ∧ q ∈ c ∧ q.1 = w (l + 1) := fun _ => ⟨_, gR g, by rw [Nat.add_sub_cancel]; exact ss_at a1, List.mem_append_right _ (List.mem_cons_of_mem _ List.mem_cons_self), b2.symm⟩
        have hok := sPut_ok top w rs k (l + 1) (k + 1) (sSet S l c1 [gL g g.2.1, gR g] c2) (sW 1 (sW 63 q).2).2 (by omega) (by omega) hTs hPu hlow
        have hE := sPut_split (top := top) (f := k + 1) (q := q) a1 a2 b1 (by omega) b2 e e'
        rw [hE] at fail succ
        generalize hr : sPut (k + 1) (l + 1) (w (l + 1)) (sSet S l c1 [gL g g.2.1, gR g] c2) (sW 1 (sW 63 q).2).2 = r at hok fail succ
        obtain ⟨i1, i2, i3⟩ := hok
        obtain ⟨d1, g', d2, j1, j2, j3, j4⟩ := half_C (hT.1 l _ a1) a2 b1 a3 g.2.1
        have hat : r.2.1[l]? = some (d1 ++ g' :: d2) := by rw [i2 l (by omega), ss_at a1, j1]
        refine e_if_ne (tgt := 55) dX3_perform_50 (by decide) (fun _ => ?_) (fun c => absurd c (by decide))
        refine e_iinc dX3_perform_55 rfl rfl (by decide) rfl ?_
        refine e_goto (tgt := 15) dX3_perform_58 (by decide) ?_
        have hk := ih (l + 1) (sSet S l c1 [gL g g.2.1, gR g] c2) (sW 1 (sW 63 q).2).2 h2 (by omega) hTs hPu hlow (by omega) (hf.tr hf2) hM2
        rw [hr] at hk
        have hk2 := hk (fun h' hf' er hM3 => fail h' hf' (by show (if r.1 = true then sEnt l (w l) r.2.1 r.2.2 else r).1 = false; rw [if_neg (by rw [er]; exact Bool.false_ne_true)]; exact er) (by show MS h' m (if r.1 = true then sEnt l (w l) r.2.1 r.2.2 else r).2.1 (if r.1 = true then sEnt l (w l) r.2.1 r.2.2 else r).2.2 kv cm ks tk sd ck cb hn; rw [if_neg (by rw [er]; exact Bool.false_ne_true)]; exact hM3)) (fun h' hf' er hM3 => ?_)
        · rw [← nI_1] at hk2
          exact e_loc [4, 3, 1, 0] rfl hk2
        · have hnl : nI (l + 1) + Int32.ofInt (-1) = nI l := pk_m1 l
          rw [hnl]
          have fail' := fail
          have succ' := succ
          simp only [er, if_true] at fail' succ'
          exact pf_en d m l top hf' hM3 i1 (by omega) hks hat j2 (by omega) j4 e1 e2 fail' succ'
      · rw [if_neg e'] at hq
        obtain ⟨rfl, hM2⟩ := hq
        have hE : sPut (k + 1 + 1) l (w l) S q = (false, sSet S l c1 [gL g true, gR g] c2, (sW 1 (sW 63 q).2).2) := by rw [sPut_eq (k + 1) a1 a2, if_neg (by omega), if_neg (by omega), if_pos e, if_neg e']; rfl
        rw [hE] at fail
        refine e_if_ne (tgt := 55) dX3_perform_50 (by decide) (fun c => absurd rfl c) (fun _ => ?_)
        refine e_iconst (v := 0) dX3_perform_53 (by decide) ?_
        exact e_iret dX3_perform_54 rfl rfl (fail h2 (hf.tr hf2) rfl hM2)
    · rw [if_neg e] at hq
      obtain ⟨rfl, hM2⟩ := hq
      have hE : sPut (k + 1 + 1) l (w l) S q = (false, S, (sW 63 q).2) := by rw [sPut_eq (k + 1) a1 a2, if_neg (by omega), if_neg (by omega), if_neg e]; rfl
      rw [hE] at fail
      refine e_if_ne (tgt := 55) dX3_perform_50 (by decide) (fun c => absurd rfl c) (fun _ => ?_)
      refine e_iconst (v := 0) dX3_perform_53 (by decide) ?_
      exact e_iret dX3_perform_54 rfl rfl (fail h2 (hf.tr hf2) rfl hM2)
theorem con_perform (d m top : Nat) (w : Nat → Nat) (rs : Bool) {S : Tr} {q : qW} {h : xH} (hT : trK S) (hP : pth S w 0 top rs) (h60 : nPg S + top + (if rs then 2 else 0) ≤ 60) (hks : ks ≤ 513) (hcm : ∀ i, i ≤ top → rk kv (cm i) = w i ∧ cm i < ks) (hM : MS h m S q kv cm ks tk sd ck cb hn) : x_Con mX3_perform (d + 4) 0 0 [.ref m, .int (nI top), .int (bI rs)] h (fun rv h' => x_mf m h h' ∧ rv = [.int (bI (sPut (top + 1) 0 (w 0) S q).1)] ∧ MS h' m (sPut (top + 1) 0 (w 0) S q).2.1 (sPut (top + 1) 0 (w 0) S q).2.2 kv cm ks tk sd ck cb hn) := by
  refine e_enter (by decide) (Nat.le_of_ble_eq_true rfl) ?_
  have go : ∀ sp, sp = (if rs then top + 1 else top) → x_E mX3_perform (d + 4) 0 0 15 [(4, .int (nI 0)), (3, .int (nI sp)), (1, .int (nI top)), (0, .ref m)] [] h (fun rv h' => x_mf m h h' ∧ rv = [.int (bI (sPut (top + 1) 0 (w 0) S q).1)] ∧ MS h' m (sPut (top + 1) 0 (w 0) S q).2.1 (sPut (top + 1) 0 (w 0) S q).2.2 kv cm ks tk sd ck cb hn) := by
    intro sp hsp
    refine pf_lo d m top sp w rs h _ hsp hcm hks top 0 S q h (by omega) hT hP (fun z => absurd z (by omega)) h60 x_mf.rf hM (fun h' hf er hM' => ⟨hf, by rw [er]; rfl, hM'⟩) (fun h' hf er hM' => ?_)
    refine e_iload dX3_perform_64 rfl ?_
    refine e_if_lt (tgt := 93) dX3_perform_66 (by decide) (fun _ => ?_) (fun c => absurd (by decide) c)
    refine e_iconst (v := 1) dX3_perform_93 (by decide) ?_
    exact e_iret dX3_perform_94 rfl rfl ⟨hf, by rw [er]; rfl, hM'⟩
  refine e_iload_n dX3_perform_0 rfl ?_
  cases rs with
  | false =>
    refine e_if_eq (tgt := 10) dX3_perform_1 (by decide) (fun _ => ?_) (fun c => absurd rfl c)
    refine e_iload_n dX3_perform_10 rfl ?_
    refine e_istore_n dX3_perform_11 (by decide) rfl ?_
    refine e_iconst (v := 0) dX3_perform_12 (by decide) ?_
    refine e_istore dX3_perform_13 (by decide) rfl ?_
    exact e_loc [4, 3, 1, 0] rfl (go top rfl)
  | true =>
    refine e_if_eq (tgt := 10) dX3_perform_1 (by decide) (fun c => absurd c (by decide)) (fun _ => ?_)
    refine e_iload_n dX3_perform_4 rfl ?_
    refine e_iconst (v := 1) dX3_perform_5 (by decide) ?_
    refine e_iadd dX3_perform_6 ?_
    refine e_goto (tgt := 11) dX3_perform_7 (by decide) ?_
    rw [nI_1]
    refine e_istore_n dX3_perform_11 (by decide) rfl ?_
    refine e_iconst (v := 0) dX3_perform_12 (by decide) ?_
    refine e_istore dX3_perform_13 (by decide) rfl ?_
    exact e_loc [4, 3, 1, 0] rfl (go (top + 1) rfl)
end MF
end
section
/-! the reference: add and level on the tree -/
theorem pth_ex {S : Tr} (hT : trK S) : ∀ (k l v : Nat), l + k + 1 = S.length → 0 < v → ¬ inI S l v → ∃ w top rs, w l = v ∧ l ≤ top ∧ pth S w l top rs := by
  intro k
  induction k with
  | zero =>
    intro l v hl hv hn
    obtain ⟨c, hc⟩ : ∃ c, S[l]? = some c := ⟨_, List.getElem?_eq_getElem (by omega)⟩
    obtain ⟨c1, g, c2, hI⟩ := (hT.1 l c hc).ex v
    have hc' := hc
    rw [hI.1] at hc' hI
    have hk := hT.1 l _ hc'
    have hvn : v ∉ g.2.2 := fun q => hn ((inI_own hk hc' hI).mpr q)
    have h10 := (hk.2.2 g (List.mem_append_right _ List.mem_cons_self)).2.2
    by_cases hg : g.2.2.length < 10
    · refine ⟨fun _ => v, l, false, rfl, Nat.le_refl _, by omega, fun j h1 h2 => ?_⟩
      have : j = l := by omega
      subst this
      exact ⟨c1, g, c2, hc', hI, hvn, hv, fun q => absurd q (by omega), fun _ => hg⟩
    · refine ⟨fun _ => v, l, true, rfl, Nat.le_refl _, by omega, fun j h1 h2 => ?_⟩
      have : j = l := by omega
      subst this
      exact ⟨c1, g, c2, hc', hI, hvn, hv, fun q => absurd q (by omega), fun _ => ⟨by omega, by omega⟩⟩
  | succ k ih =>
    intro l v hl hv hn
    obtain ⟨c, hc⟩ : ∃ c, S[l]? = some c := ⟨_, List.getElem?_eq_getElem (by omega)⟩
    obtain ⟨c1, g, c2, hI⟩ := (hT.1 l c hc).ex v
    have hc' := hc
    rw [hI.1] at hc' hI
    have hk := hT.1 l _ hc'
    have hvn : v ∉ g.2.2 := fun q => hn ((inI_own hk hc' hI).mpr q)
    have h10 := (hk.2.2 g (List.mem_append_right _ List.mem_cons_self)).2.2
    by_cases hg : g.2.2.length < 10
    · refine ⟨fun _ => v, l, false, rfl, Nat.le_refl _, by omega, fun j h1 h2 => ?_⟩
      have : j = l := by omega
      subst this
      exact ⟨c1, g, c2, hc', hI, hvn, hv, fun q => absurd q (by omega), fun _ => hg⟩
    · have hg10 : g.2.2.length = 10 := by omega
      have hx := (lvK_split false hk hg10).2
      have hnew : ¬ inI S (l + 1) (g.2.2.getD 5 0) := fun q => by
        obtain ⟨c', q', z1, z2, z3⟩ := hT.2.2.2.2.1 l _ q
        exact x5_new hk hc' hg10 q'.2.1 ⟨c', q', z1, z2, z3, rfl⟩
      obtain ⟨w, top, rs, w1, w0, w2, w3⟩ := ih (l + 1) (g.2.2.getD 5 0) (by omega) (by omega) hnew
      refine ⟨fun j => if j = l then v else w j, top, rs, by simp, by omega, w2, fun j h1 h2 => ?_⟩
      by_cases e : j = l
      · subst e
        refine ⟨c1, g, c2, hc', by simpa using hI, by simpa using hvn, by simpa using hv, fun _ => ⟨hg10, ?_⟩, fun q => absurd q (by omega)⟩
        simp [w1]
      · obtain ⟨d1, g', d2, b1, b2, b3, b4, b5, b6⟩ := w3 j (by omega) h2
        refine ⟨d1, g', d2, b1, by simpa [e] using b2, by simpa [e] using b3, by simpa [e] using b4, fun q => ?_, b6⟩
        have b5 := b5 q
        refine ⟨b5.1, ?_⟩
        have : j + 1 ≠ l := by omega
        simpa [this] using b5.2
theorem rk_num {kv : Nat → xE} {ks : Nat} (e : xE) (h : 1 ≤ ks) : rk (kvu kv ks e) ks = od e + 1 := by
  unfold rk kvu
  rw [if_neg (by omega), if_pos rfl]
section MD
variable {kv : Nat → xE} {cm : Nat → Nat} {ks tk : Nat} {sd : Int32} {ck : Nat} {cb : Bool} {hn : Nat} {q : qW} {S : Tr} {h : xH}
/-- pages wanted -/
def wnt (top : Nat) (rs : Bool) : Nat := if rs then top + 2 else top
theorem con_madd_neg (d m : Nat) (e : xE) (hneg : e.2.2.2.2 < 0) : x_D mX3_add d 0 0 [.ref m, .long e.1, .long e.2.1, .long e.2.2.1, .long e.2.2.2.1, .int e.2.2.2.2] h [.int (-1)] h := by
  refine e_enter (by decide) (Nat.le_of_ble_eq_true rfl) ?_
  refine e_iload dX3_add_0 rfl ?_
  refine e_if_ge (tgt := 7) dX3_add_2 (by decide) (fun c => absurd hneg (Int32.not_lt.mpr c)) (fun _ => ?_)
  refine e_iconst (v := (-1)) dX3_add_5 (by decide) ?_
  exact e_iret dX3_add_6 rfl rfl ⟨rfl, rfl⟩
theorem con_madd_has (d m : Nat) (e : xE) (hM : MS h m S q kv cm ks tk sd ck cb hn) (hT : trK S) (h60 : nPg S ≤ 60) (hks : ks < 513) (hpos : ¬ e.2.2.2.2 < 0) (hin : inI S 0 (od e + 1)) :
    x_Con mX3_add (d + 5) 0 0 [.ref m, .long e.1, .long e.2.1, .long e.2.2.1, .long e.2.2.2.1, .int e.2.2.2.2] h (fun rv h' => x_mf m h h' ∧ rv = [.int 0] ∧ MS h' m S q (kvu kv ks e) cm ks tk sd ck cb hn) := by
  refine e_enter (by decide) (Nat.le_of_ble_eq_true rfl) ?_
  obtain ⟨it, il, lw, ll, ow, ni, nl, hm, hR⟩ := hM
  have hR2 := rr_kv hR e
  obtain ⟨hB, h30⟩ := hR2.mB hT h60 (by omega)
  obtain ⟨i0, hi0⟩ := (rr_itemOf hR2 ks).1 (by rw [rk_num e hR.2.2.2.2.2.2.2.2]; exact hin)
  have hlt : i0 < ni := hi0.1
  have hn6 := hB.1
  refine e_iload dX3_add_0 rfl ?_
  refine e_if_ge (tgt := 7) dX3_add_2 (by decide) (fun _ => ?_) (fun c => absurd (Int32.not_lt.mp hpos) c)
  refine e_aload_n dX3_add_7 rfl ?_
  refine e_lload_n dX3_add_8 rfl ?_
  refine e_lload_n dX3_add_9 rfl ?_
  refine e_lload dX3_add_10 rfl ?_
  refine e_lload dX3_add_12 rfl ?_
  refine e_iload dX3_add_14 rfl ?_
  refine e_V5 dX3_add_16 gX3_113 hm.1 rfl (by omega) (Nat.le_of_ble_eq_true rfl) rfl rfl (con_numbered (d + 4) h m e hm hks) ?_
  rintro _ h2 ⟨rfl, hm2, hf2⟩
  refine e_istore dX3_add_19 (by decide) rfl ?_
  refine e_aload_n dX3_add_21 rfl ?_
  refine e_iload dX3_add_22 rfl ?_
  refine e_V1d dX3_add_24 gX3_117 hm2.1 rfl (by omega) (Nat.le_of_ble_eq_true rfl) rfl rfl (con_itemOf (d + 2) h2 m ks (some i0) hm2 hB hks hi0) ?_
  refine e_if_lt (tgt := 32) dX3_add_27 (by decide) (fun c => absurd c (nI_pos (by omega))) (fun _ => ?_)
  refine e_iconst (v := 0) dX3_add_30 (by decide) ?_
  exact e_iret dX3_add_31 rfl rfl ⟨hf2, rfl, it, il, lw, ll, ow, ni, nl, hm2, hR2⟩
theorem con_madd_new (d m top : Nat) (e : xE) (w : Nat → Nat) (rs : Bool) (hM : MS h m S q kv cm ks tk sd ck cb hn) (hT : trK S) (h60 : nPg S ≤ tk) (htk : tk ≤ 60) (hks : ks < 513) (hpos : ¬ e.2.2.2.2 < 0) (hin : ¬ inI S 0 (od e + 1)) (hw : w 0 = od e + 1) (hP : pth S w 0 top rs) :
    x_Con mX3_add (d + 5) 0 0 [.ref m, .long e.1, .long e.2.1, .long e.2.2.1, .long e.2.2.2.1, .int e.2.2.2.2] h (fun rv h' => x_mf m h h' ∧ ∃ cm', (if tk + wnt top rs ≤ 60 then rv = [.int (if (sPut (top + 1) 0 (od e + 1) S q).1 then 1 else -2)] ∧ MS h' m (sPut (top + 1) 0 (od e + 1) S q).2.1 (sPut (top + 1) 0 (od e + 1) S q).2.2 (kvu kv ks e) cm' (ks + 1) (tk + wnt top rs) sd ck cb hn else rv = [.int (-1)] ∧ MS h' m S q (kvu kv ks e) cm' ks tk sd ck cb hn)) := by
  refine e_enter (by decide) (Nat.le_of_ble_eq_true rfl) ?_
  obtain ⟨it, il, lw, ll, ow, ni, nl, hm, hR⟩ := hM
  have hR2 := rr_kv hR e
  have hk1 : rk (kvu kv ks e) ks = od e + 1 := rk_num e hR.2.2.2.2.2.2.2.2
  obtain ⟨hB, h30⟩ := hR2.mB hT (by omega) (by omega)
  have hno := (rr_itemOf hR2 ks).2 (by rw [hk1]; exact hin)
  have htop := hP.1
  refine e_iload dX3_add_0 rfl ?_
  refine e_if_ge (tgt := 7) dX3_add_2 (by decide) (fun _ => ?_) (fun c => absurd (Int32.not_lt.mp hpos) c)
  refine e_aload_n dX3_add_7 rfl ?_
  refine e_lload_n dX3_add_8 rfl ?_
  refine e_lload_n dX3_add_9 rfl ?_
  refine e_lload dX3_add_10 rfl ?_
  refine e_lload dX3_add_12 rfl ?_
  refine e_iload dX3_add_14 rfl ?_
  refine e_V5 dX3_add_16 gX3_113 hm.1 rfl (by omega) (Nat.le_of_ble_eq_true rfl) rfl rfl (con_numbered (d + 4) h m e hm hks) ?_
  rintro _ h2 ⟨rfl, hm2, hf2⟩
  refine e_istore dX3_add_19 (by decide) rfl ?_
  refine e_aload_n dX3_add_21 rfl ?_
  refine e_iload dX3_add_22 rfl ?_
  refine e_V1d dX3_add_24 gX3_117 hm2.1 rfl (by omega) (Nat.le_of_ble_eq_true rfl) rfl rfl (con_itemOf (d + 2) h2 m ks none hm2 hB hks hno) ?_
  refine e_if_lt (tgt := 32) dX3_add_27 (by decide) (fun _ => ?_) (fun c => absurd (by decide) c)
  refine e_aload_n dX3_add_32 rfl ?_
  refine e_iload dX3_add_33 rfl ?_
  refine e_V1 dX3_add_35 gX3_120 hm2.1 rfl (by omega) (Nat.le_of_ble_eq_true rfl) rfl rfl (con_plan d m ks top w rs h2 cm hT (by omega) hks hP ⟨it, il, lw, ll, ow, ni, nl, hm2, hR2⟩ (by rw [hk1, hw]) (Nat.le_refl _)) ?_
  rintro _ h3 ⟨rfl, hf3, cm', hM3, hc3⟩
  have hM3' := hM3
  obtain ⟨it, il, lw, ll, ow, ni, nl, hm3, hR3⟩ := hM3
  obtain ⟨hB3, -⟩ := hR3.mB hT (by omega) (by omega)
  obtain ⟨c1, g, c2, a1, a2, a3, a4, a5, a6⟩ := hP.2 top (by omega) (Nat.le_refl _)
  have a7 := a6 rfl
  obtain ⟨e1, e2⟩ := hc3 top (Nat.le_refl _)
  obtain ⟨p0, hI, hp2, hpo⟩ := rr_isC hR3 hT (num := cm' top) a1 (by rw [e1]; exact a2)
  have m0 := hm3.1
  have m11 := hm3.2.2.2.2.2.2.2.2.2.2.2
  refine e_istore dX3_add_38 (by decide) rfl ?_
  refine e_aload_n dX3_add_40 rfl ?_
  refine e_aload_n dX3_add_41 rfl ?_
  refine e_iload dX3_add_42 rfl ?_
  refine e_aload_n dX3_add_44 rfl ?_
  refine e_get dX3_add_45 fX3_46 m0 rfl ?_
  refine e_iload dX3_add_48 rfl ?_
  refine e_iald dX3_add_50 m11 rfl rfl (af_get _ (show top < 32 by omega)) ?_
  refine e_V2d dX3_add_51 gX3_75 m0 rfl (by omega) (Nat.le_of_ble_eq_true rfl) rfl rfl (con_inCharge (d + 2) h3 m top (cm' top) p0 hm3 hB3 (by omega) (by omega) hI) ?_
  refine e_V1d dX3_add_54 gX3_84 m0 rfl (by omega) (Nat.le_of_ble_eq_true rfl) rfl rfl (con_filledS (d + 1) m top p0 ⟨_, _, _, _, _, rfl⟩ hm3 hR3 hT (by omega) (by omega) a1 hI.1 hI.2.1 hp2) ?_
  refine e_bipush (v := 10) dX3_add_57 (by decide) ?_
  have h10 := ((hT.1 top _ a1).2.2 g (List.mem_append_right _ List.mem_cons_self)).2.2
  -- from the flag on
  have go : x_E mX3_add (d + 5) 0 0 85 [(13, .int (nI (wnt top rs))), (12, .int (bI rs)), (11, .int (nI top)), (0, .ref m)] [] h3 (fun rv h' => x_mf m h h' ∧ ∃ cm', (if tk + wnt top rs ≤ 60 then rv = [.int (if (sPut (top + 1) 0 (od e + 1) S q).1 then 1 else -2)] ∧ MS h' m (sPut (top + 1) 0 (od e + 1) S q).2.1 (sPut (top + 1) 0 (od e + 1) S q).2.2 (kvu kv ks e) cm' (ks + 1) (tk + wnt top rs) sd ck cb hn else rv = [.int (-1)] ∧ MS h' m S q (kvu kv ks e) cm' ks tk sd ck cb hn)) := by
    have hwt : wnt top rs ≤ 32 := by unfold wnt; split <;> omega
    refine e_aload_n dX3_add_85 rfl ?_
    refine e_get dX3_add_86 fX3_123 m0 rfl ?_
    refine e_iload dX3_add_89 rfl ?_
    refine e_iadd dX3_add_91 ?_
    refine e_bipush (v := 60) dX3_add_92 (by decide) ?_
    rw [nI_add]
    refine e_icmp_le (tgt := 99) dX3_add_94 (by decide) (fun c => ?_) (fun c => ?_)
    · have hle : tk + wnt top rs ≤ 60 := (nI_leI (b := 60) (by omega) (by omega)).mp c
      refine e_aload_n dX3_add_99 rfl ?_
      refine e_dup dX3_add_100 rfl ?_
      refine e_get dX3_add_101 fX3_26 m0 rfl ?_
      refine e_iconst (v := 1) dX3_add_104 (by decide) ?_
      refine e_iadd dX3_add_105 ?_
      refine e_putM (s' := (ks + 1, ni, nl, S.length, tk, q.1, q.2.1, q.2.2, sd, ck, cb, hn)) dX3_add_106 fX3_26 m0 (by exact ⟨rfl, rfl⟩) (congrArg Value.int (nI_1 ks)) rfl ?_
      have hm4 := hm3.s (ks + 1, ni, nl, S.length, tk, q.1, q.2.1, q.2.2, sd, ck, cb, hn)
      have m0 := hm4.1
      refine e_aload_n dX3_add_109 rfl ?_
      refine e_dup dX3_add_110 rfl ?_
      refine e_get dX3_add_111 fX3_123 m0 rfl ?_
      refine e_iload dX3_add_114 rfl ?_
      refine e_iadd dX3_add_116 ?_
      refine e_putM (s' := (ks + 1, ni, nl, S.length, tk + wnt top rs, q.1, q.2.1, q.2.2, sd, ck, cb, hn)) dX3_add_117 fX3_123 m0 (by exact ⟨rfl, rfl⟩) (congrArg Value.int (nI_add tk (wnt top rs))) rfl ?_
      have hm5 := hm4.s (ks + 1, ni, nl, S.length, tk + wnt top rs, q.1, q.2.1, q.2.2, sd, ck, cb, hn)
      have hM5 : MS (x_up (x_up h3 m (mC m (ks + 1, ni, nl, S.length, tk, q.1, q.2.1, q.2.2, sd, ck, cb, hn))) m (mC m (ks + 1, ni, nl, S.length, tk + wnt top rs, q.1, q.2.1, q.2.2, sd, ck, cb, hn))) m S q (kvu kv ks e) cm' (ks + 1) (tk + wnt top rs) sd ck cb hn := ⟨it, il, lw, ll, ow, ni, nl, hm5, rr_ks hR3⟩
      refine e_aload_n dX3_add_120 rfl ?_
      refine e_iload dX3_add_121 rfl ?_
      refine e_iload dX3_add_123 rfl ?_
      refine e_V2 dX3_add_125 gX3_126 hm5.1 rfl (by omega) (Nat.le_of_ble_eq_true rfl) rfl rfl (con_perform (d := d) m top w rs hT hP (by unfold wnt at hle; split at hle <;> rename_i z <;> simp [z] <;> omega) (by omega) (fun i hi => ⟨(hc3 i hi).1, by have := (hc3 i hi).2; omega⟩) hM5) ?_
      rintro _ h6 ⟨hf6, rfl, hM6⟩
      rw [hw] at hM6 ⊢
      have hfr : x_mf m h h6 := ((hf2.tr hf3).up0.up0).tr hf6
      by_cases er : (sPut (top + 1) 0 (od e + 1) S q).1 = true
      · refine e_if_eq (tgt := 135) dX3_add_128 (by decide) (fun c => absurd c (by rw [er]; decide)) (fun _ => ?_)
        refine e_iconst (v := 1) dX3_add_131 (by decide) ?_
        refine e_goto (tgt := 137) dX3_add_132 (by decide) ?_
        refine e_iret dX3_add_137 rfl rfl ⟨hfr, cm', ?_⟩
        rw [if_pos hle, if_pos er]
        exact ⟨rfl, hM6⟩
      · refine e_if_eq (tgt := 135) dX3_add_128 (by decide) (fun _ => ?_) (fun c => absurd (by rw [Bool.not_eq_true] at er; rw [er]; rfl) c)
        refine e_bipush (v := (-2)) dX3_add_135 (by decide) ?_
        refine e_iret dX3_add_137 rfl rfl ⟨hfr, cm', ?_⟩
        rw [if_pos hle, if_neg er]
        exact ⟨rfl, hM6⟩
    · have hgt : ¬ tk + wnt top rs ≤ 60 := fun z => c ((nI_leI (b := 60) (by omega) (by omega)).mpr z)
      refine e_iconst (v := (-1)) dX3_add_97 (by decide) ?_
      refine e_iret dX3_add_98 rfl rfl ⟨hf2.tr hf3, cm', ?_⟩
      rw [if_neg hgt]
      exact ⟨rfl, hM3'⟩
  cases rs with
  | false =>
    have a8 : g.2.2.length < 10 := a7
    refine e_icmp_ne (tgt := 66) dX3_add_59 (by decide) (fun _ => ?_) (fun c => absurd ((nI_c (b := 10) (by omega) (by omega)).mp c) (by omega))
    refine e_iconst (v := 0) dX3_add_66 (by decide) ?_
    refine e_istore dX3_add_67 (by decide) rfl ?_
    refine e_iload dX3_add_69 rfl ?_
    refine e_if_eq (tgt := 81) dX3_add_71 (by decide) (fun _ => ?_) (fun c => absurd rfl c)
    refine e_iload dX3_add_81 rfl ?_
    refine e_istore dX3_add_83 (by decide) rfl ?_
    exact e_loc [13, 12, 11, 0] rfl go
  | true =>
    have a8 : g.2.2.length = 10 ∧ top + 1 = S.length := a7
    refine e_icmp_ne (tgt := 66) dX3_add_59 (by decide) (fun c => absurd (by rw [a8.1]; rfl) c) (fun _ => ?_)
    refine e_iconst (v := 1) dX3_add_62 (by decide) ?_
    refine e_goto (tgt := 67) dX3_add_63 (by decide) ?_
    refine e_istore dX3_add_67 (by decide) rfl ?_
    refine e_iload dX3_add_69 rfl ?_
    refine e_if_eq (tgt := 81) dX3_add_71 (by decide) (fun c => absurd c (by decide)) (fun _ => ?_)
    refine e_iload dX3_add_74 rfl ?_
    refine e_iconst (v := 2) dX3_add_76 (by decide) ?_
    refine e_iadd dX3_add_77 ?_
    refine e_goto (tgt := 83) dX3_add_78 (by decide) ?_
    have e22 : nI top + 2 = nI (wnt top true) := nI_add top 2
    rw [e22]
    refine e_istore dX3_add_83 (by decide) rfl ?_
    exact e_loc [13, 12, 11, 0] rfl go
end MD
end
section
/-! the reference: level, and the rest on the tree -/
def sLev (S : Tr) (l what : Int32) : Int32 := if l < 0 ∨ nI S.length ≤ l ∨ what < 0 then -1 else if what = 0 then nI (lvl S l.toNatClampNeg).length else if what = 1 then nI (nC (lvl S l.toNatClampNeg)) else match (lvl S l.toNatClampNeg)[what.toNatClampNeg - 2]? with
  | some g => nI g.2.2.length
  | none => -1
theorem sub2 {a b : Nat} (ha : a < 2147483648) (hb : b < 1000) : nI b = nI a - 2 ↔ b + 2 = a := by
  have e : nI (b + 2) = nI b + 2 := (nI_add b 2).symm
  constructor
  · intro q
    refine (nI_eq (by omega) ha).mp ?_
    rw [e, q, Int32.sub_add_cancel]
  · intro q
    rw [← q, e, Int32.add_sub_cancel]
section ML
variable {kv : Nat → xE} {cm : Nat → Nat} {ks tk : Nat} {sd : Int32} {ck : Nat} {cb : Bool} {hn : Nat} {q : qW} {S : Tr} {h : xH}
theorem lev_lo (d m L W : Nat) {kv : Nat → xE} {it il lw ll : Nat → Nat} {ow : Nat → Bool} {cm : Nat → Nat} {ks ni nl lv tk : Nat} {se lf : Int32} {ub : Bool} {sd : Int32} {ck : Nat} {cb : Bool} {hn : Nat} (hm : x_mm h m (kv, it, il, lw, ll, ow, cm) (ks, ni, nl, lv, tk, se, lf, ub, sd, ck, cb, hn)) (hR : RR S kv it il lw ll ow ks ni nl) (hT : trK S) (hB : mB it il lw ll ni nl) (hL : L < 64) (hW : W < 2147483648) {c : List Pg} (hc : S[L]? = some c) (Q : List Value → xH → Prop)
    (fin : ∀ b, (∀ g c1 c2, c = c1 ++ g :: c2 → c1.length + 2 = W → ∃ p0, p0 < nl ∧ ll p0 = L ∧ rk kv (lw p0) = g.1 ∧ b = nI p0) → ((∀ g c1 c2, c = c1 ++ g :: c2 → c1.length + 2 ≠ W) → b = -1) → x_E mX3_level (d + 4) 0 0 82 [(4, .int b), (3, .int (nI c.length)), (2, .int (nI W)), (0, .ref m)] [] h Q) :
    ∀ (k p : Nat) (x n b : Int32), x = nI p → p + k = nl → n = nI (cT (fun p => decide (ll p = L)) p) → ((∃ p0, p0 < p ∧ ll p0 = L ∧ cT (lft kv lw ll p0) nl + 2 = W ∧ b = nI p0) ∨ (b = -1 ∧ ∀ p0, p0 < p → ll p0 = L → cT (lft kv lw ll p0) nl + 2 ≠ W)) →
    x_E mX3_level (d + 4) 0 0 37 [(5, .int x), (4, .int b), (3, .int n), (2, .int (nI W)), (1, .int (nI L)), (0, .ref m)] [] h Q := by
  have hm' := hm
  obtain ⟨m0, m1, m2, m3, m4, m5, m6, m7, m8, m9, m10, m11⟩ := hm
  have hB' := hB
  obtain ⟨b1, b2, b3, b4⟩ := hB
  -- a page's place is its own
  have plc : ∀ p0, p0 < nl → ll p0 = L → ∃ c1 g c2, c = c1 ++ g :: c2 ∧ rk kv (lw p0) = g.1 ∧ cT (lft kv lw ll p0) nl = c1.length := by
    intro p0 hp hl
    obtain ⟨⟨c', g, hc', hg, e1, -⟩, -⟩ := hR.2.2.2.1 p0 hp
    rw [hl, hc] at hc'
    cases hc'
    obtain ⟨c1, c2, e⟩ := List.append_of_mem hg
    exact ⟨c1, g, c2, e, e1.symm, rr_left hR hT hc e hl e1.symm⟩
  have same : ∀ p0 p1, p0 < nl → p1 < nl → ll p0 = L → ll p1 = L → cT (lft kv lw ll p0) nl = cT (lft kv lw ll p1) nl → p0 = p1 := by
    intro p0 p1 h0 h1 l0 l1 e
    obtain ⟨c1, g, c2, a1, a2, a3⟩ := plc p0 h0 l0
    obtain ⟨d1, g', d2, c1', c2', c3'⟩ := plc p1 h1 l1
    have hh := List.append_inj (a1.symm.trans c1') (by rw [← a3, ← c3', e])
    have hg : g = g' := (List.cons.inj hh.2).1
    exact hR.2.2.2.2.2.1 p0 p1 h0 h1 (l0.trans l1.symm) (by rw [a2, c2', hg])
  intro k
  induction k with
  | zero =>
    intro p x n b hx hp hn hb
    refine e_iload dX3_level_37 rfl ?_
    refine e_aload_n dX3_level_39 rfl ?_
    refine e_get dX3_level_40 fX3_65 m0 rfl ?_
    refine e_icmp_ge (tgt := 82) dX3_level_43 (by decide) (fun _ => ?_) (fun c => absurd (by rw [hx]; exact nI_le (by omega) (by omega)) c)
    have e0 : p = nl := by omega
    subst e0
    rw [rr_npages hR hT hc] at hn
    subst hn
    refine e_loc [4, 3, 2, 0] rfl (fin b (fun g c1 c2 e e2 => ?_) (fun hno => ?_))
    · obtain ⟨p0, q1, q2, q3⟩ := hR.2.2.2.2.1 L c g hc (by rw [e]; exact List.mem_append_right _ List.mem_cons_self)
      have q4 := rr_left hR hT hc e q2 q3
      rcases hb with ⟨p1, r1, r2, r3, r4⟩ | ⟨-, r⟩
      · have := same p0 p1 q1 r1 q2 r2 (by omega)
        subst this
        exact ⟨p0, q1, q2, q3, r4⟩
      · exact absurd (by omega) (r p0 q1 q2)
    · rcases hb with ⟨p1, r1, r2, r3, r4⟩ | ⟨r, -⟩
      · obtain ⟨c1, g, c2, a1, a2, a3⟩ := plc p1 r1 r2
        exact absurd (by omega) (hno g c1 c2 a1)
      · exact r
  | succ k ih =>
    intro p x n b hx hp hn hb
    obtain ⟨g1, g2⟩ := b4 p (by omega)
    have nxt : ∀ n' b', n' = nI (cT (fun p => decide (ll p = L)) (p + 1)) → ((∃ p0, p0 < p + 1 ∧ ll p0 = L ∧ cT (lft kv lw ll p0) nl + 2 = W ∧ b' = nI p0) ∨ (b' = -1 ∧ ∀ p0, p0 < p + 1 → ll p0 = L → cT (lft kv lw ll p0) nl + 2 ≠ W)) → x_E mX3_level (d + 4) 0 0 76 [(5, .int x), (4, .int b'), (3, .int n'), (2, .int (nI W)), (1, .int (nI L)), (0, .ref m)] [] h Q := by
      intro n' b' hn' hb'
      refine e_iinc dX3_level_76 rfl rfl (by decide) rfl ?_
      refine e_goto (tgt := 37) dX3_level_79 (by decide) ?_
      exact e_loc [5, 4, 3, 2, 1, 0] rfl (ih (p + 1) _ n' b' (by rw [hx]; exact nI_1 p) (by omega) hn' hb')
    refine e_iload dX3_level_37 rfl ?_
    refine e_aload_n dX3_level_39 rfl ?_
    refine e_get dX3_level_40 fX3_65 m0 rfl ?_
    refine e_icmp_ge (tgt := 82) dX3_level_43 (by decide) (fun c => absurd c (by rw [hx]; exact nI_ge (by omega) (by omega))) (fun _ => ?_)
    refine e_aload_n dX3_level_46 rfl ?_
    refine e_get dX3_level_47 fX3_39 m0 rfl ?_
    refine e_iload dX3_level_50 rfl ?_
    refine e_iald dX3_level_52 m9 rfl hx (af_get _ (show p < 60 by omega)) ?_
    refine e_iload_n dX3_level_53 rfl ?_
    refine e_icmp_ne (tgt := 76) dX3_level_54 (by decide) (fun d1 => ?_) (fun d1 => ?_)
    · have hne : ¬ ll p = L := fun z => d1 (by rw [z])
      refine e_loc [5, 4, 3, 2, 1, 0] rfl (nxt n b (cT_n _ hn (by simp [hne])) ?_)
      rcases hb with ⟨p1, r1, r2⟩ | ⟨r1, r2⟩
      · exact Or.inl ⟨p1, by omega, r2⟩
      · refine Or.inr ⟨r1, fun p0 z1 z2 => ?_⟩
        by_cases e : p0 = p
        · subst e; exact absurd z2 hne
        · exact r2 p0 (by omega) z2
    have e1 : ll p = L := (nI_c (by omega) (by omega)).mp d1
    have hlf := cT_le (lft kv lw ll p) nl
    subst hx
    refine e_iinc dX3_level_57 rfl rfl (by decide) rfl ?_
    refine e_aload_n dX3_level_60 rfl ?_
    refine e_iload dX3_level_61 rfl ?_
    refine e_V1d dX3_level_63 gX3_152 m0 rfl (by omega) (Nat.le_of_ble_eq_true rfl) rfl rfl (con_leftOf (d + 1) h m p hm' hB' (by omega)) ?_
    refine e_iload_n dX3_level_66 rfl ?_
    refine e_iconst (v := 2) dX3_level_67 (by decide) ?_
    refine e_isub dX3_level_68 ?_
    have hn' := cT_s _ hn (show decide (ll p = L) = true by simp [e1])
    refine e_icmp_ne (tgt := 76) dX3_level_69 (by decide) (fun d2 => ?_) (fun d2 => ?_)
    · have hne : cT (lft kv lw ll p) nl + 2 ≠ W := fun z => d2 ((sub2 hW (by omega)).mpr z)
      refine e_loc [5, 4, 3, 2, 1, 0] rfl (nxt _ b hn' ?_)
      rcases hb with ⟨p1, r1, r2⟩ | ⟨r1, r2⟩
      · exact Or.inl ⟨p1, by omega, r2⟩
      · refine Or.inr ⟨r1, fun p0 z1 z2 => ?_⟩
        by_cases e : p0 = p
        · subst e; exact hne
        · exact r2 p0 (by omega) z2
    · have heq : cT (lft kv lw ll p) nl + 2 = W := (sub2 hW (by omega)).mp d2
      refine e_iload dX3_level_72 rfl ?_
      refine e_istore dX3_level_74 (by decide) rfl ?_
      exact e_loc [5, 4, 3, 2, 1, 0] rfl (nxt _ (nI p) hn' (Or.inl ⟨p, by omega, e1, heq, rfl⟩))
theorem con_mlevel (d m : Nat) (l what : Int32) (hM : MS h m S q kv cm ks tk sd ck cb hn) (hT : trK S) (h60 : nPg S ≤ 60) (hks : ks ≤ 513) : x_D mX3_level (d + 4) 0 0 [.ref m, .int l, .int what] h [.int (sLev S l what)] h := by
  refine e_enter (by decide) (Nat.le_of_ble_eq_true rfl) ?_
  obtain ⟨it, il, lw, ll, ow, ni, nl, hm, hR⟩ := hM
  obtain ⟨hB, h30⟩ := hR.mB hT h60 hks
  have m0 := hm.1
  have bad : (l < 0 ∨ nI S.length ≤ l ∨ what < 0) → x_E mX3_level (d + 4) 0 0 16 [] [] h (fun rv h' => rv = [.int (sLev S l what)] ∧ h' = h) := by
    intro z
    refine e_iconst (v := (-1)) dX3_level_16 (by decide) ?_
    exact e_iret dX3_level_17 rfl rfl ⟨by unfold sLev; rw [if_pos z], rfl⟩
  refine e_iload_n dX3_level_0 rfl ?_
  refine e_if_lt (tgt := 16) dX3_level_1 (by decide) (fun c1 => ?_) (fun c1 => ?_)
  · exact e_loc [] rfl (bad (Or.inl c1))
  refine e_iload_n dX3_level_4 rfl ?_
  refine e_aload_n dX3_level_5 rfl ?_
  refine e_get dX3_level_6 fX3_88 m0 rfl ?_
  refine e_icmp_ge (tgt := 16) dX3_level_9 (by decide) (fun c2 => ?_) (fun c2 => ?_)
  · exact e_loc [] rfl (bad (Or.inr (Or.inl c2)))
  refine e_iload_n dX3_level_12 rfl ?_
  refine e_if_ge (tgt := 18) dX3_level_13 (by decide) (fun c3 => ?_) (fun c3 => e_loc [] rfl (bad (Or.inr (Or.inr (Int32.not_le.mp c3)))))
  obtain ⟨L, hL1, hL2⟩ := nI_of c1
  obtain ⟨W, hW1, hW2⟩ := nI_of (Int32.not_lt.mpr c3)
  subst hL2
  subst hW2
  have hLS : L < S.length := by
    rcases Nat.lt_or_ge L S.length with z | z
    · exact z
    · exact absurd (nI_le z hL1) c2
  obtain ⟨c, hc⟩ : ∃ c, S[L]? = some c := ⟨_, List.getElem?_eq_getElem hLS⟩
  have hz : sLev S (nI L) (nI W) = if nI W = 0 then nI c.length else if nI W = 1 then nI (nC c) else match c[W - 2]? with
    | some g => nI g.2.2.length
    | none => -1 := by
    unfold sLev
    rw [if_neg (fun z => z.elim c1 (fun z => z.elim c2 (fun z => absurd c3 (Int32.not_le.mpr z)))), nI_clamp hL1, nI_clamp hW1, lvl_at hc]
  rw [hz]
  refine e_iload_n dX3_level_18 rfl ?_
  refine e_iconst (v := 1) dX3_level_19 (by decide) ?_
  refine e_icmp_ne (tgt := 29) dX3_level_20 (by decide) (fun c4 => ?_) (fun c4 => ?_)
  · refine e_iconst (v := 0) dX3_level_29 (by decide) ?_
    refine e_istore_n dX3_level_30 (by decide) rfl ?_
    refine e_iconst (v := (-1)) dX3_level_31 (by decide) ?_
    refine e_istore dX3_level_32 (by decide) rfl ?_
    refine e_iconst (v := 0) dX3_level_34 (by decide) ?_
    refine e_istore dX3_level_35 (by decide) rfl ?_
    refine e_loc [5, 4, 3, 2, 1, 0] rfl (lev_lo d m L W hm hR hT hB (by omega) hW1 hc _ (fun b f1 f2 => ?_) nl 0 0 0 (-1) rfl (by omega) rfl (Or.inr ⟨rfl, fun p0 z => absurd z (by omega)⟩))
    refine e_iload_n dX3_level_82 rfl ?_
    refine e_if_ne (tgt := 88) dX3_level_83 (by decide) (fun c5 => ?_) (fun c5 => ?_)
    · rw [if_neg c5, if_neg c4]
      have hW2' : 2 ≤ W := by
        rcases Nat.lt_or_ge W 2 with z | z
        · have : W = 0 ∨ W = 1 := by omega
          rcases this with rfl | rfl
          · exact absurd rfl c5
          · exact absurd rfl c4
        · exact z
      refine e_iload dX3_level_88 rfl ?_
      cases hg : c[W - 2]? with
      | none =>
        have hb := f2 (fun g c1 c2 e e2 => by
          have : c[W - 2]? = some g := by rw [e, List.getElem?_append_right (by omega), show W - 2 - c1.length = 0 by omega]; rfl
          rw [hg] at this; cases this)
        subst hb
        refine e_if_ge (tgt := 97) dX3_level_90 (by decide) (fun z => absurd z (by decide)) (fun _ => ?_)
        refine e_iconst (v := (-1)) dX3_level_93 (by decide) ?_
        refine e_goto (tgt := 103) dX3_level_94 (by decide) ?_
        exact e_iret dX3_level_103 rfl rfl ⟨rfl, rfl⟩
      | some g =>
        have hlt := (List.getElem?_eq_some_iff.mp hg).1
        have hgx := (List.getElem?_eq_some_iff.mp hg).2
        have e : c = c.take (W - 2) ++ g :: c.drop (W - 2 + 1) := by rw [← hgx, List.getElem_cons_drop, List.take_append_drop]
        obtain ⟨p0, q1, q2, q3, hb⟩ := f1 g (c.take (W - 2)) (c.drop (W - 2 + 1)) e (by rw [List.length_take]; omega)
        subst hb
        have hc' := hc
        rw [e] at hc'
        have := hB.2.1
        refine e_if_ge (tgt := 97) dX3_level_90 (by decide) (fun _ => ?_) (fun z => absurd (nI_pos' (by omega)) z)
        refine e_aload_n dX3_level_97 rfl ?_
        refine e_iload dX3_level_98 rfl ?_
        refine e_V1d dX3_level_100 gX3_84 m0 rfl (by omega) (Nat.le_of_ble_eq_true rfl) rfl rfl (con_filledS d m L p0 ⟨_, _, _, _, _, rfl⟩ hm hR hT h60 hks hc' q1 q2 q3) ?_
        exact e_iret dX3_level_103 rfl rfl ⟨rfl, rfl⟩
    · rw [if_pos c5]
      refine e_iload_n dX3_level_86 rfl ?_
      exact e_iret dX3_level_87 rfl rfl ⟨rfl, rfl⟩
  · refine e_aload_n dX3_level_23 rfl ?_
    refine e_iload_n dX3_level_24 rfl ?_
    refine e_V1d dX3_level_25 gX3_149 m0 rfl (by omega) (Nat.le_of_ble_eq_true rfl) rfl rfl (con_entriesOf (d + 3) h m L hm hB (by omega)) ?_
    refine e_iret dX3_level_28 rfl rfl ⟨?_, rfl⟩
    rw [rr_entries hR hT hc, if_neg (by rw [c4]; decide), if_pos c4]
end ML
end
section
/-! the reference's constructor -/
theorem e_gen {y : xM} {d kc ks pc : Nat} {l : List (Nat × Value)} {st : List Value} {h : xH} {Q : List Value → xH → Prop} (P : xH → Prop) (hp : P h) (k : ∀ h', P h' → x_E y d kc ks pc l st h' Q) : x_E y d kc ks pc l st h Q := k h hp
/-- a new array, put into a field of the object m -/
theorem ini_st {h : xH} {m k a i : Nat} {fs : List Value} {c : xC} (h1 : h.1 = m + 1 + k) (h2 : h.2 m = some (.inr (3, fs))) (ha : a < m + 1 + k) (hm : a ≠ m) : (x_up (x_nw h c) m (.inr (3, fs.set i (.ref h.1)))).2 a = h.2 a := x_up_n (x_nw_n rfl (by omega)) hm

theorem x_nw_at {h : xH} {m k : Nat} {c : xC} (h1 : h.1 = m + 1 + k) : (x_nw h c).2 (m + (k + 1)) = some c := by
  have : m + (k + 1) = h.1 := by omega
  rw [this]
  exact x_nw_s h c
theorem ini_all (d : Nat) (h0 : xH) (m : Nat) (h1 : h0.1 = m + 1) (h2 : h0.2 m = some (.inr (3, [.ref 0, .ref 0, .ref 0, .ref 0, .ref 0, .int 0, .ref 0, .ref 0, .int 0, .ref 0, .ref 0, .ref 0, .int 0, .int 0, .int 0, .int 0, .int 0, .int 0, .ref 0, .int 0, .int 0, .int 0, .int 0]))) (Q : List Value → xH → Prop)
    (fin : ∀ h', (h'.1 = m + 1 + 11 ∧ h'.2 m = some (.inr (3, [.ref (m + 1), .ref (m + 2), .ref (m + 3), .ref (m + 4), .ref (m + 5), .int 1, .ref (m + 6), .ref (m + 7), .int 0, .ref (m + 8), .ref (m + 9), .ref (m + 10), .int 0, .int 0, .int 0, .int 0, .int 0, .int 1, .ref (m + 11), .int 0, .int 0, .int 0, .int 0])) ∧ (∀ a, a < m → h'.2 a = h0.2 a) ∧ h'.2 (m + 1) = some (.inl (2, List.replicate 513 (.long 0))) ∧ h'.2 (m + 2) = some (.inl (2, List.replicate 513 (.long 0))) ∧ h'.2 (m + 3) = some (.inl (2, List.replicate 513 (.long 0))) ∧ h'.2 (m + 4) = some (.inl (2, List.replicate 513 (.long 0))) ∧ h'.2 (m + 5) = some (.inl (3, List.replicate 513 (.int 0))) ∧ h'.2 (m + 6) = some (.inl (3, List.replicate 600 (.int 0))) ∧ h'.2 (m + 7) = some (.inl (3, List.replicate 600 (.int 0))) ∧ h'.2 (m + 8) = some (.inl (3, List.replicate 60 (.int 0))) ∧ h'.2 (m + 9) = some (.inl (3, List.replicate 60 (.int 0))) ∧ h'.2 (m + 10) = some (.inl (4, List.replicate 60 (.int 0))) ∧ h'.2 (m + 11) = some (.inl (3, List.replicate 32 (.int 0)))) → x_E mX3_init (d + 2) 0 0 114 [(0, .ref m)] [] h' Q) :
    x_E mX3_init (d + 2) 11 3977 0 [(0, .ref m)] [] h0 Q := by
  refine e_aload_n dX3_init_0 rfl ?_
  refine e_obj dX3_init_1 h2 ojX3_1 ojI ojC (by omega) (Nat.le_of_ble_eq_true rfl) ?_
  refine e_gen (fun h' => h'.1 = m + 1 + 0 ∧ h'.2 m = some (.inr (3, [.ref 0, .ref 0, .ref 0, .ref 0, .ref 0, .int 0, .ref 0, .ref 0, .int 0, .ref 0, .ref 0, .ref 0, .int 0, .int 0, .int 0, .int 0, .int 0, .int 0, .ref 0, .int 0, .int 0, .int 0, .int 0])) ∧ (∀ a, a < m → h'.2 a = h0.2 a)) ⟨h1, h2, fun _ _ => rfl⟩ (fun h hP => ?_)
  obtain ⟨z1, z2, zf⟩ := hP
  refine e_aload_n dX3_init_4 rfl ?_
  refine e_sipush (v := 513) dX3_init_5 (by decide) ?_
  refine e_newa (k := 2) dX3_init_8 rfl wa_long rfl (by decide) rfl rfl ?_
  refine e_putF dX3_init_10 fX3_7 rfl rfl (x_nw_n z2 (by omega)) (Or.inr ⟨_, rfl⟩) ?_
  refine e_gen (fun h' => h'.1 = m + 1 + 1 ∧ h'.2 m = some (.inr (3, [.ref (m + 1), .ref 0, .ref 0, .ref 0, .ref 0, .int 0, .ref 0, .ref 0, .int 0, .ref 0, .ref 0, .ref 0, .int 0, .int 0, .int 0, .int 0, .int 0, .int 0, .ref 0, .int 0, .int 0, .int 0, .int 0])) ∧ (∀ a, a < m → h'.2 a = h0.2 a) ∧ h'.2 (m + 1) = some (.inl (2, List.replicate 513 (.long 0)))) ⟨by show h.1 + 1 = _; omega, by rw [x_up_s, z1]; rfl, fun a ha => by rw [ini_st z1 z2 (by omega) (by omega)]; exact zf a ha, x_up_n (x_nw_at z1) (by omega)⟩ (fun h hP => ?_)
  obtain ⟨z1, z2, zf, a0⟩ := hP
  refine e_aload_n dX3_init_13 rfl ?_
  refine e_sipush (v := 513) dX3_init_14 (by decide) ?_
  refine e_newa (k := 2) dX3_init_17 rfl wa_long rfl (by decide) rfl rfl ?_
  refine e_putF dX3_init_19 fX3_13 rfl rfl (x_nw_n z2 (by omega)) (Or.inr ⟨_, rfl⟩) ?_
  refine e_gen (fun h' => h'.1 = m + 1 + 2 ∧ h'.2 m = some (.inr (3, [.ref (m + 1), .ref (m + 2), .ref 0, .ref 0, .ref 0, .int 0, .ref 0, .ref 0, .int 0, .ref 0, .ref 0, .ref 0, .int 0, .int 0, .int 0, .int 0, .int 0, .int 0, .ref 0, .int 0, .int 0, .int 0, .int 0])) ∧ (∀ a, a < m → h'.2 a = h0.2 a) ∧ h'.2 (m + 1) = some (.inl (2, List.replicate 513 (.long 0))) ∧ h'.2 (m + 2) = some (.inl (2, List.replicate 513 (.long 0)))) ⟨by show h.1 + 1 = _; omega, by rw [x_up_s, z1]; rfl, fun a ha => by rw [ini_st z1 z2 (by omega) (by omega)]; exact zf a ha, by rw [ini_st z1 z2 (by omega) (by omega)]; exact a0, x_up_n (x_nw_at z1) (by omega)⟩ (fun h hP => ?_)
  obtain ⟨z1, z2, zf, a0, a1⟩ := hP
  refine e_aload_n dX3_init_22 rfl ?_
  refine e_sipush (v := 513) dX3_init_23 (by decide) ?_
  refine e_newa (k := 2) dX3_init_26 rfl wa_long rfl (by decide) rfl rfl ?_
  refine e_putF dX3_init_28 fX3_16 rfl rfl (x_nw_n z2 (by omega)) (Or.inr ⟨_, rfl⟩) ?_
  refine e_gen (fun h' => h'.1 = m + 1 + 3 ∧ h'.2 m = some (.inr (3, [.ref (m + 1), .ref (m + 2), .ref (m + 3), .ref 0, .ref 0, .int 0, .ref 0, .ref 0, .int 0, .ref 0, .ref 0, .ref 0, .int 0, .int 0, .int 0, .int 0, .int 0, .int 0, .ref 0, .int 0, .int 0, .int 0, .int 0])) ∧ (∀ a, a < m → h'.2 a = h0.2 a) ∧ h'.2 (m + 1) = some (.inl (2, List.replicate 513 (.long 0))) ∧ h'.2 (m + 2) = some (.inl (2, List.replicate 513 (.long 0))) ∧ h'.2 (m + 3) = some (.inl (2, List.replicate 513 (.long 0)))) ⟨by show h.1 + 1 = _; omega, by rw [x_up_s, z1]; rfl, fun a ha => by rw [ini_st z1 z2 (by omega) (by omega)]; exact zf a ha, by rw [ini_st z1 z2 (by omega) (by omega)]; exact a0, by rw [ini_st z1 z2 (by omega) (by omega)]; exact a1, x_up_n (x_nw_at z1) (by omega)⟩ (fun h hP => ?_)
  obtain ⟨z1, z2, zf, a0, a1, a2⟩ := hP
  refine e_aload_n dX3_init_31 rfl ?_
  refine e_sipush (v := 513) dX3_init_32 (by decide) ?_
  refine e_newa (k := 2) dX3_init_35 rfl wa_long rfl (by decide) rfl rfl ?_
  refine e_putF dX3_init_37 fX3_19 rfl rfl (x_nw_n z2 (by omega)) (Or.inr ⟨_, rfl⟩) ?_
  refine e_gen (fun h' => h'.1 = m + 1 + 4 ∧ h'.2 m = some (.inr (3, [.ref (m + 1), .ref (m + 2), .ref (m + 3), .ref (m + 4), .ref 0, .int 0, .ref 0, .ref 0, .int 0, .ref 0, .ref 0, .ref 0, .int 0, .int 0, .int 0, .int 0, .int 0, .int 0, .ref 0, .int 0, .int 0, .int 0, .int 0])) ∧ (∀ a, a < m → h'.2 a = h0.2 a) ∧ h'.2 (m + 1) = some (.inl (2, List.replicate 513 (.long 0))) ∧ h'.2 (m + 2) = some (.inl (2, List.replicate 513 (.long 0))) ∧ h'.2 (m + 3) = some (.inl (2, List.replicate 513 (.long 0))) ∧ h'.2 (m + 4) = some (.inl (2, List.replicate 513 (.long 0)))) ⟨by show h.1 + 1 = _; omega, by rw [x_up_s, z1]; rfl, fun a ha => by rw [ini_st z1 z2 (by omega) (by omega)]; exact zf a ha, by rw [ini_st z1 z2 (by omega) (by omega)]; exact a0, by rw [ini_st z1 z2 (by omega) (by omega)]; exact a1, by rw [ini_st z1 z2 (by omega) (by omega)]; exact a2, x_up_n (x_nw_at z1) (by omega)⟩ (fun h hP => ?_)
  obtain ⟨z1, z2, zf, a0, a1, a2, a3⟩ := hP
  refine e_aload_n dX3_init_40 rfl ?_
  refine e_sipush (v := 513) dX3_init_41 (by decide) ?_
  refine e_newa (k := 3) dX3_init_44 rfl wa_int rfl (by decide) rfl rfl ?_
  refine e_putF dX3_init_46 fX3_22 rfl rfl (x_nw_n z2 (by omega)) (Or.inr ⟨_, rfl⟩) ?_
  refine e_gen (fun h' => h'.1 = m + 1 + 5 ∧ h'.2 m = some (.inr (3, [.ref (m + 1), .ref (m + 2), .ref (m + 3), .ref (m + 4), .ref (m + 5), .int 0, .ref 0, .ref 0, .int 0, .ref 0, .ref 0, .ref 0, .int 0, .int 0, .int 0, .int 0, .int 0, .int 0, .ref 0, .int 0, .int 0, .int 0, .int 0])) ∧ (∀ a, a < m → h'.2 a = h0.2 a) ∧ h'.2 (m + 1) = some (.inl (2, List.replicate 513 (.long 0))) ∧ h'.2 (m + 2) = some (.inl (2, List.replicate 513 (.long 0))) ∧ h'.2 (m + 3) = some (.inl (2, List.replicate 513 (.long 0))) ∧ h'.2 (m + 4) = some (.inl (2, List.replicate 513 (.long 0))) ∧ h'.2 (m + 5) = some (.inl (3, List.replicate 513 (.int 0)))) ⟨by show h.1 + 1 = _; omega, by rw [x_up_s, z1]; rfl, fun a ha => by rw [ini_st z1 z2 (by omega) (by omega)]; exact zf a ha, by rw [ini_st z1 z2 (by omega) (by omega)]; exact a0, by rw [ini_st z1 z2 (by omega) (by omega)]; exact a1, by rw [ini_st z1 z2 (by omega) (by omega)]; exact a2, by rw [ini_st z1 z2 (by omega) (by omega)]; exact a3, x_up_n (x_nw_at z1) (by omega)⟩ (fun h hP => ?_)
  obtain ⟨z1, z2, zf, a0, a1, a2, a3, a4⟩ := hP
  refine e_aload_n dX3_init_49 rfl ?_
  refine e_iconst (v := 1) dX3_init_50 (by decide) ?_
  refine e_put dX3_init_51 fX3_26 z2 ⟨rfl, rfl⟩ ?_
  refine e_gen (fun h' => h'.1 = m + 1 + 5 ∧ h'.2 m = some (.inr (3, [.ref (m + 1), .ref (m + 2), .ref (m + 3), .ref (m + 4), .ref (m + 5), .int 1, .ref 0, .ref 0, .int 0, .ref 0, .ref 0, .ref 0, .int 0, .int 0, .int 0, .int 0, .int 0, .int 0, .ref 0, .int 0, .int 0, .int 0, .int 0])) ∧ (∀ a, a < m → h'.2 a = h0.2 a) ∧ h'.2 (m + 1) = some (.inl (2, List.replicate 513 (.long 0))) ∧ h'.2 (m + 2) = some (.inl (2, List.replicate 513 (.long 0))) ∧ h'.2 (m + 3) = some (.inl (2, List.replicate 513 (.long 0))) ∧ h'.2 (m + 4) = some (.inl (2, List.replicate 513 (.long 0))) ∧ h'.2 (m + 5) = some (.inl (3, List.replicate 513 (.int 0)))) ⟨z1, x_up_s _ _ _, fun a ha => by rw [x_up_n rfl (by omega)]; exact zf a ha, x_up_n a0 (by omega), x_up_n a1 (by omega), x_up_n a2 (by omega), x_up_n a3 (by omega), x_up_n a4 (by omega)⟩ (fun h hP => ?_)
  obtain ⟨z1, z2, zf, a0, a1, a2, a3, a4⟩ := hP
  refine e_aload_n dX3_init_54 rfl ?_
  refine e_sipush (v := 600) dX3_init_55 (by decide) ?_
  refine e_newa (k := 3) dX3_init_58 rfl wa_int rfl (by decide) rfl rfl ?_
  refine e_putF dX3_init_60 fX3_30 rfl rfl (x_nw_n z2 (by omega)) (Or.inr ⟨_, rfl⟩) ?_
  refine e_gen (fun h' => h'.1 = m + 1 + 6 ∧ h'.2 m = some (.inr (3, [.ref (m + 1), .ref (m + 2), .ref (m + 3), .ref (m + 4), .ref (m + 5), .int 1, .ref (m + 6), .ref 0, .int 0, .ref 0, .ref 0, .ref 0, .int 0, .int 0, .int 0, .int 0, .int 0, .int 0, .ref 0, .int 0, .int 0, .int 0, .int 0])) ∧ (∀ a, a < m → h'.2 a = h0.2 a) ∧ h'.2 (m + 1) = some (.inl (2, List.replicate 513 (.long 0))) ∧ h'.2 (m + 2) = some (.inl (2, List.replicate 513 (.long 0))) ∧ h'.2 (m + 3) = some (.inl (2, List.replicate 513 (.long 0))) ∧ h'.2 (m + 4) = some (.inl (2, List.replicate 513 (.long 0))) ∧ h'.2 (m + 5) = some (.inl (3, List.replicate 513 (.int 0))) ∧ h'.2 (m + 6) = some (.inl (3, List.replicate 600 (.int 0)))) ⟨by show h.1 + 1 = _; omega, by rw [x_up_s, z1]; rfl, fun a ha => by rw [ini_st z1 z2 (by omega) (by omega)]; exact zf a ha, by rw [ini_st z1 z2 (by omega) (by omega)]; exact a0, by rw [ini_st z1 z2 (by omega) (by omega)]; exact a1, by rw [ini_st z1 z2 (by omega) (by omega)]; exact a2, by rw [ini_st z1 z2 (by omega) (by omega)]; exact a3, by rw [ini_st z1 z2 (by omega) (by omega)]; exact a4, x_up_n (x_nw_at z1) (by omega)⟩ (fun h hP => ?_)
  obtain ⟨z1, z2, zf, a0, a1, a2, a3, a4, a5⟩ := hP
  refine e_aload_n dX3_init_63 rfl ?_
  refine e_sipush (v := 600) dX3_init_64 (by decide) ?_
  refine e_newa (k := 3) dX3_init_67 rfl wa_int rfl (by decide) rfl rfl ?_
  refine e_putF dX3_init_69 fX3_33 rfl rfl (x_nw_n z2 (by omega)) (Or.inr ⟨_, rfl⟩) ?_
  refine e_gen (fun h' => h'.1 = m + 1 + 7 ∧ h'.2 m = some (.inr (3, [.ref (m + 1), .ref (m + 2), .ref (m + 3), .ref (m + 4), .ref (m + 5), .int 1, .ref (m + 6), .ref (m + 7), .int 0, .ref 0, .ref 0, .ref 0, .int 0, .int 0, .int 0, .int 0, .int 0, .int 0, .ref 0, .int 0, .int 0, .int 0, .int 0])) ∧ (∀ a, a < m → h'.2 a = h0.2 a) ∧ h'.2 (m + 1) = some (.inl (2, List.replicate 513 (.long 0))) ∧ h'.2 (m + 2) = some (.inl (2, List.replicate 513 (.long 0))) ∧ h'.2 (m + 3) = some (.inl (2, List.replicate 513 (.long 0))) ∧ h'.2 (m + 4) = some (.inl (2, List.replicate 513 (.long 0))) ∧ h'.2 (m + 5) = some (.inl (3, List.replicate 513 (.int 0))) ∧ h'.2 (m + 6) = some (.inl (3, List.replicate 600 (.int 0))) ∧ h'.2 (m + 7) = some (.inl (3, List.replicate 600 (.int 0)))) ⟨by show h.1 + 1 = _; omega, by rw [x_up_s, z1]; rfl, fun a ha => by rw [ini_st z1 z2 (by omega) (by omega)]; exact zf a ha, by rw [ini_st z1 z2 (by omega) (by omega)]; exact a0, by rw [ini_st z1 z2 (by omega) (by omega)]; exact a1, by rw [ini_st z1 z2 (by omega) (by omega)]; exact a2, by rw [ini_st z1 z2 (by omega) (by omega)]; exact a3, by rw [ini_st z1 z2 (by omega) (by omega)]; exact a4, by rw [ini_st z1 z2 (by omega) (by omega)]; exact a5, x_up_n (x_nw_at z1) (by omega)⟩ (fun h hP => ?_)
  obtain ⟨z1, z2, zf, a0, a1, a2, a3, a4, a5, a6⟩ := hP
  refine e_aload_n dX3_init_72 rfl ?_
  refine e_bipush (v := 60) dX3_init_73 (by decide) ?_
  refine e_newa (k := 3) dX3_init_75 rfl wa_int rfl (by decide) rfl rfl ?_
  refine e_putF dX3_init_77 fX3_36 rfl rfl (x_nw_n z2 (by omega)) (Or.inr ⟨_, rfl⟩) ?_
  refine e_gen (fun h' => h'.1 = m + 1 + 8 ∧ h'.2 m = some (.inr (3, [.ref (m + 1), .ref (m + 2), .ref (m + 3), .ref (m + 4), .ref (m + 5), .int 1, .ref (m + 6), .ref (m + 7), .int 0, .ref (m + 8), .ref 0, .ref 0, .int 0, .int 0, .int 0, .int 0, .int 0, .int 0, .ref 0, .int 0, .int 0, .int 0, .int 0])) ∧ (∀ a, a < m → h'.2 a = h0.2 a) ∧ h'.2 (m + 1) = some (.inl (2, List.replicate 513 (.long 0))) ∧ h'.2 (m + 2) = some (.inl (2, List.replicate 513 (.long 0))) ∧ h'.2 (m + 3) = some (.inl (2, List.replicate 513 (.long 0))) ∧ h'.2 (m + 4) = some (.inl (2, List.replicate 513 (.long 0))) ∧ h'.2 (m + 5) = some (.inl (3, List.replicate 513 (.int 0))) ∧ h'.2 (m + 6) = some (.inl (3, List.replicate 600 (.int 0))) ∧ h'.2 (m + 7) = some (.inl (3, List.replicate 600 (.int 0))) ∧ h'.2 (m + 8) = some (.inl (3, List.replicate 60 (.int 0)))) ⟨by show h.1 + 1 = _; omega, by rw [x_up_s, z1]; rfl, fun a ha => by rw [ini_st z1 z2 (by omega) (by omega)]; exact zf a ha, by rw [ini_st z1 z2 (by omega) (by omega)]; exact a0, by rw [ini_st z1 z2 (by omega) (by omega)]; exact a1, by rw [ini_st z1 z2 (by omega) (by omega)]; exact a2, by rw [ini_st z1 z2 (by omega) (by omega)]; exact a3, by rw [ini_st z1 z2 (by omega) (by omega)]; exact a4, by rw [ini_st z1 z2 (by omega) (by omega)]; exact a5, by rw [ini_st z1 z2 (by omega) (by omega)]; exact a6, x_up_n (x_nw_at z1) (by omega)⟩ (fun h hP => ?_)
  obtain ⟨z1, z2, zf, a0, a1, a2, a3, a4, a5, a6, a7⟩ := hP
  refine e_aload_n dX3_init_80 rfl ?_
  refine e_bipush (v := 60) dX3_init_81 (by decide) ?_
  refine e_newa (k := 3) dX3_init_83 rfl wa_int rfl (by decide) rfl rfl ?_
  refine e_putF dX3_init_85 fX3_39 rfl rfl (x_nw_n z2 (by omega)) (Or.inr ⟨_, rfl⟩) ?_
  refine e_gen (fun h' => h'.1 = m + 1 + 9 ∧ h'.2 m = some (.inr (3, [.ref (m + 1), .ref (m + 2), .ref (m + 3), .ref (m + 4), .ref (m + 5), .int 1, .ref (m + 6), .ref (m + 7), .int 0, .ref (m + 8), .ref (m + 9), .ref 0, .int 0, .int 0, .int 0, .int 0, .int 0, .int 0, .ref 0, .int 0, .int 0, .int 0, .int 0])) ∧ (∀ a, a < m → h'.2 a = h0.2 a) ∧ h'.2 (m + 1) = some (.inl (2, List.replicate 513 (.long 0))) ∧ h'.2 (m + 2) = some (.inl (2, List.replicate 513 (.long 0))) ∧ h'.2 (m + 3) = some (.inl (2, List.replicate 513 (.long 0))) ∧ h'.2 (m + 4) = some (.inl (2, List.replicate 513 (.long 0))) ∧ h'.2 (m + 5) = some (.inl (3, List.replicate 513 (.int 0))) ∧ h'.2 (m + 6) = some (.inl (3, List.replicate 600 (.int 0))) ∧ h'.2 (m + 7) = some (.inl (3, List.replicate 600 (.int 0))) ∧ h'.2 (m + 8) = some (.inl (3, List.replicate 60 (.int 0))) ∧ h'.2 (m + 9) = some (.inl (3, List.replicate 60 (.int 0)))) ⟨by show h.1 + 1 = _; omega, by rw [x_up_s, z1]; rfl, fun a ha => by rw [ini_st z1 z2 (by omega) (by omega)]; exact zf a ha, by rw [ini_st z1 z2 (by omega) (by omega)]; exact a0, by rw [ini_st z1 z2 (by omega) (by omega)]; exact a1, by rw [ini_st z1 z2 (by omega) (by omega)]; exact a2, by rw [ini_st z1 z2 (by omega) (by omega)]; exact a3, by rw [ini_st z1 z2 (by omega) (by omega)]; exact a4, by rw [ini_st z1 z2 (by omega) (by omega)]; exact a5, by rw [ini_st z1 z2 (by omega) (by omega)]; exact a6, by rw [ini_st z1 z2 (by omega) (by omega)]; exact a7, x_up_n (x_nw_at z1) (by omega)⟩ (fun h hP => ?_)
  obtain ⟨z1, z2, zf, a0, a1, a2, a3, a4, a5, a6, a7, a8⟩ := hP
  refine e_aload_n dX3_init_88 rfl ?_
  refine e_bipush (v := 60) dX3_init_89 (by decide) ?_
  refine e_newa (k := 4) dX3_init_91 rfl wa_boolean rfl (by decide) rfl rfl ?_
  refine e_putF dX3_init_93 fX3_42 rfl rfl (x_nw_n z2 (by omega)) (Or.inr ⟨_, rfl⟩) ?_
  refine e_gen (fun h' => h'.1 = m + 1 + 10 ∧ h'.2 m = some (.inr (3, [.ref (m + 1), .ref (m + 2), .ref (m + 3), .ref (m + 4), .ref (m + 5), .int 1, .ref (m + 6), .ref (m + 7), .int 0, .ref (m + 8), .ref (m + 9), .ref (m + 10), .int 0, .int 0, .int 0, .int 0, .int 0, .int 0, .ref 0, .int 0, .int 0, .int 0, .int 0])) ∧ (∀ a, a < m → h'.2 a = h0.2 a) ∧ h'.2 (m + 1) = some (.inl (2, List.replicate 513 (.long 0))) ∧ h'.2 (m + 2) = some (.inl (2, List.replicate 513 (.long 0))) ∧ h'.2 (m + 3) = some (.inl (2, List.replicate 513 (.long 0))) ∧ h'.2 (m + 4) = some (.inl (2, List.replicate 513 (.long 0))) ∧ h'.2 (m + 5) = some (.inl (3, List.replicate 513 (.int 0))) ∧ h'.2 (m + 6) = some (.inl (3, List.replicate 600 (.int 0))) ∧ h'.2 (m + 7) = some (.inl (3, List.replicate 600 (.int 0))) ∧ h'.2 (m + 8) = some (.inl (3, List.replicate 60 (.int 0))) ∧ h'.2 (m + 9) = some (.inl (3, List.replicate 60 (.int 0))) ∧ h'.2 (m + 10) = some (.inl (4, List.replicate 60 (.int 0)))) ⟨by show h.1 + 1 = _; omega, by rw [x_up_s, z1]; rfl, fun a ha => by rw [ini_st z1 z2 (by omega) (by omega)]; exact zf a ha, by rw [ini_st z1 z2 (by omega) (by omega)]; exact a0, by rw [ini_st z1 z2 (by omega) (by omega)]; exact a1, by rw [ini_st z1 z2 (by omega) (by omega)]; exact a2, by rw [ini_st z1 z2 (by omega) (by omega)]; exact a3, by rw [ini_st z1 z2 (by omega) (by omega)]; exact a4, by rw [ini_st z1 z2 (by omega) (by omega)]; exact a5, by rw [ini_st z1 z2 (by omega) (by omega)]; exact a6, by rw [ini_st z1 z2 (by omega) (by omega)]; exact a7, by rw [ini_st z1 z2 (by omega) (by omega)]; exact a8, x_up_n (x_nw_at z1) (by omega)⟩ (fun h hP => ?_)
  obtain ⟨z1, z2, zf, a0, a1, a2, a3, a4, a5, a6, a7, a8, a9⟩ := hP
  refine e_aload_n dX3_init_96 rfl ?_
  refine e_bipush (v := 32) dX3_init_97 (by decide) ?_
  refine e_newa (k := 3) dX3_init_99 rfl wa_int rfl (by decide) rfl rfl ?_
  refine e_putF dX3_init_101 fX3_46 rfl rfl (x_nw_n z2 (by omega)) (Or.inr ⟨_, rfl⟩) ?_
  refine e_gen (fun h' => h'.1 = m + 1 + 11 ∧ h'.2 m = some (.inr (3, [.ref (m + 1), .ref (m + 2), .ref (m + 3), .ref (m + 4), .ref (m + 5), .int 1, .ref (m + 6), .ref (m + 7), .int 0, .ref (m + 8), .ref (m + 9), .ref (m + 10), .int 0, .int 0, .int 0, .int 0, .int 0, .int 0, .ref (m + 11), .int 0, .int 0, .int 0, .int 0])) ∧ (∀ a, a < m → h'.2 a = h0.2 a) ∧ h'.2 (m + 1) = some (.inl (2, List.replicate 513 (.long 0))) ∧ h'.2 (m + 2) = some (.inl (2, List.replicate 513 (.long 0))) ∧ h'.2 (m + 3) = some (.inl (2, List.replicate 513 (.long 0))) ∧ h'.2 (m + 4) = some (.inl (2, List.replicate 513 (.long 0))) ∧ h'.2 (m + 5) = some (.inl (3, List.replicate 513 (.int 0))) ∧ h'.2 (m + 6) = some (.inl (3, List.replicate 600 (.int 0))) ∧ h'.2 (m + 7) = some (.inl (3, List.replicate 600 (.int 0))) ∧ h'.2 (m + 8) = some (.inl (3, List.replicate 60 (.int 0))) ∧ h'.2 (m + 9) = some (.inl (3, List.replicate 60 (.int 0))) ∧ h'.2 (m + 10) = some (.inl (4, List.replicate 60 (.int 0))) ∧ h'.2 (m + 11) = some (.inl (3, List.replicate 32 (.int 0)))) ⟨by show h.1 + 1 = _; omega, by rw [x_up_s, z1]; rfl, fun a ha => by rw [ini_st z1 z2 (by omega) (by omega)]; exact zf a ha, by rw [ini_st z1 z2 (by omega) (by omega)]; exact a0, by rw [ini_st z1 z2 (by omega) (by omega)]; exact a1, by rw [ini_st z1 z2 (by omega) (by omega)]; exact a2, by rw [ini_st z1 z2 (by omega) (by omega)]; exact a3, by rw [ini_st z1 z2 (by omega) (by omega)]; exact a4, by rw [ini_st z1 z2 (by omega) (by omega)]; exact a5, by rw [ini_st z1 z2 (by omega) (by omega)]; exact a6, by rw [ini_st z1 z2 (by omega) (by omega)]; exact a7, by rw [ini_st z1 z2 (by omega) (by omega)]; exact a8, by rw [ini_st z1 z2 (by omega) (by omega)]; exact a9, x_up_n (x_nw_at z1) (by omega)⟩ (fun h hP => ?_)
  obtain ⟨z1, z2, zf, a0, a1, a2, a3, a4, a5, a6, a7, a8, a9, a10⟩ := hP
  refine e_aload_n dX3_init_104 rfl ?_
  refine e_iconst (v := 1) dX3_init_105 (by decide) ?_
  refine e_put dX3_init_106 fX3_49 z2 ⟨rfl, rfl⟩ ?_
  refine e_gen (fun h' => h'.1 = m + 1 + 11 ∧ h'.2 m = some (.inr (3, [.ref (m + 1), .ref (m + 2), .ref (m + 3), .ref (m + 4), .ref (m + 5), .int 1, .ref (m + 6), .ref (m + 7), .int 0, .ref (m + 8), .ref (m + 9), .ref (m + 10), .int 0, .int 0, .int 0, .int 0, .int 0, .int 1, .ref (m + 11), .int 0, .int 0, .int 0, .int 0])) ∧ (∀ a, a < m → h'.2 a = h0.2 a) ∧ h'.2 (m + 1) = some (.inl (2, List.replicate 513 (.long 0))) ∧ h'.2 (m + 2) = some (.inl (2, List.replicate 513 (.long 0))) ∧ h'.2 (m + 3) = some (.inl (2, List.replicate 513 (.long 0))) ∧ h'.2 (m + 4) = some (.inl (2, List.replicate 513 (.long 0))) ∧ h'.2 (m + 5) = some (.inl (3, List.replicate 513 (.int 0))) ∧ h'.2 (m + 6) = some (.inl (3, List.replicate 600 (.int 0))) ∧ h'.2 (m + 7) = some (.inl (3, List.replicate 600 (.int 0))) ∧ h'.2 (m + 8) = some (.inl (3, List.replicate 60 (.int 0))) ∧ h'.2 (m + 9) = some (.inl (3, List.replicate 60 (.int 0))) ∧ h'.2 (m + 10) = some (.inl (4, List.replicate 60 (.int 0))) ∧ h'.2 (m + 11) = some (.inl (3, List.replicate 32 (.int 0)))) ⟨z1, x_up_s _ _ _, fun a ha => by rw [x_up_n rfl (by omega)]; exact zf a ha, x_up_n a0 (by omega), x_up_n a1 (by omega), x_up_n a2 (by omega), x_up_n a3 (by omega), x_up_n a4 (by omega), x_up_n a5 (by omega), x_up_n a6 (by omega), x_up_n a7 (by omega), x_up_n a8 (by omega), x_up_n a9 (by omega), x_up_n a10 (by omega)⟩ (fun h hP => ?_)
  obtain ⟨z1, z2, zf, a0, a1, a2, a3, a4, a5, a6, a7, a8, a9, a10⟩ := hP
  refine e_aload_n dX3_init_109 rfl ?_
  refine e_iconst (v := 0) dX3_init_110 (by decide) ?_
  refine e_put dX3_init_111 fX3_53 z2 ⟨rfl, rfl⟩ ?_
  refine fin _ ⟨z1, x_up_s _ _ _, fun a ha => by rw [x_up_n rfl (by omega)]; exact zf a ha, x_up_n a0 (by omega), x_up_n a1 (by omega), x_up_n a2 (by omega), x_up_n a3 (by omega), x_up_n a4 (by omega), x_up_n a5 (by omega), x_up_n a6 (by omega), x_up_n a7 (by omega), x_up_n a8 (by omega), x_up_n a9 (by omega), x_up_n a10 (by omega)⟩
theorem con_minit (d : Nat) (h : xH) (m : Nat) (h1 : h.1 = m + 1) (h2 : h.2 m = some (.inr (3, [.ref 0, .ref 0, .ref 0, .ref 0, .ref 0, .int 0, .ref 0, .ref 0, .int 0, .ref 0, .ref 0, .ref 0, .int 0, .int 0, .int 0, .int 0, .int 0, .int 0, .ref 0, .int 0, .int 0, .int 0, .int 0]))) : x_Con mX3_init (d + 2) 11 3977 [.ref m] h (fun rv h' => rv = [] ∧ h'.1 = m + 12 ∧ (∀ a, a < m → h'.2 a = h.2 a) ∧ MS h' m S0 (3, 0, true) (fun _ => (0, 0, 0, 0, 0)) (fun _ => 0) 1 1 (-1) 0 false 0) := by
  refine e_enter (by decide) (Nat.le_of_ble_eq_true rfl) ?_
  refine ini_all d h m h1 h2 _ (fun h' hP => ?_)
  obtain ⟨z1, z2, zf, a0, a1, a2, a3, a4, a5, a6, a7, a8, a9, a10⟩ := hP
  rw [af_rep] at a0 a1 a2 a3 a4 a5 a6 a7 a8 a9 a10
  have hm : x_mm h' m (fun _ => (0, 0, 0, 0, 0), fun _ => 0, fun _ => 0, fun _ => 0, fun _ => 0, fun _ => false, fun _ => 0) (1, 0, 0, 0, 0, 0, 0, true, 0, 0, false, 0) := ⟨z2, a0, a1, a2, a3, a4, a5, a6, a7, a8, a9, a10⟩
  refine e_aload_n dX3_init_114 rfl ?_
  refine e_V0 dX3_init_115 gX3_56 z2 rfl (by omega) (Nat.le_of_ble_eq_true rfl) rfl rfl (con_mclear d h' m hm) ?_
  rintro _ h4 ⟨rfl, hm4, hf4⟩
  refine e_ret dX3_init_118 rfl ⟨rfl, by rw [hf4.1, z1], fun a ha => by rw [hf4.2 a (Or.inl ha)]; exact zf a ha, ?_⟩
  exact ⟨_, _, _, _, _, 0, 1, hm4, rr_0 (Nat.le_refl _) (by simp [fu]) (by simp [fu]) (by simp)⟩
end
section
/-! the class's heap and the tree -/
def lowE : xE := (0, 0, 0, 0, -1)
def highE : xE := (-1, -1, -1, -1, 2147483647)
theorem od_low : od lowE = 2147483647 := by decide +kernel
def okE (e : xE) : Prop := 2147483647 ≤ od e
def sk (e : xE) : Nat := if od e = 2147483647 then 0 else od e + 1
theorem sk_lt {e f : xE} (he : okE e) (hf : okE f) : sk e < sk f ↔ od e < od f := by
  unfold okE at *
  unfold sk
  split <;> split <;> omega
theorem sk_le {e f : xE} (he : okE e) (hf : okE f) : sk e ≤ sk f ↔ od e ≤ od f := by
  unfold okE at *
  unfold sk
  split <;> split <;> omega
theorem sk_inj {e f : xE} (he : okE e) (hf : okE f) (h : sk e = sk f) : e = f := by
  refine od_inj ?_
  unfold okE at *
  unfold sk at h
  split at h <;> split at h <;> omega
theorem ok_low : okE lowE := by unfold okE; rw [od_low]; exact Nat.le_refl _
theorem sk_low : sk lowE = 0 := by unfold sk; rw [od_low, if_pos rfl]
theorem ok_pos {e : xE} (h : ¬ e.2.2.2.2 < 0) : okE e ∧ sk e = od e + 1 := by
  have h1 := (pl_lt e).2
  have h2 : 0 ≤ e.2.2.2.2.toInt := by
    have := Int32.le_iff_toInt_le.mp (Int32.not_lt.mp h)
    simpa using this
  have h3 : 2147483648 ≤ od e := by unfold od; omega
  refine ⟨by unfold okE; omega, ?_⟩
  unfold sk
  rw [if_neg (by omega)]
def pa (i : Nat) : Nat := if i = 0 then 5 else 6 + 3 * i
theorem pa_inj {i j : Nat} (h : pa i = pa j) : i = j := by
  unfold pa at h
  split at h <;> split at h <;> omega
theorem pa_ne (i : Nat) : pa i ≠ 0 := by unfold pa; split <;> omega
abbrev cD : Type := Nat → xE × Bool × List xE × List Nat
def pgS (D : cD) (i : Nat) : Pg := (sk (D i).1, (D i).2.1, (D i).2.2.1.map sk)
def trS (ch : List (List Nat)) (D : cD) : Tr := ch.map (fun c => c.map (pgS D))
def nxA (c : List Nat) (k : Nat) : Nat := match c[k + 1]? with
  | some j => pa j
  | none => 0
/-- what the cells of the page i hold, if it stands at k in the level l -/
def CPi (h : xH) (ch : List (List Nat)) (D : cD) (i : Nat) (P : xP) : Prop := x_pg h (pa i) P ∧ x_fe h P.2.1 ∧ x_fb h P.2.2 ∧ ∀ (l : Nat) (c : List Nat) (k : Nat), ch[l]? = some c → c[k]? = some i → P.1.1 = (D i).2.2.1.length ∧ P.1.2.1 = l ∧ h.2 P.1.2.2.1 = some (eC (D i).1) ∧ P.1.2.2.2.1 = nxA c k ∧ P.1.2.2.2.2 = bI (D i).2.1 ∧ x_es h P.2.1 (D i).2.2.1 ∧ ∀ (j b : Nat), (D i).2.2.2[j]? = some b → P.2.2 j = pa b
def CP (h : xH) (ch : List (List Nat)) (D : cD) : Prop := ∀ i, i < 60 → ∃ P, CPi h ch D i P
def CI (ch : List (List Nat)) (D : cD) (tk : Nat) : Prop := trK (trS ch D) ∧ (∃ n, ch.length = n + 1 ∧ ch[n]? = some [0]) ∧ (ch.flatten).Nodup ∧ (∀ (l : Nat) c, ch[l]? = some c → ∀ i ∈ c, i < tk) ∧ tk ≤ 60 ∧ (∀ (l : Nat) c, ch[l]? = some c → ∀ i ∈ c, okE (D i).1 ∧ ∀ x ∈ (D i).2.2.1, okE x) ∧
  (∀ (l : Nat) c, ch[l + 1]? = some c → ∀ i ∈ c, (D i).2.2.2.length = (D i).2.2.1.length ∧ ∀ (j b : Nat) (x : xE), (D i).2.2.1[j]? = some x → (D i).2.2.2[j]? = some b → ∃ c', ch[l]? = some c' ∧ b ∈ c' ∧ sk (D b).1 = sk x) ∧ (∀ c, ch[0]? = some c → ∀ i ∈ c, ∀ x ∈ (D i).2.2.1, ¬ x.2.2.2.2 < 0)
theorem trS_at {ch : List (List Nat)} {D : cD} {l : Nat} {c : List Nat} (h : ch[l]? = some c) : (trS ch D)[l]? = some (c.map (pgS D)) := by simp [trS, h]
theorem trS_of {ch : List (List Nat)} {D : cD} {l : Nat} {p : List Pg} (h : (trS ch D)[l]? = some p) : ∃ c, ch[l]? = some c ∧ p = c.map (pgS D) := by
  simp only [trS, List.getElem?_map] at h
  cases hc : ch[l]? with
  | none => rw [hc] at h; cases h
  | some c => rw [hc] at h; exact ⟨c, rfl, (Option.some.inj h).symm⟩
theorem trS_len (ch : List (List Nat)) (D : cD) : (trS ch D).length = ch.length := by simp [trS]
/-- the zipper among the page numbers -/
theorem cz {D : cD} {c : List Nat} {p1 p2 : List Pg} {g : Pg} (h : c.map (pgS D) = p1 ++ g :: p2) : ∃ c1 i c2, c = c1 ++ i :: c2 ∧ p1 = c1.map (pgS D) ∧ g = pgS D i ∧ p2 = c2.map (pgS D) := by
  obtain ⟨c1, c', e1, e2, e3⟩ := List.map_eq_append_iff.mp h
  obtain ⟨i, c2, e4, e5, e6⟩ := List.map_eq_cons_iff.mp e3
  exact ⟨c1, i, c2, by rw [e1, e4], e2.symm, e5.symm, e6.symm⟩
theorem chain_le {ch : List (List Nat)} {D : cD} {tk : Nat} (hI : CI ch D tk) {l : Nat} {c : List Nat} (hc : ch[l]? = some c) : c.length ≤ 60 := by
  have hnd : c.Nodup := (List.pairwise_flatten.mp hI.2.2.1).1 c (List.mem_of_getElem? hc)
  have hlt := hI.2.2.2.1 l c hc
  have h60 := hI.2.2.2.2.1
  have hsub : c.length ≤ (List.range 60).length := by
    refine hnd.length_le_of_subset (fun i hi => List.mem_range.mpr ?_)
    have := hlt i hi
    omega
  simpa using hsub
section GR
variable {h : xH} {ch : List (List Nat)} {D : cD} {tk : Nat}
theorem go_lo (d e : Nat) (v : xE) {l : Nat} {c1 c2 : List Nat} {i : Nat} (hCP : CP h ch D) (hI : CI ch D tk) (hc : ch[l]? = some (c1 ++ i :: c2)) (hC : InC ((c1 ++ i :: c2).map (pgS D)) (sk v) (c1.map (pgS D)) (pgS D i) (c2.map (pgS D))) (he : h.2 e = some (eC v)) (hv : okE v) :
    ∀ (n k t j : Nat), k + n = c1.length → t ≤ k → (c1 ++ i :: c2)[k]? = some j → x_E mX2_goRight (d + 4) 0 0 4 [(3, .int (nI t)), (2, .ref (pa j)), (1, .ref e)] [] h (fun rv h' => rv = [.ref (pa i)] ∧ h' = h) := by
  have hlen := chain_le hI hc
  simp only [List.length_append, List.length_cons] at hlen
  have okc := hI.2.2.2.2.2.1 l _ hc
  have lt60 : ∀ j ∈ c1 ++ i :: c2, j < 60 := fun j hj => by have := hI.2.2.2.1 l _ hc j hj; have := hI.2.2.2.2.1; omega
  intro n
  induction n with
  | zero =>
    intro k t j hk ht hj
    have e0 : k = c1.length := by omega
    subst e0
    have ej : j = i := by
      rw [List.getElem?_append_right (Nat.le_refl _), Nat.sub_self] at hj
      exact (Option.some.inj hj).symm
    subst ej
    obtain ⟨P, p1, p2, p3, p4⟩ := hCP j (lt60 j (List.mem_append_right _ List.mem_cons_self))
    obtain ⟨q1, q2, q3, q4, q5, q6, q7⟩ := p4 l _ _ hc hj
    have p0 := p1.1
    refine e_iload_n dX2_goRight_4 rfl ?_
    refine e_bipush (v := 60) dX2_goRight_5 (by decide) ?_
    refine e_icmp_ge (tgt := 44) dX2_goRight_7 (by decide) (fun c => absurd c (nI_ge (b := 60) (by omega) (by decide))) (fun _ => ?_)
    refine e_aload_n dX2_goRight_10 rfl ?_
    refine e_get dX2_goRight_11 fX2_100 p0 rfl ?_
    have fin : x_E mX2_goRight (d + 4) 0 0 44 [(2, .ref (pa j))] [] h (fun rv h' => rv = [.ref (pa j)] ∧ h' = h) := by
      refine e_aload_n dX2_goRight_44 rfl ?_
      exact e_aret dX2_goRight_45 rfl (Or.inl ⟨_, rfl⟩) ⟨rfl, rfl⟩
    cases c2 with
    | nil =>
      have : P.1.2.2.2.1 = 0 := by rw [q4]; simp [nxA]
      refine e_ifnull (tgt := 44) dX2_goRight_14 (by decide) (fun _ => e_loc [2] rfl fin) (fun z => absurd this z)
    | cons b c2 =>
      have hb : (c1 ++ j :: b :: c2)[c1.length + 1]? = some b := by rw [List.getElem?_append_right (by omega), show c1.length + 1 - c1.length = 1 by omega]; rfl
      have hn : P.1.2.2.2.1 = pa b := by rw [q4]; simp only [nxA, hb]
      refine e_ifnull (tgt := 44) dX2_goRight_14 (by decide) (fun z => absurd (hn.symm.trans z) (pa_ne b)) (fun _ => ?_)
      have hbm : b ∈ c1 ++ j :: b :: c2 := List.mem_of_getElem? hb
      obtain ⟨Pb, r1, r2, r3, r4⟩ := hCP b (lt60 b hbm)
      obtain ⟨s1, s2, s3, s4, s5, s6, s7⟩ := r4 l _ _ hc hb
      have r0 := r1.1
      refine e_aload_n dX2_goRight_17 rfl ?_
      refine e_aload_n dX2_goRight_18 rfl ?_
      refine e_get dX2_goRight_19 fX2_100 p0 rfl ?_
      rw [hn]
      refine e_get dX2_goRight_22 fX2_145 r0 rfl ?_
      refine e_V1d dX2_goRight_25 gX2_148 he rfl (by omega) (Nat.le_of_ble_eq_true rfl) rfl rfl (con_cmp d h e _ v (D b).1 he s3) ?_
      have hlt : od v < od (D b).1 := (sk_lt hv (okc b hbm).1).mp (hC.2.2.2 (pgS D b) (List.mem_map.mpr ⟨b, List.mem_cons_self, rfl⟩))
      refine e_if_ge (tgt := 33) dX2_goRight_28 (by decide) (fun z => absurd z (by rw [c3_lt (by omega)]; decide)) (fun _ => ?_)
      refine e_aload_n dX2_goRight_31 rfl ?_
      exact e_aret dX2_goRight_32 rfl (Or.inl ⟨_, rfl⟩) ⟨rfl, rfl⟩
  | succ n ih =>
    intro k t j hk ht hj
    have hjm := List.mem_of_getElem? hj
    obtain ⟨P, p1, p2, p3, p4⟩ := hCP j (lt60 j hjm)
    obtain ⟨q1, q2, q3, q4, q5, q6, q7⟩ := p4 l _ _ hc hj
    have p0 := p1.1
    obtain ⟨b, hb⟩ : ∃ b, (c1 ++ i :: c2)[k + 1]? = some b := ⟨_, List.getElem?_eq_getElem (by simp only [List.length_append, List.length_cons]; omega)⟩
    have hbm := List.mem_of_getElem? hb
    have hn : P.1.2.2.2.1 = pa b := by rw [q4]; simp only [nxA, hb]
    obtain ⟨Pb, r1, r2, r3, r4⟩ := hCP b (lt60 b hbm)
    obtain ⟨s1, s2, s3, s4, s5, s6, s7⟩ := r4 l _ _ hc hb
    have r0 := r1.1
    have hle : od (D b).1 ≤ od v := by
      refine (sk_le (okc b hbm).1 hv).mp ?_
      rcases Nat.lt_or_ge (k + 1) c1.length with z | z
      · rw [List.getElem?_append_left z] at hb
        have := hC.2.2.1 (pgS D b) (List.mem_map.mpr ⟨b, List.mem_of_getElem? hb, rfl⟩)
        have h2 : sk (D b).1 < sk (D i).1 := this
        have h3 : sk (D i).1 ≤ sk v := hC.2.1
        omega
      · have : k + 1 = c1.length := by omega
        rw [this, List.getElem?_append_right (Nat.le_refl _), Nat.sub_self] at hb
        have e2 : i = b := Option.some.inj hb
        rw [← e2]
        exact hC.2.1
    refine e_iload_n dX2_goRight_4 rfl ?_
    refine e_bipush (v := 60) dX2_goRight_5 (by decide) ?_
    refine e_icmp_ge (tgt := 44) dX2_goRight_7 (by decide) (fun c => absurd c (nI_ge (b := 60) (by omega) (by decide))) (fun _ => ?_)
    refine e_aload_n dX2_goRight_10 rfl ?_
    refine e_get dX2_goRight_11 fX2_100 p0 rfl ?_
    refine e_ifnull (tgt := 44) dX2_goRight_14 (by decide) (fun z => absurd (hn.symm.trans z) (pa_ne b)) (fun _ => ?_)
    refine e_aload_n dX2_goRight_17 rfl ?_
    refine e_aload_n dX2_goRight_18 rfl ?_
    refine e_get dX2_goRight_19 fX2_100 p0 rfl ?_
    rw [hn]
    refine e_get dX2_goRight_22 fX2_145 r0 rfl ?_
    refine e_V1d dX2_goRight_25 gX2_148 he rfl (by omega) (Nat.le_of_ble_eq_true rfl) rfl rfl (con_cmp d h e _ v (D b).1 he s3) ?_
    refine e_if_ge (tgt := 33) dX2_goRight_28 (by decide) (fun _ => ?_) (fun z => absurd ?_ z)
    · refine e_aload_n dX2_goRight_33 rfl ?_
      refine e_get dX2_goRight_34 fX2_100 p0 rfl ?_
      rw [hn]
      refine e_astore_n dX2_goRight_37 (by decide) rfl ?_
      refine e_iinc dX2_goRight_38 rfl rfl (by decide) rfl ?_
      refine e_goto (tgt := 4) dX2_goRight_41 (by decide) ?_
      have hk := ih (k + 1) (t + 1) b (by omega) (by omega) hb
      rw [← nI_1] at hk
      exact e_loc [3, 2, 1] rfl hk
    · rcases Nat.lt_or_ge (od (D b).1) (od v) with z | z
      · rw [c3_gt (by omega)]; decide
      · rw [show od (D b).1 = od v by omega, c3_rf]; decide
theorem con_goRight (d e k j : Nat) (v : xE) {l : Nat} {c1 c2 : List Nat} {i : Nat} (hCP : CP h ch D) (hI : CI ch D tk) (hc : ch[l]? = some (c1 ++ i :: c2)) (hC : InC ((c1 ++ i :: c2).map (pgS D)) (sk v) (c1.map (pgS D)) (pgS D i) (c2.map (pgS D))) (he : h.2 e = some (eC v)) (hv : okE v) (hk : k ≤ c1.length) (hj : (c1 ++ i :: c2)[k]? = some j) : x_D mX2_goRight (d + 4) 0 0 [.ref (pa j), .ref e] h [.ref (pa i)] h := by
  refine e_enter (by decide) (Nat.le_of_ble_eq_true rfl) ?_
  refine e_aload_n dX2_goRight_0 rfl ?_
  refine e_astore_n dX2_goRight_1 (by decide) rfl ?_
  refine e_iconst (v := 0) dX2_goRight_2 (by decide) ?_
  refine e_istore_n dX2_goRight_3 (by decide) rfl ?_
  exact e_loc [3, 2, 1] rfl (go_lo d e v hCP hI hc hC he hv (c1.length - k) k 0 j (by omega) (by omega) hj)
end GR
end
section
/-! the class: where a page is found -/
def tC (tk fu : Nat) (ws cl : Int32) (ca : Nat) (cb : Bool) (ha : Nat) : xC := .inr (2, [.ref 3, .ref 4, .ref 8, .ref 5, .int (nI tk), .int (nI fu), .int ws, .int cl, .ref ca, .int (bI cb), .ref ha])
section PQ
variable {h : xH} {ch : List (List Nat)} {D : cD} {tk : Nat}
theorem cnt_pos {D : cD} {i : Nat} {v : xE} (h0 : (pgS D i).2.2.head? = some (pgS D i).1) (hok : ∀ x ∈ (D i).2.2.1, okE x) (hl : okE (D i).1) (hv : okE v) (hle : sk (D i).1 ≤ sk v) : 0 < cnt (od v + 1) (D i).2.2.1 := by
  cases hi : (D i).2.2.1 with
  | nil => simp [pgS, hi] at h0
  | cons x t =>
    have hx : sk x = sk (D i).1 := by simpa [pgS, hi] using h0
    have hxo := hok x (by rw [hi]; exact List.mem_cons_self)
    have := (sk_le hxo hv).mp (by rw [hx]; exact hle)
    unfold cnt
    rw [if_pos (by omega)]
    omega
theorem cnt_at {c : Nat} : ∀ {vs : List xE} {m : Nat}, m < cnt c vs → ∃ x, vs[m]? = some x ∧ od x < c := by
  intro vs
  induction vs with
  | nil => intro m h; simp [cnt] at h
  | cons a t ih =>
    intro m h
    unfold cnt at h
    split at h
    · rename_i ha
      cases m with
      | zero => exact ⟨a, rfl, ha⟩
      | succ m => exact ih (by omega)
    · omega
theorem root_top (hI : CI ch D tk) : ∃ n, ch.length = n + 1 ∧ ch[n]? = some [0] := hI.2.1
theorem CI.ex (hI : CI ch D tk) {l : Nat} (hl : l < ch.length) (v : Nat) : ∃ c1 i c2, ch[l]? = some (c1 ++ i :: c2) ∧ InC ((c1 ++ i :: c2).map (pgS D)) v (c1.map (pgS D)) (pgS D i) (c2.map (pgS D)) := by
  obtain ⟨c, hc⟩ : ∃ c, ch[l]? = some c := ⟨_, List.getElem?_eq_getElem hl⟩
  obtain ⟨p1, g, p2, hC⟩ := (hI.1.1 l _ (trS_at hc)).ex v
  obtain ⟨c1, i, c2, e1, e2, e3, e4⟩ := cz hC.1
  subst e2 e3 e4
  rw [e1] at hc hC
  exact ⟨c1, i, c2, hc, hC⟩
theorem pic_lo (d t e : Nat) (v : xE) {fu : Nat} {ws cl : Int32} {ca : Nat} {cb : Bool} {ha : Nat} (ht : h.2 t = some (tC tk fu ws cl ca cb ha)) (hCP : CP h ch D) (hI : CI ch D tk) (he : h.2 e = some (eC v)) (hv : okE v) (l : Nat) {c1 c2 : List Nat} {i : Nat} (hc : ch[l]? = some (c1 ++ i :: c2)) (hC : InC ((c1 ++ i :: c2).map (pgS D)) (sk v) (c1.map (pgS D)) (pgS D i) (c2.map (pgS D))) :
    ∀ (n a j : Nat) (d1 d2 : List Nat), l + n = a → ch[a]? = some (d1 ++ j :: d2) → InC ((d1 ++ j :: d2).map (pgS D)) (sk v) (d1.map (pgS D)) (pgS D j) (d2.map (pgS D)) → x_E mX2_pageInCharge (d + 6) 0 0 14 [(4, .int (nI a)), (3, .ref (pa j)), (2, .ref e), (1, .int (nI l)), (0, .ref t)] [] h (fun rv h' => rv = [.ref (pa i)] ∧ h' = h) := by
  have h60 := hI.2.2.2.2.1
  intro n
  induction n with
  | zero =>
    intro a j d1 d2 ha' hcj hCj
    have : a = l := by omega
    subst this
    rw [hc] at hcj
    have e1 := Option.some.inj hcj
    rw [← e1] at hCj
    have hu := hC.un hCj
    have hlen : c1.length = d1.length := by have := congrArg List.length hu.1; simpa using this
    have e2 := List.append_inj e1 hlen
    have e3 : i = j := (List.cons.inj e2.2).1
    subst e3
    refine e_iload dX2_pageInCharge_14 rfl ?_
    refine e_iload_n dX2_pageInCharge_16 rfl ?_
    refine e_icmp_le (tgt := 47) dX2_pageInCharge_17 (by decide) (fun _ => ?_) (fun z => absurd (Int32.le_refl _) z)
    refine e_aload_n dX2_pageInCharge_47 rfl ?_
    exact e_aret dX2_pageInCharge_48 rfl (Or.inl ⟨_, rfl⟩) ⟨rfl, rfl⟩
  | succ n ih =>
    intro a j d1 d2 ha' hcj hCj
    obtain ⟨a', rfl⟩ : ∃ a', a = a' + 1 := ⟨a - 1, by omega⟩
    have hlen30 : ch.length ≤ 60 := by
      have h1 := nPg_ge (trS ch D) hI.1.2.2.1 (by obtain ⟨n, g, q1, q2, -⟩ := hI.1.2.1; exact ⟨n, g, q1, q2⟩)
      have h2 : nPg (trS ch D) = ch.flatten.length := by
        simp only [nPg, trS, List.map_map, List.length_flatten]
        congr 1
        refine List.map_congr_left fun c _ => ?_
        simp
      have h3 : ch.flatten.length ≤ (List.range 60).length := hI.2.2.1.length_le_of_subset (fun i hi => by
        obtain ⟨c, hc, hi'⟩ := List.mem_flatten.mp hi
        obtain ⟨l', hl'⟩ := List.getElem?_of_mem hc
        have := hI.2.2.2.1 l' c hl' i hi'
        exact List.mem_range.mpr (by omega))
      rw [trS_len] at h1
      simp only [List.length_range] at h3
      omega
    have haL := (List.getElem?_eq_some_iff.mp hcj).1
    have hjm : j ∈ d1 ++ j :: d2 := List.mem_append_right _ List.mem_cons_self
    have hj60 : j < 60 := by have := hI.2.2.2.1 _ _ hcj j hjm; omega
    obtain ⟨P, p1, p2, p3, p4⟩ := hCP j hj60
    have hpos : (d1 ++ j :: d2)[d1.length]? = some j := by rw [List.getElem?_append_right (Nat.le_refl _), Nat.sub_self]; rfl
    obtain ⟨q1, q2, q3, q4, q5, q6, q7⟩ := p4 _ _ _ hcj hpos
    have okj := hI.2.2.2.2.2.1 _ _ hcj j hjm
    have hh := hI.1.2.2.2.1 a' _ (pgS D j) (trS_at hcj) (List.mem_map.mpr ⟨j, hjm, rfl⟩)
    have hcp := cnt_pos hh okj.2 okj.1 hv hCj.2.1
    have hle10 : (D j).2.2.1.length ≤ 10 := by
      have := ((hI.1.1 _ _ (trS_at hcj)).2.2 (pgS D j) (List.mem_map.mpr ⟨j, hjm, rfl⟩)).2.2
      simpa [pgS] using this
    have hcl := cnt_le (od v + 1) (D j).2.2.1
    -- the mark and its page
    obtain ⟨x, hx1, hx2⟩ := cnt_at (show cnt (od v + 1) (D j).2.2.1 - 1 < cnt (od v + 1) (D j).2.2.1 by omega)
    obtain ⟨bl, bm⟩ := hI.2.2.2.2.2.2.1 a' _ hcj j hjm
    obtain ⟨b, hb⟩ : ∃ b, (D j).2.2.2[cnt (od v + 1) (D j).2.2.1 - 1]? = some b := ⟨_, List.getElem?_eq_getElem (by rw [bl]; omega)⟩
    obtain ⟨c', hc', hbc, hbs⟩ := bm _ b x hx1 hb
    have hxo := okj.2 x (List.mem_of_getElem? hx1)
    have hbx : sk (D b).1 ≤ sk v := by rw [hbs]; exact (sk_le hxo hv).mpr (by omega)
    have hPb : P.2.2 (cnt (od v + 1) (D j).2.2.1 - 1) = pa b := q7 _ b hb
    -- the level below
    obtain ⟨f1, f, f2, hcf, hCf⟩ := hI.ex (l := a') (by omega) (sk v)
    rw [hc'] at hcf
    have ec' : c' = f1 ++ f :: f2 := Option.some.inj hcf
    subst ec'
    obtain ⟨k, hk⟩ := List.getElem?_of_mem hbc
    have hkf : k ≤ f1.length := by
      rcases Nat.lt_or_ge f1.length k with z | z
      · rw [List.getElem?_append_right (by omega)] at hk
        obtain ⟨z', hz'⟩ : ∃ z', k - f1.length = z' + 1 := ⟨k - f1.length - 1, by omega⟩
        rw [hz'] at hk
        have hm : b ∈ f2 := List.mem_of_getElem? hk
        have := hCf.2.2.2 (pgS D b) (List.mem_map.mpr ⟨b, hm, rfl⟩)
        have : sk v < sk (D b).1 := this
        omega
      · exact z
    refine e_iload dX2_pageInCharge_14 rfl ?_
    refine e_iload_n dX2_pageInCharge_16 rfl ?_
    refine e_icmp_le (tgt := 47) dX2_pageInCharge_17 (by decide) (fun z => absurd z (nI_ge (by omega) (by omega))) (fun _ => ?_)
    refine e_aload_n dX2_pageInCharge_20 rfl ?_
    refine e_aload_n dX2_pageInCharge_21 rfl ?_
    refine e_V1d dX2_pageInCharge_22 gX2_137 p1.1 rfl (by omega) (Nat.le_of_ble_eq_true rfl) rfl rfl (con_below d h (pa j) e v P (D j).2.2.1 p1 q1 q6 hle10 he hcp) ?_
    rw [hPb]
    refine e_astore dX2_pageInCharge_25 (by decide) rfl ?_
    refine e_aload dX2_pageInCharge_27 rfl ?_
    refine e_ifnonnull (tgt := 34) dX2_pageInCharge_29 (by decide) (fun _ => ?_) (fun z => absurd z (pa_ne b))
    refine e_aload dX2_pageInCharge_34 rfl ?_
    refine e_aload_n dX2_pageInCharge_36 rfl ?_
    refine e_S2d dX2_pageInCharge_37 gX2_141 (by omega) (Nat.le_of_ble_eq_true rfl) rfl rfl (con_goRight (d + 1) e k b v hCP hI hc' hCf he hv hkf hk) ?_
    refine e_astore_n dX2_pageInCharge_40 (by decide) rfl ?_
    refine e_iinc dX2_pageInCharge_41 rfl rfl (by decide) rfl ?_
    refine e_goto (tgt := 14) dX2_pageInCharge_44 (by decide) ?_
    have hk2 := ih a' f f1 f2 (by omega) hc' hCf
    rw [← pk_m1 a'] at hk2
    exact e_loc [4, 3, 2, 1, 0] rfl hk2
theorem con_pic (d t e l : Nat) (v : xE) {fu : Nat} {ws cl : Int32} {ca : Nat} {cb : Bool} {ha : Nat} (ht : h.2 t = some (tC tk fu ws cl ca cb ha)) (hCP : CP h ch D) (hI : CI ch D tk) (he : h.2 e = some (eC v)) (hv : okE v) {c1 c2 : List Nat} {i : Nat} (hc : ch[l]? = some (c1 ++ i :: c2)) (hC : InC ((c1 ++ i :: c2).map (pgS D)) (sk v) (c1.map (pgS D)) (pgS D i) (c2.map (pgS D))) : x_D mX2_pageInCharge (d + 6) 0 0 [.ref t, .int (nI l), .ref e] h [.ref (pa i)] h := by
  refine e_enter (by decide) (Nat.le_of_ble_eq_true rfl) ?_
  obtain ⟨n, hn, hroot⟩ := hI.2.1
  have h60 := hI.2.2.2.2.1
  have hr0 : (0 : Nat) < 60 := by omega
  obtain ⟨P, p1, p2, p3, p4⟩ := hCP 0 hr0
  obtain ⟨q1, q2, -⟩ := p4 n [0] 0 hroot rfl
  have p0 : h.2 5 = some (pgC 5 P.1) := p1.1
  have hlt := (List.getElem?_eq_some_iff.mp hc).1
  -- the root is in charge of all of its level
  have hk := hI.1.1 n _ (trS_at hroot)
  obtain ⟨p, t', ep, hp0⟩ := hk.1
  have hlow0 : (pgS D 0).1 = 0 := by
    have : pgS D 0 = p := by simpa using (List.cons.inj ep).1
    rw [this]; exact hp0
  refine e_aload_n dX2_pageInCharge_0 rfl ?_
  refine e_get dX2_pageInCharge_1 fX2_29 ht rfl ?_
  refine e_astore_n dX2_pageInCharge_4 (by decide) rfl ?_
  refine e_aload_n dX2_pageInCharge_5 rfl ?_
  refine e_get dX2_pageInCharge_6 fX2_29 ht rfl ?_
  refine e_get dX2_pageInCharge_9 fX2_131 p0 rfl ?_
  refine e_istore dX2_pageInCharge_12 (by decide) rfl ?_
  rw [q2]
  refine e_loc [4, 3, 2, 1, 0] rfl (pic_lo d t e v ht hCP hI he hv l hc hC (n - l) n 0 [] [] (by omega) hroot ⟨rfl, ?_, fun q hq => (by cases hq), fun q hq => (by cases hq)⟩)
  rw [hlow0]
  exact Nat.zero_le _
end PQ
end
section
/-! the class: its own fields -/
def tL (tk fu : Nat) (ws cl : Int32) (ca : Nat) (cb : Bool) (ha : Nat) : List Value := [.ref 3, .ref 4, .ref 8, .ref 5, .int (nI tk), .int (nI fu), .int ws, .int cl, .ref ca, .int (bI cb), .ref ha]
theorem e_putT {y : xM} {d kc ks0 pc : Nat} {l : List (Nat × Value)} {st : List Value} {h : xH} {Q : List Value → xH → Prop} {idx k t : Nat} {ty : FieldType} {fs fs' : List Value} {v v' : Value} (hd : decode y.2.1 pc = .ok (.putfield idx, 3)) (hF : x_Fd y.1.cls idx 2 k ty false) (hm : h.2 t = some (.inr (2, fs))) (hv : x_ok ty v') (e : v = v') (he : fs.set k v' = fs') (kk : x_E y d kc ks0 (pc + 3) l st (x_up h t (.inr (2, fs'))) Q) : x_E y d kc ks0 pc l (v :: .ref t :: st) h Q := by
  subst e
  refine e_put hd hF hm hv ?_
  rw [he]
  exact kk
def clQ (q : qW) : Int32 := if q.2.2 then -1 else q.2.1
def qok (q : qW) : Prop := q.2.2 = false → ¬ q.2.1 < 0
theorem qok_sW {q : qW} {n : Int32} (h : qok q) (hn : ¬ n < 0) : qok (sW n q).2 := by
  unfold sW
  by_cases h1 : q.2.2 = true
  · rw [if_pos h1]
    intro z; cases z
  · rw [if_neg h1]
    by_cases h2 : n ≤ q.2.1
    · rw [if_pos h2]
      intro _
      obtain ⟨a, ha, ea⟩ := nI_of (h (by simpa using h1))
      obtain ⟨b, hb, eb⟩ := nI_of hn
      show ¬ q.2.1 - n < 0
      rw [ea, eb] at h2 ⊢
      rw [pk_sub ((nI_leI hb ha).mp h2)]
      exact nI_pos (by omega)
    · rw [if_neg h2]
      intro z; cases z
section CW
variable {h : xH} {tk fu : Nat} {ca : Nat} {cb : Bool} {ha : Nat} {q : qW}
theorem con_setWords (d t : Nat) (n : Int32) (ht : h.2 t = some (tC tk fu q.1 (clQ q) ca cb ha)) (hq : qok q) : x_D mX2_setWords d 0 0 [.ref t, .int n] h [.int (bI (sW n q).1)] (x_up h t (tC tk fu (sW n q).2.1 (clQ (sW n q).2) ca cb ha)) := by
  refine e_enter (by decide) (Nat.le_of_ble_eq_true rfl) ?_
  obtain ⟨se, lf, ub⟩ := q
  cases ub with
  | true =>
    have e0 : sW n (se, lf, true) = (true, se + n, lf, true) := by unfold sW; rw [if_pos rfl]
    rw [e0]
    refine e_aload_n dX2_setWords_0 rfl ?_
    refine e_get dX2_setWords_1 fX2_47 ht rfl ?_
    refine e_iconst (v := (-1)) dX2_setWords_4 (by decide) ?_
    refine e_icmp_ne (tgt := 20) dX2_setWords_5 (by decide) (fun z => absurd rfl z) (fun _ => ?_)
    refine e_aload_n dX2_setWords_8 rfl ?_
    refine e_dup dX2_setWords_9 rfl ?_
    refine e_get dX2_setWords_10 fX2_44 ht rfl ?_
    refine e_iload_n dX2_setWords_13 rfl ?_
    refine e_iadd dX2_setWords_14 ?_
    refine e_putT (fs' := tL tk fu (se + n) (-1) ca cb ha) dX2_setWords_15 fX2_44 ht (by exact ⟨rfl, rfl⟩) rfl rfl ?_
    refine e_iconst (v := 1) dX2_setWords_18 (by decide) ?_
    exact e_iret dX2_setWords_19 rfl rfl ⟨rfl, rfl⟩
  | false =>
    have hlf : ¬ lf < 0 := hq rfl
    have hne : ¬ lf = -1 := fun z => hlf (by rw [z]; decide)
    refine e_aload_n dX2_setWords_0 rfl ?_
    refine e_get dX2_setWords_1 fX2_47 ht rfl ?_
    refine e_iconst (v := (-1)) dX2_setWords_4 (by decide) ?_
    refine e_icmp_ne (tgt := 20) dX2_setWords_5 (by decide) (fun _ => ?_) (fun z => absurd z hne)
    refine e_aload_n dX2_setWords_20 rfl ?_
    refine e_get dX2_setWords_21 fX2_47 ht rfl ?_
    refine e_iload_n dX2_setWords_24 rfl ?_
    refine e_icmp_ge (tgt := 48) dX2_setWords_25 (by decide) (fun z => ?_) (fun z => ?_)
    · have z : n ≤ lf := z
      have e0 : sW n (se, lf, false) = (true, se + n, lf - n, false) := by unfold sW; rw [if_neg Bool.false_ne_true, if_pos z]
      rw [e0]
      refine e_aload_n dX2_setWords_48 rfl ?_
      refine e_dup dX2_setWords_49 rfl ?_
      refine e_get dX2_setWords_50 fX2_44 ht rfl ?_
      refine e_iload_n dX2_setWords_53 rfl ?_
      refine e_iadd dX2_setWords_54 ?_
      refine e_putT (fs' := tL tk fu (se + n) lf ca cb ha) dX2_setWords_55 fX2_44 ht (by exact ⟨rfl, rfl⟩) rfl rfl ?_
      have ht2 := x_up_s h t (.inr (2, tL tk fu (se + n) lf ca cb ha))
      refine e_aload_n dX2_setWords_58 rfl ?_
      refine e_dup dX2_setWords_59 rfl ?_
      refine e_get dX2_setWords_60 fX2_47 ht2 rfl ?_
      refine e_iload_n dX2_setWords_63 rfl ?_
      refine e_isub dX2_setWords_64 ?_
      refine e_putT (fs' := tL tk fu (se + n) (lf - n) ca cb ha) dX2_setWords_65 fX2_47 ht2 (by exact ⟨rfl, rfl⟩) rfl rfl ?_
      refine e_iconst (v := 1) dX2_setWords_68 (by decide) ?_
      exact e_iret dX2_setWords_69 rfl rfl ⟨rfl, x_up_up _ _ _ _⟩
    · have z : ¬ n ≤ lf := z
      have e0 : sW n (se, lf, false) = (false, se + lf, lf, true) := by unfold sW; rw [if_neg Bool.false_ne_true, if_neg z]
      rw [e0]
      refine e_aload_n dX2_setWords_28 rfl ?_
      refine e_dup dX2_setWords_29 rfl ?_
      refine e_get dX2_setWords_30 fX2_44 ht rfl ?_
      refine e_aload_n dX2_setWords_33 rfl ?_
      refine e_get dX2_setWords_34 fX2_47 ht rfl ?_
      refine e_iadd dX2_setWords_37 ?_
      refine e_putT (fs' := tL tk fu (se + lf) lf ca cb ha) dX2_setWords_38 fX2_44 ht (by exact ⟨rfl, rfl⟩) rfl rfl ?_
      have ht2 := x_up_s h t (.inr (2, tL tk fu (se + lf) lf ca cb ha))
      refine e_aload_n dX2_setWords_41 rfl ?_
      refine e_iconst (v := (-1)) dX2_setWords_42 (by decide) ?_
      refine e_putT (fs' := tL tk fu (se + lf) (-1) ca cb ha) dX2_setWords_43 fX2_47 ht2 (by exact ⟨rfl, rfl⟩) rfl rfl ?_
      refine e_iconst (v := 0) dX2_setWords_46 (by decide) ?_
      exact e_iret dX2_setWords_47 rfl rfl ⟨rfl, x_up_up _ _ _ _⟩
theorem con_moveCursor (d t e : Nat) (b : Bool) {ws cl : Int32} (ht : h.2 t = some (tC tk fu ws cl ca cb ha)) : x_D mX2_moveCursor d 0 0 [.ref t, .ref e, .int (bI b)] h [] (x_up h t (tC tk fu ws cl e b ha)) := by
  refine e_enter (by decide) (Nat.le_of_ble_eq_true rfl) ?_
  refine e_aload_n dX2_moveCursor_0 rfl ?_
  refine e_aload_n dX2_moveCursor_1 rfl ?_
  refine e_putT (fs' := tL tk fu ws cl e cb ha) dX2_moveCursor_2 fX2_50 ht (by exact Or.inl ⟨_, rfl⟩) rfl rfl ?_
  have ht2 := x_up_s h t (.inr (2, tL tk fu ws cl e cb ha))
  refine e_aload_n dX2_moveCursor_5 rfl ?_
  refine e_iload_n dX2_moveCursor_6 rfl ?_
  refine e_putT (fs' := tL tk fu ws cl e b ha) dX2_moveCursor_7 fX2_53 ht2 (by cases b <;> exact ⟨rfl, rfl⟩) rfl rfl ?_
  exact e_ret dX2_moveCursor_10 rfl ⟨rfl, x_up_up _ _ _ _⟩
theorem con_takePages (d t n : Nat) {ws cl : Int32} (ht : h.2 t = some (tC tk fu ws cl ca cb ha)) (htk : tk ≤ 60) (hn : n < 100) : x_D mX2_takePages d 0 0 [.ref t, .int (nI n)] h [.int (if tk + n ≤ 60 then 1 else 0)] (if tk + n ≤ 60 then x_up h t (tC (tk + n) tk ws cl ca cb ha) else h) := by
  refine e_enter (by decide) (Nat.le_of_ble_eq_true rfl) ?_
  have e60 : (60 : Int32) - nI tk = nI (60 - tk) := pk_sub (a := 60) htk
  refine e_iload_n dX2_takePages_0 rfl ?_
  refine e_bipush (v := 60) dX2_takePages_1 (by decide) ?_
  refine e_aload_n dX2_takePages_3 rfl ?_
  refine e_get dX2_takePages_4 fX2_37 ht rfl ?_
  refine e_isub dX2_takePages_7 ?_
  rw [e60]
  refine e_icmp_le (tgt := 13) dX2_takePages_8 (by decide) (fun z => ?_) (fun z => ?_)
  · have hle : tk + n ≤ 60 := by have := (nI_leI (by omega) (by omega)).mp z; omega
    refine e_aload_n dX2_takePages_13 rfl ?_
    refine e_aload_n dX2_takePages_14 rfl ?_
    refine e_get dX2_takePages_15 fX2_37 ht rfl ?_
    refine e_putT (fs' := tL tk tk ws cl ca cb ha) dX2_takePages_18 fX2_41 ht (by exact ⟨rfl, rfl⟩) rfl rfl ?_
    have ht2 := x_up_s h t (.inr (2, tL tk tk ws cl ca cb ha))
    refine e_aload_n dX2_takePages_21 rfl ?_
    refine e_dup dX2_takePages_22 rfl ?_
    refine e_get dX2_takePages_23 fX2_37 ht2 rfl ?_
    refine e_iload_n dX2_takePages_26 rfl ?_
    refine e_iadd dX2_takePages_27 ?_
    refine e_putT (fs' := tL (tk + n) tk ws cl ca cb ha) dX2_takePages_28 fX2_37 ht2 (by exact ⟨rfl, rfl⟩) (congrArg Value.int (nI_add tk n)) rfl ?_
    refine e_iconst (v := 1) dX2_takePages_31 (by decide) ?_
    refine e_iret dX2_takePages_32 rfl rfl ⟨by rw [if_pos hle], ?_⟩
    rw [if_pos hle, x_up_up]
    rfl
  · have hgt : ¬ tk + n ≤ 60 := fun q => z ((nI_leI (by omega) (by omega)).mpr (by omega))
    refine e_iconst (v := 0) dX2_takePages_11 (by decide) ?_
    exact e_iret dX2_takePages_12 rfl rfl ⟨by rw [if_neg hgt], by rw [if_neg hgt]⟩
def pgA : xC := .inl (1, (List.range 60).map (fun i => .ref (pa i)))
theorem pgA_get {i : Nat} (hi : i < 60) : ((List.range 60).map (fun i => Value.ref (pa i)))[i]? = some (.ref (pa i)) := by simp [hi]
theorem con_useTaken (d l : Nat) {P : xP} {ws cl : Int32} (ht : h.2 2 = some (tC tk fu ws cl ca cb ha)) (h8 : h.2 8 = some pgA) (htk : tk ≤ 60) (hfu : fu < tk) (hp : x_pg h (pa fu) P) : x_D mX2_useTakenPage (d + 1) 0 0 [.ref 2, .int (nI l)] h [.ref (pa fu)] (x_ps (x_up h 2 (tC tk (fu + 1) ws cl ca cb ha)) (pa fu) ((0, l, 3, 0, 0), P.2)) := by
  refine e_enter (by decide) (Nat.le_of_ble_eq_true rfl) ?_
  refine e_aload_n dX2_useTakenPage_0 rfl ?_
  refine e_get dX2_useTakenPage_1 fX2_41 ht rfl ?_
  refine e_if_lt (tgt := 30) dX2_useTakenPage_4 (by decide) (fun z => absurd z (nI_pos (by omega))) (fun _ => ?_)
  refine e_aload_n dX2_useTakenPage_7 rfl ?_
  refine e_get dX2_useTakenPage_8 fX2_41 ht rfl ?_
  refine e_aload_n dX2_useTakenPage_11 rfl ?_
  refine e_get dX2_useTakenPage_12 fX2_37 ht rfl ?_
  refine e_icmp_ge (tgt := 30) dX2_useTakenPage_15 (by decide) (fun z => absurd z (nI_ge hfu (by omega))) (fun _ => ?_)
  refine e_aload_n dX2_useTakenPage_18 rfl ?_
  refine e_get dX2_useTakenPage_19 fX2_41 ht rfl ?_
  refine e_aload_n dX2_useTakenPage_22 rfl ?_
  refine e_get dX2_useTakenPage_23 fX2_33 ht rfl ?_
  refine e_alen dX2_useTakenPage_26 h8 (by decide) rfl ?_
  refine e_icmp_lt (tgt := 32) dX2_useTakenPage_27 (by decide) (fun _ => ?_) (fun z => absurd (by rw [List.length_map, List.length_range]; exact nI_lt (by omega) (by omega)) z)
  refine e_aload_n dX2_useTakenPage_32 rfl ?_
  refine e_get dX2_useTakenPage_33 fX2_33 ht rfl ?_
  refine e_aload_n dX2_useTakenPage_36 rfl ?_
  refine e_get dX2_useTakenPage_37 fX2_41 ht rfl ?_
  refine e_aald dX2_useTakenPage_40 h8 rfl rfl rfl (pgA_get (show fu < 60 by omega)) ?_
  refine e_astore_n dX2_useTakenPage_41 (by decide) rfl ?_
  refine e_aload_n dX2_useTakenPage_42 rfl ?_
  refine e_dup dX2_useTakenPage_43 rfl ?_
  refine e_get dX2_useTakenPage_44 fX2_41 ht rfl ?_
  refine e_iconst (v := 1) dX2_useTakenPage_47 (by decide) ?_
  refine e_iadd dX2_useTakenPage_48 ?_
  refine e_putT (fs' := tL tk (fu + 1) ws cl ca cb ha) dX2_useTakenPage_49 fX2_41 ht (by exact ⟨rfl, rfl⟩) (congrArg Value.int (nI_1 fu)) rfl ?_
  have ht2 := x_up_s h 2 (.inr (2, tL tk (fu + 1) ws cl ca cb ha))
  have n2 : pa fu ≠ 2 ∧ pa fu + 1 ≠ 2 ∧ pa fu + 2 ≠ 2 := by unfold pa; split <;> omega
  have hp2 : x_pg (x_up h 2 (.inr (2, tL tk (fu + 1) ws cl ca cb ha))) (pa fu) P := ⟨x_up_n hp.1 n2.1, x_up_n hp.2.1 n2.2.1, x_up_n hp.2.2 n2.2.2⟩
  refine e_aload_n dX2_useTakenPage_52 rfl ?_
  refine e_iload_n dX2_useTakenPage_53 rfl ?_
  refine e_aload_n dX2_useTakenPage_54 rfl ?_
  refine e_get dX2_useTakenPage_55 fX2_14 ht2 rfl ?_
  refine e_V2d dX2_useTakenPage_58 gX2_127 hp2.1 rfl (by omega) (Nat.le_of_ble_eq_true rfl) rfl rfl (con_reset d _ (pa fu) l 3 P hp2) ?_
  refine e_aload_n dX2_useTakenPage_61 rfl ?_
  exact e_aret dX2_useTakenPage_62 rfl (Or.inl ⟨_, rfl⟩) ⟨rfl, rfl⟩
end CW
end
section
/-! the class: pages needed -/
theorem path_same {S : Tr} {w : Nat → Nat} {top : Nat} {rs : Bool} (hT : trK S) (hP : pth S w 0 top rs) : ∀ j, j ≤ top → ∃ c1 g c2, S[j]? = some (c1 ++ g :: c2) ∧ InC (c1 ++ g :: c2) (w j) c1 g c2 ∧ InC (c1 ++ g :: c2) (w 0) c1 g c2 := by
  intro j
  induction j with
  | zero =>
    intro _
    obtain ⟨c1, g, c2, a1, a2, -⟩ := hP.2 0 (Nat.le_refl _) (by omega)
    exact ⟨c1, g, c2, a1, a2, a2⟩
  | succ j ih =>
    intro hj
    obtain ⟨c1, g, c2, a1, a2, a3⟩ := ih (by omega)
    obtain ⟨c1', g', c2', b1, b2, b3, b4, b5, b6⟩ := hP.2 j (by omega) (by omega)
    rw [a1] at b1
    have e := Option.some.inj b1
    rw [← e] at b2
    obtain ⟨-, e2, -⟩ := a2.un b2
    subst e2
    obtain ⟨f1, f2⟩ := b5 (by omega)
    obtain ⟨x, hx1, hx2, -, -⟩ := full5 f1
    have hxm : x ∈ g.2.2 := List.mem_of_getElem? hx1
    have hk := hT.1 j _ a1
    have w1 : g.1 ≤ w (j + 1) := by rw [f2, hx2]; exact (hk.2.2 g (List.mem_append_right _ List.mem_cons_self)).2.1 x hxm
    have hw2 := List.pairwise_append.mp hk.2.1
    have w2 : ∀ q ∈ c2, w (j + 1) < q.1 := fun q hq => by rw [f2, hx2]; exact ((List.pairwise_cons.mp hw2.2.1).1 q hq).2 x hxm
    obtain ⟨d1, k, d2, k1, k2, -⟩ := hP.2 (j + 1) (by omega) hj
    -- a low of the level above is one of this level
    have low : ∀ q ∈ d1 ++ k :: d2, ∃ r ∈ c1 ++ g :: c2, r.1 = q.1 := by
      intro q hq
      have hh := hT.2.2.2.1 j _ q k1 hq
      obtain ⟨c, r, hc, hr, e⟩ := hT.2.2.2.2.1 j q.1 ⟨_, q, k1, hq, List.mem_of_mem_head? (by rw [hh]; exact rfl)⟩
      rw [a1] at hc
      cases hc
      exact ⟨r, hr, e⟩
    have side : ∀ r ∈ c1 ++ g :: c2, r.1 ≤ g.1 ∨ (w (j + 1) < r.1 ∧ w 0 < r.1) := by
      intro r hr
      rcases List.mem_append.mp hr with z | z
      · exact Or.inl (Nat.le_of_lt (a2.2.2.1 r z))
      · rcases List.mem_cons.mp z with rfl | z
        · exact Or.inl (Nat.le_refl _)
        · exact Or.inr ⟨w2 r z, a3.2.2.2 r z⟩
    have g0 : g.1 ≤ w 0 := a3.2.1
    refine ⟨d1, k, d2, k1, k2, rfl, ?_, k2.2.2.1, fun q hq => ?_⟩
    · obtain ⟨r, hr, e1⟩ := low k (List.mem_append_right _ List.mem_cons_self)
      have := k2.2.1
      rcases side r hr with z | z
      · omega
      · omega
    · obtain ⟨r, hr, e1⟩ := low q (List.mem_append_right _ (List.mem_cons_of_mem _ hq))
      have := k2.2.2.2 q hq
      rcases side r hr with z | z
      · omega
      · omega
section PN
variable {h : xH} {ch : List (List Nat)} {D : cD} {tk : Nat}
theorem ch_len {bd : Nat} (hI : CI ch D bd) : ch.length ≤ 30 ∧ nPg (trS ch D) = ch.flatten.length ∧ ch.flatten.length ≤ bd := by
  have h1 := nPg_ge (trS ch D) hI.1.2.2.1 (by obtain ⟨n, g, q1, q2, -⟩ := hI.1.2.1; exact ⟨n, g, q1, q2⟩)
  have h2 : nPg (trS ch D) = ch.flatten.length := by
    simp only [nPg, trS, List.map_map, List.length_flatten]
    congr 1
    refine List.map_congr_left fun c _ => ?_
    simp
  have h3 : ch.flatten.length ≤ (List.range bd).length := hI.2.2.1.length_le_of_subset (fun i hi => by
    obtain ⟨c, hc, hi'⟩ := List.mem_flatten.mp hi
    obtain ⟨l', hl'⟩ := List.getElem?_of_mem hc
    exact List.mem_range.mpr (hI.2.2.2.1 l' c hl' i hi'))
  rw [trS_len] at h1
  simp only [List.length_range] at h3
  have := hI.2.2.2.2.1
  exact ⟨by omega, h2, h3⟩
/-- the root stands in the top level alone -/
theorem root_only (hI : CI ch D tk) {l : Nat} {c : List Nat} (hc : ch[l]? = some c) : 0 ∈ c ↔ l + 1 = ch.length := by
  obtain ⟨n, hn, hr⟩ := hI.2.1
  constructor
  · intro h0
    rcases Nat.lt_trichotomy l n with z | z | z
    · exfalso
      have hp := (List.pairwise_flatten.mp hI.2.2.1).2
      rw [List.pairwise_iff_getElem] at hp
      have h1 := (List.getElem?_eq_some_iff.mp hc)
      have h2 := (List.getElem?_eq_some_iff.mp hr)
      have := hp l n h1.1 h2.1 z
      rw [h1.2, h2.2] at this
      exact this 0 h0 0 List.mem_cons_self rfl
    · omega
    · have := (List.getElem?_eq_some_iff.mp hc).1
      omega
  · intro e
    have : l = n := by omega
    subst this
    rw [hr] at hc
    cases hc
    exact List.mem_cons_self
theorem zp_cls (hI : CI ch D tk) {l : Nat} {p1 p2 : List Pg} {g : Pg} {v : Nat} (hl : (trS ch D)[l]? = some (p1 ++ g :: p2)) (hC : InC (p1 ++ g :: p2) v p1 g p2) : ∃ c1 i c2, ch[l]? = some (c1 ++ i :: c2) ∧ p1 = c1.map (pgS D) ∧ g = pgS D i ∧ p2 = c2.map (pgS D) ∧ InC ((c1 ++ i :: c2).map (pgS D)) v (c1.map (pgS D)) (pgS D i) (c2.map (pgS D)) := by
  obtain ⟨c, hc, e⟩ := trS_of hl
  obtain ⟨c1, i, c2, e1, e2, e3, e4⟩ := cz e.symm
  subst e2 e3 e4 e1
  refine ⟨c1, i, c2, hc, rfl, rfl, rfl, ?_⟩
  rw [e] at hC
  exact hC
theorem need_lo (d t e top : Nat) (v : xE) (w : Nat → Nat) (rs : Bool) {fu : Nat} {ws cl : Int32} {ca : Nat} {cb : Bool} {ha : Nat} (ht : h.2 t = some (tC tk fu ws cl ca cb ha)) (hCP : CP h ch D) (hI : CI ch D tk) (he : h.2 e = some (eC v)) (hv : okE v) (hP : pth (trS ch D) w 0 top rs) (hw : w 0 = sk v) :
    ∀ (k j : Nat), j + k = top → x_E mX2_pagesNeeded (d + 7) 0 0 4 [(3, .int (nI j)), (2, .int (nI j)), (1, .ref e), (0, .ref t)] [] h (fun rv h' => rv = [.int (nI (wnt top rs))] ∧ h' = h) := by
  obtain ⟨h30, -, -⟩ := ch_len hI
  have htop := hP.1
  rw [trS_len] at htop
  obtain ⟨n, hn, hroot⟩ := hI.2.1
  obtain ⟨P0, p01, -, -, p04⟩ := hCP 0 (by omega)
  have q02 := (p04 n [0] 0 hroot rfl).2.1
  have p00 : h.2 5 = some (pgC 5 P0.1) := p01.1
  have h60 := hI.2.2.2.2.1
  intro k
  induction k with
  | zero =>
    intro j hj
    have ej : j = top := by omega
    subst ej
    obtain ⟨p1, g, p2, a1, a2, a3⟩ := path_same hI.1 hP j (Nat.le_refl _)
    obtain ⟨p1', g', p2', b1, b2, b3, b4, b5, b6⟩ := hP.2 j (by omega) (Nat.le_refl _)
    rw [a1] at b1
    have e0 := Option.some.inj b1
    rw [← e0] at b2
    obtain ⟨-, e2, -⟩ := a2.un b2
    subst e2
    have b7 := b6 rfl
    rw [hw] at a3
    obtain ⟨c1, i, c2, hc, r1, r2, r3, hC⟩ := zp_cls hI a1 a3
    have him : i ∈ c1 ++ i :: c2 := List.mem_append_right _ List.mem_cons_self
    obtain ⟨P, p1', p2', p3', p4'⟩ := hCP i (by have := hI.2.2.2.1 _ _ hc i him; omega)
    have hpos : (c1 ++ i :: c2)[c1.length]? = some i := by rw [List.getElem?_append_right (Nat.le_refl _), Nat.sub_self]; rfl
    have q1 := (p4' _ _ _ hc hpos).1
    have hsz : P.1.1 = g.2.2.length := by rw [q1, r2]; simp [pgS]
    have p0 := p1'.1
    refine e_iload_n dX2_pagesNeeded_4 rfl ?_
    refine e_aload_n dX2_pagesNeeded_5 rfl ?_
    refine e_get dX2_pagesNeeded_6 fX2_29 ht rfl ?_
    refine e_get dX2_pagesNeeded_9 fX2_131 p00 rfl ?_
    rw [q02]
    refine e_icmp_gt (tgt := 58) dX2_pagesNeeded_12 (by decide) (fun z => absurd z (nI_nlt (by omega) (by omega))) (fun _ => ?_)
    refine e_aload_n dX2_pagesNeeded_15 rfl ?_
    refine e_iload_n dX2_pagesNeeded_16 rfl ?_
    refine e_aload_n dX2_pagesNeeded_17 rfl ?_
    refine e_V2d dX2_pagesNeeded_18 gX2_60 ht rfl (by omega) (Nat.le_of_ble_eq_true rfl) rfl rfl (con_pic d t e j v ht hCP hI he hv hc hC) ?_
    refine e_astore dX2_pagesNeeded_21 (by decide) rfl ?_
    refine e_aload dX2_pagesNeeded_23 rfl ?_
    refine e_get dX2_pagesNeeded_25 fX2_97 p0 rfl ?_
    refine e_bipush (v := 10) dX2_pagesNeeded_28 (by decide) ?_
    rw [hsz]
    cases rs with
    | false =>
      have b8 : g.2.2.length < 10 := b7
      refine e_icmp_ge (tgt := 35) dX2_pagesNeeded_30 (by decide) (fun z => absurd z (nI_ge (b := 10) b8 (by decide))) (fun _ => ?_)
      refine e_iload_n dX2_pagesNeeded_33 rfl ?_
      exact e_iret dX2_pagesNeeded_34 rfl rfl ⟨rfl, rfl⟩
    | true =>
      have b8 : g.2.2.length = 10 ∧ j + 1 = (trS ch D).length := b7
      rw [trS_len] at b8
      have hi0 : i = 0 := by
        have e3 : n = j := by omega
        rw [e3, hc] at hroot
        have hr' := Option.some.inj hroot
        cases c1 with
        | nil => exact (List.cons.inj hr').1
        | cons a c1 => simp at hr'
      subst hi0
      refine e_icmp_ge (tgt := 35) dX2_pagesNeeded_30 (by decide) (fun _ => ?_) (fun z => absurd (by rw [b8.1]; decide) z)
      refine e_iload_n dX2_pagesNeeded_35 rfl ?_
      refine e_aload dX2_pagesNeeded_36 rfl ?_
      refine e_aload_n dX2_pagesNeeded_38 rfl ?_
      refine e_get dX2_pagesNeeded_39 fX2_29 ht rfl ?_
      refine e_acmp_ne (tgt := 49) dX2_pagesNeeded_42 (by decide) (fun z => absurd rfl z) (fun _ => ?_)
      refine e_iconst (v := 2) dX2_pagesNeeded_45 (by decide) ?_
      refine e_goto (tgt := 50) dX2_pagesNeeded_46 (by decide) ?_
      refine e_iadd dX2_pagesNeeded_50 ?_
      refine e_istore_n dX2_pagesNeeded_51 (by decide) rfl ?_
      refine e_iinc dX2_pagesNeeded_52 rfl rfl (by decide) rfl ?_
      refine e_goto (tgt := 4) dX2_pagesNeeded_55 (by decide) ?_
      refine e_iload_n dX2_pagesNeeded_4 rfl ?_
      refine e_aload_n dX2_pagesNeeded_5 rfl ?_
      refine e_get dX2_pagesNeeded_6 fX2_29 ht rfl ?_
      refine e_get dX2_pagesNeeded_9 fX2_131 p00 rfl ?_
      rw [q02]
      refine e_icmp_gt (tgt := 58) dX2_pagesNeeded_12 (by decide) (fun _ => ?_) (fun z => absurd ?_ z)
      · refine e_iload_n dX2_pagesNeeded_58 rfl ?_
        exact e_iret dX2_pagesNeeded_59 rfl rfl ⟨congrArg (fun z => [Value.int z]) (nI_add j 2), rfl⟩
      · show nI n < nI j + 1
        rw [nI_1]
        exact nI_lt (by omega) (by omega)
  | succ k ih =>
    intro j hj
    obtain ⟨p1, g, p2, a1, a2, a3⟩ := path_same hI.1 hP j (by omega)
    obtain ⟨p1', g', p2', b1, b2, b3, b4, b5, b6⟩ := hP.2 j (by omega) (by omega)
    rw [a1] at b1
    have e0 := Option.some.inj b1
    rw [← e0] at b2
    obtain ⟨-, e2, -⟩ := a2.un b2
    subst e2
    obtain ⟨b7, b8⟩ := b5 (by omega)
    rw [hw] at a3
    obtain ⟨c1, i, c2, hc, r1, r2, r3, hC⟩ := zp_cls hI a1 a3
    have him : i ∈ c1 ++ i :: c2 := List.mem_append_right _ List.mem_cons_self
    obtain ⟨P, p1', p2', p3', p4'⟩ := hCP i (by have := hI.2.2.2.1 _ _ hc i him; omega)
    have hpos : (c1 ++ i :: c2)[c1.length]? = some i := by rw [List.getElem?_append_right (Nat.le_refl _), Nat.sub_self]; rfl
    have q1 := (p4' _ _ _ hc hpos).1
    have hsz : P.1.1 = g.2.2.length := by rw [q1, r2]; simp [pgS]
    have p0 := p1'.1
    have hi0 : i ≠ 0 := fun z => by
      subst z
      have := (root_only hI hc).mp him
      omega
    have hpa : ¬ pa i = 5 := fun z => hi0 (pa_inj (j := 0) z)
    refine e_iload_n dX2_pagesNeeded_4 rfl ?_
    refine e_aload_n dX2_pagesNeeded_5 rfl ?_
    refine e_get dX2_pagesNeeded_6 fX2_29 ht rfl ?_
    refine e_get dX2_pagesNeeded_9 fX2_131 p00 rfl ?_
    rw [q02]
    refine e_icmp_gt (tgt := 58) dX2_pagesNeeded_12 (by decide) (fun z => absurd z (nI_nlt (by omega) (by omega))) (fun _ => ?_)
    refine e_aload_n dX2_pagesNeeded_15 rfl ?_
    refine e_iload_n dX2_pagesNeeded_16 rfl ?_
    refine e_aload_n dX2_pagesNeeded_17 rfl ?_
    refine e_V2d dX2_pagesNeeded_18 gX2_60 ht rfl (by omega) (Nat.le_of_ble_eq_true rfl) rfl rfl (con_pic d t e j v ht hCP hI he hv hc hC) ?_
    refine e_astore dX2_pagesNeeded_21 (by decide) rfl ?_
    refine e_aload dX2_pagesNeeded_23 rfl ?_
    refine e_get dX2_pagesNeeded_25 fX2_97 p0 rfl ?_
    refine e_bipush (v := 10) dX2_pagesNeeded_28 (by decide) ?_
    rw [hsz]
    refine e_icmp_ge (tgt := 35) dX2_pagesNeeded_30 (by decide) (fun _ => ?_) (fun z => absurd (by rw [b7]; decide) z)
    refine e_iload_n dX2_pagesNeeded_35 rfl ?_
    refine e_aload dX2_pagesNeeded_36 rfl ?_
    refine e_aload_n dX2_pagesNeeded_38 rfl ?_
    refine e_get dX2_pagesNeeded_39 fX2_29 ht rfl ?_
    refine e_acmp_ne (tgt := 49) dX2_pagesNeeded_42 (by decide) (fun _ => ?_) (fun z => absurd z hpa)
    refine e_iconst (v := 1) dX2_pagesNeeded_49 (by decide) ?_
    refine e_iadd dX2_pagesNeeded_50 ?_
    refine e_istore_n dX2_pagesNeeded_51 (by decide) rfl ?_
    refine e_iinc dX2_pagesNeeded_52 rfl rfl (by decide) rfl ?_
    refine e_goto (tgt := 4) dX2_pagesNeeded_55 (by decide) ?_
    have hk := ih (j + 1) (by omega)
    rw [← nI_1] at hk
    exact e_loc [3, 2, 1, 0] rfl hk
theorem con_need (d t e top : Nat) (v : xE) (w : Nat → Nat) (rs : Bool) {fu : Nat} {ws cl : Int32} {ca : Nat} {cb : Bool} {ha : Nat} (ht : h.2 t = some (tC tk fu ws cl ca cb ha)) (hCP : CP h ch D) (hI : CI ch D tk) (he : h.2 e = some (eC v)) (hv : okE v) (hP : pth (trS ch D) w 0 top rs) (hw : w 0 = sk v) : x_D mX2_pagesNeeded (d + 7) 0 0 [.ref t, .ref e] h [.int (nI (wnt top rs))] h := by
  refine e_enter (by decide) (Nat.le_of_ble_eq_true rfl) ?_
  refine e_iconst (v := 0) dX2_pagesNeeded_0 (by decide) ?_
  refine e_istore_n dX2_pagesNeeded_1 (by decide) rfl ?_
  refine e_iconst (v := 0) dX2_pagesNeeded_2 (by decide) ?_
  refine e_istore_n dX2_pagesNeeded_3 (by decide) rfl ?_
  exact e_loc [3, 2, 1, 0] rfl (need_lo d t e top v w rs ht hCP hI he hv hP hw top 0 (by omega))
end PN
end
section
/-! the class: a page's cells change -/
def Du (D : cD) (i : Nat) (x : xE × Bool × List xE × List Nat) : cD := fun q => if q = i then x else D q
theorem Du_s (D : cD) (i : Nat) (x : xE × Bool × List xE × List Nat) : Du D i x i = x := by simp [Du]
theorem Du_n {D : cD} {i j : Nat} {x : xE × Bool × List xE × List Nat} (h : j ≠ i) : Du D i x j = D j := by simp [Du, h]
theorem pa_ge (i : Nat) : 5 ≤ pa i := by unfold pa; split <;> omega
theorem pa_lt {i : Nat} (h : i < 60) : pa i + 2 < 186 := by unfold pa; split <;> omega
section CU
variable {h : xH} {ch : List (List Nat)} {D : cD} {bd : Nat}
theorem CP_up2 {fs : List Value} {c : xC} (hCP : CP h ch D) (ht : h.2 2 = some (.inr (2, fs))) : CP (x_up h 2 c) ch D := by
  have en : ∀ a v, h.2 a = some (eC v) → (x_up h 2 c).2 a = some (eC v) := fun a v ha => x_up_n ha (fun e => by rw [e, ht] at ha; cases ha)
  have pn : ∀ b, x_pn h b → x_pn (x_up h 2 c) b := fun b hb => by
    rcases hb with rfl | ⟨Z, hZ⟩
    · exact Or.inl rfl
    · exact Or.inr ⟨Z, x_up_n hZ (fun e => by rw [e, ht] at hZ; cases hZ)⟩
  intro i hi
  obtain ⟨P, p1, p2, p3, p4⟩ := hCP i hi
  have g := pa_ge i
  refine ⟨P, ⟨x_up_n p1.1 (by omega), x_up_n p1.2.1 (by omega), x_up_n p1.2.2 (by omega)⟩, fun j hj => ?_, fun j hj => pn _ (p3 j hj), fun l c' k hc hk => ?_⟩
  · obtain ⟨v, hv⟩ := p2 j hj
    exact ⟨v, en _ v hv⟩
  · obtain ⟨q1, q2, q3, q4, q5, q6, q7⟩ := p4 l c' k hc hk
    exact ⟨q1, q2, en _ _ q3, q4, q5, fun j v hv => en _ v (q6 j v hv), q7⟩
/-- size, lacking word and rows of one page change -/
theorem CP_set {i : Nat} {P : xP} (hCP : CP h ch D) (hi : i < 60) (hp : CPi h ch D i P) {n' : Nat} {b' : Bool} {E' B' : Nat → Nat} {its' : List xE} {bls' : List Nat} (hn : n' = its'.length) (hfe : x_fe h E') (hfb : x_fb h B') (hes : x_es h E' its') (hbl : ∀ (j b : Nat), bls'[j]? = some b → B' j = pa b) :
    CP (x_ps h (pa i) ((n', P.1.2.1, P.1.2.2.1, P.1.2.2.2.1, bI b'), E', B')) ch (Du D i ((D i).1, b', its', bls')) := by
  obtain ⟨p1, p2, p3, p4⟩ := hp
  have en : ∀ a v, h.2 a = some (eC v) → (x_ps h (pa i) ((n', P.1.2.1, P.1.2.2.1, P.1.2.2.2.1, bI b'), E', B')).2 a = some (eC v) := fun a v ha => x_en_ps p1 ha
  intro j hj
  by_cases e : j = i
  · subst e
    refine ⟨_, x_ps_pg _ _ _, fun k hk => ?_, fun k hk => x_pn_ps p1 (hfb k hk), fun l c k hc hk => ?_⟩
    · obtain ⟨v, hv⟩ := hfe k hk
      exact ⟨v, en _ v hv⟩
    · obtain ⟨q1, q2, q3, q4, q5, q6, q7⟩ := p4 l c k hc hk
      rw [Du_s]
      exact ⟨hn, q2, en _ _ q3, q4, rfl, fun k' v hv => en _ v (hes k' v hv), hbl⟩
  · obtain ⟨P2, r1, r2, r3, r4⟩ := hCP j hj
    refine ⟨P2, x_pg_ps p1 r1 (fun z => e (pa_inj z)), fun k hk => ?_, fun k hk => x_pn_ps p1 (r3 k hk), fun l c k hc hk => ?_⟩
    · obtain ⟨v, hv⟩ := r2 k hk
      exact ⟨v, en _ v hv⟩
    · obtain ⟨q1, q2, q3, q4, q5, q6, q7⟩ := r4 l c k hc hk
      rw [Du_n e]
      exact ⟨q1, q2, en _ _ q3, q4, q5, fun k' v hv => en _ v (q6 k' v hv), q7⟩
theorem nd_other (hnd : ch.flatten.Nodup) {l l' : Nat} {c c' : List Nat} {i : Nat} (hc : ch[l]? = some c) (hc' : ch[l']? = some c') (hi : i ∈ c) (hi' : i ∈ c') : l = l' := by
  have hp := (List.pairwise_flatten.mp hnd).2
  rw [List.pairwise_iff_getElem] at hp
  have h1 := List.getElem?_eq_some_iff.mp hc
  have h2 := List.getElem?_eq_some_iff.mp hc'
  rcases Nat.lt_trichotomy l l' with z | z | z
  · have := hp l l' h1.1 h2.1 z
    rw [h1.2, h2.2] at this
    exact absurd rfl (this i hi i hi')
  · exact z
  · have := hp l' l h2.1 h1.1 z
    rw [h1.2, h2.2] at this
    exact absurd rfl (this i hi' i hi)
theorem nd_in (hnd : ch.flatten.Nodup) {l : Nat} {c1 c2 : List Nat} {i : Nat} (hc : ch[l]? = some (c1 ++ i :: c2)) : i ∉ c1 ∧ i ∉ c2 := by
  have h1 : (c1 ++ i :: c2).Nodup := (List.pairwise_flatten.mp hnd).1 _ (List.mem_of_getElem? hc)
  have h2 := List.nodup_append.mp h1
  exact ⟨fun z => h2.2.2 i z i List.mem_cons_self rfl, (List.nodup_cons.mp h2.2.1).1⟩
theorem map_Du {D : cD} {i : Nat} {x : xE × Bool × List xE × List Nat} {c : List Nat} (h : i ∉ c) : c.map (pgS (Du D i x)) = c.map (pgS D) := by
  refine List.map_congr_left fun j hj => ?_
  have hne : j ≠ i := fun e => h (by rw [← e]; exact hj)
  unfold pgS
  rw [Du_n hne]
theorem trS_set (hnd : ch.flatten.Nodup) {l : Nat} {c1 c2 : List Nat} {i : Nat} (hc : ch[l]? = some (c1 ++ i :: c2)) (x : xE × Bool × List xE × List Nat) : trS ch (Du D i x) = sSet (trS ch D) l (c1.map (pgS D)) [(sk x.1, x.2.1, x.2.2.1.map sk)] (c2.map (pgS D)) := by
  have hl : (trS ch D)[l]? = some (c1.map (pgS D) ++ pgS D i :: c2.map (pgS D)) := by rw [trS_at hc]; simp
  obtain ⟨n1, n2⟩ := nd_in hnd hc
  refine List.ext_getElem? fun l' => ?_
  by_cases e : l' = l
  · subst e
    rw [ss_at hl, trS_at hc, List.map_append, List.map_cons, map_Du n1, map_Du n2]
    have : pgS (Du D i x) i = (sk x.1, x.2.1, x.2.2.1.map sk) := by unfold pgS; rw [Du_s]
    rw [this]
    rfl
  · rw [ss_ne e]
    cases hc' : ch[l']? with
    | none => simp [trS, hc']
    | some c' =>
      rw [trS_at hc', trS_at hc']
      rw [map_Du (fun z => e (nd_other hnd hc' hc z (List.mem_append_right _ List.mem_cons_self)))]
end CU
/-- an entry comes in where its key stands -/
def insX {α : Type} (k : Nat) (x : α) (l : List α) : List α := l.take k ++ x :: l.drop k
theorem insX_len {α : Type} (k : Nat) (x : α) (l : List α) : (insX k x l).length = l.length + 1 := by
  simp only [insX, List.length_append, List.length_cons, List.length_take, List.length_drop]
  omega
theorem insX_at {α : Type} {k : Nat} {x : α} {l : List α} (hk : k ≤ l.length) (j : Nat) : (insX k x l)[j]? = if j < k then l[j]? else if j = k then some x else l[j - 1]? := by
  unfold insX
  by_cases h1 : j < k
  · rw [if_pos h1, List.getElem?_append_left (by rw [List.length_take]; omega), List.getElem?_take, if_pos h1]
  · rw [if_neg h1, List.getElem?_append_right (by rw [List.length_take]; omega), List.length_take, show min k l.length = k by omega]
    by_cases h2 : j = k
    · rw [if_pos h2, h2, Nat.sub_self]; rfl
    · rw [if_neg h2]
      obtain ⟨m, hm⟩ : ∃ m, j - k = m + 1 := ⟨j - k - 1, by omega⟩
      rw [hm, List.getElem?_cons_succ, List.getElem?_drop]
      congr 1
      omega
theorem insX_sk {v : xE} (hv : okE v) : ∀ {its : List xE}, (∀ x ∈ its, okE x) → (insX (cnt (od v) its) v its).map sk = insK (sk v) (its.map sk) := by
  intro its
  induction its with
  | nil => intro _; rfl
  | cons a t ih =>
    intro h
    have ha := h a List.mem_cons_self
    unfold cnt
    by_cases e : od a < od v
    · rw [if_pos e]
      simp only [insX, List.take_succ_cons, List.drop_succ_cons, List.cons_append, List.map_cons, insK]
      rw [if_pos ((sk_lt ha hv).mpr e)]
      have := ih (fun x hx => h x (List.mem_cons_of_mem _ hx))
      simp only [insX] at this
      rw [← this]
    · rw [if_neg e]
      simp only [insX, List.take_zero, List.drop_zero, List.nil_append, List.map_cons, insK]
      rw [if_neg (fun z => e ((sk_lt ha hv).mp z))]
theorem ins_es {h : xH} {E : Nat → Nat} {its : List xE} {k e : Nat} {v : xE} (hk : k ≤ its.length) (hes : x_es h E its) (he : h.2 e = some (eC v)) : x_es h (ins E k its.length e) (insX k v its) := by
  intro j x hx
  rw [insX_at hk] at hx
  unfold ins
  by_cases h1 : j = k
  · rw [if_pos h1]
    rw [if_neg (by omega), if_pos h1] at hx
    cases hx
    exact he
  · rw [if_neg h1]
    by_cases h2 : j < k
    · rw [if_pos h2] at hx
      rw [if_neg (by omega)]
      exact hes j x hx
    · rw [if_neg h2, if_neg h1] at hx
      have := (List.getElem?_eq_some_iff.mp hx).1
      rw [if_pos (by omega)]
      exact hes (j - 1) x hx
theorem ins_bl {B : Nat → Nat} {bls : List Nat} {n k b0 : Nat} (hn : bls.length = n) (hk : k ≤ n) (hbl : ∀ (j b : Nat), bls[j]? = some b → B j = pa b) : ∀ (j b : Nat), (insX k b0 bls)[j]? = some b → ins B k n (pa b0) j = pa b := by
  intro j b hb
  rw [insX_at (by omega)] at hb
  unfold ins
  by_cases h1 : j = k
  · rw [if_pos h1]
    rw [if_neg (by omega), if_pos h1] at hb
    cases hb
    rfl
  · rw [if_neg h1]
    by_cases h2 : j < k
    · rw [if_pos h2] at hb
      rw [if_neg (by omega)]
      exact hbl j b hb
    · rw [if_neg h2, if_neg h1] at hb
      have := (List.getElem?_eq_some_iff.mp hb).1
      rw [if_pos (by omega)]
      exact hbl (j - 1) b hb
end
section
/-! the class: bringInto -/
def CSt (h : xH) (ch : List (List Nat)) (D : cD) (tk fu : Nat) (q : qW) (ca : Nat) (cb : Bool) (ha : Nat) : Prop := h.2 2 = some (tC tk fu q.1 (clQ q) ca cb ha) ∧ h.2 3 = some (eC lowE) ∧ h.2 4 = some (eC highE) ∧ h.2 8 = some pgA ∧ CP h ch D ∧ qok q
/-- what the class's steps leave: entries, and all from 187 on -/
def x_cf (h h' : xH) : Prop := h'.1 = h.1 ∧ (∀ a v, h.2 a = some (eC v) → h'.2 a = some (eC v)) ∧ ∀ a : Nat, 187 ≤ a → h'.2 a = h.2 a
theorem x_cf.rf {h : xH} : x_cf h h := ⟨rfl, fun _ _ z => z, fun _ _ => rfl⟩
theorem x_cf.tr {h h' h'' : xH} (a : x_cf h h') (b : x_cf h' h'') : x_cf h h'' := ⟨b.1.trans a.1, fun q v z => b.2.1 q v (a.2.1 q v z), fun q hq => (b.2.2 q hq).trans (a.2.2 q hq)⟩
theorem x_cf.up2 {h : xH} {fs : List Value} {c : xC} (ht : h.2 2 = some (.inr (2, fs))) : x_cf h (x_up h 2 c) := ⟨rfl, fun a v z => x_up_n z (fun e => by rw [e, ht] at z; cases z), fun a ha => x_up_n rfl (by omega)⟩
theorem x_cf.ps {h : xH} {i : Nat} {P P' : xP} (hp : x_pg h (pa i) P) (hi : i < 60) : x_cf h (x_ps h (pa i) P') := by
  have := pa_lt hi
  exact ⟨rfl, fun a v z => x_en_ps hp z, fun a ha => x_ps_n rfl (by omega) (by omega) (by omega)⟩
section CB
variable {h : xH} {ch : List (List Nat)} {D : cD} {bd tk fu : Nat} {q : qW} {ca : Nat} {cb : Bool} {ha : Nat}
theorem CSt.up2 (hS : CSt h ch D tk fu q ca cb ha) {tk' fu' : Nat} {q' : qW} {ca' : Nat} {cb' : Bool} {ha' : Nat} (hq : qok q') : CSt (x_up h 2 (tC tk' fu' q'.1 (clQ q') ca' cb' ha')) ch D tk' fu' q' ca' cb' ha' := by
  obtain ⟨s1, s2, s3, s4, s5, s6⟩ := hS
  exact ⟨x_up_s _ _ _, x_up_n s2 (by omega), x_up_n s3 (by omega), x_up_n s4 (by omega), CP_up2 s5 s1, hq⟩
theorem CSt.ps (hS : CSt h ch D tk fu q ca cb ha) {i : Nat} {P' : xP} {ch' : List (List Nat)} {D' : cD} {P : xP} (hp : x_pg h (pa i) P) (hi : i < 60) (hC : CP (x_ps h (pa i) P') ch' D') : CSt (x_ps h (pa i) P') ch' D' tk fu q ca cb ha := by
  obtain ⟨s1, s2, s3, s4, s5, s6⟩ := hS
  have n8 : pa i ≠ 8 ∧ pa i + 1 ≠ 8 ∧ pa i + 2 ≠ 8 := by unfold pa; split <;> omega
  have := pa_ge i
  exact ⟨x_ps_n s1 (by omega) (by omega) (by omega), x_en_ps hp s2, x_en_ps hp s3, x_ps_n s4 (Ne.symm n8.1) (Ne.symm n8.2.1) (Ne.symm n8.2.2), hC, s6⟩
theorem CI_set (hI : CI ch D bd) {l : Nat} {c1 c2 : List Nat} {i : Nat} (hc : ch[l]? = some (c1 ++ i :: c2)) {x : xE × Bool × List xE × List Nat} (h1 : x.1 = (D i).1) (hT : trK (trS ch (Du D i x))) (hok : ∀ y ∈ x.2.2.1, okE y) (hm : ∀ l', l = l' + 1 → x.2.2.2.length = x.2.2.1.length ∧ ∀ (j b : Nat) (y : xE), x.2.2.1[j]? = some y → x.2.2.2[j]? = some b → ∃ c', ch[l']? = some c' ∧ b ∈ c' ∧ sk (D b).1 = sk y) (h0 : l = 0 → ∀ y ∈ x.2.2.1, ¬ y.2.2.2.2 < 0) : CI ch (Du D i x) bd := by
  obtain ⟨t1, t2, t3, t4, t5, t6, t7, t8⟩ := hI
  have him : i ∈ c1 ++ i :: c2 := List.mem_append_right _ List.mem_cons_self
  have low : ∀ j, (Du D i x j).1 = (D j).1 := fun j => by
    by_cases e : j = i
    · rw [e, Du_s, h1]
    · rw [Du_n e]
  refine ⟨hT, t2, t3, t4, t5, fun l' c hc' j hj => ?_, fun l' c hc' j hj => ?_, fun c hc' j hj => ?_⟩
  · rw [low]
    refine ⟨(t6 l' c hc' j hj).1, ?_⟩
    by_cases e : j = i
    · rw [e, Du_s]; exact hok
    · rw [Du_n e]; exact (t6 l' c hc' j hj).2
  · by_cases e : j = i
    · have hll : l = l' + 1 := nd_other t3 hc hc' him (e ▸ hj)
      obtain ⟨m1, m2⟩ := hm l' hll
      rw [e, Du_s]
      exact ⟨m1, fun k b y hy hb => by obtain ⟨c', z1, z2, z3⟩ := m2 k b y hy hb; exact ⟨c', z1, z2, by rw [low]; exact z3⟩⟩
    · obtain ⟨m1, m2⟩ := t7 l' c hc' j hj
      rw [Du_n e]
      exact ⟨m1, fun k b y hy hb => by obtain ⟨c', z1, z2, z3⟩ := m2 k b y hy hb; exact ⟨c', z1, z2, by rw [low]; exact z3⟩⟩
  · by_cases e : j = i
    · have hll : l = 0 := nd_other t3 hc hc' him (e ▸ hj)
      rw [e, Du_s]
      exact h0 hll
    · rw [Du_n e]
      exact t8 c hc' j hj
theorem ci_at {l : Nat} {c1 c2 : List Nat} {i : Nat} (hc : ch[l]? = some (c1 ++ i :: c2)) : (trS ch D)[l]? = some (c1.map (pgS D) ++ pgS D i :: c2.map (pgS D)) := by rw [trS_at hc]; simp
theorem con_bring (d e pb l : Nat) (v : xE) {c1 c2 : List Nat} {i : Nat} (hS : CSt h ch D tk fu q ca cb ha) (hI : CI ch D bd) (hc : ch[l]? = some (c1 ++ i :: c2)) (hC : InC ((c1 ++ i :: c2).map (pgS D)) (sk v) (c1.map (pgS D)) (pgS D i) (c2.map (pgS D))) (hsz : (D i).2.2.1.length < 10) (hvn : sk v ∉ (D i).2.2.1.map sk) (hv0 : 0 < sk v) (he : h.2 e = some (eC v)) (hv : okE v) (hpb : (l = 0 ∧ pb = 0 ∧ ¬ v.2.2.2.2 < 0) ∨ ∃ l' b0 c', l = l' + 1 ∧ pb = pa b0 ∧ b0 < 60 ∧ ch[l']? = some c' ∧ b0 ∈ c' ∧ sk (D b0).1 = sk v) :
    x_Con mX2_bringInto (d + 6) 0 0 [.ref 2, .ref (pa i), .ref e, .ref pb] h (fun rv h' => rv = [.int (bI (sEnt l (sk v) (trS ch D) q).1)] ∧ x_cf h h' ∧ ∃ D', CSt h' ch D' tk fu (sEnt l (sk v) (trS ch D) q).2.2 ca cb ha ∧ CI ch D' bd ∧ trS ch D' = (sEnt l (sk v) (trS ch D) q).2.1) := by
  have him : i ∈ c1 ++ i :: c2 := List.mem_append_right _ List.mem_cons_self
  have hi60 : i < 60 := by have := hI.2.2.2.1 _ _ hc i him; have := hI.2.2.2.2.1; omega
  have hpos : (c1 ++ i :: c2)[c1.length]? = some i := by rw [List.getElem?_append_right (Nat.le_refl _), Nat.sub_self]; rfl
  have hl := ci_at (D := D) hc
  have hC' : InC (c1.map (pgS D) ++ pgS D i :: c2.map (pgS D)) (sk v) (c1.map (pgS D)) (pgS D i) (c2.map (pgS D)) := by simpa using hC
  have okc := hI.2.2.2.2.2.1 l _ hc i him
  have hm0 : 0 < l → ∃ c q, (trS ch D)[l - 1]? = some c ∧ q ∈ c ∧ q.1 = sk v := by
    intro h0
    rcases hpb with ⟨z, -⟩ | ⟨l', b0, c', z1, z2, z3, z4, z5, z6⟩
    · omega
    · exact ⟨_, pgS D b0, by rw [z1, Nat.add_sub_cancel]; exact trS_at z4, List.mem_map.mpr ⟨b0, z5, rfl⟩, z6⟩
  have hsz' : (pgS D i).2.2.length < 10 := by simpa [pgS] using hsz
  have hok := sEnt_ok (q := q) hI.1 hl hC' hsz' hvn hv0 hm0
  -- the words
  obtain ⟨w1, hw1⟩ : ∃ w : Bool × qW, w = (if (D i).2.1 then sW 1 q else (true, q)) := ⟨_, rfl⟩
  have hE : sEnt l (sk v) (trS ch D) q = if w1.1 then (if (sW 11 w1.2).1 then (true, sSet (trS ch D) l (c1.map (pgS D)) [((pgS D i).1, false, insK (sk v) (pgS D i).2.2)] (c2.map (pgS D)), (sW 11 w1.2).2) else (false, sSet (trS ch D) l (c1.map (pgS D)) [((pgS D i).1, false, (pgS D i).2.2)] (c2.map (pgS D)), (sW 11 w1.2).2)) else (false, trS ch D, w1.2) := by
    have hz : zp (sk v) (lvl (trS ch D) l) = (c1.map (pgS D), pgS D i, c2.map (pgS D)) := by rw [lvl_at hl]; exact hC'.zp
    have e1 : (pgS D i).2.1 = (D i).2.1 := rfl
    unfold sEnt
    simp only [hz, e1, ← hw1]
  refine e_enter (by decide) (Nat.le_of_ble_eq_true rfl) ?_
  -- from the eleven words on
  have rest : ∀ (ls : List (Nat × Value)) (h2 : xH), x_lk ls 0 = some (.ref 2) → x_lk ls 1 = some (.ref (pa i)) → x_lk ls 2 = some (.ref e) → x_lk ls 3 = some (.ref pb) → w1.1 = true → CSt h2 ch (Du D i ((D i).1, false, (D i).2.2.1, (D i).2.2.2)) tk fu w1.2 ca cb ha → x_cf h h2 →
      x_E mX2_bringInto (d + 6) 0 0 22 ls [] h2 (fun rv h' => rv = [.int (bI (sEnt l (sk v) (trS ch D) q).1)] ∧ x_cf h h' ∧ ∃ D', CSt h' ch D' tk fu (sEnt l (sk v) (trS ch D) q).2.2 ca cb ha ∧ CI ch D' bd ∧ trS ch D' = (sEnt l (sk v) (trS ch D) q).2.1) := by
    intro ls h2 l0 l1 l2 l3 hw hS2 hf2
    obtain ⟨s1, s2, s3, s4, s5, s6⟩ := id hS2
    have hTS0 := trS_set (D := D) hI.2.2.1 hc ((D i).1, false, (D i).2.2.1, (D i).2.2.2)
    refine e_aload_n dX2_bringInto_22 l0 ?_
    refine e_bipush (v := 11) dX2_bringInto_23 (by decide) ?_
    refine e_V1d dX2_bringInto_25 gX2_80 s1 rfl (by omega) (Nat.le_of_ble_eq_true rfl) rfl rfl (con_setWords (d + 5) 2 11 s1 s6) ?_
    have hS3 := hS2.up2 (tk' := tk) (fu' := fu) (q' := (sW 11 w1.2).2) (ca' := ca) (cb' := cb) (ha' := ha) (qok_sW s6 (by decide))
    have hf3 := hf2.tr (x_cf.up2 (c := tC tk fu (sW 11 w1.2).2.1 (clQ (sW 11 w1.2).2) ca cb ha) s1)
    by_cases e2 : (sW 11 w1.2).1 = true
    · rw [hE, if_pos hw, if_pos e2] at hok ⊢
      refine e_if_ne (tgt := 33) dX2_bringInto_28 (by decide) (fun _ => ?_) (fun z => absurd z (by rw [e2]; decide))
      obtain ⟨P, hp⟩ := hS3.2.2.2.2.1 i hi60
      obtain ⟨q1, q2, q3, q4, q5, q6, q7⟩ := hp.2.2.2 l _ _ hc hpos
      rw [Du_s] at q1 q3 q5 q6 q7
      have he3 := hf3.2.1 e v he
      have hpn : x_pn (x_up h2 2 (tC tk fu (sW 11 w1.2).2.1 (clQ (sW 11 w1.2).2) ca cb ha)) pb := by
        rcases hpb with ⟨-, z, -⟩ | ⟨l', b0, c', z1, z2, z3, z4, z5, z6⟩
        · exact Or.inl z
        · obtain ⟨Pb, hb⟩ := hS3.2.2.2.2.1 b0 z3
          exact Or.inr ⟨Pb.1, by rw [z2]; exact hb.1.1⟩
      refine e_aload_n dX2_bringInto_33 l1 ?_
      refine e_aload_n dX2_bringInto_34 l2 ?_
      refine e_aload_n dX2_bringInto_35 l3 ?_
      refine e_V2d dX2_bringInto_36 gX2_163 hp.1.1 rfl (by omega) (Nat.le_of_ble_eq_true rfl) rfl rfl (con_insert d _ (pa i) e pb v P (D i).2.2.1 hsz hp.1 q1 q6 hp.2.1 hp.2.2.1 he3 hpn) ?_
      refine e_iconst (v := 1) dX2_bringInto_39 (by decide) ?_
      have hkle := cnt_le (od v) (D i).2.2.1
      -- the page behind it
      have hbn : ∃ bls' : List Nat, (∀ (j b : Nat), bls'[j]? = some b → ins P.2.2 (cnt (od v) (D i).2.2.1) (D i).2.2.1.length pb j = pa b) ∧ ∀ l', l = l' + 1 → bls'.length = (D i).2.2.1.length + 1 ∧ ∀ (j b : Nat) (y : xE), (insX (cnt (od v) (D i).2.2.1) v (D i).2.2.1)[j]? = some y → bls'[j]? = some b → ∃ c', ch[l']? = some c' ∧ b ∈ c' ∧ sk (D b).1 = sk y := by
        rcases hpb with ⟨z, -⟩ | ⟨l', b0, c', z1, z2, z3, z4, z5, z6⟩
        · exact ⟨[], fun j b hb => by simp at hb, fun l' e3 => by omega⟩
        · subst z1
          obtain ⟨m1, m2⟩ := hI.2.2.2.2.2.2.1 l' _ hc i him
          refine ⟨insX (cnt (od v) (D i).2.2.1) b0 (D i).2.2.2, ?_, fun l'' e3 => ?_⟩
          · rw [z2]
            exact ins_bl m1 hkle q7
          · have e4 : l'' = l' := by omega
            subst e4
            refine ⟨by rw [insX_len, m1], fun j b y hy hb => ?_⟩
            rw [insX_at hkle] at hy
            rw [insX_at (by omega)] at hb
            by_cases u1 : j < cnt (od v) (D i).2.2.1
            · rw [if_pos u1] at hy hb
              exact m2 j b y hy hb
            · rw [if_neg u1] at hy hb
              by_cases u2 : j = cnt (od v) (D i).2.2.1
              · rw [if_pos u2] at hy hb
                cases hy; cases hb
                exact ⟨c', z4, z5, z6⟩
              · rw [if_neg u2] at hy hb
                exact m2 _ b y hy hb
      obtain ⟨bls', hb1, hb2⟩ := hbn
      have hfe' : x_fe (x_up h2 2 (tC tk fu (sW 11 w1.2).2.1 (clQ (sW 11 w1.2).2) ca cb ha)) (ins P.2.1 (cnt (od v) (D i).2.2.1) (D i).2.2.1.length e) := fun j hj => by
        unfold ins
        split
        · exact ⟨v, he3⟩
        · split
          · exact hp.2.1 _ (by omega)
          · exact hp.2.1 _ hj
      have hfb' : x_fb (x_up h2 2 (tC tk fu (sW 11 w1.2).2.1 (clQ (sW 11 w1.2).2) ca cb ha)) (ins P.2.2 (cnt (od v) (D i).2.2.1) (D i).2.2.1.length pb) := fun j hj => by
        unfold ins
        split
        · exact hpn
        · split
          · exact hp.2.2.1 _ (by omega)
          · exact hp.2.2.1 _ hj
      have hCP' := CP_set hS3.2.2.2.2.1 hi60 hp (n' := (D i).2.2.1.length + 1) (b' := false) (its' := insX (cnt (od v) (D i).2.2.1) v (D i).2.2.1) (bls' := bls') (by rw [insX_len]) hfe' hfb' (ins_es hkle q6 he3) hb1
      have eP : (((D i).2.2.1.length + 1, P.1.2.1, P.1.2.2.1, P.1.2.2.2.1, bI false) : Nat × Nat × Nat × Nat × Int32) = ((D i).2.2.1.length + 1, P.1.2) := by
        have : P.1.2.2.2.2 = bI false := q5
        rw [← this]
      rw [eP, Du_s] at hCP'
      have eD : Du (Du D i ((D i).1, false, (D i).2.2.1, (D i).2.2.2)) i ((D i).1, false, insX (cnt (od v) (D i).2.2.1) v (D i).2.2.1, bls') = Du D i ((D i).1, false, insX (cnt (od v) (D i).2.2.1) v (D i).2.2.1, bls') := by
        funext j
        unfold Du
        split <;> rfl
      rw [eD] at hCP'
      have hTS := trS_set (D := D) hI.2.2.1 hc ((D i).1, false, insX (cnt (od v) (D i).2.2.1) v (D i).2.2.1, bls')
      rw [insX_sk hv okc.2] at hTS
      refine e_iret dX2_bringInto_40 rfl rfl ⟨rfl, hf3.tr (x_cf.ps hp.1 hi60), _, hS3.ps hp.1 hi60 hCP', CI_set hI hc rfl (by rw [hTS]; exact hok.1) (fun y hy => ?_) (fun l' e3 => ⟨by rw [insX_len]; exact (hb2 l' e3).1, (hb2 l' e3).2⟩) (fun e3 y hy => ?_), hTS⟩
      · rcases List.mem_append.mp hy with z | z
        · exact okc.2 y (List.mem_of_mem_take z)
        · rcases List.mem_cons.mp z with z | z
          · rw [z]; exact hv
          · exact okc.2 y (List.mem_of_mem_drop z)
      · have hc0 := hc
        rw [e3] at hc0
        have h8 := hI.2.2.2.2.2.2.2 _ hc0 i him
        rcases List.mem_append.mp hy with z | z
        · exact h8 y (List.mem_of_mem_take z)
        · rcases List.mem_cons.mp z with z | z
          · rw [z]
            rcases hpb with ⟨-, -, z2⟩ | ⟨l', b0, c', z1, -⟩
            · exact z2
            · omega
          · exact h8 y (List.mem_of_mem_drop z)
    · rw [hE, if_pos hw, if_neg e2] at hok ⊢
      refine e_if_ne (tgt := 33) dX2_bringInto_28 (by decide) (fun z => absurd (by rw [Bool.not_eq_true] at e2; rw [e2]; rfl) z) (fun _ => ?_)
      refine e_iconst (v := 0) dX2_bringInto_31 (by decide) ?_
      refine e_iret dX2_bringInto_32 rfl rfl ⟨rfl, hf3, _, hS3, CI_set hI hc rfl (by rw [hTS0]; exact hok.1) okc.2 (fun l' e3 => ?_) (fun e3 => ?_), hTS0⟩
      · rw [e3] at hc
        exact hI.2.2.2.2.2.2.1 l' _ hc i him
      · have hc0 := hc
        rw [e3] at hc0
        exact hI.2.2.2.2.2.2.2 _ hc0 i him
  obtain ⟨P, hp⟩ := hS.2.2.2.2.1 i hi60
  obtain ⟨q1, q2, q3, q4, q5, q6, q7⟩ := hp.2.2.2 l _ _ hc hpos
  have p0 := hp.1.1
  refine e_aload_n dX2_bringInto_0 rfl ?_
  refine e_get dX2_bringInto_1 fX2_86 p0 rfl ?_
  rw [q5]
  refine e_if_eq (tgt := 22) dX2_bringInto_4 (by decide) (fun z => ?_) (fun z => ?_)
  · have hO := bI_z z
    rw [hO, if_neg Bool.false_ne_true] at hw1
    have eD : Du D i ((D i).1, false, (D i).2.2.1, (D i).2.2.2) = D := by
      funext j
      unfold Du
      split
      · rename_i e3
        rw [e3, ← hO]
      · rfl
    refine rest _ h rfl rfl rfl rfl (by rw [hw1]) ?_ x_cf.rf
    rw [eD, hw1]
    exact hS
  · have hO := bI_nz z
    rw [hO, if_pos rfl] at hw1
    refine e_aload_n dX2_bringInto_7 rfl ?_
    refine e_iconst (v := 1) dX2_bringInto_8 (by decide) ?_
    refine e_V1d dX2_bringInto_9 gX2_80 hS.1 rfl (by omega) (Nat.le_of_ble_eq_true rfl) rfl rfl (con_setWords (d + 5) 2 1 hS.1 hS.2.2.2.2.2) ?_
    rw [← hw1]
    have hS3 := hS.up2 (tk' := tk) (fu' := fu) (q' := w1.2) (ca' := ca) (cb' := cb) (ha' := ha) (by rw [hw1]; exact qok_sW hS.2.2.2.2.2 (by decide))
    have hf3 := x_cf.up2 (c := tC tk fu w1.2.1 (clQ w1.2) ca cb ha) hS.1
    by_cases e1 : w1.1 = true
    · refine e_if_ne (tgt := 17) dX2_bringInto_12 (by decide) (fun _ => ?_) (fun z => absurd z (by rw [e1]; decide))
      obtain ⟨P3, hp3⟩ := hS3.2.2.2.2.1 i hi60
      obtain ⟨r1, r2, r3, r4, r5, r6, r7⟩ := hp3.2.2.2 l _ _ hc hpos
      have p30 := hp3.1.1
      refine e_aload_n dX2_bringInto_17 rfl ?_
      refine e_iconst (v := 0) dX2_bringInto_18 (by decide) ?_
      refine e_put dX2_bringInto_19 fX2_86 p30 ⟨rfl, rfl⟩ ?_
      have hCP' := CP_set hS3.2.2.2.2.1 hi60 hp3 (n' := P3.1.1) (b' := false) (E' := P3.2.1) (B' := P3.2.2) (its' := (D i).2.2.1) (bls' := (D i).2.2.2) r1 hp3.2.1 hp3.2.2.1 r6 r7
      refine e_heq (h' := x_ps _ (pa i) ((P3.1.1, P3.1.2.1, P3.1.2.2.1, P3.1.2.2.2.1, bI false), P3.2.1, P3.2.2)) ?_ (rest _ _ rfl rfl rfl rfl e1 (hS3.ps hp3.1 hi60 hCP') (hf3.tr (x_cf.ps hp3.1 hi60)))
      unfold x_ps
      rw [x_up_id hp3.1.2.1, x_up_id hp3.1.2.2]
      rfl
    · refine e_if_ne (tgt := 17) dX2_bringInto_12 (by decide) (fun z => absurd (by rw [Bool.not_eq_true] at e1; rw [e1]; rfl) z) (fun _ => ?_)
      refine e_iconst (v := 0) dX2_bringInto_15 (by decide) ?_
      rw [hE, if_neg e1]
      exact e_iret dX2_bringInto_16 rfl rfl ⟨rfl, hf3, D, hS3, hI, rfl⟩
end CB
end
section
/-! the class: what splits do to the chains -/
theorem e_putP {y : xM} {d kc ks0 pc : Nat} {l : List (Nat × Value)} {st : List Value} {h : xH} {Q : List Value → xH → Prop} {idx k a : Nat} {ty : FieldType} {P : xP} {c' : Nat × Nat × Nat × Nat × Int32} {v v' : Value} (hd : decode y.2.1 pc = .ok (.putfield idx, 3)) (hF : x_Fd y.1.cls idx 1 k ty false) (hp : x_pg h a P) (hv : x_ok ty v') (e : v = v') (he : pgC a c' = .inr (1, ([.ref (a + 1), .ref (a + 2), .int (nI P.1.1), .int (nI P.1.2.1), .ref P.1.2.2.1, .ref P.1.2.2.2.1, .int P.1.2.2.2.2] : List Value).set k v')) (kk : x_E y d kc ks0 (pc + 3) l st (x_ps h a (c', P.2)) Q) : x_E y d kc ks0 pc l (v :: .ref a :: st) h Q := by
  subst e
  refine e_put hd hF hp.1 hv ?_
  refine e_heq ?_ kk
  unfold x_ps
  rw [x_up_id hp.2.1, x_up_id hp.2.2, he]
theorem nd_mk {ch : List (List Nat)} (h1 : ∀ (l : Nat) c, ch[l]? = some c → c.Nodup) (h2 : ∀ (l l' : Nat) c c' i, ch[l]? = some c → ch[l']? = some c' → i ∈ c → i ∈ c' → l = l') : ch.flatten.Nodup := by
  refine List.pairwise_flatten.mpr ⟨fun c hc => ?_, ?_⟩
  · obtain ⟨l, hl⟩ := List.getElem?_of_mem hc
    exact h1 l c hl
  · rw [List.pairwise_iff_getElem]
    intro i j hi hj hij x hx y hy e
    subst e
    have := h2 i j _ _ x (List.getElem?_eq_getElem hi) (List.getElem?_eq_getElem hj) hx hy
    omega
theorem nd_at {ch : List (List Nat)} (hnd : ch.flatten.Nodup) {l : Nat} {c : List Nat} (hc : ch[l]? = some c) : c.Nodup := (List.pairwise_flatten.mp hnd).1 _ (List.mem_of_getElem? hc)
theorem nd_pos {c : List Nat} (h : c.Nodup) {i k k' : Nat} (h1 : c[k]? = some i) (h2 : c[k']? = some i) : k = k' := by
  have a := List.getElem?_eq_some_iff.mp h1
  have b := List.getElem?_eq_some_iff.mp h2
  rw [List.Nodup, List.pairwise_iff_getElem] at h
  rcases Nat.lt_trichotomy k k' with z | z | z
  · exact absurd (a.2.trans b.2.symm) (h k k' a.1 b.1 z)
  · exact z
  · exact absurd (b.2.trans a.2.symm) (h k' k b.1 a.1 z)
theorem ch_at {ch : List (List Nat)} {l : Nat} {c c' : List Nat} (hc : ch[l]? = some c) (l' : Nat) : (ch.set l c')[l']? = if l' = l then some c' else ch[l']? := by
  have := (List.getElem?_eq_some_iff.mp hc).1
  rw [List.getElem?_set]
  by_cases e : l' = l
  · rw [if_pos e.symm, if_pos e, if_pos this]
  · rw [if_neg (fun q => e q.symm), if_neg e]
theorem ch_in (c1 c2 : List Nat) (i f k : Nat) : (c1 ++ i :: f :: c2)[k]? = if k < c1.length + 1 then (c1 ++ i :: c2)[k]? else if k = c1.length + 1 then some f else (c1 ++ i :: c2)[k - 1]? := by
  have e : c1 ++ i :: f :: c2 = insX (c1.length + 1) f (c1 ++ i :: c2) := by
    unfold insX
    have t : (c1 ++ i :: c2).take (c1.length + 1) = c1 ++ [i] := by
      rw [List.take_append, List.take_of_length_le (by omega), show c1.length + 1 - c1.length = 1 by omega]
      rfl
    have t2 : (c1 ++ i :: c2).drop (c1.length + 1) = c2 := by
      rw [List.drop_append, List.drop_eq_nil_of_le (by omega), show c1.length + 1 - c1.length = 1 by omega]
      rfl
    rw [t, t2]
    simp
  rw [e, insX_at (by simp)]
theorem CP_of {h h' : xH} {ch ch' : List (List Nat)} {D D' : cD} (F : List Nat) (hCP : CP h ch D) (en : ∀ a v, h.2 a = some (eC v) → h'.2 a = some (eC v)) (pn : ∀ b, x_pn h b → x_pn h' b) (hold : ∀ j, j < 60 → j ∉ F → ∀ P, x_pg h (pa j) P → x_pg h' (pa j) P) (hch : ∀ j, j < 60 → j ∉ F → ∀ (l : Nat) c (k : Nat), ch'[l]? = some c → c[k]? = some j → D' j = D j ∧ ∃ c0 k0, ch[l]? = some c0 ∧ c0[k0]? = some j ∧ nxA c k = nxA c0 k0) (hF : ∀ j ∈ F, j < 60 → ∃ P, CPi h' ch' D' j P) : CP h' ch' D' := by
  intro j hj
  by_cases e : j ∈ F
  · exact hF j e hj
  · obtain ⟨P, p1, p2, p3, p4⟩ := hCP j hj
    refine ⟨P, hold j hj e P p1, fun k hk => ?_, fun k hk => pn _ (p3 k hk), fun l c k hc hk => ?_⟩
    · obtain ⟨v, hv⟩ := p2 k hk
      exact ⟨v, en _ v hv⟩
    · obtain ⟨hD, c0, k0, z1, z2, z3⟩ := hch j hj e l c k hc hk
      obtain ⟨q1, q2, q3, q4, q5, q6, q7⟩ := p4 l c0 k0 z1 z2
      rw [hD, z3]
      exact ⟨q1, q2, en _ _ q3, q4, q5, fun k' v hv => en _ v (q6 k' v hv), q7⟩
section CS
variable {h : xH} {ch : List (List Nat)} {D : cD} {bd l i f : Nat} {c1 c2 : List Nat}
def spD (D : cD) (i f : Nat) (o : Bool) : cD := Du (Du D f ((D i).2.2.1.getD 5 lowE, false, (D i).2.2.1.drop 5, ((D i).2.2.2.drop 5).take 5)) i ((D i).1, o, (D i).2.2.1.take 5, (D i).2.2.2.take 5)
def spC (ch : List (List Nat)) (l : Nat) (c1 : List Nat) (i f : Nat) (c2 : List Nat) : List (List Nat) := ch.set l (c1 ++ i :: f :: c2)
theorem spD_i (o : Bool) : spD D i f o i = ((D i).1, o, (D i).2.2.1.take 5, (D i).2.2.2.take 5) := Du_s _ _ _
theorem spD_f (o : Bool) (hne : f ≠ i) : spD D i f o f = ((D i).2.2.1.getD 5 lowE, false, (D i).2.2.1.drop 5, ((D i).2.2.2.drop 5).take 5) := (Du_n hne).trans (Du_s _ _ _)
theorem spD_n (o : Bool) {j : Nat} (h1 : j ≠ i) (h2 : j ≠ f) : spD D i f o j = D j := (Du_n h1).trans (Du_n h2)
theorem spD_low (o : Bool) {j : Nat} (h2 : j ≠ f) : (spD D i f o j).1 = (D j).1 := by
  by_cases e : j = i
  · rw [e, spD_i]
  · rw [spD_n o e h2]
theorem in5 (hl : (D i).2.2.1.length = 10) : (D i).2.2.1[5]? = some ((D i).2.2.1.getD 5 lowE) := by
  rw [List.getD_eq_getElem?_getD, List.getElem?_eq_getElem (by omega)]
  rfl
theorem CP_split (o : Bool) {P Pf : xP} (hCP : CP h ch D) (hnd : ch.flatten.Nodup) (hc : ch[l]? = some (c1 ++ i :: c2)) (hi : i < 60) (hf : f < 60) (hfn : ∀ (l' : Nat) c, ch[l']? = some c → f ∉ c) (hsz : (D i).2.2.1.length = 10) (hp : CPi h ch D i P) (hpf : CPi h ch D f Pf) :
    CP (x_ps (x_ps h (pa f) ((5, l, P.2.1 5, P.1.2.2.2.1, 0), cpy Pf.2.1 P.2.1 5 5, cpy Pf.2.2 P.2.2 5 5)) (pa i) ((5, P.1.2.1, P.1.2.2.1, pa f, bI o), P.2)) (spC ch l c1 i f c2) (spD D i f o) := by
  have him : i ∈ c1 ++ i :: c2 := List.mem_append_right _ List.mem_cons_self
  have hne : f ≠ i := fun e => hfn l _ hc (e ▸ him)
  have hpos : (c1 ++ i :: c2)[c1.length]? = some i := by rw [List.getElem?_append_right (Nat.le_refl _), Nat.sub_self]; rfl
  obtain ⟨p1, p2, p3, p4⟩ := hp
  obtain ⟨q1, q2, q3, q4, q5, q6, q7⟩ := p4 l _ _ hc hpos
  obtain ⟨g1, g2, g3, -⟩ := hpf
  have p1' : x_pg (x_ps h (pa f) ((5, l, P.2.1 5, P.1.2.2.2.1, 0), cpy Pf.2.1 P.2.1 5 5, cpy Pf.2.2 P.2.2 5 5)) (pa i) P := x_pg_ps g1 p1 (fun z => hne (pa_inj z).symm)
  have en : ∀ a v, h.2 a = some (eC v) → (x_ps (x_ps h (pa f) ((5, l, P.2.1 5, P.1.2.2.2.1, 0), cpy Pf.2.1 P.2.1 5 5, cpy Pf.2.2 P.2.2 5 5)) (pa i) ((5, P.1.2.1, P.1.2.2.1, pa f, bI o), P.2)).2 a = some (eC v) := fun a v ha => x_en_ps p1' (x_en_ps g1 ha)
  have pn : ∀ b, x_pn h b → x_pn (x_ps (x_ps h (pa f) ((5, l, P.2.1 5, P.1.2.2.2.1, 0), cpy Pf.2.1 P.2.1 5 5, cpy Pf.2.2 P.2.2 5 5)) (pa i) ((5, P.1.2.1, P.1.2.2.1, pa f, bI o), P.2)) b := fun b hb => x_pn_ps p1' (x_pn_ps g1 hb)
  have hcn := nd_at hnd hc
  have h5 := in5 hsz
  refine CP_of [i, f] hCP en pn (fun j hj hn R hR => x_pg_ps p1' (x_pg_ps g1 hR (fun z => hn (by rw [pa_inj z]; simp))) (fun z => hn (by rw [pa_inj z]; simp))) ?_ ?_
  · intro j hj hn l' c k hc' hk
    have n1 : j ≠ i := fun z => hn (by rw [z]; simp)
    have n2 : j ≠ f := fun z => hn (by rw [z]; simp)
    refine ⟨spD_n o n1 n2, ?_⟩
    unfold spC at hc'
    rw [ch_at hc] at hc'
    by_cases e : l' = l
    · rw [if_pos e] at hc'
      subst e
      have ec := Option.some.inj hc'
      subst ec
      have hk0 := hk
      rw [ch_in] at hk
      by_cases k1 : k < c1.length + 1
      · rw [if_pos k1] at hk
        have kn : k ≠ c1.length := fun z => n1 (by rw [z, hpos] at hk; exact (Option.some.inj hk).symm)
        refine ⟨_, k, hc, hk, ?_⟩
        unfold nxA
        rw [ch_in, if_pos (by omega)]
      · rw [if_neg k1] at hk
        by_cases k2 : k = c1.length + 1
        · rw [if_pos k2] at hk
          exact absurd (Option.some.inj hk).symm n2
        · rw [if_neg k2] at hk
          refine ⟨_, k - 1, hc, hk, ?_⟩
          unfold nxA
          rw [ch_in, if_neg (by omega), if_neg (by omega), show k + 1 - 1 = k - 1 + 1 by omega]
    · rw [if_neg e] at hc'
      exact ⟨c, k, hc', hk, rfl⟩
  · intro j hj hj60
    by_cases e : j = i
    · subst e
      refine ⟨_, x_ps_pg _ _ _, fun k hk => ?_, fun k hk => pn _ (p3 k hk), fun l' c k hc' hk => ?_⟩
      · obtain ⟨v, hv⟩ := p2 k hk
        exact ⟨v, en _ v hv⟩
      · unfold spC at hc'
        rw [ch_at hc] at hc'
        by_cases e : l' = l
        · rw [if_pos e] at hc'
          subst e
          have ec := Option.some.inj hc'
          subst ec
          have hk0 : k = c1.length := by
            rw [ch_in] at hk
            by_cases k1 : k < c1.length + 1
            · rw [if_pos k1] at hk
              exact nd_pos hcn hk hpos
            · rw [if_neg k1] at hk
              by_cases k2 : k = c1.length + 1
              · rw [if_pos k2] at hk
                exact absurd (Option.some.inj hk) hne
              · rw [if_neg k2] at hk
                have := nd_pos hcn hk hpos
                omega
          subst hk0
          rw [spD_i]
          refine ⟨by show 5 = ((D j).2.2.1.take 5).length; rw [List.length_take]; omega, q2, en _ _ q3, ?_, rfl, fun k' v hv => ?_, fun k' b hb => ?_⟩
          · show pa f = nxA _ _
            unfold nxA
            rw [ch_in, if_neg (by omega), if_pos rfl]
          · have hv : ((D j).2.2.1.take 5)[k']? = some v := hv
            rw [List.getElem?_take] at hv
            split at hv
            · exact en _ v (q6 k' v hv)
            · cases hv
          · have hb : ((D j).2.2.2.take 5)[k']? = some b := hb
            rw [List.getElem?_take] at hb
            split at hb
            · exact q7 k' b hb
            · cases hb
        · rw [if_neg e] at hc'
          exact absurd (nd_other hnd hc' hc (List.mem_of_getElem? hk) him) e
    · have ef : j = f := by
        rcases List.mem_cons.mp hj with z | z
        · exact absurd z e
        · exact List.mem_singleton.mp z
      subst ef
      refine ⟨((5, l, P.2.1 5, P.1.2.2.2.1, 0), cpy Pf.2.1 P.2.1 5 5, cpy Pf.2.2 P.2.2 5 5), x_pg_ps p1' (x_ps_pg _ _ _) (fun z => e (pa_inj z)), fun k hk => ?_, fun k hk => pn _ ?_, fun l' c k hc' hk => ?_⟩
      · show ∃ v, _ = some (eC v)
        simp only [cpy]
        split
        · obtain ⟨v, hv⟩ := p2 (5 + k) (by omega)
          exact ⟨v, en _ v hv⟩
        · obtain ⟨v, hv⟩ := g2 k hk
          exact ⟨v, en _ v hv⟩
      · show x_pn h (cpy Pf.2.2 P.2.2 5 5 k)
        unfold cpy
        split
        · exact p3 (5 + k) (by omega)
        · exact g3 k hk
      · unfold spC at hc'
        rw [ch_at hc] at hc'
        by_cases e' : l' = l
        · rw [if_pos e'] at hc'
          subst e'
          have ec := Option.some.inj hc'
          subst ec
          have hk0 : k = c1.length + 1 := by
            rw [ch_in] at hk
            by_cases k1 : k < c1.length + 1
            · rw [if_pos k1] at hk
              exact absurd (List.mem_of_getElem? hk) (hfn _ _ hc)
            · rw [if_neg k1] at hk
              by_cases k2 : k = c1.length + 1
              · exact k2
              · rw [if_neg k2] at hk
                exact absurd (List.mem_of_getElem? hk) (hfn _ _ hc)
          subst hk0
          rw [spD_f o hne]
          refine ⟨by show 5 = ((D i).2.2.1.drop 5).length; rw [List.length_drop]; omega, rfl, en _ _ (q6 5 _ h5), ?_, rfl, fun k' v hv => ?_, fun k' b hb => ?_⟩
          · show P.1.2.2.2.1 = nxA _ _
            rw [q4]
            unfold nxA
            rw [ch_in, if_neg (by omega), if_neg (by omega)]
            rfl
          · have hv : ((D i).2.2.1.drop 5)[k']? = some v := hv
            rw [List.getElem?_drop] at hv
            have := (List.getElem?_eq_some_iff.mp hv).1
            have e3 : cpy Pf.2.1 P.2.1 5 5 k' = P.2.1 (5 + k') := by unfold cpy; rw [if_pos (by omega)]
            show _ = _
            refine en _ v ?_
            show h.2 (cpy Pf.2.1 P.2.1 5 5 k') = _
            rw [e3]
            exact q6 _ v hv
          · have hb : (((D i).2.2.2.drop 5).take 5)[k']? = some b := hb
            rw [List.getElem?_take] at hb
            show cpy Pf.2.2 P.2.2 5 5 k' = pa b
            split at hb
            · rename_i k5
              rw [List.getElem?_drop] at hb
              unfold cpy
              rw [if_pos k5]
              exact q7 _ b hb
            · cases hb
        · rw [if_neg e'] at hc'
          exact absurd (List.mem_of_getElem? hk) (hfn _ _ hc')
theorem gd5 (hsz : (D i).2.2.1.length = 10) : (pgS D i).2.2.getD 5 0 = sk ((D i).2.2.1.getD 5 lowE) := by
  have h5 := in5 hsz
  simp only [pgS, List.getD_eq_getElem?_getD, List.getElem?_map, h5]
  rfl
theorem trS_split (o : Bool) (hnd : ch.flatten.Nodup) (hc : ch[l]? = some (c1 ++ i :: c2)) (hfn : ∀ (l' : Nat) c, ch[l']? = some c → f ∉ c) (hsz : (D i).2.2.1.length = 10) : trS (spC ch l c1 i f c2) (spD D i f o) = sSet (trS ch D) l (c1.map (pgS D)) [gL (pgS D i) o, gR (pgS D i)] (c2.map (pgS D)) := by
  have him : i ∈ c1 ++ i :: c2 := List.mem_append_right _ List.mem_cons_self
  have hne : f ≠ i := fun e => hfn l _ hc (e ▸ him)
  have hl := ci_at (D := D) hc
  obtain ⟨n1, n2⟩ := nd_in hnd hc
  have mp : ∀ c : List Nat, i ∉ c → f ∉ c → c.map (pgS (spD D i f o)) = c.map (pgS D) := fun c a b => (map_Du a).trans (map_Du b)
  have f1 : f ∉ c1 := fun z => hfn l _ hc (List.mem_append_left _ z)
  have f2 : f ∉ c2 := fun z => hfn l _ hc (List.mem_append_right _ (List.mem_cons_of_mem _ z))
  have ei : pgS (spD D i f o) i = gL (pgS D i) o := by
    unfold gL pgS
    rw [spD_i]
    simp only [List.map_take]
  have ef : pgS (spD D i f o) f = gR (pgS D i) := by
    unfold gR
    rw [gd5 hsz]
    unfold pgS
    rw [spD_f o hne]
    simp only [List.map_drop]
  refine List.ext_getElem? fun l' => ?_
  have hat := ch_at (c' := c1 ++ i :: f :: c2) hc l'
  by_cases e : l' = l
  · subst e
    rw [if_pos rfl] at hat
    rw [ss_at hl, trS_at (show (spC ch l' c1 i f c2)[l']? = some _ from hat), List.map_append, List.map_cons, List.map_cons, mp c1 n1 f1, mp c2 n2 f2, ei, ef]
    rfl
  · rw [if_neg e] at hat
    rw [ss_ne e]
    cases hc' : ch[l']? with
    | none =>
      rw [hc'] at hat
      have hat : (spC ch l c1 i f c2)[l']? = none := hat
      simp [trS, hc', hat]
    | some c' =>
      rw [hc'] at hat
      rw [trS_at (show (spC ch l c1 i f c2)[l']? = some _ from hat), trS_at hc']
      rw [mp c' (fun z => e (nd_other hnd hc' hc z him)) (hfn l' c' hc')]
theorem CI_split (o : Bool) (hI : CI ch D f) (hf : f < 60) (hc : ch[l]? = some (c1 ++ i :: c2)) (hsz : (D i).2.2.1.length = 10) (hnt : l + 1 < ch.length) : CI (spC ch l c1 i f c2) (spD D i f o) (f + 1) := by
  have hfn : ∀ (l' : Nat) c, ch[l']? = some c → f ∉ c := fun l' c hc' z => absurd (hI.2.2.2.1 l' c hc' f z) (by omega)
  have him : i ∈ c1 ++ i :: c2 := List.mem_append_right _ List.mem_cons_self
  have hne : f ≠ i := fun e => hfn l _ hc (e ▸ him)
  have hT := trS_split (D := D) o hI.2.2.1 hc hfn hsz
  obtain ⟨t1, t2, t3, t4, t5, t6, t7, t8⟩ := hI
  have h5 := in5 hsz
  have at' : ∀ (l' : Nat) c, (spC ch l c1 i f c2)[l']? = some c → (l' = l ∧ c = c1 ++ i :: f :: c2) ∨ (l' ≠ l ∧ ch[l']? = some c) := fun l' c hc' => by
    unfold spC at hc'
    rw [ch_at hc] at hc'
    by_cases e : l' = l
    · rw [if_pos e] at hc'
      exact Or.inl ⟨e, (Option.some.inj hc').symm⟩
    · rw [if_neg e] at hc'
      exact Or.inr ⟨e, hc'⟩
  -- every page of the new chains: the fresh one, or an old one of the same level
  have old : ∀ (l' : Nat) c j, (spC ch l c1 i f c2)[l']? = some c → j ∈ c → (l' = l ∧ j = f) ∨ (j ≠ f ∧ ∃ c0, ch[l']? = some c0 ∧ j ∈ c0) := fun l' c j hc' hj => by
    rcases at' l' c hc' with ⟨rfl, rfl⟩ | ⟨e, z⟩
    · rcases List.mem_append.mp hj with z | z
      · have hm : j ∈ c1 ++ i :: c2 := List.mem_append_left _ z
        exact Or.inr ⟨fun e => hfn _ _ hc (e ▸ hm), _, hc, hm⟩
      · rcases List.mem_cons.mp z with z | z
        · have hm : j ∈ c1 ++ i :: c2 := by rw [z]; exact him
          exact Or.inr ⟨fun e => hfn _ _ hc (e ▸ hm), _, hc, hm⟩
        · rcases List.mem_cons.mp z with z | z
          · exact Or.inl ⟨rfl, z⟩
          · have hm : j ∈ c1 ++ i :: c2 := List.mem_append_right _ (List.mem_cons_of_mem _ z)
            exact Or.inr ⟨fun e => hfn _ _ hc (e ▸ hm), _, hc, hm⟩
    · exact Or.inr ⟨fun e => hfn _ _ z (e ▸ hj), c, z, hj⟩
  have new : ∀ (l' : Nat) c j, ch[l']? = some c → j ∈ c → ∃ c', (spC ch l c1 i f c2)[l']? = some c' ∧ j ∈ c' := fun l' c j hc' hj => by
    unfold spC
    rw [ch_at hc]
    by_cases e : l' = l
    · rw [if_pos e]
      refine ⟨_, rfl, ?_⟩
      subst e
      rw [hc] at hc'
      have ec := Option.some.inj hc'
      subst ec
      rcases List.mem_append.mp hj with z | z
      · exact List.mem_append_left _ z
      · rcases List.mem_cons.mp z with z | z
        · rw [z]; exact List.mem_append_right _ List.mem_cons_self
        · exact List.mem_append_right _ (List.mem_cons_of_mem _ (List.mem_cons_of_mem _ z))
    · rw [if_neg e]
      exact ⟨c, hc', hj⟩
  have okI := t6 l _ hc i him
  refine ⟨?_, ?_, ?_, ?_, by omega, ?_, ?_, ?_⟩
  · rw [hT]
    exact trK_split o t1 (ci_at hc) (by simpa [pgS] using hsz) (by rw [trS_len]; exact hnt)
  · obtain ⟨n, hn, hr⟩ := t2
    refine ⟨n, by unfold spC; rw [List.length_set]; exact hn, ?_⟩
    unfold spC
    rw [ch_at hc, if_neg (by omega)]
    exact hr
  · refine nd_mk (fun l' c hc' => ?_) (fun l' l'' c c' j hc' hc'' hj hj' => ?_)
    · rcases at' l' c hc' with ⟨rfl, rfl⟩ | ⟨e, z⟩
      · have hn := nd_at t3 hc
        have hp : (c1 ++ i :: f :: c2).Perm (f :: (c1 ++ i :: c2)) := by
          have : c1 ++ i :: f :: c2 = (c1 ++ [i]) ++ f :: c2 := by simp
          rw [this]
          refine List.perm_middle.trans ?_
          simp
        exact hp.nodup_iff.mpr (List.nodup_cons.mpr ⟨hfn _ _ hc, hn⟩)
      · exact nd_at t3 z
    · rcases old _ _ _ hc' hj with ⟨a1, a2⟩ | ⟨a1, c0, a2, a3⟩
      · rcases old _ _ _ hc'' hj' with ⟨b1, b2⟩ | ⟨b1, c0, b2, b3⟩
        · rw [a1, b1]
        · exact absurd a2 b1
      · rcases old _ _ _ hc'' hj' with ⟨b1, b2⟩ | ⟨b1, c0', b2, b3⟩
        · exact absurd b2 a1
        · exact nd_other t3 a2 b2 a3 b3
  · intro l' c hc' j hj
    rcases old _ _ _ hc' hj with ⟨a1, a2⟩ | ⟨a1, c0, a2, a3⟩
    · omega
    · have := t4 _ _ a2 j a3
      omega
  · intro l' c hc' j hj
    rcases old _ _ _ hc' hj with ⟨a1, a2⟩ | ⟨a1, c0, a2, a3⟩
    · rw [a2, spD_f o hne]
      exact ⟨okI.2 _ (List.mem_of_getElem? h5), fun x hx => okI.2 x (List.mem_of_mem_drop hx)⟩
    · by_cases e : j = i
      · rw [e, spD_i]
        exact ⟨okI.1, fun x hx => okI.2 x (List.mem_of_mem_take hx)⟩
      · rw [spD_n o e a1]
        exact t6 _ _ a2 j a3
  · intro l' c hc' j hj
    -- a page below keeps its low
    have lo : ∀ (b : Nat) (x : xE), (∃ c', ch[l']? = some c' ∧ b ∈ c' ∧ sk (D b).1 = sk x) → ∃ c', (spC ch l c1 i f c2)[l']? = some c' ∧ b ∈ c' ∧ sk (spD D i f o b).1 = sk x := fun b x ⟨c', z1, z2, z3⟩ => by
      obtain ⟨c'', y1, y2⟩ := new l' c' b z1 z2
      exact ⟨c'', y1, y2, by rw [spD_low o (fun e => hfn _ _ z1 (e ▸ z2))]; exact z3⟩
    rcases old _ _ _ hc' hj with ⟨a1, a2⟩ | ⟨a1, c0, a2, a3⟩
    · have hc0 := hc
      rw [← a1] at hc0
      obtain ⟨m1, m2⟩ := t7 l' _ hc0 i him
      rw [a2, spD_f o hne]
      refine ⟨by simp only [List.length_take, List.length_drop]; omega, fun k b x hx hb => lo b x ?_⟩
      have hx : ((D i).2.2.1.drop 5)[k]? = some x := hx
      have hb : (((D i).2.2.2.drop 5).take 5)[k]? = some b := hb
      rw [List.getElem?_drop] at hx
      rw [List.getElem?_take] at hb
      split at hb
      · rw [List.getElem?_drop] at hb
        exact m2 _ b x hx hb
      · cases hb
    · obtain ⟨m1, m2⟩ := t7 l' _ a2 j a3
      by_cases e : j = i
      · subst e
        rw [spD_i]
        refine ⟨by simp only [List.length_take]; omega, fun k b x hx hb => lo b x ?_⟩
        have hx : ((D j).2.2.1.take 5)[k]? = some x := hx
        have hb : ((D j).2.2.2.take 5)[k]? = some b := hb
        rw [List.getElem?_take] at hx hb
        split at hb
        · rename_i k5
          rw [if_pos k5] at hx
          exact m2 _ b x hx hb
        · cases hb
      · rw [spD_n o e a1]
        exact ⟨m1, fun k b x hx hb => lo b x (m2 k b x hx hb)⟩
  · intro c hc' j hj x hx
    rcases old _ _ _ hc' hj with ⟨a1, a2⟩ | ⟨a1, c0, a2, a3⟩
    · have hc0 := hc
      rw [← a1] at hc0
      rw [a2, spD_f o hne] at hx
      exact t8 _ hc0 i him x (List.mem_of_mem_drop hx)
    · by_cases e : j = i
      · subst e
        rw [spD_i] at hx
        exact t8 _ a2 j a3 x (List.mem_of_mem_take hx)
      · rw [spD_n o e a1] at hx
        exact t8 _ a2 j a3 x hx
end CS
end
section
/-! the class: splitPage -/
theorem CPi_up2 {h : xH} {ch : List (List Nat)} {D : cD} {i : Nat} {P : xP} {fs : List Value} {c : xC} (hp : CPi h ch D i P) (ht : h.2 2 = some (.inr (2, fs))) : CPi (x_up h 2 c) ch D i P := by
  have en : ∀ a v, h.2 a = some (eC v) → (x_up h 2 c).2 a = some (eC v) := fun a v ha => x_up_n ha (fun e => by rw [e, ht] at ha; cases ha)
  have pn : ∀ b, x_pn h b → x_pn (x_up h 2 c) b := fun b hb => by
    rcases hb with rfl | ⟨Z, hZ⟩
    · exact Or.inl rfl
    · exact Or.inr ⟨Z, x_up_n hZ (fun e => by rw [e, ht] at hZ; cases hZ)⟩
  obtain ⟨p1, p2, p3, p4⟩ := hp
  have g := pa_ge i
  refine ⟨⟨x_up_n p1.1 (by omega), x_up_n p1.2.1 (by omega), x_up_n p1.2.2 (by omega)⟩, fun j hj => ?_, fun j hj => pn _ (p3 j hj), fun l c' k hc hk => ?_⟩
  · obtain ⟨v, hv⟩ := p2 j hj
    exact ⟨v, en _ v hv⟩
  · obtain ⟨q1, q2, q3, q4, q5, q6, q7⟩ := p4 l c' k hc hk
    exact ⟨q1, q2, en _ _ q3, q4, q5, fun j v hv => en _ v (q6 j v hv), q7⟩
section CT
variable {h : xH} {ch : List (List Nat)} {D : cD} {tk fu l i : Nat} {q : qW} {ca : Nat} {cb : Bool} {ha : Nat} {c1 c2 : List Nat}
theorem CP_free {f : Nat} {P P' : xP} (hCP : CP h ch D) (hfn : ∀ (l' : Nat) c, ch[l']? = some c → f ∉ c) (hp : x_pg h (pa f) P) (hfe : x_fe h P'.2.1) (hfb : x_fb h P'.2.2) : CP (x_ps h (pa f) P') ch D := by
  refine CP_of [f] hCP (fun a v => x_en_ps hp) (fun b => x_pn_ps hp) (fun j hj hn R hR => x_pg_ps hp hR (fun z => hn (by rw [pa_inj z]; simp))) (fun j hj hn l c k hc hk => ⟨rfl, c, k, hc, hk, rfl⟩) (fun j hj hj60 => ?_)
  have e := List.mem_singleton.mp hj
  subst e
  refine ⟨P', x_ps_pg _ _ _, fun k hk => ?_, fun k hk => x_pn_ps hp (hfb k hk), fun l c k hc hk => absurd (List.mem_of_getElem? hk) (hfn l c hc)⟩
  obtain ⟨v, hv⟩ := hfe k hk
  exact ⟨v, x_en_ps hp hv⟩
theorem CPi_free {f : Nat} {P P' : xP} (hfn : ∀ (l' : Nat) c, ch[l']? = some c → f ∉ c) (hp : x_pg h (pa f) P) (hfe : x_fe h P'.2.1) (hfb : x_fb h P'.2.2) : CPi (x_ps h (pa f) P') ch D f P' := by
  refine ⟨x_ps_pg _ _ _, fun k hk => ?_, fun k hk => x_pn_ps hp (hfb k hk), fun l c k hc hk => absurd (List.mem_of_getElem? hk) (hfn l c hc)⟩
  obtain ⟨v, hv⟩ := hfe k hk
  exact ⟨v, x_en_ps hp hv⟩
theorem cpy_fe {E F : Nat → Nat} {s n : Nat} (h1 : x_fe h E) (h2 : x_fe h F) (hs : s + n ≤ 10) : x_fe h (cpy E F s n) := fun j hj => by
  unfold cpy
  split
  · exact h2 _ (by omega)
  · exact h1 _ hj
theorem cpy_fb {E F : Nat → Nat} {s n : Nat} (h1 : x_fb h E) (h2 : x_fb h F) (hs : s + n ≤ 10) : x_fb h (cpy E F s n) := fun j hj => by
  unfold cpy
  split
  · exact h2 _ (by omega)
  · exact h1 _ hj
theorem con_splitPage (d : Nat) (hS : CSt h ch D tk fu q ca cb ha) (hI : CI ch D fu) (htk : tk ≤ 60) (hfu : fu < tk) (hc : ch[l]? = some (c1 ++ i :: c2)) (hsz : (D i).2.2.1.length = 10) (R : List Value → xH → Prop) (hR : ∀ rv h', R rv h' → ∃ b : Bool, rv = [.int (bI b)])
    (ra : ∀ h', x_cf h h' → (sW 63 q).1 = false → CSt h' ch D tk (fu + 1) (sW 63 q).2 ca cb ha → R [.int 0] h')
    (rb : ∀ h', x_cf h h' → (sW 63 q).1 = true → (sW 1 (sW 63 q).2).1 = false → CSt h' (spC ch l c1 i fu c2) (spD D i fu true) tk (fu + 1) (sW 1 (sW 63 q).2).2 ca cb ha → R [.int 0] h')
    (rc : ∀ h' e5, x_cf h h' → (sW 63 q).1 = true → (sW 1 (sW 63 q).2).1 = true → h'.2 e5 = some (eC ((D i).2.2.1.getD 5 lowE)) → CSt h' (spC ch l c1 i fu c2) (spD D i fu (D i).2.1) tk (fu + 1) (sW 1 (sW 63 q).2).2 ca cb ha → x_Con mX2_put (d + 1) 0 0 [.ref 2, .int (nI (l + 1)), .ref e5, .ref (pa fu)] h' R) :
    x_Con mX2_splitPage (d + 2) 0 0 [.ref 2, .ref (pa i)] h R := by
  have him : i ∈ c1 ++ i :: c2 := List.mem_append_right _ List.mem_cons_self
  have hpos : (c1 ++ i :: c2)[c1.length]? = some i := by rw [List.getElem?_append_right (Nat.le_refl _), Nat.sub_self]; rfl
  have hi60 : i < 60 := by have := hI.2.2.2.1 _ _ hc i him; omega
  have hf60 : fu < 60 := by omega
  have hfn : ∀ (l' : Nat) c, ch[l']? = some c → fu ∉ c := fun l' c hc' z => absurd (hI.2.2.2.1 l' c hc' fu z) (by omega)
  have hne : fu ≠ i := fun e => hfn l _ hc (e ▸ him)
  have hpne : pa i ≠ pa fu := fun z => hne (pa_inj z).symm
  obtain ⟨s1, s2, s3, s4, s5, s6⟩ := id hS
  obtain ⟨P0, hp0⟩ := s5 i hi60
  obtain ⟨-, q20, -⟩ := hp0.2.2.2 l _ _ hc hpos
  obtain ⟨Pf, hpf⟩ := s5 fu hf60
  have p00 := hp0.1.1
  refine e_enter (by decide) (Nat.le_of_ble_eq_true rfl) ?_
  refine e_aload_n dX2_splitPage_0 rfl ?_
  refine e_aload_n dX2_splitPage_1 rfl ?_
  refine e_get dX2_splitPage_2 fX2_131 p00 rfl ?_
  rw [q20]
  refine e_V1d dX2_splitPage_5 gX2_167 s1 rfl (by omega) (Nat.le_of_ble_eq_true rfl) rfl rfl (con_useTaken d l s1 s4 htk hfu hpf.1) ?_
  have hS1 := hS.up2 (tk' := tk) (fu' := fu + 1) (q' := q) (ca' := ca) (cb' := cb) (ha' := ha) s6
  have hf1 := x_cf.up2 (c := tC tk (fu + 1) q.1 (clQ q) ca cb ha) s1
  have hpf1 := CPi_up2 (c := tC tk (fu + 1) q.1 (clQ q) ca cb ha) hpf s1
  have hS2 := hS1.ps hpf1.1 hf60 (CP_free (P' := ((0, l, 3, 0, 0), Pf.2)) hS1.2.2.2.2.1 hfn hpf1.1 hpf1.2.1 hpf1.2.2.1)
  have hpf2 : CPi _ ch D fu ((0, l, 3, 0, 0), Pf.2) := CPi_free (P' := ((0, l, 3, 0, 0), Pf.2)) hfn hpf1.1 hpf1.2.1 hpf1.2.2.1
  have hf2 := hf1.tr (x_cf.ps (P' := ((0, l, 3, 0, 0), Pf.2)) hpf1.1 hf60)
  generalize x_ps (x_up h 2 (tC tk (fu + 1) q.1 (clQ q) ca cb ha)) (pa fu) ((0, l, 3, 0, 0), Pf.2) = h2 at hS2 hpf2 hf2 ⊢
  refine e_astore_n dX2_splitPage_8 (by decide) rfl ?_
  refine e_aload_n dX2_splitPage_9 rfl ?_
  refine e_ifnull (tgt := 22) dX2_splitPage_10 (by decide) (fun z => absurd z (pa_ne fu)) (fun _ => ?_)
  refine e_aload_n dX2_splitPage_13 rfl ?_
  refine e_bipush (v := 63) dX2_splitPage_14 (by decide) ?_
  refine e_V1d dX2_splitPage_16 gX2_80 hS2.1 rfl (by omega) (Nat.le_of_ble_eq_true rfl) rfl rfl (con_setWords d 2 63 hS2.1 hS2.2.2.2.2.2) ?_
  have hS3 := hS2.up2 (tk' := tk) (fu' := fu + 1) (q' := (sW 63 q).2) (ca' := ca) (cb' := cb) (ha' := ha) (qok_sW s6 (by decide))
  have hf3 := hf2.tr (x_cf.up2 (c := tC tk (fu + 1) (sW 63 q).2.1 (clQ (sW 63 q).2) ca cb ha) hS2.1)
  have hpf3 := CPi_up2 (c := tC tk (fu + 1) (sW 63 q).2.1 (clQ (sW 63 q).2) ca cb ha) hpf2 hS2.1
  generalize x_up h2 2 (tC tk (fu + 1) (sW 63 q).2.1 (clQ (sW 63 q).2) ca cb ha) = h3 at hS3 hpf3 hf3 ⊢
  by_cases e1 : (sW 63 q).1 = true
  · refine e_if_ne (tgt := 24) dX2_splitPage_19 (by decide) (fun _ => ?_) (fun z => absurd z (by rw [e1]; decide))
    obtain ⟨P, hp⟩ := hS3.2.2.2.2.1 i hi60
    obtain ⟨q1, q2, q3, q4, q5, q6, q7⟩ := hp.2.2.2 l _ _ hc hpos
    have hcf := cpy_fe (s := 5) (n := 5) hpf3.2.1 hp.2.1 (by omega)
    have hcb := cpy_fb (s := 5) (n := 5) hpf3.2.2.1 hp.2.2.1 (by omega)
    refine e_aload_n dX2_splitPage_24 rfl ?_
    refine e_aload_n dX2_splitPage_25 rfl ?_
    refine e_iconst (v := 5) dX2_splitPage_26 (by decide) ?_
    refine e_bipush (v := 10) dX2_splitPage_27 (by decide) ?_
    refine e_V3d dX2_splitPage_29 gX2_170 hpf3.1.1 rfl (by omega) (Nat.le_of_ble_eq_true rfl) rfl rfl (con_append (d + 1) h3 (pa fu) (pa i) ((0, l, 3, 0, 0), Pf.2) P 5 5 (by omega) hpf3.1 hp.1 hpne hp.2.1 hp.2.2.1 (q1.trans hsz) rfl) ?_
    refine e_aload_n dX2_splitPage_32 rfl ?_
    refine e_aload_n dX2_splitPage_33 rfl ?_
    refine e_iconst (v := 0) dX2_splitPage_34 (by decide) ?_
    refine e_V1d dX2_splitPage_35 gX2_103 (x_ps_pg _ _ _).1 rfl (by omega) (Nat.le_of_ble_eq_true rfl) rfl rfl (con_entryAt (d + 1) _ (pa fu) 0 (P.2.1 5) _ (x_ps_pg _ _ _) (by decide) rfl) ?_
    refine e_putP (c' := (5, l, P.2.1 5, 0, 0)) dX2_splitPage_38 fX2_145 (x_ps_pg _ _ _) (by exact Or.inl ⟨_, rfl⟩) rfl rfl ?_
    rw [x_ps_ps]
    have r1 : ∀ Z, x_pg (x_ps h3 (pa fu) Z) (pa i) P := fun Z => x_pg_ps hpf3.1 hp.1 hpne
    refine e_aload_n dX2_splitPage_41 rfl ?_
    refine e_aload_n dX2_splitPage_42 rfl ?_
    refine e_get dX2_splitPage_43 fX2_100 (r1 _).1 rfl ?_
    refine e_putP (c' := (5, l, P.2.1 5, P.1.2.2.2.1, 0)) dX2_splitPage_46 fX2_100 (x_ps_pg _ _ _) (by exact Or.inl ⟨_, rfl⟩) rfl rfl ?_
    rw [x_ps_ps]
    refine e_aload_n dX2_splitPage_49 rfl ?_
    refine e_aload_n dX2_splitPage_50 rfl ?_
    refine e_putP (c' := (P.1.1, P.1.2.1, P.1.2.2.1, pa fu, P.1.2.2.2.2)) dX2_splitPage_51 fX2_100 (r1 _) (by exact Or.inl ⟨_, rfl⟩) rfl rfl ?_
    refine e_aload_n dX2_splitPage_54 rfl ?_
    refine e_iconst (v := 5) dX2_splitPage_55 (by decide) ?_
    refine e_putP (c' := (5, P.1.2.1, P.1.2.2.1, pa fu, P.1.2.2.2.2)) dX2_splitPage_56 fX2_97 (x_ps_pg _ _ _) (by exact ⟨rfl, rfl⟩) rfl rfl ?_
    rw [x_ps_ps, q5]
    have hS4 := hS3.ps hpf3.1 hf60 (CP_free (P' := ((5, l, P.2.1 5, P.1.2.2.2.1, 0), cpy Pf.2.1 P.2.1 5 5, cpy Pf.2.2 P.2.2 5 5)) hS3.2.2.2.2.1 hfn hpf3.1 hcf hcb)
    have hS5 := hS4.ps (r1 _) hi60 (CP_split (D i).2.1 hS3.2.2.2.2.1 hI.2.2.1 hc hi60 hf60 hfn hsz hp hpf3)
    have hf5 := (hf3.tr (x_cf.ps (P' := ((5, l, P.2.1 5, P.1.2.2.2.1, 0), cpy Pf.2.1 P.2.1 5 5, cpy Pf.2.2 P.2.2 5 5)) hpf3.1 hf60)).tr (x_cf.ps (P' := ((5, P.1.2.1, P.1.2.2.1, pa fu, bI (D i).2.1), P.2)) (r1 _) hi60)
    have e2 : ∀ z : xH, z = x_ps (x_ps h3 (pa fu) ((5, l, P.2.1 5, P.1.2.2.2.1, 0), cpy Pf.2.1 P.2.1 5 5, cpy Pf.2.2 P.2.2 5 5)) (pa i) ((5, P.1.2.1, P.1.2.2.1, pa fu, bI (D i).2.1), P.2) → CSt z (spC ch l c1 i fu c2) (spD D i fu (D i).2.1) tk (fu + 1) (sW 63 q).2 ca cb ha → x_cf h z → x_E mX2_splitPage (d + 2) 0 0 59 [(2, .ref (pa fu)), (1, .ref (pa i)), (0, .ref 2)] [] z R := by
      intro h5 _ hS5 hf5
      refine e_aload_n dX2_splitPage_59 rfl ?_
      refine e_iconst (v := 1) dX2_splitPage_60 (by decide) ?_
      refine e_V1d dX2_splitPage_61 gX2_80 hS5.1 rfl (by omega) (Nat.le_of_ble_eq_true rfl) rfl rfl (con_setWords (d + 1) 2 1 hS5.1 hS5.2.2.2.2.2) ?_
      have hS6 := hS5.up2 (tk' := tk) (fu' := fu + 1) (q' := (sW 1 (sW 63 q).2).2) (ca' := ca) (cb' := cb) (ha' := ha) (qok_sW hS5.2.2.2.2.2 (by decide))
      have hf6 := hf5.tr (x_cf.up2 (c := tC tk (fu + 1) (sW 1 (sW 63 q).2).2.1 (clQ (sW 1 (sW 63 q).2).2) ca cb ha) hS5.1)
      generalize x_up h5 2 (tC tk (fu + 1) (sW 1 (sW 63 q).2).2.1 (clQ (sW 1 (sW 63 q).2).2) ca cb ha) = h6 at hS6 hf6 ⊢
      have hcS : (spC ch l c1 i fu c2)[l]? = some (c1 ++ i :: fu :: c2) := by unfold spC; rw [ch_at hc, if_pos rfl]
      have hposS : (c1 ++ i :: fu :: c2)[c1.length]? = some i := by rw [List.getElem?_append_right (Nat.le_refl _), Nat.sub_self]; rfl
      have hposF : (c1 ++ i :: fu :: c2)[c1.length + 1]? = some fu := by rw [List.getElem?_append_right (by omega), show c1.length + 1 - c1.length = 1 by omega]; rfl
      obtain ⟨P6, hp6⟩ := hS6.2.2.2.2.1 i hi60
      obtain ⟨z1, z2, z3, z4, z5, z6, z7⟩ := hp6.2.2.2 l _ _ hcS hposS
      obtain ⟨F6, hF6⟩ := hS6.2.2.2.2.1 fu hf60
      obtain ⟨y1, y2, y3, y4, y5, y6, y7⟩ := hF6.2.2.2 l _ _ hcS hposF
      by_cases e2 : (sW 1 (sW 63 q).2).1 = true
      · refine e_if_ne (tgt := 74) dX2_splitPage_64 (by decide) (fun _ => ?_) (fun z => absurd z (by rw [e2]; decide))
        have u1 := hp6.1.1
        have u2 := hF6.1.1
        refine e_aload_n dX2_splitPage_74 rfl ?_
        refine e_aload_n dX2_splitPage_75 rfl ?_
        refine e_get dX2_splitPage_76 fX2_131 u1 rfl ?_
        refine e_iconst (v := 1) dX2_splitPage_79 (by decide) ?_
        refine e_iadd dX2_splitPage_80 ?_
        refine e_aload_n dX2_splitPage_81 rfl ?_
        refine e_get dX2_splitPage_82 fX2_145 u2 rfl ?_
        refine e_aload_n dX2_splitPage_85 rfl ?_
        rw [z2, nI_1]
        rw [spD_f _ hne] at y3
        refine e_V3 dX2_splitPage_86 gX2_76 hS6.1 rfl (by omega) (Nat.le_of_ble_eq_true rfl) rfl rfl (rc h6 _ hf6 e1 e2 y3 hS6) ?_
        rintro rv h7 hRR
        obtain ⟨b, rfl⟩ := hR _ _ hRR
        exact e_iret dX2_splitPage_89 rfl rfl hRR
      · refine e_if_ne (tgt := 74) dX2_splitPage_64 (by decide) (fun z => absurd (by rw [Bool.not_eq_true] at e2; rw [e2]; rfl) z) (fun _ => ?_)
        refine e_aload_n dX2_splitPage_67 rfl ?_
        refine e_iconst (v := 1) dX2_splitPage_68 (by decide) ?_
        refine e_putP (c' := (P6.1.1, P6.1.2.1, P6.1.2.2.1, P6.1.2.2.2.1, bI true)) dX2_splitPage_69 fX2_86 hp6.1 (by exact ⟨rfl, rfl⟩) rfl rfl ?_
        refine e_iconst (v := 0) dX2_splitPage_72 (by decide) ?_
        have hCP' := CP_set hS6.2.2.2.2.1 hi60 hp6 (n' := P6.1.1) (b' := true) (E' := P6.2.1) (B' := P6.2.2) (its' := (spD D i fu (D i).2.1 i).2.2.1) (bls' := (spD D i fu (D i).2.1 i).2.2.2) z1 hp6.2.1 hp6.2.2.1 z6 z7
        have eD : Du (spD D i fu (D i).2.1) i ((spD D i fu (D i).2.1 i).1, true, (spD D i fu (D i).2.1 i).2.2.1, (spD D i fu (D i).2.1 i).2.2.2) = spD D i fu true := by
          rw [spD_i]
          funext j
          unfold spD Du
          by_cases e : j = i
          · rw [if_pos e, if_pos e]
          · rw [if_neg e, if_neg e, if_neg e]
        rw [eD] at hCP'
        exact e_iret dX2_splitPage_73 rfl rfl (rb _ (hf6.tr (x_cf.ps hp6.1 hi60)) e1 (by simpa using e2) (hS6.ps hp6.1 hi60 hCP'))
    exact e_loc [2, 1, 0] rfl (e2 _ rfl hS5 hf5)
  · refine e_if_ne (tgt := 24) dX2_splitPage_19 (by decide) (fun z => absurd (by rw [Bool.not_eq_true] at e1; rw [e1]; rfl) z) (fun _ => ?_)
    refine e_iconst (v := 0) dX2_splitPage_22 (by decide) ?_
    exact e_iret dX2_splitPage_23 rfl rfl (ra _ hf3 (by simpa using e1) hS3)
end CT
end
section
/-! the class: splitRoot -/
def roC (ch : List (List Nat)) (n f : Nat) : List (List Nat) := ch.set n [f, f + 1] ++ [[0]]
def roD (D : cD) (f : Nat) : cD := Du (Du (Du D f (lowE, false, (D 0).2.2.1.take 5, (D 0).2.2.2.take 5)) (f + 1) ((D 0).2.2.1.getD 5 lowE, false, (D 0).2.2.1.drop 5, ((D 0).2.2.2.drop 5).take 5)) 0 (lowE, false, [lowE, (D 0).2.2.1.getD 5 lowE], [f, f + 1])
section CR
variable {h : xH} {ch : List (List Nat)} {D : cD} {tk fu n : Nat} {q : qW} {ca : Nat} {cb : Bool} {ha : Nat}
theorem roD_0 {f : Nat} : roD D f 0 = (lowE, false, [lowE, (D 0).2.2.1.getD 5 lowE], [f, f + 1]) := Du_s _ _ _
theorem roD_r {f : Nat} : roD D f (f + 1) = ((D 0).2.2.1.getD 5 lowE, false, (D 0).2.2.1.drop 5, ((D 0).2.2.2.drop 5).take 5) := (Du_n (by omega)).trans (Du_s _ _ _)
theorem roD_l {f : Nat} (h0 : f ≠ 0) : roD D f f = (lowE, false, (D 0).2.2.1.take 5, (D 0).2.2.2.take 5) := (Du_n h0).trans ((Du_n (by omega)).trans (Du_s _ _ _))
theorem roD_n {f j : Nat} (h0 : j ≠ 0) (h1 : j ≠ f) (h2 : j ≠ f + 1) : roD D f j = D j := (Du_n h0).trans ((Du_n h2).trans (Du_n h1))
theorem roC_at {f : Nat} (hn : ch.length = n + 1) {l : Nat} {c : List Nat} (hc : (roC ch n f)[l]? = some c) : (l < n ∧ ch[l]? = some c) ∨ (l = n ∧ c = [f, f + 1]) ∨ (l = n + 1 ∧ c = [0]) := by
  unfold roC at hc
  rcases Nat.lt_or_ge l (n + 1) with z | z
  · rw [List.getElem?_append_left (by rw [List.length_set]; omega), List.getElem?_set] at hc
    by_cases e : n = l
    · rw [if_pos e, if_pos (by omega)] at hc
      exact Or.inr (Or.inl ⟨e.symm, (Option.some.inj hc).symm⟩)
    · rw [if_neg e] at hc
      exact Or.inl ⟨by omega, hc⟩
  · rw [List.getElem?_append_right (by rw [List.length_set]; omega), List.length_set, hn] at hc
    rcases Nat.lt_or_ge (n + 1) l with y | y
    · obtain ⟨m, hm⟩ : ∃ m, l - (n + 1) = m + 1 := ⟨l - (n + 1) - 1, by omega⟩
      rw [hm] at hc
      cases hc
    · have : l = n + 1 := by omega
      rw [this, Nat.sub_self] at hc
      exact Or.inr (Or.inr ⟨this, (Option.some.inj hc).symm⟩)
theorem roC_lo {f : Nat} (hn : ch.length = n + 1) {l : Nat} (hl : l < n) : (roC ch n f)[l]? = ch[l]? := by
  unfold roC
  rw [List.getElem?_append_left (by rw [List.length_set]; omega), List.getElem?_set, if_neg (by omega)]
theorem roC_n {f : Nat} (hn : ch.length = n + 1) : (roC ch n f)[n]? = some [f, f + 1] := by
  unfold roC
  rw [List.getElem?_append_left (by rw [List.length_set]; omega), List.getElem?_set, if_pos rfl, if_pos (by omega)]
theorem roC_t {f : Nat} (hn : ch.length = n + 1) : (roC ch n f)[n + 1]? = some [0] := by
  unfold roC
  rw [List.getElem?_append_right (by rw [List.length_set]; omega), List.length_set, hn, Nat.sub_self]
  rfl
theorem CI.root_low (hI : CI ch D tk) (hr : ch[n]? = some [0]) : (D 0).1 = lowE := by
  have hk := hI.1.1 n _ (trS_at hr)
  obtain ⟨p, t', ep, hp0⟩ := hk.1
  have : pgS D 0 = p := by simpa using (List.cons.inj ep).1
  have h0 : sk (D 0).1 = 0 := by rw [← this] at hp0; exact hp0
  exact sk_inj (hI.2.2.2.2.2.1 n _ hr 0 List.mem_cons_self).1 ok_low (by rw [h0, sk_low])
theorem trS_root (hI : CI ch D fu) (hn : ch.length = n + 1) (hr : ch[n]? = some [0]) (hsz : (D 0).2.2.1.length = 10) (h0 : fu ≠ 0) : trS (roC ch n fu) (roD D fu) = sRoot (trS ch D) n (pgS D 0) := by
  have hfn : ∀ (l' : Nat) c, ch[l']? = some c → ∀ j ∈ c, j ≠ fu ∧ j ≠ fu + 1 := fun l' c hc' j hj => by have := hI.2.2.2.1 l' c hc' j hj; omega
  have hl : (trS ch D)[n]? = some ([] ++ pgS D 0 :: []) := trS_at hr
  have e0 : pgS (roD D fu) 0 = (0, false, [0, (pgS D 0).2.2.getD 5 0]) := by
    rw [gd5 hsz]
    unfold pgS
    rw [roD_0]
    simp only [List.map_cons, List.map_nil, sk_low]
  have el : pgS (roD D fu) fu = gL (pgS D 0) false := by
    unfold gL pgS
    rw [roD_l h0, hI.root_low hr]
    simp only [List.map_take]
  have er : pgS (roD D fu) (fu + 1) = gR (pgS D 0) := by
    unfold gR
    rw [gd5 hsz]
    unfold pgS
    rw [roD_r]
    simp only [List.map_drop]
  unfold sRoot
  refine List.ext_getElem? fun l' => ?_
  rcases Nat.lt_trichotomy l' n with z | z | z
  · rw [List.getElem?_append_left (by rw [ss_len, trS_len]; omega), ss_ne (by omega)]
    cases hc' : ch[l']? with
    | none => simp [trS, hc', roC_lo hn z]
    | some c' =>
      rw [trS_at ((roC_lo hn z).trans hc'), trS_at hc']
      congr 1
      refine List.map_congr_left fun j hj => ?_
      have hj0 : j ≠ 0 := fun e => by
        have := (root_only hI hc').mp (e ▸ hj)
        omega
      obtain ⟨b1, b2⟩ := hfn _ _ hc' j hj
      unfold pgS
      rw [roD_n hj0 b1 b2]
  · subst z
    rw [List.getElem?_append_left (by rw [ss_len, trS_len]; omega), ss_at hl, trS_at (roC_n hn)]
    simp only [List.map_cons, List.map_nil, el, er]
    rfl
  · rcases Nat.lt_or_ge (n + 1) l' with y | y
    · rw [List.getElem?_eq_none, List.getElem?_eq_none]
      · rw [List.length_append, ss_len, trS_len]; simp; omega
      · rw [trS_len]; unfold roC; rw [List.length_append, List.length_set]; simp; omega
    · have : l' = n + 1 := by omega
      subst this
      rw [trS_at (roC_t hn), List.getElem?_append_right (by rw [ss_len, trS_len]; omega), ss_len, trS_len, hn, Nat.sub_self]
      simp only [List.map_cons, List.map_nil, e0]
      rfl
theorem CI_root (hI : CI ch D fu) (hf : fu + 2 ≤ 60) (hn : ch.length = n + 1) (hr : ch[n]? = some [0]) (hsz : (D 0).2.2.1.length = 10) : CI (roC ch n fu) (roD D fu) (fu + 2) := by
  have h00 : 0 < fu := hI.2.2.2.1 n _ hr 0 List.mem_cons_self
  have h0 : fu ≠ 0 := by omega
  have hT := trS_root hI hn hr hsz h0
  have hlow := hI.root_low hr
  have hrt : ∀ (l' : Nat) c, ch[l']? = some c → l' < n → ∀ j ∈ c, j ≠ 0 := fun l' c hc' hl' j hj e => by
    have := (root_only hI hc').mp (e ▸ hj)
    omega
  obtain ⟨t1, t2, t3, t4, t5, t6, t7, t8⟩ := hI
  have h5 := in5 hsz
  have okI := t6 n _ hr 0 List.mem_cons_self
  refine ⟨?_, ⟨n + 1, ?_, roC_t hn⟩, ?_, ?_, by omega, ?_, ?_, ?_⟩
  · rw [hT]
    exact trK_root t1 (trS_at hr) (by rw [trS_len]; omega) (by simpa [pgS] using hsz)
  · unfold roC; rw [List.length_append, List.length_set, hn]; rfl
  · refine nd_mk (fun l' c hc' => ?_) (fun l' l'' c c' j hc' hc'' hj hj' => ?_)
    · rcases roC_at hn hc' with ⟨-, z⟩ | ⟨-, z⟩ | ⟨-, z⟩
      · exact nd_at t3 z
      · rw [z]; simp
      · rw [z]; simp
    · have key : ∀ (l' : Nat) c, (roC ch n fu)[l']? = some c → j ∈ c → (j < fu ∧ j ≠ 0 ∧ ∃ c0, ch[l']? = some c0 ∧ j ∈ c0) ∨ (fu ≤ j ∧ l' = n) ∨ (j = 0 ∧ l' = n + 1) := fun l' c hc' hj => by
        rcases roC_at hn hc' with ⟨z1, z⟩ | ⟨z1, z⟩ | ⟨z1, z⟩
        · exact Or.inl ⟨t4 _ _ z j hj, hrt _ _ z z1 j hj, c, z, hj⟩
        · rw [z] at hj
          refine Or.inr (Or.inl ⟨?_, z1⟩)
          rcases List.mem_cons.mp hj with y | y
          · omega
          · have := List.mem_singleton.mp y; omega
        · rw [z] at hj
          exact Or.inr (Or.inr ⟨List.mem_singleton.mp hj, z1⟩)
      rcases key _ _ hc' hj with ⟨a1, a2, c0, a3, a4⟩ | ⟨a1, a2⟩ | ⟨a1, a2⟩
      · rcases key _ _ hc'' hj' with ⟨b1, b2, c0', b3, b4⟩ | ⟨b1, b2⟩ | ⟨b1, b2⟩
        · exact nd_other t3 a3 b3 a4 b4
        · omega
        · omega
      · rcases key _ _ hc'' hj' with ⟨b1, b2, c0', b3, b4⟩ | ⟨b1, b2⟩ | ⟨b1, b2⟩ <;> omega
      · rcases key _ _ hc'' hj' with ⟨b1, b2, c0', b3, b4⟩ | ⟨b1, b2⟩ | ⟨b1, b2⟩ <;> omega
  · intro l' c hc' j hj
    rcases roC_at hn hc' with ⟨z1, z⟩ | ⟨z1, z⟩ | ⟨z1, z⟩
    · have := t4 _ _ z j hj; omega
    · rw [z] at hj
      rcases List.mem_cons.mp hj with y | y
      · omega
      · have := List.mem_singleton.mp y; omega
    · rw [z] at hj
      have := List.mem_singleton.mp hj; omega
  · intro l' c hc' j hj
    rcases roC_at hn hc' with ⟨z1, z⟩ | ⟨z1, z⟩ | ⟨z1, z⟩
    · have b := t4 _ _ z j hj
      rw [roD_n (hrt _ _ z z1 j hj) (by omega) (by omega)]
      exact t6 _ _ z j hj
    · rw [z] at hj
      rcases List.mem_cons.mp hj with y | y
      · rw [y, roD_l h0]
        exact ⟨ok_low, fun x hx => okI.2 x (List.mem_of_mem_take hx)⟩
      · rw [List.mem_singleton.mp y, roD_r]
        exact ⟨okI.2 _ (List.mem_of_getElem? h5), fun x hx => okI.2 x (List.mem_of_mem_drop hx)⟩
    · rw [z] at hj
      rw [List.mem_singleton.mp hj, roD_0]
      refine ⟨ok_low, fun x hx => ?_⟩
      have hx : x ∈ [lowE, (D 0).2.2.1.getD 5 lowE] := hx
      rcases List.mem_cons.mp hx with y | y
      · rw [y]; exact ok_low
      · rw [List.mem_singleton.mp y]; exact okI.2 _ (List.mem_of_getElem? h5)
  · intro l' c hc' j hj
    -- a page below keeps its low
    have lo : ∀ (b : Nat) (x : xE), l' < n → (∃ c', ch[l']? = some c' ∧ b ∈ c' ∧ sk (D b).1 = sk x) → ∃ c', (roC ch n fu)[l']? = some c' ∧ b ∈ c' ∧ sk (roD D fu b).1 = sk x := fun b x hl' ⟨c', z1, z2, z3⟩ => by
      have b1 := t4 _ _ z1 b z2
      exact ⟨c', (roC_lo hn hl').trans z1, z2, by rw [roD_n (hrt _ _ z1 hl' b z2) (by omega) (by omega)]; exact z3⟩
    rcases roC_at hn hc' with ⟨z1, z⟩ | ⟨z1, z⟩ | ⟨z1, z⟩
    · have b1 := t4 _ _ z j hj
      obtain ⟨m1, m2⟩ := t7 l' _ z j hj
      rw [roD_n (hrt _ _ z z1 j hj) (by omega) (by omega)]
      exact ⟨m1, fun k b x hx hb => lo b x (by omega) (m2 k b x hx hb)⟩
    · have hr' := hr
      rw [← z1] at hr'
      obtain ⟨m1, m2⟩ := t7 l' _ hr' 0 List.mem_cons_self
      rw [z] at hj
      rcases List.mem_cons.mp hj with y | y
      · rw [y, roD_l h0]
        refine ⟨by simp only [List.length_take]; omega, fun k b x hx hb => lo b x (by omega) ?_⟩
        have hx : ((D 0).2.2.1.take 5)[k]? = some x := hx
        have hb : ((D 0).2.2.2.take 5)[k]? = some b := hb
        rw [List.getElem?_take] at hx hb
        split at hb
        · rename_i k5
          rw [if_pos k5] at hx
          exact m2 _ b x hx hb
        · cases hb
      · rw [List.mem_singleton.mp y, roD_r]
        refine ⟨by simp only [List.length_take, List.length_drop]; omega, fun k b x hx hb => lo b x (by omega) ?_⟩
        have hx : ((D 0).2.2.1.drop 5)[k]? = some x := hx
        have hb : (((D 0).2.2.2.drop 5).take 5)[k]? = some b := hb
        rw [List.getElem?_drop] at hx
        rw [List.getElem?_take] at hb
        split at hb
        · rw [List.getElem?_drop] at hb
          exact m2 _ b x hx hb
        · cases hb
    · have : l' = n := by omega
      subst this
      rw [z] at hj
      rw [List.mem_singleton.mp hj, roD_0]
      refine ⟨rfl, fun k b x hx hb => ⟨_, roC_n hn, ?_⟩⟩
      have hx : [lowE, (D 0).2.2.1.getD 5 lowE][k]? = some x := hx
      have hb : [fu, fu + 1][k]? = some b := hb
      match k, hx, hb with
      | 0, hx, hb =>
        have e1 : lowE = x := Option.some.inj hx
        have e2 : fu = b := Option.some.inj hb
        subst e1 e2
        rw [roD_l h0]
        exact ⟨List.mem_cons_self, rfl⟩
      | 1, hx, hb =>
        have e1 : (D 0).2.2.1.getD 5 lowE = x := Option.some.inj hx
        have e2 : fu + 1 = b := Option.some.inj hb
        subst e2
        rw [roD_r]
        exact ⟨List.mem_cons_of_mem _ List.mem_cons_self, by rw [e1]⟩
      | k + 2, hx, hb => simp at hb
  · intro c hc' j hj x hx
    rcases roC_at hn hc' with ⟨z1, z⟩ | ⟨z1, z⟩ | ⟨z1, z⟩
    · have b1 := t4 _ _ z j hj
      rw [roD_n (hrt _ _ z z1 j hj) (by omega) (by omega)] at hx
      exact t8 _ z j hj x hx
    · have hr' := hr
      rw [← z1] at hr'
      have t9 := t8 _ hr' 0 List.mem_cons_self
      rw [z] at hj
      rcases List.mem_cons.mp hj with y | y
      · rw [y, roD_l h0] at hx
        exact t9 x (List.mem_of_mem_take hx)
      · rw [List.mem_singleton.mp y, roD_r] at hx
        exact t9 x (List.mem_of_mem_drop hx)
    · omega
end CR
end
