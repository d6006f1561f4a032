-- ===== PART A: goes FIRST, ahead of the names: the tables' words, and 'selects' of the private methods out of them =====
/-- a private method of a class that the tables say can be made, by its rows of tables_1 -/
def lw_okq (q : MethodName × Nat) : Prop := (q.1.cls ≠ "java/lang/invoke/MethodHandle" ∧ q.1.cls ≠ "java/lang/invoke/VarHandle") ∧ Cond.instantiable q.1.cls q.2 ∈ tables_1 ∧ Cond.privateMethod q.1 ∈ tables_1 ∧ Cond.instanceMethod q.1 ∈ tables_1
theorem lw_p0 : lw_okq (⟨"SideLinkTree", "pageInCharge", "(ILSideLinkTree$Entry;)LSideLinkTree$Page;"⟩, 11) := ⟨⟨by decide +kernel, by decide +kernel⟩, List.mem_of_getElem? (i := 8) (by decide +kernel), List.mem_of_getElem? (i := 120) (by decide +kernel), List.mem_of_getElem? (i := 121) (by decide +kernel)⟩
theorem lw_p1 : lw_okq (⟨"SideLinkTree", "pagesNeeded", "(LSideLinkTree$Entry;)I"⟩, 11) := ⟨⟨by decide +kernel, by decide +kernel⟩, List.mem_of_getElem? (i := 8) (by decide +kernel), List.mem_of_getElem? (i := 154) (by decide +kernel), List.mem_of_getElem? (i := 155) (by decide +kernel)⟩
theorem lw_p2 : lw_okq (⟨"SideLinkTree", "takePages", "(I)Z"⟩, 11) := ⟨⟨by decide +kernel, by decide +kernel⟩, List.mem_of_getElem? (i := 8) (by decide +kernel), List.mem_of_getElem? (i := 158) (by decide +kernel), List.mem_of_getElem? (i := 159) (by decide +kernel)⟩
theorem lw_p3 : lw_okq (⟨"SideLinkTree", "put", "(ILSideLinkTree$Entry;LSideLinkTree$Page;)Z"⟩, 11) := ⟨⟨by decide +kernel, by decide +kernel⟩, List.mem_of_getElem? (i := 8) (by decide +kernel), List.mem_of_getElem? (i := 162) (by decide +kernel), List.mem_of_getElem? (i := 163) (by decide +kernel)⟩
theorem lw_p4 : lw_okq (⟨"SideLinkTree", "splitRoot", "()Z"⟩, 11) := ⟨⟨by decide +kernel, by decide +kernel⟩, List.mem_of_getElem? (i := 8) (by decide +kernel), List.mem_of_getElem? (i := 166) (by decide +kernel), List.mem_of_getElem? (i := 167) (by decide +kernel)⟩
theorem lw_p5 : lw_okq (⟨"SideLinkTree", "useTakenPage", "(I)LSideLinkTree$Page;"⟩, 11) := ⟨⟨by decide +kernel, by decide +kernel⟩, List.mem_of_getElem? (i := 8) (by decide +kernel), List.mem_of_getElem? (i := 170) (by decide +kernel), List.mem_of_getElem? (i := 171) (by decide +kernel)⟩
theorem lw_p6 : lw_okq (⟨"SideLinkTree", "setWords", "(I)Z"⟩, 11) := ⟨⟨by decide +kernel, by decide +kernel⟩, List.mem_of_getElem? (i := 8) (by decide +kernel), List.mem_of_getElem? (i := 178) (by decide +kernel), List.mem_of_getElem? (i := 179) (by decide +kernel)⟩
theorem lw_p7 : lw_okq (⟨"SideLinkTree", "splitPage", "(LSideLinkTree$Page;)Z"⟩, 11) := ⟨⟨by decide +kernel, by decide +kernel⟩, List.mem_of_getElem? (i := 8) (by decide +kernel), List.mem_of_getElem? (i := 194) (by decide +kernel), List.mem_of_getElem? (i := 195) (by decide +kernel)⟩
theorem lw_p8 : lw_okq (⟨"SideLinkTree", "bringInto", "(LSideLinkTree$Page;LSideLinkTree$Entry;LSideLinkTree$Page;)Z"⟩, 11) := ⟨⟨by decide +kernel, by decide +kernel⟩, List.mem_of_getElem? (i := 8) (by decide +kernel), List.mem_of_getElem? (i := 198) (by decide +kernel), List.mem_of_getElem? (i := 199) (by decide +kernel)⟩
theorem lw_p9 : lw_okq (⟨"SideLinkTree", "moveCursor", "(LSideLinkTree$Entry;Z)V"⟩, 11) := ⟨⟨by decide +kernel, by decide +kernel⟩, List.mem_of_getElem? (i := 8) (by decide +kernel), List.mem_of_getElem? (i := 219) (by decide +kernel), List.mem_of_getElem? (i := 220) (by decide +kernel)⟩
theorem lw_p10 : lw_okq (⟨"SideLinkTree", "leftmostPage", "(I)LSideLinkTree$Page;"⟩, 11) := ⟨⟨by decide +kernel, by decide +kernel⟩, List.mem_of_getElem? (i := 8) (by decide +kernel), List.mem_of_getElem? (i := 240) (by decide +kernel), List.mem_of_getElem? (i := 241) (by decide +kernel)⟩
theorem lw_p11 : lw_okq (⟨"SideLinkTreeModel", "addPage", "(II)V"⟩, 23) := ⟨⟨by decide +kernel, by decide +kernel⟩, List.mem_of_getElem? (i := 269) (by decide +kernel), List.mem_of_getElem? (i := 279) (by decide +kernel), List.mem_of_getElem? (i := 280) (by decide +kernel)⟩
theorem lw_p12 : lw_okq (⟨"SideLinkTreeModel", "numbered", "(JJJJI)I"⟩, 23) := ⟨⟨by decide +kernel, by decide +kernel⟩, List.mem_of_getElem? (i := 269) (by decide +kernel), List.mem_of_getElem? (i := 368) (by decide +kernel), List.mem_of_getElem? (i := 369) (by decide +kernel)⟩
theorem lw_p13 : lw_okq (⟨"SideLinkTreeModel", "itemOf", "(I)I"⟩, 23) := ⟨⟨by decide +kernel, by decide +kernel⟩, List.mem_of_getElem? (i := 269) (by decide +kernel), List.mem_of_getElem? (i := 372) (by decide +kernel), List.mem_of_getElem? (i := 373) (by decide +kernel)⟩
theorem lw_p14 : lw_okq (⟨"SideLinkTreeModel", "order", "(II)I"⟩, 23) := ⟨⟨by decide +kernel, by decide +kernel⟩, List.mem_of_getElem? (i := 269) (by decide +kernel), List.mem_of_getElem? (i := 376) (by decide +kernel), List.mem_of_getElem? (i := 377) (by decide +kernel)⟩
theorem lw_p15 : lw_okq (⟨"SideLinkTreeModel", "plan", "(I)I"⟩, 23) := ⟨⟨by decide +kernel, by decide +kernel⟩, List.mem_of_getElem? (i := 269) (by decide +kernel), List.mem_of_getElem? (i := 384) (by decide +kernel), List.mem_of_getElem? (i := 385) (by decide +kernel)⟩
def lw_privs_1 : List (MethodName × Nat) := [(⟨"SideLinkTree", "pageInCharge", "(ILSideLinkTree$Entry;)LSideLinkTree$Page;"⟩, 11), (⟨"SideLinkTree", "pagesNeeded", "(LSideLinkTree$Entry;)I"⟩, 11), (⟨"SideLinkTree", "takePages", "(I)Z"⟩, 11), (⟨"SideLinkTree", "put", "(ILSideLinkTree$Entry;LSideLinkTree$Page;)Z"⟩, 11), (⟨"SideLinkTree", "splitRoot", "()Z"⟩, 11), (⟨"SideLinkTree", "useTakenPage", "(I)LSideLinkTree$Page;"⟩, 11), (⟨"SideLinkTree", "setWords", "(I)Z"⟩, 11), (⟨"SideLinkTree", "splitPage", "(LSideLinkTree$Page;)Z"⟩, 11), (⟨"SideLinkTree", "bringInto", "(LSideLinkTree$Page;LSideLinkTree$Entry;LSideLinkTree$Page;)Z"⟩, 11), (⟨"SideLinkTree", "moveCursor", "(LSideLinkTree$Entry;Z)V"⟩, 11), (⟨"SideLinkTree", "leftmostPage", "(I)LSideLinkTree$Page;"⟩, 11), (⟨"SideLinkTreeModel", "addPage", "(II)V"⟩, 23), (⟨"SideLinkTreeModel", "numbered", "(JJJJI)I"⟩, 23), (⟨"SideLinkTreeModel", "itemOf", "(I)I"⟩, 23), (⟨"SideLinkTreeModel", "order", "(II)I"⟩, 23), (⟨"SideLinkTreeModel", "plan", "(I)I"⟩, 23)]
theorem lw_r1 : ∀ q ∈ lw_privs_1, lw_okq q := List.forall_mem_cons.mpr ⟨lw_p0, List.forall_mem_cons.mpr ⟨lw_p1, List.forall_mem_cons.mpr ⟨lw_p2, List.forall_mem_cons.mpr ⟨lw_p3, List.forall_mem_cons.mpr ⟨lw_p4, List.forall_mem_cons.mpr ⟨lw_p5, List.forall_mem_cons.mpr ⟨lw_p6, List.forall_mem_cons.mpr ⟨lw_p7, List.forall_mem_cons.mpr ⟨lw_p8, List.forall_mem_cons.mpr ⟨lw_p9, List.forall_mem_cons.mpr ⟨lw_p10, List.forall_mem_cons.mpr ⟨lw_p11, List.forall_mem_cons.mpr ⟨lw_p12, List.forall_mem_cons.mpr ⟨lw_p13, List.forall_mem_cons.mpr ⟨lw_p14, List.forall_mem_cons.mpr ⟨lw_p15, fun _ h => absurd h List.not_mem_nil⟩⟩⟩⟩⟩⟩⟩⟩⟩⟩⟩⟩⟩⟩⟩⟩
theorem lw_p16 : lw_okq (⟨"SideLinkTreeModel", "inCharge", "(II)I"⟩, 23) := ⟨⟨by decide +kernel, by decide +kernel⟩, List.mem_of_getElem? (i := 269) (by decide +kernel), List.mem_of_getElem? (i := 388) (by decide +kernel), List.mem_of_getElem? (i := 389) (by decide +kernel)⟩
theorem lw_p17 : lw_okq (⟨"SideLinkTreeModel", "filled", "(I)I"⟩, 23) := ⟨⟨by decide +kernel, by decide +kernel⟩, List.mem_of_getElem? (i := 269) (by decide +kernel), List.mem_of_getElem? (i := 392) (by decide +kernel), List.mem_of_getElem? (i := 393) (by decide +kernel)⟩
theorem lw_p18 : lw_okq (⟨"SideLinkTreeModel", "sixth", "(I)I"⟩, 23) := ⟨⟨by decide +kernel, by decide +kernel⟩, List.mem_of_getElem? (i := 269) (by decide +kernel), List.mem_of_getElem? (i := 396) (by decide +kernel), List.mem_of_getElem? (i := 397) (by decide +kernel)⟩
theorem lw_p19 : lw_okq (⟨"SideLinkTreeModel", "perform", "(IZ)Z"⟩, 23) := ⟨⟨by decide +kernel, by decide +kernel⟩, List.mem_of_getElem? (i := 269) (by decide +kernel), List.mem_of_getElem? (i := 400) (by decide +kernel), List.mem_of_getElem? (i := 401) (by decide +kernel)⟩
theorem lw_p20 : lw_okq (⟨"SideLinkTreeModel", "split", "(III)Z"⟩, 23) := ⟨⟨by decide +kernel, by decide +kernel⟩, List.mem_of_getElem? (i := 269) (by decide +kernel), List.mem_of_getElem? (i := 404) (by decide +kernel), List.mem_of_getElem? (i := 405) (by decide +kernel)⟩
theorem lw_p21 : lw_okq (⟨"SideLinkTreeModel", "set", "(I)Z"⟩, 23) := ⟨⟨by decide +kernel, by decide +kernel⟩, List.mem_of_getElem? (i := 269) (by decide +kernel), List.mem_of_getElem? (i := 408) (by decide +kernel), List.mem_of_getElem? (i := 409) (by decide +kernel)⟩
theorem lw_p22 : lw_okq (⟨"SideLinkTreeModel", "addItem", "(II)V"⟩, 23) := ⟨⟨by decide +kernel, by decide +kernel⟩, List.mem_of_getElem? (i := 269) (by decide +kernel), List.mem_of_getElem? (i := 412) (by decide +kernel), List.mem_of_getElem? (i := 413) (by decide +kernel)⟩
theorem lw_p23 : lw_okq (⟨"SideLinkTreeModel", "enter", "(II)Z"⟩, 23) := ⟨⟨by decide +kernel, by decide +kernel⟩, List.mem_of_getElem? (i := 269) (by decide +kernel), List.mem_of_getElem? (i := 416) (by decide +kernel), List.mem_of_getElem? (i := 417) (by decide +kernel)⟩
theorem lw_p24 : lw_okq (⟨"SideLinkTreeModel", "stand", "(IZ)V"⟩, 23) := ⟨⟨by decide +kernel, by decide +kernel⟩, List.mem_of_getElem? (i := 269) (by decide +kernel), List.mem_of_getElem? (i := 433) (by decide +kernel), List.mem_of_getElem? (i := 434) (by decide +kernel)⟩
theorem lw_p25 : lw_okq (⟨"SideLinkTreeModel", "behind", "(I)Z"⟩, 23) := ⟨⟨by decide +kernel, by decide +kernel⟩, List.mem_of_getElem? (i := 269) (by decide +kernel), List.mem_of_getElem? (i := 446) (by decide +kernel), List.mem_of_getElem? (i := 447) (by decide +kernel)⟩
theorem lw_p26 : lw_okq (⟨"SideLinkTreeModel", "entriesOf", "(I)I"⟩, 23) := ⟨⟨by decide +kernel, by decide +kernel⟩, List.mem_of_getElem? (i := 269) (by decide +kernel), List.mem_of_getElem? (i := 466) (by decide +kernel), List.mem_of_getElem? (i := 467) (by decide +kernel)⟩
theorem lw_p27 : lw_okq (⟨"SideLinkTreeModel", "leftOf", "(I)I"⟩, 23) := ⟨⟨by decide +kernel, by decide +kernel⟩, List.mem_of_getElem? (i := 269) (by decide +kernel), List.mem_of_getElem? (i := 474) (by decide +kernel), List.mem_of_getElem? (i := 475) (by decide +kernel)⟩
def lw_privs_2 : List (MethodName × Nat) := [(⟨"SideLinkTreeModel", "inCharge", "(II)I"⟩, 23), (⟨"SideLinkTreeModel", "filled", "(I)I"⟩, 23), (⟨"SideLinkTreeModel", "sixth", "(I)I"⟩, 23), (⟨"SideLinkTreeModel", "perform", "(IZ)Z"⟩, 23), (⟨"SideLinkTreeModel", "split", "(III)Z"⟩, 23), (⟨"SideLinkTreeModel", "set", "(I)Z"⟩, 23), (⟨"SideLinkTreeModel", "addItem", "(II)V"⟩, 23), (⟨"SideLinkTreeModel", "enter", "(II)Z"⟩, 23), (⟨"SideLinkTreeModel", "stand", "(IZ)V"⟩, 23), (⟨"SideLinkTreeModel", "behind", "(I)Z"⟩, 23), (⟨"SideLinkTreeModel", "entriesOf", "(I)I"⟩, 23), (⟨"SideLinkTreeModel", "leftOf", "(I)I"⟩, 23)]
theorem lw_r2 : ∀ q ∈ lw_privs_2, lw_okq q := List.forall_mem_cons.mpr ⟨lw_p16, List.forall_mem_cons.mpr ⟨lw_p17, List.forall_mem_cons.mpr ⟨lw_p18, List.forall_mem_cons.mpr ⟨lw_p19, List.forall_mem_cons.mpr ⟨lw_p20, List.forall_mem_cons.mpr ⟨lw_p21, List.forall_mem_cons.mpr ⟨lw_p22, List.forall_mem_cons.mpr ⟨lw_p23, List.forall_mem_cons.mpr ⟨lw_p24, List.forall_mem_cons.mpr ⟨lw_p25, List.forall_mem_cons.mpr ⟨lw_p26, List.forall_mem_cons.mpr ⟨lw_p27, fun _ h => absurd h List.not_mem_nil⟩⟩⟩⟩⟩⟩⟩⟩⟩⟩⟩⟩
def lw_privs : List (MethodName × Nat) := lw_privs_1 ++ (lw_privs_2)
def lw_tbl : List Cond := k2_sels lw_privs ++ tables_1
theorem lw_privs_ok : ∀ q ∈ lw_privs, lw_okq q := by
  show ∀ q ∈ lw_privs_1 ++ (lw_privs_2), lw_okq q
  exact List.forall_mem_append.mpr ⟨lw_r1, lw_r2⟩
def RX0 : String := "SideLinkTree$Entry"
def TX0 : u_T := fun k => match k with
  | 0 => ("SideLinkTree$Entry", "a", "J", true)
  | 1 => ("SideLinkTree$Entry", "b", "J", true)
  | 2 => ("SideLinkTree$Entry", "c", "J", true)
  | 3 => ("SideLinkTree$Entry", "d", "J", true)
  | _ => ("SideLinkTree$Entry", "place", "I", true)
def tyX0 : Nat → FieldType := fun k => match k with
  | 0 => .long
  | 1 => .long
  | 2 => .long
  | 3 => .long
  | _ => .int
theorem nmX0 : ∀ a, a < 5 → ∀ b, b < 5 → a ≠ b → (TX0 a).2.1 ≠ (TX0 b).2.1 := by decide +kernel
theorem tyX0_ok : ∀ k, k < 5 → parseFieldDescriptor (TX0 k).2.2.1 = some (tyX0 k) := by decide +kernel
abbrev cX0_init : ByteArray := prog_2_method_1_code
def yX0_init : MethodName := ⟨RX0, "<init>", "(JJJJI)V"⟩
abbrev cX0_compareWith : ByteArray := prog_2_method_2_code
def yX0_compareWith : MethodName := ⟨RX0, "compareWith", "(LSideLinkTree$Entry;)I"⟩
def RX1 : String := "SideLinkTree$Page"
def TX1 : u_T := fun k => match k with
  | 0 => ("SideLinkTree$Page", "entries", "[LSideLinkTree$Entry;", true)
  | 1 => ("SideLinkTree$Page", "below", "[LSideLinkTree$Page;", true)
  | 2 => ("SideLinkTree$Page", "size", "I", false)
  | 3 => ("SideLinkTree$Page", "level", "I", false)
  | 4 => ("SideLinkTree$Page", "low", "LSideLinkTree$Entry;", false)
  | 5 => ("SideLinkTree$Page", "right", "LSideLinkTree$Page;", false)
  | _ => ("SideLinkTree$Page", "lacksWord", "Z", false)
def tyX1 : Nat → FieldType := fun k => match k with
  | 0 => .array (.object "SideLinkTree$Entry")
  | 1 => .array (.object "SideLinkTree$Page")
  | 2 => .int
  | 3 => .int
  | 4 => .object "SideLinkTree$Entry"
  | 5 => .object "SideLinkTree$Page"
  | _ => .boolean
theorem nmX1 : ∀ a, a < 7 → ∀ b, b < 7 → a ≠ b → (TX1 a).2.1 ≠ (TX1 b).2.1 := by decide +kernel
theorem tyX1_ok : ∀ k, k < 7 → parseFieldDescriptor (TX1 k).2.2.1 = some (tyX1 k) := by decide +kernel
abbrev cX1_init : ByteArray := prog_3_method_1_code
def yX1_init : MethodName := ⟨RX1, "<init>", "(LSideLinkTree$Entry;)V"⟩
abbrev cX1_reset : ByteArray := prog_3_method_2_code
def yX1_reset : MethodName := ⟨RX1, "reset", "(ILSideLinkTree$Entry;)V"⟩
abbrev cX1_entryAt : ByteArray := prog_3_method_3_code
def yX1_entryAt : MethodName := ⟨RX1, "entryAt", "(I)LSideLinkTree$Entry;"⟩
abbrev cX1_countPassed : ByteArray := prog_3_method_4_code
def yX1_countPassed : MethodName := ⟨RX1, "countPassed", "(LSideLinkTree$Entry;Z)I"⟩
abbrev cX1_holds : ByteArray := prog_3_method_5_code
def yX1_holds : MethodName := ⟨RX1, "holds", "(LSideLinkTree$Entry;)Z"⟩
abbrev cX1_pageBelow : ByteArray := prog_3_method_6_code
def yX1_pageBelow : MethodName := ⟨RX1, "pageBelow", "(LSideLinkTree$Entry;)LSideLinkTree$Page;"⟩
abbrev cX1_insert : ByteArray := prog_3_method_7_code
def yX1_insert : MethodName := ⟨RX1, "insert", "(LSideLinkTree$Entry;LSideLinkTree$Page;)V"⟩
abbrev cX1_drop : ByteArray := prog_3_method_8_code
def yX1_drop : MethodName := ⟨RX1, "drop", "(LSideLinkTree$Entry;)V"⟩
abbrev cX1_append : ByteArray := prog_3_method_9_code
def yX1_append : MethodName := ⟨RX1, "append", "(LSideLinkTree$Page;II)V"⟩
def RX2 : String := "SideLinkTree"
def TX2 : u_T := fun k => match k with
  | 0 => ("SideLinkTree", "lowOfAll", "LSideLinkTree$Entry;", true)
  | 1 => ("SideLinkTree", "highOfAll", "LSideLinkTree$Entry;", true)
  | 2 => ("SideLinkTree", "pages", "[LSideLinkTree$Page;", true)
  | 3 => ("SideLinkTree", "root", "LSideLinkTree$Page;", true)
  | 4 => ("SideLinkTree", "taken", "I", false)
  | 5 => ("SideLinkTree", "firstUnused", "I", false)
  | 6 => ("SideLinkTree", "wordsSet", "I", false)
  | 7 => ("SideLinkTree", "chargeLeft", "I", false)
  | 8 => ("SideLinkTree", "cursorEntry", "LSideLinkTree$Entry;", false)
  | 9 => ("SideLinkTree", "cursorBehind", "Z", false)
  | _ => ("SideLinkTree", "inHand", "LSideLinkTree$Entry;", false)
def tyX2 : Nat → FieldType := fun k => match k with
  | 0 => .object "SideLinkTree$Entry"
  | 1 => .object "SideLinkTree$Entry"
  | 2 => .array (.object "SideLinkTree$Page")
  | 3 => .object "SideLinkTree$Page"
  | 4 => .int
  | 5 => .int
  | 6 => .int
  | 7 => .int
  | 8 => .object "SideLinkTree$Entry"
  | 9 => .boolean
  | _ => .object "SideLinkTree$Entry"
theorem nmX2 : ∀ a, a < 11 → ∀ b, b < 11 → a ≠ b → (TX2 a).2.1 ≠ (TX2 b).2.1 := by decide +kernel
theorem tyX2_ok : ∀ k, k < 11 → parseFieldDescriptor (TX2 k).2.2.1 = some (tyX2 k) := by decide +kernel
abbrev cX2_init : ByteArray := prog_1_method_1_code
def yX2_init : MethodName := ⟨RX2, "<init>", "()V"⟩
abbrev cX2_add : ByteArray := prog_1_method_2_code
def yX2_add : MethodName := ⟨RX2, "add", "(JJJJI)I"⟩
abbrev cX2_remove : ByteArray := prog_1_method_3_code
def yX2_remove : MethodName := ⟨RX2, "remove", "(JJJJI)I"⟩
abbrev cX2_has : ByteArray := prog_1_method_4_code
def yX2_has : MethodName := ⟨RX2, "has", "(JJJJI)Z"⟩
abbrev cX2_seek : ByteArray := prog_1_method_5_code
def yX2_seek : MethodName := ⟨RX2, "seek", "(JJJJ)V"⟩
abbrev cX2_first : ByteArray := prog_1_method_6_code
def yX2_first : MethodName := ⟨RX2, "first", "()V"⟩
abbrev cX2_last : ByteArray := prog_1_method_7_code
def yX2_last : MethodName := ⟨RX2, "last", "()V"⟩
abbrev cX2_next : ByteArray := prog_1_method_8_code
def yX2_next : MethodName := ⟨RX2, "next", "()Z"⟩
abbrev cX2_back : ByteArray := prog_1_method_9_code
def yX2_back : MethodName := ⟨RX2, "back", "()Z"⟩
abbrev cX2_word : ByteArray := prog_1_method_10_code
def yX2_word : MethodName := ⟨RX2, "word", "(I)J"⟩
abbrev cX2_place : ByteArray := prog_1_method_11_code
def yX2_place : MethodName := ⟨RX2, "place", "()I"⟩
abbrev cX2_clear : ByteArray := prog_1_method_12_code
def yX2_clear : MethodName := ⟨RX2, "clear", "()V"⟩
abbrev cX2_charge : ByteArray := prog_1_method_13_code
def yX2_charge : MethodName := ⟨RX2, "charge", "(I)Z"⟩
abbrev cX2_count : ByteArray := prog_1_method_14_code
def yX2_count : MethodName := ⟨RX2, "count", "(I)I"⟩
abbrev cX2_level : ByteArray := prog_1_method_15_code
def yX2_level : MethodName := ⟨RX2, "level", "(II)I"⟩
abbrev cX2_moveCursor : ByteArray := prog_1_method_16_code
def yX2_moveCursor : MethodName := ⟨RX2, "moveCursor", "(LSideLinkTree$Entry;Z)V"⟩
abbrev cX2_setWords : ByteArray := prog_1_method_17_code
def yX2_setWords : MethodName := ⟨RX2, "setWords", "(I)Z"⟩
abbrev cX2_leftmostPage : ByteArray := prog_1_method_18_code
def yX2_leftmostPage : MethodName := ⟨RX2, "leftmostPage", "(I)LSideLinkTree$Page;"⟩
abbrev cX2_pageInCharge : ByteArray := prog_1_method_19_code
def yX2_pageInCharge : MethodName := ⟨RX2, "pageInCharge", "(ILSideLinkTree$Entry;)LSideLinkTree$Page;"⟩
abbrev cX2_goRight : ByteArray := prog_1_method_20_code
def yX2_goRight : MethodName := ⟨RX2, "goRight", "(LSideLinkTree$Page;LSideLinkTree$Entry;)LSideLinkTree$Page;"⟩
abbrev cX2_pagesNeeded : ByteArray := prog_1_method_21_code
def yX2_pagesNeeded : MethodName := ⟨RX2, "pagesNeeded", "(LSideLinkTree$Entry;)I"⟩
abbrev cX2_takePages : ByteArray := prog_1_method_22_code
def yX2_takePages : MethodName := ⟨RX2, "takePages", "(I)Z"⟩
abbrev cX2_useTakenPage : ByteArray := prog_1_method_23_code
def yX2_useTakenPage : MethodName := ⟨RX2, "useTakenPage", "(I)LSideLinkTree$Page;"⟩
abbrev cX2_put : ByteArray := prog_1_method_24_code
def yX2_put : MethodName := ⟨RX2, "put", "(ILSideLinkTree$Entry;LSideLinkTree$Page;)Z"⟩
abbrev cX2_bringInto : ByteArray := prog_1_method_25_code
def yX2_bringInto : MethodName := ⟨RX2, "bringInto", "(LSideLinkTree$Page;LSideLinkTree$Entry;LSideLinkTree$Page;)Z"⟩
abbrev cX2_splitRoot : ByteArray := prog_1_method_26_code
def yX2_splitRoot : MethodName := ⟨RX2, "splitRoot", "()Z"⟩
abbrev cX2_splitPage : ByteArray := prog_1_method_27_code
def yX2_splitPage : MethodName := ⟨RX2, "splitPage", "(LSideLinkTree$Page;)Z"⟩
def RX3 : String := "SideLinkTreeModel"
def TX3 : u_T := fun k => match k with
  | 0 => ("SideLinkTreeModel", "keyA", "[J", true)
  | 1 => ("SideLinkTreeModel", "keyB", "[J", true)
  | 2 => ("SideLinkTreeModel", "keyC", "[J", true)
  | 3 => ("SideLinkTreeModel", "keyD", "[J", true)
  | 4 => ("SideLinkTreeModel", "keyPlace", "[I", true)
  | 5 => ("SideLinkTreeModel", "keys", "I", false)
  | 6 => ("SideLinkTreeModel", "item", "[I", true)
  | 7 => ("SideLinkTreeModel", "itemLevel", "[I", true)
  | 8 => ("SideLinkTreeModel", "items", "I", false)
  | 9 => ("SideLinkTreeModel", "low", "[I", true)
  | 10 => ("SideLinkTreeModel", "lowLevel", "[I", true)
  | 11 => ("SideLinkTreeModel", "owing", "[Z", true)
  | 12 => ("SideLinkTreeModel", "lows", "I", false)
  | 13 => ("SideLinkTreeModel", "levels", "I", false)
  | 14 => ("SideLinkTreeModel", "taken", "I", false)
  | 15 => ("SideLinkTreeModel", "sets", "I", false)
  | 16 => ("SideLinkTreeModel", "left", "I", false)
  | 17 => ("SideLinkTreeModel", "unbounded", "Z", false)
  | 18 => ("SideLinkTreeModel", "comes", "[I", true)
  | 19 => ("SideLinkTreeModel", "cursorSide", "I", false)
  | 20 => ("SideLinkTreeModel", "cursorKey", "I", false)
  | 21 => ("SideLinkTreeModel", "cursorBehind", "Z", false)
  | _ => ("SideLinkTreeModel", "hand", "I", false)
def tyX3 : Nat → FieldType := fun k => match k with
  | 0 => .array .long
  | 1 => .array .long
  | 2 => .array .long
  | 3 => .array .long
  | 4 => .array .int
  | 5 => .int
  | 6 => .array .int
  | 7 => .array .int
  | 8 => .int
  | 9 => .array .int
  | 10 => .array .int
  | 11 => .array .boolean
  | 12 => .int
  | 13 => .int
  | 14 => .int
  | 15 => .int
  | 16 => .int
  | 17 => .boolean
  | 18 => .array .int
  | 19 => .int
  | 20 => .int
  | 21 => .boolean
  | _ => .int
theorem nmX3 : ∀ a, a < 23 → ∀ b, b < 23 → a ≠ b → (TX3 a).2.1 ≠ (TX3 b).2.1 := by decide +kernel
theorem tyX3_ok : ∀ k, k < 23 → parseFieldDescriptor (TX3 k).2.2.1 = some (tyX3 k) := by decide +kernel
abbrev cX3_init : ByteArray := prog_5_method_1_code
def yX3_init : MethodName := ⟨RX3, "<init>", "()V"⟩
abbrev cX3_unsigned : ByteArray := prog_5_method_2_code
def yX3_unsigned : MethodName := ⟨RX3, "unsigned", "(JJ)I"⟩
abbrev cX3_order : ByteArray := prog_5_method_3_code
def yX3_order : MethodName := ⟨RX3, "order", "(II)I"⟩
abbrev cX3_numbered : ByteArray := prog_5_method_4_code
def yX3_numbered : MethodName := ⟨RX3, "numbered", "(JJJJI)I"⟩
abbrev cX3_inCharge : ByteArray := prog_5_method_5_code
def yX3_inCharge : MethodName := ⟨RX3, "inCharge", "(II)I"⟩
abbrev cX3_filled : ByteArray := prog_5_method_6_code
def yX3_filled : MethodName := ⟨RX3, "filled", "(I)I"⟩
abbrev cX3_sixth : ByteArray := prog_5_method_7_code
def yX3_sixth : MethodName := ⟨RX3, "sixth", "(I)I"⟩
abbrev cX3_addPage : ByteArray := prog_5_method_8_code
def yX3_addPage : MethodName := ⟨RX3, "addPage", "(II)V"⟩
abbrev cX3_addItem : ByteArray := prog_5_method_9_code
def yX3_addItem : MethodName := ⟨RX3, "addItem", "(II)V"⟩
abbrev cX3_set : ByteArray := prog_5_method_10_code
def yX3_set : MethodName := ⟨RX3, "set", "(I)Z"⟩
abbrev cX3_charge : ByteArray := prog_5_method_11_code
def yX3_charge : MethodName := ⟨RX3, "charge", "(I)Z"⟩
abbrev cX3_plan : ByteArray := prog_5_method_12_code
def yX3_plan : MethodName := ⟨RX3, "plan", "(I)I"⟩
abbrev cX3_split : ByteArray := prog_5_method_13_code
def yX3_split : MethodName := ⟨RX3, "split", "(III)Z"⟩
abbrev cX3_enter : ByteArray := prog_5_method_14_code
def yX3_enter : MethodName := ⟨RX3, "enter", "(II)Z"⟩
abbrev cX3_perform : ByteArray := prog_5_method_15_code
def yX3_perform : MethodName := ⟨RX3, "perform", "(IZ)Z"⟩
abbrev cX3_add : ByteArray := prog_5_method_16_code
def yX3_add : MethodName := ⟨RX3, "add", "(JJJJI)I"⟩
abbrev cX3_itemOf : ByteArray := prog_5_method_17_code
def yX3_itemOf : MethodName := ⟨RX3, "itemOf", "(I)I"⟩
abbrev cX3_remove : ByteArray := prog_5_method_18_code
def yX3_remove : MethodName := ⟨RX3, "remove", "(JJJJI)I"⟩
abbrev cX3_has : ByteArray := prog_5_method_19_code
def yX3_has : MethodName := ⟨RX3, "has", "(JJJJI)Z"⟩
abbrev cX3_clear : ByteArray := prog_5_method_20_code
def yX3_clear : MethodName := ⟨RX3, "clear", "()V"⟩
abbrev cX3_seek : ByteArray := prog_5_method_21_code
def yX3_seek : MethodName := ⟨RX3, "seek", "(JJJJ)V"⟩
abbrev cX3_stand : ByteArray := prog_5_method_22_code
def yX3_stand : MethodName := ⟨RX3, "stand", "(IZ)V"⟩
abbrev cX3_first : ByteArray := prog_5_method_23_code
def yX3_first : MethodName := ⟨RX3, "first", "()V"⟩
abbrev cX3_last : ByteArray := prog_5_method_24_code
def yX3_last : MethodName := ⟨RX3, "last", "()V"⟩
abbrev cX3_behind : ByteArray := prog_5_method_25_code
def yX3_behind : MethodName := ⟨RX3, "behind", "(I)Z"⟩
abbrev cX3_next : ByteArray := prog_5_method_26_code
def yX3_next : MethodName := ⟨RX3, "next", "()Z"⟩
abbrev cX3_back : ByteArray := prog_5_method_27_code
def yX3_back : MethodName := ⟨RX3, "back", "()Z"⟩
abbrev cX3_word : ByteArray := prog_5_method_28_code
def yX3_word : MethodName := ⟨RX3, "word", "(I)J"⟩
abbrev cX3_place : ByteArray := prog_5_method_29_code
def yX3_place : MethodName := ⟨RX3, "place", "()I"⟩
abbrev cX3_entriesOf : ByteArray := prog_5_method_30_code
def yX3_entriesOf : MethodName := ⟨RX3, "entriesOf", "(I)I"⟩
abbrev cX3_count : ByteArray := prog_5_method_31_code
def yX3_count : MethodName := ⟨RX3, "count", "(I)I"⟩
abbrev cX3_leftOf : ByteArray := prog_5_method_32_code
def yX3_leftOf : MethodName := ⟨RX3, "leftOf", "(I)I"⟩
abbrev cX3_level : ByteArray := prog_5_method_33_code
def yX3_level : MethodName := ⟨RX3, "level", "(II)I"⟩
def RJ6 : String := "java/lang/Integer"
abbrev cJ6_compare_7cf53 : ByteArray := prog_6_method_40_code
def yJ6_compare_7cf53 : MethodName := ⟨RJ6, "compare", "(II)I"⟩
def RJ13 : String := "java/lang/Long"
abbrev cJ13_compare_74951 : ByteArray := prog_7_method_42_code
def yJ13_compare_74951 : MethodName := ⟨RJ13, "compare", "(JJ)I"⟩
abbrev cJ13_compareUnsigned_74951 : ByteArray := prog_7_method_43_code
def yJ13_compareUnsigned_74951 : MethodName := ⟨RJ13, "compareUnsigned", "(JJ)I"⟩
def RL : String := "SideLinkTreeLaw"
abbrev cL_law : ByteArray := code
def yL_law : MethodName := ⟨RL, "law", "([I)Z"⟩
abbrev vwCl : List vw_C := [(RX0, TX0, 5), (RX1, TX1, 7), (RX2, TX2, 11), (RX3, TX3, 23)]
